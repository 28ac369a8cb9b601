/-! own rows, pure: TAKEN and UNDONE over both sides -/
section JJ
variable {b n : Nat} {V O E K : Nat → Nat} {nm : Nat} {w : Nat → Int64} {o d : Nat → Int32} {hw : Nat → Int64} {ho hd : Nat → Int32} {hn : Nat} {HW HO HE : Nat → Nat} {wo : Nat → Int64} {of : Nat → Int32} {no un : Nat → Int64} {v : Nat}

theorem J_takes {r r' : Int32} {w' : Nat → Int64} {o' d' : Nat → Int32} {nc : Nat} {hw' : Nat → Int64} {ho' hd' : Nat → Int32} {hn' : Nat} {wo' : Nat → Int64} {of' : Nat → Int32} {n2 : Nat} {no' : Nat → Int64} {nm' : Nat} {un' : Nat → Int64} {um' : Nat}
    (hb : 2 ≤ b) (hJ : bJ b n V O E K nm w o d hw ho hd hn HW HO HE wo of no un) (hv : bwf v)
    (hc : (bof V O n v = 0 ∧ r = -2 ∧ (w', o', d', nc, hw', ho', hd', hn') = (w, o, d, n, hw, ho, hd, hn)) ∨ (0 < bof V O n v ∧ r = nI (bof V O n v - 1) ∧ (∃ V9 O9 E9, bPut V O E n v (bof V O n v - 1) V9 O9 E9 nc ∧ bDD w' o' d' nc V9 O9 (brs V9 E9 v (bdp V E n v) (bmd V9 nc v (b / 2) (bdp V E n v)))) ∧ hn' = bhn hn ∧ bHH hw' ho' hd' hn' (bhp HW hn v) (bhp HO hn (bof V O n v)) (bhp HE hn (bdp V E n v))))
    (hm : (blp V v n = 0 ∧ r' = -2 ∧ (wo', of', n2, no', nm', un', um') = (wo, of, n, no, nm, un, hn)) ∨ (blp V v n ≠ 0 ∧ 1 < O (blp V v n - 1) ∧ r' = nI (O (blp V v n - 1) - 1) ∧ wo' = wo ∧ n2 = n ∧ no' = no ∧ nm' = nm ∧ bMD wo of' n V (va_up O (blp V v n - 1) (O (blp V v n - 1) - 1)) ∧ bNo un hn un' um' n nm V O K) ∨
      (blp V v n ≠ 0 ∧ O (blp V v n - 1) = 1 ∧ r' = nI 0 ∧ n2 = n - 1 ∧ bMD wo' of' (n - 1) (brm V (blp V v n - 1)) (brm O (blp V v n - 1)) ∧ (∃ K9, bMN no' nm' K9 ∧ bShE K nm (brm V (blp V v n - 1)) (n - 1) v (b / 2) K9 nm') ∧ bNo un hn un' um' n nm V O K)) :
    r = r' ∧ nc = n2 ∧ hn' = um' ∧ ∃ V' O' E' K' HW' HO' HE', bJ b nc V' O' E' K' nm' w' o' d' hw' ho' hd' hn' HW' HO' HE' wo' of' no' un' := by
  obtain ⟨j1, j2, j3, j4, j5, j6, j7, j8⟩ := id hJ
  have hbo := bof_eq (v := v) j5
  have hdp := bdp_bcs hb j5 j6 j7 hv
  have hle := blp_le V v n
  have h99 := fun h : blp V v n ≠ 0 => j5.2.2 (blp V v n - 1) (by omega)
  rcases hm with ⟨m1, rfl, m3⟩ | ⟨m1, m2, rfl, m5, m6, m7, m8, m9, m10⟩ | ⟨m1, m2, rfl, m6, m8, ⟨K9, m9, m11⟩, m10⟩
  · cases m3
    rw [if_pos m1] at hbo
    rcases hc with ⟨-, rfl, c3⟩ | ⟨c1, -⟩
    · cases c3; exact ⟨rfl, rfl, rfl, V, O, E, K, HW, HO, HE, hJ⟩
    · omega
  · have hbl := blp_bpl j5 m1
    rw [if_neg m1] at hbo
    have hth := (blp_th j5).mp m1
    have hv1 : 0 < v := by have := (h99 m1).2.1; rwa [blp_at m1] at this
    have := (h99 m1).2.2.2
    rcases hc with ⟨c1, -⟩ | ⟨c1, rfl, ⟨V9, O9, E9, c5, c6⟩, c7, c8⟩
    · omega
    · have hpb := bPut_bDf hb j5 j6 j7 hv hv1 (by omega) (fun q => absurd hth q) c5 (bNs_cl j6) bDf_rf
      rcases c5 with ⟨q, -⟩ | ⟨-, -, e1, e2, e3, e4⟩ | ⟨-, q, -⟩
      · exact absurd hth q
      · rw [e1, e2, e3, e4] at c6 hpb
        rw [hdp, bmd_same j5 j6 hv] at c6
        rw [hdp] at hpb c8
        rw [← hbl, hbo] at c6 hpb
        rw [hbo] at c8 ⊢
        have hpush := bUn_push hb j2.1 j8 j5 j6 m10 (show bStp n V O K nm n V (va_up O (blp V v n - 1) (O (blp V v n - 1) - 1)) K nm v (O (blp V v n - 1)) (bcs K nm v) from
          ⟨hv, hv1, hbo.symm, rfl, fun u hu => by rw [hpb.2.1 u, if_neg hu], bDf_rf, fun q => absurd hth q⟩)
        rw [m5, m6, m7, m8, e1]
        rw [c7] at c8 ⊢
        exact ⟨rfl, rfl, hpush.1.symm, V, _, _, K, _, _, _, c6, c8, m9, j4, hpb.1, j6, hpb.2.2, hpush.2⟩
      · omega
  · have hbl := blp_bpl j5 m1
    rw [if_neg m1, m2] at hbo
    have hth := (blp_th j5).mp m1
    have hv1 : 0 < v := by have := (h99 m1).2.1; rwa [blp_at m1] at this
    have hn40 := j5.1
    rcases hc with ⟨c1, -⟩ | ⟨c1, rfl, ⟨V9, O9, E9, c5, c6⟩, c7, c8⟩
    · omega
    · have hw' := bWo_rm j5 (show blp V v n - 1 < n by omega)
      have hnt := bNs_take j5 j6 hv (show blp V v n - 1 < n by omega) (blp_at m1) hw' m11
      have hpb := bPut_bDf hb j5 j6 j7 hv hv1 (by omega) (fun q => absurd hth q) c5 (bNs_cl hnt.1) hnt.2.2
      rcases c5 with ⟨q, -⟩ | ⟨-, q, -⟩ | ⟨-, -, e1, e2, e3, e4⟩
      · exact absurd hth q
      · omega
      · rw [← hbl] at e2 e3
        rw [e1, e2, e3] at c6 hpb
        rw [hdp, bmd_bsm hw' hv (bcs_le K nm v), ← hnt.2.1] at c6
        rw [hdp] at hpb c8
        rw [hbo] at hpb c8 ⊢
        have hpush := bUn_push hb j2.1 j8 j5 j6 m10 (show bStp n V O K nm (n - 1) (brm V (blp V v n - 1)) (brm O (blp V v n - 1)) K9 nm' v 1 (bcs K nm v) from
          ⟨hv, hv1, hbo.symm, rfl, fun u hu => by rw [hpb.2.1 u, if_neg hu], hnt.2.2, fun _ => ⟨by decide, by omega⟩⟩)
        rw [m6, e1]
        rw [c7] at c8 ⊢
        exact ⟨rfl, rfl, hpush.1.symm, _, _, _, K9, _, _, _, c6, c8, m8, m9, hpb.1, hnt.1, hpb.2.2, hpush.2⟩
theorem J_undo (hb : 2 ≤ b) (hJ : bJ b n V O E K nm w o d hw ho hd hn HW HO HE wo of no un) : ∃ (nt nmt : Nat) (Vt Ot Kt : Nat → Nat),
    (0 < hn → bSn un (hn - 1) nt nmt Vt Ot Kt ∧ nt ≤ 40 ∧ (∀ k, k < nt → bwf (Vt k) ∧ 0 < Vt k ∧ 1 ≤ Ot k ∧ Ot k ≤ 99) ∧ nmt ≤ 200 ∧ ∀ k, k < nmt → Kt k < 27 ^ 7) ∧
    (0 < hn → 0 < HW (hn - 1)) ∧ (0 < hn → ¬ bTh V n (HW (hn - 1)) → 0 < HO (hn - 1) ∧ n < 40) ∧
    ∀ (r r' : Int32) (w' : Nat → Int64) (o' d' : Nat → Int32) (nc hn' : Nat) (wo' : Nat → Int64) (of' : Nat → Int32) (n2 : Nat) (no' : Nat → Int64) (nm' um' : Nat),
      ((hn = 0 ∧ r = -2 ∧ (w', o', d', nc, hn') = (w, o, d, n, hn)) ∨ (0 < hn ∧ r = nI (hn - 1) ∧ hn' = hn - 1 ∧ ∃ V9 O9 E9, bPut V O E n (HW (hn - 1)) (HO (hn - 1)) V9 O9 E9 nc ∧ bDD w' o' d' nc V9 O9 (brs V9 E9 (HW (hn - 1)) (bdp V E n (HW (hn - 1))) (HE (hn - 1))))) →
      ((hn = 0 ∧ r' = -2 ∧ (wo', of', n2, no', nm', um') = (wo, of, n, no, nm, hn)) ∨ (0 < hn ∧ r' = nI (hn - 1) ∧ um' = hn - 1 ∧ n2 = nt ∧ nm' = nmt ∧ bMD wo' of' nt Vt Ot ∧ bMN no' nmt Kt)) →
      r = r' ∧ nc = n2 ∧ hn' = um' ∧ ∃ V' O' E' K', bJ b nc V' O' E' K' nm' w' o' d' hw ho hd hn' HW HO HE wo' of' no' un := by
  obtain ⟨j1, j2, j3, j4, j5, j6, j7, nS, VS, OS, KS, nmS, ⟨e1, e2, e3, e4, e5⟩, hch⟩ := id hJ
  rcases Nat.eq_zero_or_pos hn with z | z
  · refine ⟨0, 0, V, V, V, fun h => absurd h (by omega), fun h => absurd h (by omega), fun h => absurd h (by omega), fun r r' w' o' d' nc hn' wo' of' n2 no' nm' um' hc hm => ?_⟩
    rcases hc with ⟨-, rfl, c3⟩ | ⟨c1, -⟩
    · rcases hm with ⟨-, rfl, m3⟩ | ⟨m1, -⟩
      · cases c3; cases m3; exact ⟨rfl, rfl, rfl, V, O, E, K, hJ⟩
      · omega
    · omega
  · obtain ⟨h1, h2, h3, s1, s2, s3, s4, s5, s6, s7⟩ := hch (hn - 1) (by omega)
    rw [Nat.sub_add_cancel z, e1, e2, e3] at s5
    rw [Nat.sub_add_cancel z, e4, e5] at s6
    rw [Nat.sub_add_cancel z, e1, e2] at s7
    have hm192 := nm_le hb h2 h3
    have hx99 := (j2.2 (hn - 1) (by omega)).2.2.2.1
    refine ⟨nS (hn - 1), nmS (hn - 1), VS (hn - 1), OS (hn - 1), KS (hn - 1), fun _ => ⟨h1, h2.1, h2.2.2, by omega, fun k hk => (h3.2.1 _ (bnd_iff.mpr ⟨k, hk, rfl⟩)).1.1⟩, fun _ => s2, fun _ => s7, fun r r' w' o' d' nc hn' wo' of' n2 no' nm' um' hc hm => ?_⟩
    rcases hc with ⟨c1, -⟩ | ⟨-, rfl, rfl, V9, O9, E9, c5, c6⟩
    · omega
    · rcases hm with ⟨m1, -⟩ | ⟨-, rfl, rfl, rfl, rfl, m6, m7⟩
      · omega
      · have hpb := bPut_bDf hb j5 j6 j7 s1 s2 hx99 (fun q => (s7 q).2) c5 (bNs_cl h3) (bDf_sy s6)
        rw [s4] at c6
        have hu := bof_uni hpb.1 h2 (fun u => by
          rw [hpb.2.1 u]
          split
          · rename_i q; rw [q]; exact s3
          · rename_i q; exact s5 u q)
        obtain ⟨hu1, hu2⟩ := hu
        have hE := hpb.2.2
        refine ⟨rfl, hu1, rfl, VS (hn - 1), OS (hn - 1), (brs V9 E9 (HW (hn - 1)) (bdp V E n (HW (hn - 1))) (bcs (KS (hn - 1)) (nmS (hn - 1)) (HW (hn - 1)))), KS (hn - 1), ⟨c6.1, fun k hk => ?_⟩, ⟨by have := j2.1; omega, fun k hk => j2.2 k (by omega)⟩, ?_, m7, ?_, ?_, fun k hk => ?_, nS, VS, OS, KS, nmS, ⟨hu1.symm, rfl, rfl, rfl, rfl⟩, fun t ht => hch t (by omega)⟩
        · have := c6.2 k hk
          rw [(hu2 k hk).1, (hu2 k hk).2] at this
          exact this
        · rw [hu1]; exact m6
        · rw [hu1]; exact h2
        · rw [hu1]; exact h3
        · rw [← (hu2 k hk).1]; exact hE k hk
end JJ
