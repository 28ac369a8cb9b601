/-! own rows, pure: both sides' pictures together; ADDED, TAKEN, UNDONE -/
def bStp (n : Nat) (V O K : Nat → Nat) (nm n' : Nat) (V' O' K' : Nat → Nat) (nm' x y z : Nat) : Prop :=
  bwf x ∧ 0 < x ∧ y = bof V O n x ∧ z = bcs K nm x ∧ (∀ u, u ≠ x → bof V' O' n' u = bof V O n u) ∧ bDf K nm K' nm' x ∧ (¬ bTh V' n' x → 0 < y ∧ n' < 40)
/-- the states that can be UNDONE, one after the other, the last one the state now -/
def bUn (b n : Nat) (V O K : Nat → Nat) (nm hn : Nat) (HW HO HE : Nat → Nat) (un : Nat → Int64) : Prop :=
  ∃ (nS : Nat → Nat) (VS OS KS : Nat → Nat → Nat) (nmS : Nat → Nat), (nS hn = n ∧ VS hn = V ∧ OS hn = O ∧ KS hn = K ∧ nmS hn = nm) ∧
    ∀ t, t < hn → bSn un t (nS t) (nmS t) (VS t) (OS t) (KS t) ∧ bWo (nS t) (VS t) (OS t) ∧ bNs b (nS t) (VS t) (KS t) (nmS t) ∧ bStp (nS t) (VS t) (OS t) (KS t) (nmS t) (nS (t + 1)) (VS (t + 1)) (OS (t + 1)) (KS (t + 1)) (nmS (t + 1)) (HW t) (HO t) (HE t)
theorem bSn_mv {un un' : Nat → Int64} {t t' nt nmt : Nat} {Vt Ot Kt : Nat → Nat} (hn : nt ≤ 40) (hm : nmt ≤ 200) (h : bSn un t nt nmt Vt Ot Kt) (e : ∀ j, j < 282 → un' (282 * t' + j) = un (282 * t + j)) : bSn un' t' nt nmt Vt Ot Kt := by
  obtain ⟨h1, h2, h3, h4⟩ := h
  refine ⟨(e 0 (by decide)).trans h1, (e 1 (by decide)).trans h2, fun k hk => ⟨?_, ?_⟩, fun k hk => ?_⟩
  · have := e (2 + k) (by omega); rw [← Nat.add_assoc, ← Nat.add_assoc] at this; exact this.trans (h3 k hk).1
  · have := e (42 + k) (by omega); rw [← Nat.add_assoc, ← Nat.add_assoc] at this; exact this.trans (h3 k hk).2
  · have := e (82 + k) (by omega); rw [← Nat.add_assoc, ← Nat.add_assoc] at this; exact this.trans (h4 k hk)
theorem bUn_push {b n : Nat} {V O K : Nat → Nat} {nm hn : Nat} {HW HO HE : Nat → Nat} {un un' : Nat → Int64} {um' n' : Nat} {V' O' K' : Nat → Nat} {nm' x y z : Nat} (hb : 2 ≤ b) (h12 : hn ≤ 12) (h : bUn b n V O K nm hn HW HO HE un) (hw : bWo n V O) (hN : bNs b n V K nm) (hno : bNo un hn un' um' n nm V O K)
    (hs : bStp n V O K nm n' V' O' K' nm' x y z) : um' = bhn hn ∧ bUn b n' V' O' K' nm' (bhn hn) (bhp HW hn x) (bhp HO hn y) (bhp HE hn z) un' := by
  obtain ⟨nS, VS, OS, KS, nmS, ⟨e1, e2, e3, e4, e5⟩, hc⟩ := h
  have lim : ∀ t, t < hn → nS t ≤ 40 ∧ nmS t ≤ 200 := fun t ht => by
    have := hc t ht
    exact ⟨this.2.1.1, Nat.le_trans (nm_le hb this.2.1 this.2.2.1) (by decide)⟩
  rcases Nat.lt_or_ge hn 12 with q | q
  · obtain ⟨u1, u2⟩ := hno.2.1 q
    have u3 := hno.2.2
    have eb : bhn hn = hn + 1 := if_pos q
    rw [eb]
    refine ⟨u1, fun t => if t ≤ hn then nS t else n', fun t => if t ≤ hn then VS t else V', fun t => if t ≤ hn then OS t else O', fun t => if t ≤ hn then KS t else K', fun t => if t ≤ hn then nmS t else nm', ?_, fun t ht => ?_⟩
    · exact ⟨if_neg (by omega), if_neg (by omega), if_neg (by omega), if_neg (by omega), if_neg (by omega)⟩
    · unfold bhp
      simp only [if_pos q, if_pos (show t ≤ hn by omega)]
      rcases Nat.lt_or_ge t hn with z2 | z2
      · simp only [if_pos (show t + 1 ≤ hn by omega), if_neg (show ¬ t = hn by omega)]
        have hct := hc t z2
        exact ⟨bSn_mv (lim t z2).1 (lim t z2).2 hct.1 (fun j hj => u2 _ (by omega)), hct.2⟩
      · have et : t = hn := by omega
        subst et
        simp only [if_neg (show ¬ t + 1 ≤ t by omega), if_true]
        rw [e1, e2, e3, e4, e5]
        rw [u1, Nat.add_sub_cancel] at u3
        exact ⟨u3, hw, hN, hs⟩
  · have e12 : hn = 12 := by omega
    obtain ⟨u1, u2⟩ := hno.1 e12
    have u3 := hno.2.2
    have eb : bhn hn = 12 := if_neg (by omega)
    rw [eb]
    subst e12
    refine ⟨u1, fun t => if t ≤ 11 then nS (t + 1) else n', fun t => if t ≤ 11 then VS (t + 1) else V', fun t => if t ≤ 11 then OS (t + 1) else O', fun t => if t ≤ 11 then KS (t + 1) else K', fun t => if t ≤ 11 then nmS (t + 1) else nm', ⟨rfl, rfl, rfl, rfl, rfl⟩, fun t ht => ?_⟩
    unfold bhp
    simp only [if_neg (show ¬ 12 < 12 by decide), if_pos (show t ≤ 11 by omega)]
    rcases Nat.lt_or_ge t 11 with z2 | z2
    · simp only [if_pos (show t + 1 ≤ 11 by omega), if_pos z2]
      have hct := hc (t + 1) (by omega)
      exact ⟨bSn_mv (lim _ (by omega)).1 (lim _ (by omega)).2 hct.1 (fun j hj => by rw [u2 _ (by omega)]; exact congrArg un (by omega)), hct.2⟩
    · have et : t = 11 := by omega
      subst et
      simp only [if_neg (show ¬ 11 + 1 ≤ 11 by decide), if_neg (show ¬ 11 < 11 by decide)]
      rw [e1, e2, e3, e4, e5]
      rw [u1] at u3
      exact ⟨u3, hw, hN, hs⟩
theorem bDf_rf {K : Nat → Nat} {nm v : Nat} : bDf K nm K nm v := fun _ _ => Iff.rfl
theorem bDf_sy {K1 K2 : Nat → Nat} {nm1 nm2 v : Nat} (h : bDf K1 nm1 K2 nm2 v) : bDf K2 nm2 K1 nm1 v := fun p hp => (h p hp).symm
/-- the dictionary, the history, the reference's lists, and what ties them -/
def bJ (b n : Nat) (V O E K : Nat → Nat) (nm : Nat) (w : Nat → Int64) (o d : Nat → Int32) (hw : Nat → Int64) (ho hd : Nat → Int32) (hn : Nat) (HW HO HE : Nat → Nat) (wo : Nat → Int64) (of : Nat → Int32) (no un : Nat → Int64) : Prop :=
  bDD w o d n V O E ∧ bHH hw ho hd hn HW HO HE ∧ bMD wo of n V O ∧ bMN no nm K ∧ bWo n V O ∧ bNs b n V K nm ∧ bEs n V E K nm ∧ bUn b n V O K nm hn HW HO HE un
section JJ
variable {b n : Nat} {V O E K : Nat → Nat} {nm : Nat} {w : Nat → Int64} {o d : Nat → Int32} {hw : Nat → Int64} {ho hd : Nat → Int32} {hn : Nat} {HW HO HE : Nat → Nat} {wo : Nat → Int64} {of : Nat → Int32} {no un : Nat → Int64} {v : Nat}
theorem bPut_bDf {K' : Nat → Nat} {nm' n9 y : Nat} {V9 O9 E9 : Nat → Nat} (hb : 2 ≤ b) (hJw : bWo n V O) (hN : bNs b n V K nm) (hE : bEs n V E K nm) (hv : bwf v) (hv0 : 0 < v) (hy : y ≤ 99) (hn40 : ¬ bTh V n v → n < 40) (hp : bPut V O E n v y V9 O9 E9 n9) (hN' : bCl K' nm') (hd : bDf K nm K' nm' v) :
    bWo n9 V9 O9 ∧ (∀ u, bof V9 O9 n9 u = if u = v then y else bof V O n u) ∧ bEs n9 V9 (brs V9 E9 v (bdp V E n v) (bcs K' nm' v)) K' nm' := by
  have h := bPut_ok hJw hp hv hv0 hy hn40
  have hdp := bdp_bcs hb hJw hN hE hv
  refine ⟨h.1, h.2.1, ?_⟩
  rw [hdp]
  exact brs_es h.1 (bNs_cl hN) hN' hd hv (h.2.2 K nm hE hdp)
theorem bln_0 (hv : bwf v) : bln v = 0 ↔ v = 0 := by
  constructor
  · intro h
    rcases Nat.eq_zero_or_pos v with e | e
    · exact e
    · have := bln_pos hv e; omega
  · intro h; rw [h]; decide
theorem J_adds {tm : Nat} {r r' : Int32} {w' : Nat → Int64} {o' d' : Nat → Int32} {nc : Nat} {hw' : Nat → Int64} {ho' hd' : Nat → Int32} {hn' : Nat} {wo' : Nat → Int64} {of' : Nat → Int32} {n2 : Nat} {no' : Nat → Int64} {nm' : Nat} {un' : Nat → Int64} {um' : Nat}
    (hb : 2 ≤ b) (hJ : bJ b n V O E K nm w o d hw ho hd hn HW HO HE wo of no un) (hv : bwf v) (htm : tm = bln v)
    (hc : (v = 0 ∧ r = -1 ∧ (w', o', d', nc, hw', ho', hd', hn') = (w, o, d, n, hw, ho, hd, hn)) ∨ (v ≠ 0 ∧ (99 ≤ bof V O n v ∨ (bof V O n v = 0 ∧ 40 ≤ n)) ∧ r = -3 ∧ (w', o', d', nc, hw', ho', hd', hn') = (w, o, d, n, hw, ho, hd, hn)) ∨ (v ≠ 0 ∧ bof V O n v < 99 ∧ (bof V O n v = 0 → n < 40) ∧ r = nI (bof V O n v + 1) ∧ (∃ V9 O9 E9, bPut V O E n v (bof V O n v + 1) V9 O9 E9 nc ∧ bDD w' o' d' nc V9 O9 (brs V9 E9 v (bdp V E n v) (bbd V9 nc v (bdp V E n v) b))) ∧ hn' = bhn hn ∧ bHH hw' ho' hd' hn' (bhp HW hn v) (bhp HO hn (bof V O n v)) (bhp HE hn (bdp V E n v))))
    (hm : (tm = 0 ∧ r' = -1 ∧ (wo', of', n2, no', nm', un', um') = (wo, of, n, no, nm, un, hn)) ∨ (0 < tm ∧ ((blp V v n = 0 ∧ n = 40) ∨ (blp V v n ≠ 0 ∧ O (blp V v n - 1) = 99)) ∧ r' = -3 ∧ (wo', of', n2, no', nm', un', um') = (wo, of, n, no, nm, un, hn)) ∨
      (0 < tm ∧ blp V v n ≠ 0 ∧ O (blp V v n - 1) ≠ 99 ∧ r' = nI (O (blp V v n - 1) + 1) ∧ wo' = wo ∧ n2 = n ∧ no' = no ∧ nm' = nm ∧ bMD wo of' n V (va_up O (blp V v n - 1) (O (blp V v n - 1) + 1)) ∧ bNo un hn un' um' n nm V O K) ∨
      (0 < tm ∧ blp V v n = 0 ∧ n < 40 ∧ r' = nI 1 ∧ n2 = n + 1 ∧ (∃ i, i ≤ n ∧ (∀ k, i ≤ k → k < n → v < V k) ∧ (i = 0 ∨ V (i - 1) ≤ v) ∧ bMD wo' of' (n + 1) (bic V i v) (bic O i 1) ∧ nm' = nm + bfs (fun t => decide (bbg (bic V i v) (n + 1) (bhd v (bcs K nm v + t)) ≤ b)) (bln v + 1 - bcs K nm v)) ∧ bMN no' nm' (bKx K nm v (bcs K nm v)) ∧ bNo un hn un' um' n nm V O K)) :
    r = r' ∧ nc = n2 ∧ hn' = um' ∧ ∃ V' O' E' K' HW' HO' HE', bJ b nc V' O' E' K' nm' w' o' d' hw' ho' hd' hn' HW' HO' HE' wo' of' no' un' := by
  obtain ⟨j1, j2, j3, j4, j5, j6, j7, j8⟩ := id hJ
  have hv0 := bln_0 hv
  have hbo := bof_eq (v := v) j5
  have hdp := bdp_bcs hb j5 j6 j7 hv
  have h99 := fun h : blp V v n ≠ 0 => (j5.2.2 (blp V v n - 1) (by have := blp_le V v n; omega)).2.2
  rcases hm with ⟨m1, rfl, m3⟩ | ⟨m1, m2, rfl, m3⟩ | ⟨m1, m2, m3, rfl, m5, m6, m7, m8, m9, m10⟩ | ⟨m1, m2, m3, rfl, rfl, ⟨i, m5, m6, m7, m8, rfl⟩, m9, m10⟩
  · cases m3
    rcases hc with ⟨-, rfl, c3⟩ | ⟨c1, -⟩ | ⟨c1, -⟩
    · cases c3; exact ⟨rfl, rfl, rfl, V, O, E, K, HW, HO, HE, hJ⟩
    · exact absurd (hv0.mp (by omega)) c1
    · exact absurd (hv0.mp (by omega)) c1
  · cases m3
    rcases hc with ⟨c1, -⟩ | ⟨c1, c2, rfl, c4⟩ | ⟨c1, c2, c3, -⟩
    · have := hv0.mpr c1; omega
    · cases c4; exact ⟨rfl, rfl, rfl, V, O, E, K, HW, HO, HE, hJ⟩
    · rcases m2 with ⟨y1, y2⟩ | ⟨y1, y2⟩
      · rw [if_pos y1] at hbo; have := c3 hbo; omega
      · rw [if_neg y1, y2] at hbo; omega
  · have hbl := blp_bpl j5 m2
    rw [if_neg m2] at hbo
    have hth := (blp_th j5).mp m2
    have := h99 m2
    rcases hc with ⟨c1, -⟩ | ⟨c1, c2, -⟩ | ⟨c1, c2, c3, rfl, ⟨V9, O9, E9, c5, c6⟩, c7, c8⟩
    · have := hv0.mpr c1; omega
    · rcases c2 with c2 | c2 <;> omega
    · have hpb := bPut_bDf hb j5 j6 j7 hv (Nat.pos_of_ne_zero c1) (by omega) (fun q => absurd hth q) c5 (bNs_cl j6) bDf_rf
      rcases c5 with ⟨q, -⟩ | ⟨-, -, e1, e2, e3, e4⟩ | ⟨-, q, -⟩
      · exact absurd hth q
      · rw [e1, e2, e3, e4] at c6 hpb
        rw [hdp, bbd_same j5 j6 hv] at c6
        rw [hdp] at hpb c8
        rw [← hbl, hbo] at c6 hpb
        rw [hbo] at c8 ⊢
        have hpush := bUn_push hb j2.1 j8 j5 j6 m10 (show bStp n V O K nm n V (va_up O (blp V v n - 1) (O (blp V v n - 1) + 1)) K nm v (O (blp V v n - 1)) (bcs K nm v) from
          ⟨hv, Nat.pos_of_ne_zero c1, hbo.symm, rfl, fun u hu => by rw [hpb.2.1 u, if_neg hu], bDf_rf, fun q => absurd hth q⟩)
        rw [m5, m6, m7, m8, e1]
        rw [c7] at c8 ⊢
        exact ⟨rfl, rfl, hpush.1.symm, V, _, _, K, _, _, _, c6, c8, m9, j4, hpb.1, j6, hpb.2.2, hpush.2⟩
      · omega
  · rw [if_pos m2] at hbo
    have hth : ¬ bTh V n v := fun q => (blp_th j5).mpr q m2
    rcases hc with ⟨c1, -⟩ | ⟨c1, c2, -⟩ | ⟨c1, c2, c3, rfl, ⟨V9, O9, E9, c5, c6⟩, c7, c8⟩
    · have := hv0.mpr c1; omega
    · rcases c2 with c2 | c2 <;> omega
    · have hi : i = bpl V n v := by
        refine (bfs_eq m5 (fun k hk => ?_) (fun hl => by simpa using Nat.le_of_lt (m6 i (Nat.le_refl i) hl))).symm
        have h1 : V k ≤ v := by
          rcases m7 with z | z
          · omega
          · rcases Nat.lt_or_ge k (i - 1) with y | y
            · exact Nat.le_of_lt (Nat.lt_of_lt_of_le (j5.2.1 k (i - 1) y (by omega)) z)
            · rw [show k = i - 1 by omega]; exact z
        have h2 : V k ≠ v := fun q => hth ((bTh_iff j5).mpr ⟨k, by omega, q⟩)
        simp
        omega
      subst hi
      have hw' := bWo_ins j5 m3 hth hv (Nat.pos_of_ne_zero c1) (Nat.le_refl 1) (by decide)
      have hna := bNs_add j5 j6 hv (bpl_le V n v) hw' rfl
      have hpb := bPut_bDf hb j5 j6 j7 hv (Nat.pos_of_ne_zero c1) (by omega) (fun _ => m3) c5 (bNs_cl hna.1) hna.2.2
      rcases c5 with ⟨-, -, e1, e2, e3, e4⟩ | ⟨q, -⟩ | ⟨q, -⟩
      · rw [hbo] at e3
        rw [e1, e2, e3] at c6 hpb
        have hc0 := bcs_le K nm v
        rw [hdp, bbd_new hw' hv hc0] at c6
        rw [hdp, hna.2.1] at hpb
        rw [hdp, hbo] at c8
        have hpush := bUn_push hb j2.1 j8 j5 j6 m10 (show bStp n V O K nm (n + 1) (bic V (bpl V n v) v) (bic O (bpl V n v) 1) (bKx K nm v (bcs K nm v)) (nm + bfs (fun t => decide (bbg (bic V (bpl V n v) v) (n + 1) (bhd v (bcs K nm v + t)) ≤ b)) (bln v + 1 - bcs K nm v)) v 0 (bcs K nm v) from
          ⟨hv, Nat.pos_of_ne_zero c1, hbo.symm, rfl, fun u hu => by rw [hpb.2.1 u, if_neg hu], hna.2.2, fun q => absurd ((bTh_iff hw').mpr ⟨bpl V n v, by have := bpl_le V n v; omega, bic_at⟩) q⟩)
        rw [hbo, e1]
        rw [c7] at c8 ⊢
        exact ⟨rfl, rfl, hpush.1.symm, _, _, _, _, _, _, _, c6, c8, m8, m9, hpb.1, hna.1, hpb.2.2, hpush.2⟩
      · exact absurd q hth
      · exact absurd q hth
end JJ
