/-! own rows, pure: the nodes behind ADDED and TAKEN -/
theorem bbg_ins {V : Nat → Nat} {n p x q : Nat} (hp : p ≤ n) : bbg (bic V p x) (n + 1) q = bbg V n q + (if bhd x (bln q) = q then 1 else 0) := by
  unfold bbg
  rw [ct_ins (fun u => bhd u (bln q) == q) hp]
  simp only [beq_iff_eq]
theorem bbg_rm {V : Nat → Nat} {n a q : Nat} (ha : a < n) : bbg V n q = bbg (brm V a) (n - 1) q + (if bhd (V a) (bln q) = q then 1 else 0) := by
  unfold bbg
  rw [ct_rm (fun u => bhd u (bln q) == q) ha]
  simp only [beq_iff_eq]
theorem beg_len {v q c : Nat} (hv : bwf v) (hq : bln q = c) (hc : c ≤ 7) (e : bhd v c = q) : c ≤ bln v := by
  rcases Nat.lt_or_ge (bln v) c with z | z
  · rw [bhd_full hv (by omega) hc] at e
    rw [e] at z
    omega
  · exact z
section NA
variable {b n nm v : Nat} {V O K : Nat → Nat}
theorem bNs_add (hw : bWo n V O) (hN : bNs b n V K nm) (hv : bwf v) {p T : Nat} (hp : p ≤ n) (hw' : bWo (n + 1) (bic V p v) (bic O p 1))
    (hT : T = bfs (fun t => decide (bbg (bic V p v) (n + 1) (bhd v (bcs K nm v + t)) ≤ b)) (bln v + 1 - bcs K nm v)) :
    bNs b (n + 1) (bic V p v) (bKx K nm v (bcs K nm v)) (nm + T) ∧ bcs (bKx K nm v (bcs K nm v)) (nm + T) v = bcs K nm v + T ∧ bDf K nm (bKx K nm v (bcs K nm v)) (nm + T) v := by
  have hc := bcs_le K nm v
  have h7 := bln_le v
  have hTl : T ≤ bln v + 1 - bcs K nm v := by rw [hT]; exact bfs_le _ _
  have hcl := bcs_hcl hN hv
  have hcs := bcs_Kx hcl hTl
  have hmono : ∀ q, bbg V n q ≤ bbg (bic V p v) (n + 1) q := fun q => by rw [bbg_ins hp]; omega
  refine ⟨⟨?_, ?_, ?_, ?_⟩, hcs, ?_⟩
  · intro i j hij hj
    unfold bKx
    split <;> split
    · exact hN.1 i j hij (by assumption)
    · next h1 h2 =>
      intro e
      have := hcl (bcs K nm v + (j - nm)) (by omega) (by omega)
      rw [← e, Bool.eq_false_iff] at this
      exact this (bnd_iff.mpr ⟨i, h1, rfl⟩)
    · omega
    · intro e
      have := bhd_inj (by omega) (by omega) e
      omega
  · intro q hq
    rcases bKx_nd.mp hq with h | ⟨s, hs, rfl⟩
    · have := hN.2.1 q h
      exact ⟨this.1, Nat.lt_of_lt_of_le this.2 (hmono q)⟩
    · refine ⟨bhd_wf hv (by omega), ?_⟩
      have h1 := bfs_no (fun t => decide (bbg (bic V p v) (n + 1) (bhd v (bcs K nm v + t)) ≤ b)) _ s (by rw [← hT]; exact hs)
      have h2 : ¬ bbg (bic V p v) (n + 1) (bhd v (bcs K nm v + s)) ≤ b := by simpa using h1
      omega
  · intro q g hq hg
    rcases bKx_nd.mp hq with h | ⟨s, hs, rfl⟩
    · exact bKx_nd.mpr (Or.inl (hN.2.2.1 q g h hg))
    · rw [bhd_len (by omega)] at hg
      rw [bhd_bhd hg (by omega) hv.1]
      rcases Nat.lt_or_ge g (bcs K nm v) with z | z
      · exact bKx_nd.mpr (Or.inl (bcs_no z))
      · exact bKx_nd.mpr (Or.inr ⟨g - bcs K nm v, by omega, by rw [Nat.add_sub_cancel' z]⟩)
  · intro u hu hcu
    have hu7 := bln_le u
    rw [bbg_ins hp]
    generalize hce : bcs (bKx K nm v (bcs K nm v)) (nm + T) u = c' at hcu ⊢
    by_cases e : bhd v (bln (bhd u c')) = bhd u c'
    · rw [bhd_len hcu] at e
      have hcv := beg_len hv (bhd_len hcu) (by omega) e
      have e2 : bcs (bKx K nm v (bcs K nm v)) (nm + T) v = c' := by
        refine bfs_eq (by omega) (fun g hg => ?_) (fun _ => ?_)
        · rw [Bool.not_eq_false', ← bhd_bhd (n := c') (by omega) (by omega) hv.1, e, bhd_bhd (by omega) (by omega) hu.1]
          exact bcs_no (by rw [hce]; exact hg)
        · rw [e, ← hce, bcs_yes (by rw [hce]; exact hcu)]
          rfl
      rw [hcs] at e2
      have h1 := bfs_yes (fun t => decide (bbg (bic V p v) (n + 1) (bhd v (bcs K nm v + t)) ≤ b)) (bln v + 1 - bcs K nm v) (by rw [← hT]; omega)
      rw [← hT] at h1
      have h2 : bbg (bic V p v) (n + 1) (bhd v (bcs K nm v + T)) ≤ b := by simpa using h1
      rw [e2, e, bbg_ins hp] at h2
      exact h2
    · rw [if_neg e, Nat.add_zero]
      have h1 : bcs K nm u ≤ c' := by
        rcases Nat.lt_or_ge c' (bcs K nm u) with z | z
        · have h2 := bcs_yes (K := bKx K nm v (bcs K nm v)) (nm := nm + T) (w := u) (by rw [hce]; exact hcu)
          rw [hce, Bool.eq_false_iff] at h2
          exact absurd (bKx_nd.mpr (Or.inl (bcs_no z))) h2
        · exact z
      exact Nat.le_trans (bbg_mono hw hu h1 hcu) (hN.2.2.2 u hu (by omega))
  · intro q hq
    rw [bKx_nd]
    exact ⟨Or.inl, fun h => by
      rcases h with h | ⟨s, hs, e⟩
      · exact h
      · exact absurd e (hq _ (by omega))⟩
theorem bsm_sp {V : Nat → Nat} {n x few : Nat} : ∀ {c : Nat}, (∀ g, bsm V n x few c ≤ g → g < c → bbg V n (bhd x g) ≤ few) ∧ (bsm V n x few c = 0 ∨ few < bbg V n (bhd x (bsm V n x few c - 1)))
  | 0 => ⟨fun g _ h => absurd h (Nat.not_lt_zero g), Or.inl rfl⟩
  | c + 1 => by
    have ih := bsm_sp (V := V) (n := n) (x := x) (few := few) (c := c)
    unfold bsm
    split
    · next h =>
      refine ⟨fun g h1 h2 => ?_, ih.2⟩
      rcases Nat.lt_or_ge g c with z | z
      · exact ih.1 g h1 z
      · rw [show g = c by omega]; exact h
    · next h => exact ⟨fun g h1 h2 => absurd h2 (by omega), Or.inr (by rw [Nat.add_sub_cancel]; omega)⟩
theorem bNs_take {K9 : Nat → Nat} {nm9 a : Nat} (hw : bWo n V O) (hN : bNs b n V K nm) (hv : bwf v) (ha : a < n) (hav : V a = v) (hw' : bWo (n - 1) (brm V a) (brm O a)) (hS : bShE K nm (brm V a) (n - 1) v (b / 2) K9 nm9) :
    bNs b (n - 1) (brm V a) K9 nm9 ∧ bcs K9 nm9 v = bsm (brm V a) (n - 1) v (b / 2) (bcs K nm v) ∧ bDf K nm K9 nm9 v := by
  have hc := bcs_le K nm v
  have h7 := bln_le v
  obtain ⟨hnd, -, hset⟩ := hS
  have hsp := bsm_sp (V := brm V a) (n := n - 1) (x := v) (few := b / 2) (c := bcs K nm v)
  have hml := bsm_le (brm V a) (n - 1) v (b / 2) (bcs K nm v)
  generalize bsm (brm V a) (n - 1) v (b / 2) (bcs K nm v) = m at hset hsp hml ⊢
  have hle : ∀ q, bbg (brm V a) (n - 1) q ≤ bbg V n q := fun q => by rw [bbg_rm (V := V) ha]; omega
  have hsame : ∀ q, bhd v (bln q) ≠ q → bbg V n q = bbg (brm V a) (n - 1) q := fun q hq => by rw [bbg_rm (V := V) ha, hav, if_neg hq]; rfl
  refine ⟨⟨hnd, ?_, ?_, ?_⟩, ?_, ?_⟩
  · intro q hq
    obtain ⟨h1, h2⟩ := (hset q).mp hq
    have h3 := hN.2.1 q h1
    refine ⟨h3.1, ?_⟩
    by_cases e : bhd v (bln q) = q
    · have hql := bln_le q
      have hg := beg_len hv rfl hql e
      have h4 : bln q < bcs K nm v := (bcs_iff hN hv hg).mp (by rw [e]; exact h1)
      have h5 : bln q < m := by
        rcases Nat.lt_or_ge (bln q) m with z | z
        · exact z
        · exact absurd e.symm (h2 _ z h4)
      rcases hsp.2 with z | z
      · omega
      · have := bbg_mono hw' hv (show bln q ≤ m - 1 by omega) (by omega)
        rw [e] at this
        omega
    · rw [← hsame q e]; exact h3.2
  · intro q g hq hg
    obtain ⟨h1, h2⟩ := (hset q).mp hq
    have h3 := hN.2.1 q h1
    have hql := bln_le q
    refine (hset _).mpr ⟨hN.2.2.1 q g h1 hg, fun g' h4 h5 e => ?_⟩
    have eg : g = g' := by rw [← bhd_len hg, e, bhd_len (by omega)]
    subst eg
    by_cases e2 : bhd v (bln q) = q
    · have hg2 := beg_len hv rfl hql e2
      have h6 : bln q < bcs K nm v := (bcs_iff hN hv hg2).mp (by rw [e2]; exact h1)
      exact h2 _ (by omega) h6 e2.symm
    · have h6 := hsp.1 g h4 h5
      have h7' := bbg_mono hw' h3.1 hg (Nat.le_refl _)
      rw [bhd_full h3.1 (Nat.le_refl _) hql, e, ← hsame q e2] at h7'
      omega
  · intro u hu hcu
    have hu7 := bln_le u
    have hy := bcs_yes hcu
    generalize hce : bcs K9 nm9 u = c' at hcu hy ⊢
    by_cases e : bnd K (bhd u c') nm = true
    · have h1 : ∃ g, m ≤ g ∧ g < bcs K nm v ∧ bhd u c' = bhd v g := Classical.byContradiction fun z => by
        rw [Bool.eq_false_iff] at hy
        exact hy ((hset _).mpr ⟨e, fun g h1 h2 h3 => z ⟨g, h1, h2, h3⟩⟩)
      obtain ⟨g, h2, h3, h4⟩ := h1
      rw [h4]
      have := hsp.1 g h2 h3
      omega
    · have e2 : bcs K nm u = c' := by
        refine bfs_eq (by omega) (fun g hg => ?_) (fun _ => ?_)
        · rw [Bool.not_eq_false']
          exact ((hset _).mp (bcs_no (by rw [hce]; exact hg))).1
        · rw [Bool.not_eq_true', Bool.eq_false_iff]; exact e
      have := hN.2.2.2 u hu (by omega)
      rw [e2] at this
      exact Nat.le_trans (hle _) this
  · refine bcs_uni (by omega) (fun g hg => ?_)
    rw [hset, bcs_iff hN hv hg]
    constructor
    · rintro ⟨h1, h2⟩
      rcases Nat.lt_or_ge g m with z | z
      · exact z
      · exact absurd rfl (h2 g z h1)
    · intro h1
      refine ⟨by omega, fun g' h2 h3 e => ?_⟩
      have := bhd_inj hg (by omega) e
      omega
  · intro q hq
    rw [hset]
    exact ⟨fun h => ⟨h, fun g _ h2 => hq g (by omega)⟩, fun h => h.1⟩
/-- nothing moves where nothing changes -/
theorem bbd_same (hw : bWo n V O) (hN : bNs b n V K nm) (hv : bwf v) : bbd V n v (bcs K nm v) b = bcs K nm v := by
  have hc := bcs_le K nm v
  unfold bbd
  rw [bfs_eq (i := 0) (Nat.zero_le _) (fun k h => absurd h (Nat.not_lt_zero k)) (fun h => ?_)]
  · rfl
  · rw [Nat.add_zero, bsc_bbg hw hv (by omega)]
    simpa using hN.2.2.2 v hv (by omega)
theorem bmd_same (hw : bWo n V O) (hN : bNs b n V K nm) (hv : bwf v) : bmd V n v (b / 2) (bcs K nm v) = bcs K nm v := by
  have hc := bcs_le K nm v
  rcases Nat.eq_zero_or_pos (bcs K nm v) with e | e
  · rw [e]; rfl
  · refine bmd_e e ?_
    rw [bsc_bbg hw hv (by omega)]
    exact (hN.2.1 _ (bcs_no (by omega))).2
theorem bbd_new {n' : Nat} {V' O' : Nat → Nat} (hw' : bWo n' V' O') (hv : bwf v) {c : Nat} (hc : c ≤ bln v + 1) : bbd V' n' v c b = c + bfs (fun t => decide (bbg V' n' (bhd v (c + t)) ≤ b)) (bln v + 1 - c) := by
  unfold bbd
  rw [bfs_cong (fun t ht => by rw [bsc_bbg hw' hv (by omega)])]
theorem bmd_bsm {n' : Nat} {V' O' : Nat → Nat} (hw' : bWo n' V' O') (hv : bwf v) {few : Nat} : ∀ {c : Nat}, c ≤ bln v + 1 → bmd V' n' v few c = bsm V' n' v few c
  | 0, _ => rfl
  | c + 1, h => by
    rw [bmd, bsm, bsc_bbg hw' hv (by omega), bmd_bsm hw' hv (by omega)]
end NA
