/-! own rows, pure: the class's pictures against the reference's -/
/-- words in order, each there 1 .. 99 times -/
def bWo (n : Nat) (V O : Nat → Nat) : Prop := n ≤ 40 ∧ (∀ i j, i < j → j < n → V i < V j) ∧ ∀ k, k < n → bwf (V k) ∧ 0 < V k ∧ 1 ≤ O k ∧ O k ≤ 99
/-- nodes: each once; more than b / 2 words begin with each; every beginning of one is one; no container holds more than b -/
def bNs (b n : Nat) (V K : Nat → Nat) (nm : Nat) : Prop := bNd K nm ∧ (∀ p, bnd K p nm = true → bwf p ∧ b / 2 < bbg V n p) ∧ (∀ p g, bnd K p nm = true → g ≤ bln p → bnd K (bhd p g) nm = true) ∧ ∀ u, bwf u → bcs K nm u ≤ bln u → bbg V n (bhd u (bcs K nm u)) ≤ b
def bEs (n : Nat) (V E K : Nat → Nat) (nm : Nat) : Prop := ∀ k, k < n → E k = bcs K nm (V k)
/-- v begins x: in both codes -/
theorem beg_iff {v x : Nat} (hv : bwf v) (hx : x < 27 ^ 7) : bsh v x = bln v ↔ bhd x (bln v) = v := by
  have h := bsh_hd (u := v) (v := x) hv.1 hx (Nat.le_refl (bln v))
  rw [bhd_full hv (Nat.le_refl _) (bln_le v)] at h
  have := bsh_len v x
  constructor
  · intro e; exact (h.mp (by omega)).symm
  · intro e; have := h.mpr e.symm; omega
theorem beg_eq {v x : Nat} (hv : bwf v) (hx : x < 27 ^ 7) : (bsh v x == bln v) = (bhd x (bln v) == v) := by
  by_cases e : bsh v x = bln v
  · rw [beq_iff_eq.mpr e, beq_iff_eq.mpr ((beg_iff hv hx).mp e)]
  · rw [beq_false_of_ne e, beq_false_of_ne (fun q => e ((beg_iff hv hx).mpr q))]
/-- a word begins with the first g letters of v -/
theorem beg_g {v x g : Nat} (hv : v < 27 ^ 7) (hx : x < 27 ^ 7) (hg : g ≤ bln v) : g ≤ bsh x v ↔ bhd x (bln (bhd v g)) = bhd v g := by
  rw [bhd_len hg, bsh_comm, bsh_hd hv hx hg]
  exact ⟨fun h => h.symm, fun h => h.symm⟩
theorem bsc_bbg {V O : Nat → Nat} {n v g : Nat} (h : bWo n V O) (hv : bwf v) (hg : g ≤ bln v) : bsc V n v g = bbg V n (bhd v g) := by
  unfold bsc bbg
  refine fb_ct_cong (fun k hk => ?_)
  have := beg_g hv.1 (h.2.2 k hk).1.1 hg
  by_cases e : g ≤ bsh (V k) v
  · rw [decide_eq_true e, beq_iff_eq.mpr (this.mp e)]
  · rw [decide_eq_false e, beq_false_of_ne (fun q => e (this.mpr q))]
theorem bbg_pos {V : Nat → Nat} {n p : Nat} : 0 < bbg V n p ↔ ∃ k, k < n ∧ bhd (V k) (bln p) = p := by
  unfold bbg
  rw [fb_ct_pos]
  exact ⟨fun ⟨k, h, e⟩ => ⟨k, h, by simpa using e⟩, fun ⟨k, h, e⟩ => ⟨k, h, by simpa using e⟩⟩
/-- fewer letters: more words -/
theorem bbg_mono {V O : Nat → Nat} {n v g h : Nat} (hw : bWo n V O) (hv : bwf v) (hgh : g ≤ h) (hh : h ≤ bln v) : bbg V n (bhd v h) ≤ bbg V n (bhd v g) := by
  rw [← bsc_bbg hw hv hh, ← bsc_bbg hw hv (by omega)]
  unfold bsc
  exact fb_ct_sub (fun k _ q => by simp at q ⊢; omega)
theorem bcs_yes {K : Nat → Nat} {nm w : Nat} (h : bcs K nm w ≤ bln w) : bnd K (bhd w (bcs K nm w)) nm = false := by
  have := bfs_yes (fun g => !bnd K (bhd w g) nm) (bln w + 1) (show bcs K nm w < bln w + 1 by omega)
  have h2 : (!bnd K (bhd w (bcs K nm w)) nm) = true := this
  simpa using h2
/-- nodes of a word: just its first ones -/
theorem bcs_iff {b n : Nat} {V K : Nat → Nat} {nm w g : Nat} (hN : bNs b n V K nm) (hw : bwf w) (hg : g ≤ bln w) : bnd K (bhd w g) nm = true ↔ g < bcs K nm w := by
  have h7 := bln_le w
  constructor
  · intro h
    rcases Nat.lt_or_ge g (bcs K nm w) with q | q
    · exact q
    · have h1 := hN.2.2.1 _ (bcs K nm w) h (by rw [bhd_len hg]; exact q)
      rw [bhd_bhd q (by omega) hw.1, bcs_yes (by omega)] at h1
      cases h1
  · exact bcs_no
theorem bcs_hcl {b n : Nat} {V K : Nat → Nat} {nm w : Nat} (hN : bNs b n V K nm) (hw : bwf w) : ∀ g, bcs K nm w ≤ g → g ≤ bln w → bnd K (bhd w g) nm = false := fun g h1 h2 => by
  rw [Bool.eq_false_iff]
  intro q
  have := (bcs_iff hN hw h2).mp q
  omega
theorem bcs_max {b n : Nat} {V K : Nat → Nat} {nm w c : Nat} (hN : bNs b n V K nm) (hw : bwf w) (hc : c ≤ bln w + 1) (h : ∀ g, g < c → bnd K (bhd w g) nm = true) : c ≤ bcs K nm w := by
  rcases Nat.eq_zero_or_pos c with e | e
  · omega
  · have := (bcs_iff hN hw (show c - 1 ≤ bln w by omega)).mp (h (c - 1) (by omega))
    omega
theorem ct_ult {p : Nat → Bool} {c : Nat} : ∀ {m : Nat}, c ≤ m → fb_ct (fun g => decide (g < c)) m = c
  | 0, h => by rw [show c = 0 by omega]; rfl
  | m + 1, h => by
    rw [fb_ct_succ]
    rcases Nat.lt_or_ge m c with q | q
    · have e : c = m + 1 := by omega
      have h2 : fb_ct (fun g => decide (g < c)) m = m := by
        rw [fb_ct_all]
        intro k hk
        simp
        omega
      rw [h2, if_pos (by simpa using q)]
      omega
    · rw [ct_ult (p := p) q, if_neg (by simp; omega)]
      rfl
theorem bde_bcs {b n : Nat} {V K : Nat → Nat} {nm w : Nat} (hN : bNs b n V K nm) (hw : bwf w) : bde K nm w = bcs K nm w := by
  unfold bde
  rw [fb_ct_cong (q := fun g => decide (g < bcs K nm w)) (fun g hg => ?_), ct_ult (p := fun _ => true) (bcs_le K nm w)]
  have := bcs_iff hN hw (show g ≤ bln w by omega)
  by_cases e : g < bcs K nm w
  · rw [decide_eq_true e, this.mpr e]
  · rw [decide_eq_false e, Bool.eq_false_iff]; exact fun q => e (this.mp q)
/-- DEPTH out of the words' depths is DEPTH out of the nodes -/
theorem bdp_bcs {b n : Nat} {V O E K : Nat → Nat} {nm v : Nat} (hb : 2 ≤ b) (hw : bWo n V O) (hN : bNs b n V K nm) (hE : bEs n V E K nm) (hv : bwf v) : bdp V E n v = bcs K nm v := by
  refine Nat.le_antisymm (bmx_le (fun k hk => ?_)) ?_
  · have hV := (hw.2.2 k hk).1
    have hs1 := bsh_len (V k) v
    have hs2 := bsh_len2 (V k) v
    have hc := bcs_le K nm (V k)
    refine bcs_max hN hv (by omega) (fun g hg => ?_)
    have e : bhd (V k) g = bhd v g := (bsh_hd hV.1 hv.1 (by omega)).mp (by omega)
    rw [← e]
    exact bcs_no (by rw [hE k hk] at hg; omega)
  · rcases Nat.eq_zero_or_pos (bcs K nm v) with e | e
    · omega
    · have hc := bcs_le K nm v
      have h7 := bln_le v
      have hnd := bcs_no (K := K) (nm := nm) (w := v) (g := bcs K nm v - 1) (by omega)
      obtain ⟨k, hk, hkp⟩ := bbg_pos.mp (Nat.lt_of_le_of_lt (Nat.zero_le _) (hN.2.1 _ hnd).2)
      have hV := (hw.2.2 k hk).1
      have hsh : bcs K nm v - 1 ≤ bsh (V k) v := (beg_g hv.1 hV.1 (by omega)).mpr hkp
      have hEk : bcs K nm v ≤ E k := by
        rw [hE k hk]
        have hl := bsh_len (V k) v
        refine bcs_max hN hV (by omega) (fun g hg => ?_)
        have e2 : bhd (V k) g = bhd v g := (bsh_hd hV.1 hv.1 (by omega)).mp (by omega)
        rw [e2]
        exact bcs_no hg
      exact Nat.le_trans (by omega) (bmx_ge (f := fun k => min (bsh (V k) v + 1) (E k)) hk)
/-- where a word stands -/
theorem bpl_lt {V : Nat → Nat} {n v k : Nat} (h : k < bpl V n v) : V k < v := by
  have := bfs_no _ n k h
  simpa using this
theorem bpl_ge {V O : Nat → Nat} {n v k : Nat} (hw : bWo n V O) (h : bpl V n v ≤ k) (hk : k < n) : v ≤ V k := by
  have h1 : v ≤ V (bpl V n v) := by
    have := bfs_yes (fun k => decide (v ≤ V k)) n (show bpl V n v < n by omega)
    have h2 : decide (v ≤ V (bpl V n v)) = true := this
    simpa using h2
  rcases Nat.lt_or_ge (bpl V n v) k with q | q
  · have := hw.2.1 _ _ q hk; omega
  · rw [show k = bpl V n v by omega]; exact h1
theorem bpl_at {V O : Nat → Nat} {n k : Nat} (hw : bWo n V O) (hk : k < n) : bpl V n (V k) = k := by
  refine bfs_eq (by omega) (fun j hj => ?_) (fun _ => by simp)
  have := hw.2.1 j k hj hk
  simp
  omega
theorem bTh_iff {V O : Nat → Nat} {n v : Nat} (hw : bWo n V O) : bTh V n v ↔ ∃ k, k < n ∧ V k = v := by
  constructor
  · intro h; exact ⟨_, h.1, h.2⟩
  · rintro ⟨k, hk, rfl⟩
    unfold bTh
    rw [bpl_at hw hk]
    exact ⟨hk, rfl⟩
theorem blp_iff {V : Nat → Nat} {v : Nat} : ∀ {n : Nat}, blp V v n = 0 ↔ ∀ k, k < n → V k ≠ v
  | 0 => ⟨fun _ k h => absurd h (Nat.not_lt_zero k), fun _ => rfl⟩
  | n + 1 => by
    unfold blp
    by_cases e : V n = v
    · rw [if_pos e]
      exact ⟨fun h => absurd h (Nat.succ_ne_zero n), fun h => absurd e (h n (Nat.lt_succ_self n))⟩
    · rw [if_neg e, blp_iff (n := n)]
      exact ⟨fun h => fun k hk => by
        rcases Nat.lt_or_ge k n with q | q
        · exact h k q
        · rw [show k = n by omega]; exact e, fun h k hk => h k (Nat.lt_succ_of_lt hk)⟩
theorem blp_at {V : Nat → Nat} {v : Nat} : ∀ {n : Nat}, blp V v n ≠ 0 → V (blp V v n - 1) = v
  | 0, h => absurd rfl h
  | n + 1, h => by
    unfold blp at h ⊢
    by_cases e : V n = v
    · rw [if_pos e]; exact e
    · rw [if_neg e] at h ⊢; exact blp_at h
theorem blp_bpl {V O : Nat → Nat} {n v : Nat} (hw : bWo n V O) (h : blp V v n ≠ 0) : blp V v n - 1 = bpl V n v := by
  have h1 := blp_at h
  have h2 := blp_le V v n
  have h3 := bpl_at hw (k := blp V v n - 1) (by omega)
  rw [h1] at h3
  exact h3.symm
theorem blp_th {V O : Nat → Nat} {n v : Nat} (hw : bWo n V O) : blp V v n ≠ 0 ↔ bTh V n v := by
  rw [bTh_iff hw]
  constructor
  · intro h; exact ⟨blp V v n - 1, by have := blp_le V v n; omega, blp_at h⟩
  · rintro ⟨k, hk, e⟩ h
    exact blp_iff.mp h k hk e
theorem bof_eq {V O : Nat → Nat} {n v : Nat} (hw : bWo n V O) : bof V O n v = if blp V v n = 0 then 0 else O (blp V v n - 1) := by
  unfold bof
  by_cases e : blp V v n = 0
  · rw [if_pos e, if_neg (show ¬ (bpl V n v < n ∧ V (bpl V n v) = v) from fun q => ((blp_th hw).mpr q) e)]
  · rw [if_neg e, if_pos (show bpl V n v < n ∧ V (bpl V n v) = v from (blp_th hw).mp e), blp_bpl hw e]
theorem bof_at {V O : Nat → Nat} {n k : Nat} (hw : bWo n V O) (hk : k < n) : bof V O n (V k) = O k := by
  unfold bof
  rw [bpl_at hw hk, if_pos ⟨hk, rfl⟩]
theorem bof_0 {V O : Nat → Nat} {n v : Nat} (hw : bWo n V O) : bof V O n v = 0 ↔ ¬ bTh V n v := by
  constructor
  · intro h q
    obtain ⟨k, hk, e⟩ := (bTh_iff hw).mp q
    rw [← e, bof_at hw hk] at h
    have := (hw.2.2 k hk).2.2.1
    omega
  · intro h; unfold bof; exact if_neg h
theorem sm_pre {f : Nat → Nat} {p : Nat} : ∀ {n : Nat}, p ≤ n → fb_sm f p = fb_sm (fun k => if k < p then f k else 0) n
  | 0, h => by rw [show p = 0 by omega]; rfl
  | n + 1, h => by
    rw [fb_sm_succ]
    rcases Nat.lt_or_ge n p with q | q
    · have e : p = n + 1 := by omega
      rw [if_pos q, e, fb_sm_succ, fb_sm_cong (f := fun k => if k < n + 1 then f k else 0) (g := f) (fun k hk => if_pos (by omega))]
    · rw [if_neg (by omega), ← sm_pre q]
      rfl
theorem rank_eq {V O : Nat → Nat} {n v : Nat} (hw : bWo n V O) : fb_sm O (bpl V n v) = fb_sm (fun k => if V k < v then O k else 0) n := by
  rw [sm_pre (bpl_le V n v)]
  refine fb_sm_cong (fun k hk => ?_)
  by_cases e : k < bpl V n v
  · rw [if_pos e, if_pos (bpl_lt e)]
  · rw [if_neg e, if_neg (Nat.not_lt.mpr (bpl_ge hw (by omega) hk))]
