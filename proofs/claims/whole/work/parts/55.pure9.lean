/-! own rows, pure: the fullest container, TOP, ASK, count -/
section NC
variable {b n nm v : Nat} {V O E K : Nat → Nat}
theorem cont_same (hN : bNs b n V K nm) {u w : Nat} (hu : bwf u) (hw : bwf w) (hc : bcs K nm u ≤ bln u) (e : bhd w (bcs K nm u) = bhd u (bcs K nm u)) : bcs K nm w = bcs K nm u ∧ bcs K nm u ≤ bln w := by
  have h7 := bln_le u
  have hl : bcs K nm u ≤ bln w := beg_len hw (bhd_len hc) (by omega) e
  refine ⟨bfs_eq (by omega) (fun g hg => ?_) (fun _ => ?_), hl⟩
  · rw [Bool.not_eq_false', ← bhd_bhd (n := bcs K nm u) (by omega) (by omega) hw.1, e, bhd_bhd (by omega) (by omega) hu.1]
    exact bcs_no hg
  · rw [e, bcs_yes hc]; rfl
def bcn (V E : Nat → Nat) (k : Nat) : Nat := fb_ct (fun i => bhd (V i) (E k) == bhd (V k) (E k)) (k + 1)
theorem bfh_held (hw : bWo n V O) (hN : bNs b n V K nm) (hE : bEs n V E K nm) : ∀ {k : Nat}, k < n → bct V E k = true → (bfh V E (k + 1)).2 = bcn V E k := by
  intro k
  induction k with
  | zero =>
    intro hk hc
    have ho : bop V E 0 = true := by unfold bop; rw [hc]; unfold bah; simp
    rw [bfh, if_pos hc, if_pos ho]
    unfold bcn
    rw [fb_ct_succ]
    simp
    rfl
  | succ k ih =>
    intro hk hc
    have hV := (hw.2.2 (k + 1) hk).1
    have hV1 := (hw.2.2 k (by omega)).1
    have hcl : E (k + 1) ≤ bln (V (k + 1)) := by simpa [bct] using hc
    have ha := bah_ge hw hk hcl
    have h7 := bln_le (V (k + 1))
    rw [bfh, if_pos hc]
    show (if bop V E (k + 1) = true then 1 else (bfh V E (k + 1)).2 + 1) = _
    have self1 : fb_ct (fun i => bhd (V i) (E (k + 1)) == bhd (V (k + 1)) (E (k + 1))) (k + 1 + 1) = fb_ct (fun i => bhd (V i) (E (k + 1)) == bhd (V (k + 1)) (E (k + 1))) (k + 1) + 1 := by
      rw [fb_ct_succ, if_pos (beq_self_eq_true _)]
    unfold bcn
    rw [self1]
    by_cases e : bhd (V k) (E (k + 1)) = bhd (V (k + 1)) (E (k + 1))
    · have ho : bop V E (k + 1) = false := by
        unfold bop
        rw [hc, decide_eq_false (fun q => by rcases ha.mp q with y | y; omega; exact y e)]
        rfl
      have hs := cont_same hN hV hV1 (by rw [← hE (k + 1) hk]; exact hcl) (by rw [← hE (k + 1) hk]; exact e)
      have eE : E k = E (k + 1) := by rw [hE k (by omega), hE (k + 1) hk]; exact hs.1
      have hck : bct V E k = true := by unfold bct; rw [eE, hE (k + 1) hk]; exact decide_eq_true hs.2
      rw [if_neg (nt ho), ih (by omega) hck]
      unfold bcn
      rw [eE, e]
    · have ho : bop V E (k + 1) = true := by
        unfold bop
        rw [hc, decide_eq_true (ha.mpr (Or.inr e))]
        rfl
      rw [if_pos ho, fb_ct_zero.mpr (fun i hi => beq_false_of_ne (fun q => e (sh_mid hw (i := i) (j := k) (k := k + 1) (by omega) (by omega) hk (by omega) q)))]
theorem bfh_1 (hw : bWo n V O) (hN : bNs b n V K nm) (hE : bEs n V E K nm) : ∀ {k : Nat}, k ≤ n → (bfh V E k).1 = bmx (fun i => if bct V E i = true then bcn V E i else 0) k
  | 0, _ => rfl
  | k + 1, hk => by
    have ih := bfh_1 hw hN hE (k := k) (by omega)
    rw [bmx, ← ih]
    by_cases hc : bct V E k = true
    · have hh := bfh_held hw hN hE (show k < n by omega) hc
      rw [bfh, if_pos hc] at hh ⊢
      rw [if_pos hc, ← hh]
    · rw [bfh, if_neg hc, if_neg hc, Nat.max_zero]
theorem an_fullest (hw : bWo n V O) (hN : bNs b n V K nm) (hE : bEs n V E K nm) : (bfh V E n).1 = bmx (fun k => if bcs K nm (V k) < bln (V k) + 1 then bbg V n (bhd (V k) (bcs K nm (V k))) else 0) n := by
  rw [bfh_1 hw hN hE (Nat.le_refl n)]
  have cc : ∀ k, k < n → (bct V E k = true ↔ bcs K nm (V k) < bln (V k) + 1) := fun k hk => by
    unfold bct
    rw [hE k hk, decide_eq_true_eq]
    omega
  have bb : ∀ k m, k < n → bcs K nm (V k) ≤ bln (V k) → m ≤ n → fb_ct (fun i => bhd (V i) (bcs K nm (V k)) == bhd (V k) (bcs K nm (V k))) m ≤ bmx (fun i => if bct V E i = true then bcn V E i else 0) n := fun k m hk hc => by
    induction m with
    | zero => intro _; exact Nat.zero_le _
    | succ m ih =>
      intro hm
      by_cases e : bhd (V m) (bcs K nm (V k)) = bhd (V k) (bcs K nm (V k))
      · have hs := cont_same hN (hw.2.2 k hk).1 (hw.2.2 m (by omega)).1 hc e
        have hcm : bct V E m = true := (cc m (by omega)).mpr (by omega)
        have h1 := bmx_ge (f := fun i => if bct V E i = true then bcn V E i else 0) (show m < n by omega)
        rw [if_pos hcm] at h1
        unfold bcn at h1
        rw [hE m (by omega), hs.1, e] at h1
        exact h1
      · rw [fb_ct_succ, if_neg (fun q => e (beq_iff_eq.mp q)), Nat.add_zero]
        exact ih (by omega)
  refine Nat.le_antisymm (bmx_le (fun k hk => ?_)) (bmx_le (fun k hk => ?_))
  · by_cases hc : bct V E k = true
    · rw [if_pos hc]
      have hc2 := (cc k hk).mp hc
      have h1 := bmx_ge (f := fun k => if bcs K nm (V k) < bln (V k) + 1 then bbg V n (bhd (V k) (bcs K nm (V k))) else 0) hk
      rw [if_pos hc2] at h1
      refine Nat.le_trans ?_ h1
      unfold bcn bbg
      rw [hE k hk, bhd_len (by omega)]
      exact fb_ct_mono _ hk
    · rw [if_neg hc]; exact Nat.zero_le _
  · by_cases hc : bcs K nm (V k) < bln (V k) + 1
    · rw [if_pos hc]
      have := bb k n hk (by omega) (Nat.le_refl n)
      unfold bbg
      rw [bhd_len (by omega)]
      exact this
    · rw [if_neg hc]; exact Nat.zero_le _
theorem an_count (hb : 2 ≤ b) (hw : bWo n V O) (hN : bNs b n V K nm) (hE : bEs n V E K nm) (um : Nat) (x : Int32) : cl_count V O E n b v um x = mo_count V O n K nm b (bln v) um x := by
  unfold cl_count mo_count
  by_cases h : bin x (nI 0) (nI 11) = true
  · rw [if_pos h, if_pos h]
    have hcn : ∀ k, k < n → (bct V E k = true ↔ bcs K nm (V k) < bln (V k) + 1) := fun k hk => by
      unfold bct
      rw [hE k hk, decide_eq_true_eq]
      omega
    generalize x.toNatClampNeg = g
    match g with
    | 0 => rfl
    | 1 => rfl
    | 2 => exact congrArg nI (an_nodes hb hw hN hE)
    | 3 => exact congrArg nI (fb_ct_cong (fun k hk => an_cont1 hw hN hE hk))
    | 4 => exact congrArg nI (an_fullest hw hN hE)
    | 5 => exact congrArg nI (bmx_cong (fun k hk => by rw [hE k hk, bde_bcs hN (hw.2.2 k hk).1]))
    | 6 => exact congrArg nI (fb_sm_cong (fun k hk => by
        by_cases z : bct V E k = true
        · rw [if_pos z, if_pos ((hcn k hk).mp z), hE k hk]
        · rw [if_neg z, if_neg (fun q => z ((hcn k hk).mpr q))]))
    | 7 =>
      show (if n < 2 then -9 else nI (bmx (fun k => bsh (V k) (V (k + 1))) (n - 1))) = (if n - 1 = 0 then -9 else nI (bmx (fun k => bsh (V k) (V (k + 1))) (n - 1)))
      by_cases z : n < 2
      · rw [if_pos z, if_pos (by omega)]
      · rw [if_neg z, if_neg (by omega)]
    | 8 => rfl
    | 9 => rfl
    | 10 => rfl
    | g + 11 => rfl
  · rw [if_neg h, if_neg h]
/-- ASK -/
theorem bgr_max {f y : Nat} : max y (f - y) = bgr f y := by unfold bgr; split <;> omega
theorem an_ask {SA SL SI : Nat → Nat} {sn f : Nat} (hf : f = fb_ct (fun k => bft (V k) SA SL SI sn) n) (h2 : 2 ≤ f) (hf99 : f < 99) : (bca (btT V n SA SL SI sn) f 182).1 = (bao V n (fun k => bft (V k) SA SL SI sn) f 7).1 := by
  have hT : ∀ q, btT V n SA SL SI sn q ≤ f := fun q => by rw [hf]; exact btT_le
  have eT : ∀ i c, c < 26 → btT V n SA SL SI sn (26 * i + c) = fb_ct (fun k => bft (V k) SA SL SI sn && (bsg (V k) i == c + 1)) n := fun i c hc => by
    unfold btT
    rw [show (26 * i + c) / 26 = i by omega, show (26 * i + c) % 26 = c by omega]
  have stepc : ∀ i c, c < 26 → bca (btT V n SA SL SI sn) f (26 * i + c) = bai V n (fun k => bft (V k) SA SL SI sn) f i (bao V n (fun k => bft (V k) SA SL SI sn) f i) c → bca (btT V n SA SL SI sn) f (26 * i + c + 1) = bai V n (fun k => bft (V k) SA SL SI sn) f i (bao V n (fun k => bft (V k) SA SL SI sn) f i) (c + 1) := fun i c hc ih => by
    rw [bca, bai, ih, eT i c hc, bgr_max, show (26 * i + c) / 26 = i by omega, show (26 * i + c) % 26 = c by omega]
    rfl
  have row : ∀ i c, c ≤ 26 → (0 < i ∨ 0 < c) → bca (btT V n SA SL SI sn) f (26 * i + c) = bai V n (fun k => bft (V k) SA SL SI sn) f i (bao V n (fun k => bft (V k) SA SL SI sn) f i) c := by
    intro i
    induction i with
    | zero =>
      intro c
      induction c with
      | zero => intro _ h; omega
      | succ c ih =>
        intro hc _
        rcases Nat.eq_zero_or_pos c with e | e
        · subst e
          have h1 : max (btT V n SA SL SI sn 0) (f - btT V n SA SL SI sn 0) < f + 1 := by have := hT 0; omega
          have h3 : btT V n SA SL SI sn 0 = fb_ct (fun k => bft (V k) SA SL SI sn && (bsg (V k) 0 == 0 + 1)) n := eT 0 0 (by decide)
          have h4 : bgr f (fb_ct (fun k => bft (V k) SA SL SI sn && (bsg (V k) 0 == 0 + 1)) n) < 99 := by rw [← h3, ← bgr_max]; omega
          show bca (btT V n SA SL SI sn) f (0 + 1) = _
          rw [bca, bai]
          rw [if_pos (show max (btT V n SA SL SI sn 0) (f - btT V n SA SL SI sn 0) < (bca (btT V n SA SL SI sn) f 0).2 from h1), if_pos (show bgr f (fb_ct (fun k => bft (V k) SA SL SI sn && (bsg (V k) 0 == 0 + 1)) n) < (bai V n (fun k => bft (V k) SA SL SI sn) f 0 (bao V n (fun k => bft (V k) SA SL SI sn) f 0) 0).2 from h4), bgr_max, h3]
        · exact stepc 0 c (by omega) (ih (by omega) (Or.inr e))
    | succ i ihi =>
      intro c
      induction c with
      | zero =>
        intro _ _
        have := ihi 26 (Nat.le_refl _) (Or.inr (by decide))
        rw [show 26 * (i + 1) + 0 = 26 * i + 26 by omega, this]
        rfl
      | succ c ih =>
        intro hc _
        exact stepc (i + 1) c (by omega) (ih (by omega) (Or.inl (by omega)))
  have h := row 7 0 (by decide) (Or.inl (by decide))
  have h9 : bca (btT V n SA SL SI sn) f 182 = bao V n (fun k => bft (V k) SA SL SI sn) f 7 := h
  rw [h9]
end NC
