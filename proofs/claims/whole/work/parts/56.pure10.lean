/-! own rows, pure: TOP -/
theorem ct_lt {p q : Nat → Bool} {n s : Nat} (h : ∀ k, k < n → p k = true → q k = true) (hs : s < n) (h1 : p s = false) (h2 : q s = true) : fb_ct p n < fb_ct q n := by
  have e : fb_ct (fun k => if k = s then true else p k) n + (if p s = true then 1 else 0) = fb_ct p n + 1 := fb_ct_upd p true hs
  rw [if_neg (nt h1)] at e
  have : fb_ct (fun k => if k = s then true else p k) n ≤ fb_ct q n := fb_ct_sub (fun k hk z => by
    by_cases y : k = s
    · rw [y]; exact h2
    · rw [if_neg y] at z; exact h k hk z)
  omega
/-- i comes before j: more often there, of like ones the lesser -/
def bfr (O : Nat → Nat) (i j : Nat) : Prop := O j < O i ∨ (O i = O j ∧ i < j)
theorem bfr_tot {O : Nat → Nat} {i j : Nat} (h : i ≠ j) : bfr O i j ∨ bfr O j i := by unfold bfr; omega
theorem bfr_asy {O : Nat → Nat} {i j : Nat} (h : bfr O i j) : ¬ bfr O j i := by unfold bfr at *; omega
theorem bfr_tr {O : Nat → Nat} {i j k : Nat} (h : bfr O i j) (h2 : bfr O j k) : bfr O i k := by unfold bfr at *; omega
theorem bfr_dec {O : Nat → Nat} {i j : Nat} : (decide (O j < O i) || (O i == O j && decide (i < j))) = true ↔ bfr O i j := by
  unfold bfr
  rw [Bool.or_eq_true, Bool.and_eq_true, decide_eq_true_eq, beq_iff_eq, decide_eq_true_eq]
theorem bse_sp {O : Nat → Nat} {n : Nat} {T : Nat → Bool} : ∀ {e : Nat}, e ≤ n → (bse O n T e = n ∧ ∀ i, i < e → T i = true) ∨ (bse O n T e < e ∧ T (bse O n T e) = false ∧ ∀ i, i < e → T i = false → i = bse O n T e ∨ bfr O (bse O n T e) i)
  | 0, _ => Or.inl ⟨rfl, fun i h => absurd h (Nat.not_lt_zero i)⟩
  | e + 1, he => by
    have ih := bse_sp (O := O) (n := n) (T := T) (e := e) (by omega)
    unfold bse
    split
    · next h =>
      rw [Bool.and_eq_true, Bool.not_eq_true', Bool.or_eq_true, beq_iff_eq, decide_eq_true_eq] at h
      refine Or.inr ⟨Nat.lt_succ_self e, h.1, fun i hi hT => ?_⟩
      rcases Nat.lt_or_ge i e with z | z
      · rcases ih with ⟨-, h3⟩ | ⟨h3, h4, h5⟩
        · rw [h3 i z] at hT; cases hT
        · refine Or.inr ?_
          rcases h.2 with y | y
          · omega
          · have y2 : bfr O e (bse O n T e) := Or.inl y
            rcases h5 i z hT with w | w
            · rw [w]; exact y2
            · exact bfr_tr y2 w
      · exact Or.inl (by omega)
    · next h =>
      rcases ih with ⟨h3, h4⟩ | ⟨h3, h4, h5⟩
      · refine Or.inl ⟨h3, fun i hi => ?_⟩
        rcases Nat.lt_or_ge i e with z | z
        · exact h4 i z
        · rw [show i = e by omega]
          cases hT : T e with
          | true => rfl
          | false => exact absurd (by rw [hT, h3]; simp) h
      · refine Or.inr ⟨by omega, h4, fun i hi hT => ?_⟩
        rcases Nat.lt_or_ge i e with z | z
        · exact h5 i z hT
        · have e2 : i = e := by omega
          subst e2
          refine Or.inr ?_
          have h6 : ¬ O (bse O n T i) < O i := fun q => h (by rw [hT, decide_eq_true q]; simp)
          unfold bfr
          omega
section TP
variable {n v : Nat} {V O : Nat → Nat} {B : Nat → Bool}
/-- the rank among those that begin so -/
def brk (O : Nat → Nat) (B : Nat → Bool) (n j : Nat) : Nat := fb_ct (fun i => (decide (O j < O i) || (O i == O j && decide (i < j))) && B i) n
theorem brk_lt {s i : Nat} (hs : s < n) (hB : B s = true) (h : bfr O s i) : brk O B n s < brk O B n i := by
  refine ct_lt (s := s) (fun k _ hk => ?_) hs ?_ ?_
  · rw [Bool.and_eq_true] at hk ⊢
    exact ⟨bfr_dec.mpr (bfr_tr (bfr_dec.mp hk.1) h), hk.2⟩
  · rw [Bool.eq_false_iff]
    intro z
    rw [Bool.and_eq_true] at z
    exact bfr_asy (bfr_dec.mp z.1) (bfr_dec.mp z.1)
  · rw [Bool.and_eq_true]; exact ⟨bfr_dec.mpr h, hB⟩
theorem brk_inj {i j : Nat} (hi : i < n) (hj : j < n) (hBi : B i = true) (hBj : B j = true) (e : brk O B n i = brk O B n j) : i = j := by
  refine Classical.byContradiction fun z => ?_
  rcases bfr_tot (O := O) z with h | h
  · have := brk_lt hi hBi h; omega
  · have := brk_lt hj hBj h; omega
/-- what was taken after r rounds, what comes next -/
theorem top_r {T0 : Nat → Bool} (hT0 : ∀ e, e < n → T0 e = !B e) : ∀ r, (∀ e, e < n → bkR O n T0 r e = (!B e || decide (brk O B n e < r))) ∧ ((∃ e, e < n ∧ B e = true ∧ r ≤ brk O B n e) → fb_ct (fun i => B i && decide (brk O B n i < r)) n = r) ∧
    ((bse O n (bkR O n T0 r) n = n ∧ ∀ e, e < n → B e = true → brk O B n e < r) ∨ (bse O n (bkR O n T0 r) n < n ∧ B (bse O n (bkR O n T0 r) n) = true ∧ brk O B n (bse O n (bkR O n T0 r) n) = r)) := by
  have sel : ∀ r, (∀ e, e < n → bkR O n T0 r e = (!B e || decide (brk O B n e < r))) → ((∃ e, e < n ∧ B e = true ∧ r ≤ brk O B n e) → fb_ct (fun i => B i && decide (brk O B n i < r)) n = r) →
      ((bse O n (bkR O n T0 r) n = n ∧ ∀ e, e < n → B e = true → brk O B n e < r) ∨ (bse O n (bkR O n T0 r) n < n ∧ B (bse O n (bkR O n T0 r) n) = true ∧ brk O B n (bse O n (bkR O n T0 r) n) = r)) := fun r h1 h2 => by
    rcases bse_sp (O := O) (n := n) (T := bkR O n T0 r) (e := n) (Nat.le_refl n) with ⟨h3, h4⟩ | ⟨h3, h4, h5⟩
    · refine Or.inl ⟨h3, fun e he hB => ?_⟩
      have := h4 e he
      rw [h1 e he, hB] at this
      simpa using this
    · generalize bse O n (bkR O n T0 r) n = s at h3 h4 h5 ⊢
      have h6 : B s = true ∧ r ≤ brk O B n s := by
        rw [h1 s h3] at h4
        simpa using h4
      refine Or.inr ⟨h3, h6.1, ?_⟩
      rw [← h2 ⟨s, h3, h6.1, h6.2⟩]
      show fb_ct (fun i => (decide (O s < O i) || (O i == O s && decide (i < s))) && B i) n = _
      refine fb_ct_cong (fun i hi => ?_)
      have z : ∀ a c : Bool, (a = true ↔ c = true) → a = c := by decide
      apply z
      rw [Bool.and_eq_true, Bool.and_eq_true, bfr_dec, decide_eq_true_eq]
      constructor
      · rintro ⟨y1, y2⟩
        refine ⟨y2, Classical.byContradiction fun y3 => ?_⟩
        have y4 : bkR O n T0 r i = false := by rw [h1 i hi, y2, decide_eq_false y3]; rfl
        rcases h5 i hi y4 with w | w
        · rw [w] at y1; exact bfr_asy y1 y1
        · exact bfr_asy y1 w
      · rintro ⟨y1, y2⟩
        refine ⟨?_, y1⟩
        have y3 : i ≠ s := fun q => by rw [q] at y2; omega
        rcases bfr_tot (O := O) y3 with w | w
        · exact w
        · have := brk_lt h3 h6.1 w; omega
  intro r
  induction r with
  | zero =>
    have a1 : ∀ e, e < n → bkR O n T0 0 e = (!B e || decide (brk O B n e < 0)) := fun e he => by
      show T0 e = _
      rw [hT0 e he]
      simp
    have a2 : (∃ e, e < n ∧ B e = true ∧ 0 ≤ brk O B n e) → fb_ct (fun i => B i && decide (brk O B n i < 0)) n = 0 := fun _ => fb_ct_zero.mpr (fun k _ => by simp)
    exact ⟨a1, a2, sel 0 a1 a2⟩
  | succ r ih =>
    obtain ⟨i1, i2, i3⟩ := ih
    have a1 : ∀ e, e < n → bkR O n T0 (r + 1) e = (!B e || decide (brk O B n e < r + 1)) := fun e he => by
      rw [bkR_s, i1 e he]
      rcases i3 with ⟨h3, h4⟩ | ⟨h3, h4, h5⟩
      · rw [h3, beq_false_of_ne (by omega), Bool.or_false]
        cases hB : B e with
        | false => rfl
        | true => have := h4 e he hB; rw [decide_eq_true this, decide_eq_true (show brk O B n e < r + 1 by omega)]
      · cases hB : B e with
        | false => rfl
        | true =>
          by_cases y : e = bse O n (bkR O n T0 r) n
          · rw [beq_iff_eq.mpr y, decide_eq_true (show brk O B n e < r + 1 by rw [y, h5]; omega)]
            simp
          · rw [beq_false_of_ne y, Bool.or_false]
            have y2 : brk O B n e ≠ r := fun q => y (brk_inj he h3 hB h4 (q.trans h5.symm))
            rw [decide_eq_decide.mpr (show brk O B n e < r ↔ brk O B n e < r + 1 by omega)]
    have a2 : (∃ e, e < n ∧ B e = true ∧ r + 1 ≤ brk O B n e) → fb_ct (fun i => B i && decide (brk O B n i < r + 1)) n = r + 1 := fun ⟨e, he, hB, hr⟩ => by
      have c := i2 ⟨e, he, hB, by omega⟩
      rcases i3 with ⟨h3, h4⟩ | ⟨h3, h4, h5⟩
      · have := h4 e he hB; omega
      · have u := fb_ct_or (p := fun i => B i && decide (brk O B n i < r)) (q := fun i => i == bse O n (bkR O n T0 r) n) (n := n) (fun k _ z => by
          rw [Bool.and_eq_true, decide_eq_true_eq, beq_iff_eq] at z
          rw [z.2, h5] at z
          omega)
        have u1 : fb_ct (fun i => i == bse O n (bkR O n T0 r) n) n = 1 := by
          have w1 : fb_ct (fun i => i == bse O n (bkR O n T0 r) n) n ≤ 1 := ct_one (a := bse O n (bkR O n T0 r) n) (fun k _ z => beq_iff_eq.mp z)
          have w2 : 0 < fb_ct (fun i => i == bse O n (bkR O n T0 r) n) n := fb_ct_pos.mpr ⟨_, h3, beq_self_eq_true _⟩
          omega
        rw [c, u1] at u
        refine Eq.trans (fb_ct_cong (fun i hi => ?_)) u
        cases hBi : B i with
        | false =>
          have y : i ≠ bse O n (bkR O n T0 r) n := fun q => by rw [← q, hBi] at h4; cases h4
          rw [beq_false_of_ne y]; rfl
        | true =>
          by_cases y : i = bse O n (bkR O n T0 r) n
          · rw [beq_iff_eq.mpr y, decide_eq_true (show brk O B n i < r + 1 by rw [y, h5]; omega)]
            simp
          · rw [beq_false_of_ne y, Bool.or_false]
            have y2 : brk O B n i ≠ r := fun q => y (brk_inj hi h3 hBi h4 (q.trans h5.symm))
            rw [decide_eq_decide.mpr (show brk O B n i < r + 1 ↔ brk O B n i < r by omega)]
    exact ⟨a1, a2, sel (r + 1) a1 a2⟩
theorem an_top (hw : bWo n V O) (hv : bwf v) (x y : Int32) : cl_top V O n v x y = mo_top V O n v x y := by
  unfold cl_top mo_top
  rw [bak_bin]
  by_cases h0 : x < 0
  · rw [if_pos h0, if_pos h0]
  · rw [if_neg h0, if_neg h0]
    by_cases h1 : bin y (-1) (nI 6) = true
    · rw [if_pos h1, if_pos h1]
      generalize x.toNatClampNeg = k
      have hr := top_r (n := n) (O := O) (B := fun j => bsh v (V j) == bln v) (T0 := fun e => !(bhd (V e) (bln v) == v)) (fun e he => by rw [beg_eq hv (hw.2.2 e he).1.1]) k
      have hbm : ∀ j, bmf V O n v j = brk O (fun j => bsh v (V j) == bln v) n j := fun j => rfl
      have none_n : (∀ e, e < n → (bsh v (V e) == bln v) = true → brk O (fun j => bsh v (V j) == bln v) n e ≠ k) → bfs (fun j => (bsh v (V j) == bln v) && (bmf V O n v j == k)) n = n := fun q =>
        bfs_eq (Nat.le_refl n) (fun j hj => by
          cases hB : (bsh v (V j) == bln v) with
          | false => rfl
          | true => rw [hbm, beq_false_of_ne (q j hj hB)]; rfl) (fun z => absurd z (Nat.lt_irrefl n))
      by_cases hk : n < k
      · rw [if_pos hk, none_n (fun e he _ q => by
          have : brk O (fun j => bsh v (V j) == bln v) n e ≤ n := fb_ct_le _ n
          omega)]
        exact btl_n (Nat.lt_irrefl n)
      · rw [if_neg hk]
        rcases hr.2.2 with ⟨h3, h4⟩ | ⟨h3, h4, h5⟩
        · rw [h3, none_n (fun e he hB q => by have := h4 e he hB; omega)]
        · rw [bfs_eq (i := bse O n (bkR O n (fun e => !(bhd (V e) (bln v) == v)) k) n) (by omega) (fun j hj => ?_) (fun _ => ?_)]
          · cases hB : (bsh v (V j) == bln v) with
            | false => rfl
            | true =>
              rw [hbm, beq_false_of_ne (fun q => ?_)]
              · rfl
              · have := brk_inj (B := fun j => bsh v (V j) == bln v) (show j < n by omega) h3 hB h4 (q.trans h5.symm)
                omega
          · rw [hbm, h5, beq_self_eq_true, Bool.and_true]; exact h4
    · rw [if_neg h1, if_neg h1]
end TP
