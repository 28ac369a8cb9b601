/-! the dictionary's cells, and what its methods answer -/
abbrev wd (q0 q1 q2 q3 : Nat) (cI cJ : ClassId) (w : Nat → Int64) (o d : Nat → Int32) (n : Nat) : va_W := [(q0, .inr (0, [.ref q1, .ref q2, .ref q3, .int (nI n)])), (q1, .inl (cJ, 40, .inr (.inl w))), (q2, .inl (cI, 40, .inl o)), (q3, .inl (cI, 40, .inl d))]
def bDD (w : Nat → Int64) (o d : Nat → Int32) (n : Nat) (V O E : Nat → Nat) : Prop := n ≤ 40 ∧ ∀ k, k < n → w k = lN (be8 (V k)) ∧ bwf (V k) ∧ 0 < V k ∧ o k = nI (O k) ∧ O k ≤ 99 ∧ d k = nI (E k) ∧ E k ≤ 8
def bwa (V : Nat → Nat) (n k : Nat) : Nat := if k < n then be8 (V k) else 0
def boa (O : Nat → Nat) (n k : Nat) : Nat := if k < n then O k else 0
def bpl (V : Nat → Nat) (n v : Nat) : Nat := bfs (fun k => decide (v ≤ V k)) n
/-- how often a word is there -/
def bof (V O : Nat → Nat) (n v : Nat) : Nat := if bpl V n v < n ∧ V (bpl V n v) = v then O (bpl V n v) else 0
/-- DEPTH, out of the words' depths -/
def bdp (V E : Nat → Nat) (n v : Nat) : Nat := bmx (fun k => min (bsh (V k) v + 1) (E k)) n
/-- how many words share g letters with v -/
def bsc (V : Nat → Nat) (n v g : Nat) : Nat := fb_ct (fun k => decide (g ≤ bsh (V k) v)) n
def bbd (V : Nat → Nat) (n v dep bnd : Nat) : Nat := dep + bfs (fun t => decide (bsc V n v (dep + t) ≤ bnd)) (bln v + 1 - dep)
def bmd (V : Nat → Nat) (n v few : Nat) : Nat → Nat
  | 0 => 0
  | h + 1 => if bsc V n v h ≤ few then bmd V n v few h else h + 1
def nM (x : Nat) : Int32 := nI x - 1
def bah (V : Nat → Nat) (k : Nat) : Nat := if k = 0 then 0 else bsh (V (k - 1)) (V k) + 1
def bct (V E : Nat → Nat) (k : Nat) : Bool := decide (E k ≤ bln (V k))
def bop (V E : Nat → Nat) (k : Nat) : Bool := bct V E k && decide (bah V k ≤ E k)
def bopt (n i : Nat) : Int32 := if i < n then nI i else -1
def bfh (V E : Nat → Nat) : Nat → Nat × Nat
  | 0 => (0, 0)
  | k + 1 => if bct V E k then (max (bfh V E k).1 (if bop V E k then 1 else (bfh V E k).2 + 1), if bop V E k then 1 else (bfh V E k).2 + 1) else bfh V E k
def bmf (V O : Nat → Nat) (n u j : Nat) : Nat := fb_ct (fun i => (decide (O j < O i) || (O i == O j && decide (i < j))) && (bsh u (V i) == bln u)) n
theorem nM_0 : nM 0 = -1 := by decide
theorem nM_s (x : Nat) : nM (x + 1) = nI x := nI_pred x
theorem nM_1 (x : Nat) : nM x + 1 = nI x := by unfold nM; exact Int32.sub_add_cancel _ _
theorem nM_toInt {x : Nat} (h : x < 2 ^ 30) : (nM x).toInt = (x : Int) - 1 := by
  have := pk_sub_toInt (a := x) (b := 1) h (by decide)
  exact this
theorem nM_lt {x s : Nat} (hx : x < 2 ^ 30) (hs : s < 2 ^ 30) : nM x < nI s ↔ x < s + 1 := by
  rw [Int32.lt_iff_toInt_lt, nM_toInt hx, nI_toInt (by omega)]
  omega
theorem nM_ge {x s : Nat} (hx : x < 2 ^ 30) (hs : s < 2 ^ 30) : nI s ≤ nM x ↔ s + 1 ≤ x := by
  rw [Int32.le_iff_toInt_le, nM_toInt hx, nI_toInt (by omega)]
  omega
theorem nmaxm {x s : Nat} (hx : x < 2 ^ 30) (hs : s < 2 ^ 30) : (if nM x < nI s then nI s else nM x) = nM (max x (s + 1)) := by
  by_cases h : x < s + 1
  · rw [if_pos ((nM_lt hx hs).mpr h), Nat.max_eq_right (Nat.le_of_lt h), nM_s]
  · rw [if_neg (fun q => h ((nM_lt hx hs).mp q)), Nat.max_eq_left (Nat.not_lt.mp h)]
theorem nmaxs {a b : Nat} (ha : a < 2 ^ 30) (hb : b < 2 ^ 30) : (if nI 0 < nI a - nI b then nI a - nI b else nI 0) = nI (a - b) := by
  rcases Nat.lt_or_ge b a with h | h
  · rw [pk_sub (Nat.le_of_lt h), if_pos (nI_lt (by omega) (by omega))]
  · rw [show a - b = 0 by omega]
    refine if_neg (fun q => ?_)
    rw [Int32.lt_iff_toInt_lt, pk_sub_toInt ha hb, nI_toInt (by decide)] at q
    omega
theorem bmx_le {f : Nat → Nat} {c : Nat} : ∀ {n : Nat}, (∀ k, k < n → f k ≤ c) → bmx f n ≤ c
  | 0, _ => Nat.zero_le _
  | n + 1, h => Nat.max_le.mpr ⟨bmx_le (fun k hk => h k (Nat.lt_succ_of_lt hk)), h n (Nat.lt_succ_self n)⟩
theorem bmx_ge {f : Nat → Nat} : ∀ {n k : Nat}, k < n → f k ≤ bmx f n
  | 0, k, h => absurd h (Nat.not_lt_zero k)
  | n + 1, k, h => by
    rcases Nat.lt_or_ge k n with q | q
    · exact Nat.le_trans (bmx_ge q) (Nat.le_max_left _ _)
    · rw [show k = n by omega]; exact Nat.le_max_right _ _
theorem bah_le (V : Nat → Nat) (k : Nat) : bah V k ≤ 8 := by
  unfold bah
  split
  · omega
  · have := bsh_le (V (k - 1)) (V k); omega
theorem bsc_le (V : Nat → Nat) (n v g : Nat) : bsc V n v g ≤ n := fb_ct_le _ n
theorem bpl_le (V : Nat → Nat) (n v : Nat) : bpl V n v ≤ n := bfs_le _ n
theorem bdp_le {V E : Nat → Nat} {n v : Nat} : bdp V E n v ≤ 8 := bmx_le (fun k _ => by have := bsh_le (V k) v; omega)
theorem bfh_le (V E : Nat → Nat) : ∀ k, (bfh V E k).1 ≤ k ∧ (bfh V E k).2 ≤ k
  | 0 => ⟨Nat.le_refl 0, Nat.le_refl 0⟩
  | k + 1 => by
    have ih := bfh_le V E k
    unfold bfh
    split
    · constructor
      · show max _ _ ≤ k + 1
        split <;> omega
      · show (if bop V E k then 1 else (bfh V E k).2 + 1) ≤ k + 1
        split <;> omega
    · exact ⟨Nat.le_succ_of_le ih.1, Nat.le_succ_of_le ih.2⟩
theorem sm_s (f : Nat → Nat) (n : Nat) : fb_sm f n + f n = fb_sm f (n + 1) := rfl
