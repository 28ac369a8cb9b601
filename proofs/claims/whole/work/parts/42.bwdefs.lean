/-! the cells of BurstWords, and what its methods answer -/
abbrev wb (a : Nat → Nat) (cI cJ cZ : ClassId) (w : Nat → Int64) (o d : Nat → Int32) (n : Nat) (hw : Nat → Int64) (ho hd : Nat → Int32) (hn : Nat) (pl le so : Nat → Int32) (sn : Nat) (ta : Nat → Int32) (v bd : Nat) : va_W :=
  [(a 0, .inr (3, [.ref (a 1), .ref (a 5), .ref (a 9), .ref (a 13), .long (lN (be8 v)), .int (nI bd)])), (a 1, .inr (0, [.ref (a 2), .ref (a 3), .ref (a 4), .int (nI n)])), (a 2, .inl (cJ, 40, .inr (.inl w))), (a 3, .inl (cI, 40, .inl o)), (a 4, .inl (cI, 40, .inl d)), (a 5, .inr (1, [.ref (a 6), .ref (a 7), .ref (a 8), .int (nI hn)])), (a 6, .inl (cJ, 12, .inr (.inl hw))), (a 7, .inl (cI, 12, .inl ho)), (a 8, .inl (cI, 12, .inl hd)), (a 9, .inr (2, [.ref (a 10), .ref (a 11), .ref (a 12), .int (nI sn)])), (a 10, .inl (cI, 8, .inl pl)), (a 11, .inl (cI, 8, .inl le)), (a 12, .inl (cZ, 8, .inl so)), (a 13, .inl (cI, 182, .inl ta))]
abbrev bhf (x : Int32) : Bool := decide (x = 0) || decide (x = nI 1)
abbrev bak (x : Int32) : Bool := !decide (x < (-1 : Int32)) && !decide (nI 7 ≤ x)
theorem bak_M {x : Int32} (h : bak x = true) : ∃ g, g ≤ 7 ∧ x = nM g := by
  refine bin_M ?_
  simp only [Bool.and_eq_true, Bool.not_eq_true', decide_eq_false_iff_not] at h ⊢
  refine ⟨h.1, fun q => h.2 ?_⟩
  rw [Int32.lt_iff_toInt_lt, nI_toInt (by decide)] at q
  rw [Int32.le_iff_toInt_le, nI_toInt (by decide)]
  omega
theorem gcd_step {i j st : Nat} (hji : j ≤ i) (h0 : 0 < j) (h : i * j * 2 ^ st < 2 ^ 24) : j * (i % j) * 2 ^ (st + 1) < 2 ^ 24 := by
  have h1 : 2 * (i % j) ≤ i := by
    have a := Nat.mod_lt i h0
    have b := Nat.div_add_mod i j
    have c : 1 ≤ i / j := (Nat.le_div_iff_mul_le h0).mpr (by omega)
    have d : j * 1 ≤ j * (i / j) := Nat.mul_le_mul_left j c
    omega
  have h2 : j * (i % j) * 2 ^ (st + 1) = (2 * (i % j)) * j * 2 ^ st := by
    rw [Nat.pow_succ, ← Nat.mul_assoc, Nat.mul_comm (j * (i % j) * 2 ^ st) 2, ← Nat.mul_assoc, ← Nat.mul_assoc, Nat.mul_comm 2 j, Nat.mul_assoc j 2, Nat.mul_comm j (2 * (i % j))]
  rw [h2]
  exact Nat.lt_of_le_of_lt (Nat.mul_le_mul_right _ (Nat.mul_le_mul_right _ h1)) h
theorem gcd_done {i j st : Nat} (hji : j ≤ i) (hs : 64 ≤ st) (h : i * j * 2 ^ st < 2 ^ 24) : j = 0 := by
  rcases Nat.eq_zero_or_pos j with e | e
  · exact e
  · have h1 : 1 ≤ i * j := Nat.mul_pos (by omega) e
    have h2 : 2 ^ 64 ≤ 2 ^ st := Nat.pow_le_pow_right (by decide) hs
    have h3 : 1 * 2 ^ st ≤ i * j * 2 ^ st := Nat.mul_le_mul_right _ h1
    have h4 : (2 : Nat) ^ 24 < 2 ^ 64 := by decide
    omega
def cl_container (V E : Nat → Nat) (n v : Nat) (x : Int32) : Int32 := if bhf x then (if bln v < bdp V E n v then -9 else if bsc V n v (bdp V E n v) = 0 then -9 else if x = 0 then nI (bsc V n v (bdp V E n v)) else nI (bdp V E n v)) else -1
def cl_telling (V O : Nat → Nat) (n v : Nat) : Int32 := if bof V O n v = 0 then -9 else nI (bmx (fun k => if V k = v then 0 else bsh (V k) v + 1) n)
def cl_like (V : Nat → Nat) (n v : Nat) (x : Int32) : Int32 := if x < 0 then -1 else if x ≤ nI 7 then nI (fb_ct (fun k => bln (V k) == bln v && decide (fb_ct (fun i => bsg (V k) i != bsg v i) 7 ≤ x.toNatClampNeg)) n) else -1
def cl_od (w p : Nat) (x : Int32) : Int32 := if Nat.gcd p w = 0 then x else if x = 0 then nI (p / Nat.gcd p w) else nI (w / Nat.gcd p w)
def cl_odds (w p : Nat) (x : Int32) : Int32 := if bhf x then cl_od w p x else -1
def cl_kth (V O : Nat → Nat) (n : Nat) (x y : Int32) : Int32 := if x < 0 then -1 else if bak y then btl V n (bfs (fun i => decide (x.toNatClampNeg < fb_sm O (i + 1))) n) (bgi y) else -1
def cl_unlike (V : Nat → Nat) (n : Nat) (x y : Int32) : Int32 := if x < 0 then -1 else if bak y then btl V n x.toNatClampNeg (bgi y) else -1
def cl_next (V O : Nat → Nat) (n v : Nat) (y : Int32) : Int32 := if bak y then btl V n (if bof V O n v = 0 then bpl V n v else bpl V n v + 1) (bgi y) else -1
def cl_top (V O : Nat → Nat) (n v : Nat) (x y : Int32) : Int32 := if x < 0 then -1 else if bak y then btl V n (bfs (fun j => (bsh v (V j) == bln v) && (bmf V O n v j == x.toNatClampNeg)) n) (bgi y) else -1
def cl_fit (V : Nat → Nat) (n : Nat) (SA SL SI : Nat → Nat) (sn : Nat) (x : Int32) : Int32 := if bhf x then (if x = nI 1 then (if bfs (fun k => bft (V k) SA SL SI sn) n < n then nI (bfs (fun k => bft (V k) SA SL SI sn) n) else -9) else nI (fb_ct (fun k => bft (V k) SA SL SI sn) n)) else -1
def cl_cn (V O E : Nat → Nat) (n bd v hn : Nat) : Nat → Int32
  | 0 => nI n
  | 1 => nI (fb_sm O n)
  | 2 => nI (fb_sm (fun k => E k - bah V k) n)
  | 3 => nI (fb_ct (bop V E) n)
  | 4 => nI (bfh V E n).1
  | 5 => nI (bmx E n)
  | 6 => nI (fb_sm (fun k => if bct V E k then bln (V k) - E k else 0) n)
  | 7 => if n < 2 then -9 else nI (bmx (fun k => bsh (V k) (V (k + 1))) (n - 1))
  | 8 => nI (fb_ct (fun k => bsh (V k) (V (k + 1)) == bmx (fun k => bsh (V k) (V (k + 1))) (n - 1)) (n - 1))
  | 9 => nI bd
  | 10 => nI (bln v)
  | _ => nI hn
def cl_count (V O E : Nat → Nat) (n bd v hn : Nat) (x : Int32) : Int32 := if bin x (nI 0) (nI 11) then cl_cn V O E n bd v hn x.toNatClampNeg else -1
def cgl (v : Nat) (h : Int64) : Nat → Int64
  | 0 => h
  | i + 1 => lN 31 * cgl v h i + lN (bch (bsg v i))
def cgo (V O E : Nat → Nat) : Nat → Int64
  | 0 => lN 17
  | k + 1 => lN 31 * (lN 31 * cgl (V k) (cgo V O E k) (bln (V k)) + lN (O k)) + lN (E k)
/-- the tally behind one word's letters -/
def btw (x : Nat) (ta : Nat → Int32) (i q : Nat) : Int32 := if q / 26 < i ∧ bsg x (q / 26) = q % 26 + 1 then ta q + 1 else ta q
theorem bin_no {x : Int32} {a g : Nat} (ha : a < 2 ^ 31) (hg : g < 2 ^ 31) (h : ¬ bin x (nI a) (nI g) = true) : x.toInt < (a : Int) ∨ (g : Int) < x.toInt := by
  simp only [Bool.and_eq_true, Bool.not_eq_true', decide_eq_false_iff_not] at h
  rw [Int32.lt_iff_toInt_lt, Int32.lt_iff_toInt_lt, nI_toInt ha, nI_toInt hg] at h
  omega
theorem isl_y {x : Nat} (h : x < 27) : (!decide (nI (bch x) < nI 97) && !decide (nI 122 < nI (bch x))) = decide (0 < x) := by
  have hb := bch_lt h
  rw [show decide (nI (bch x) < nI 97) = decide (bch x < 97) from decide_eq_decide.mpr (nI_ltI (by omega) (by decide)), show decide (nI 122 < nI (bch x)) = decide (122 < bch x) from decide_eq_decide.mpr (nI_ltI (by decide) (by omega))]
  unfold bch
  by_cases e : x = 0
  · subst e; decide
  · rw [if_neg e, decide_eq_false (show ¬ x + 96 < 97 by omega), decide_eq_false (show ¬ 122 < x + 96 by omega), decide_eq_true (show 0 < x by omega)]
    rfl
