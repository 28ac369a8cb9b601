/-! the reference's cells, and what its methods answer -/
abbrev wm (a : Nat → Nat) (cI cJ cZ : ClassId) (ty : Nat → Int32) (tm b : Nat) (wo : Nat → Int64) (of : Nat → Int32) (n : Nat) (no : Nat → Int64) (nm : Nat) (un : Nat → Int64) (um : Nat) (sa sl si : Nat → Int32) (sn : Nat) (tk : Nat → Int32) : va_W :=
  [(a 0, .inr (4, [.int (nI 0), .ref (a 1), .int (nI tm), .int (nI b), .ref (a 2), .ref (a 3), .int (nI n), .ref (a 4), .int (nI nm), .ref (a 5), .int (nI um), .ref (a 6), .ref (a 7), .ref (a 8), .int (nI sn), .ref (a 9)])), (a 1, .inl (cI, 7, .inl ty)), (a 2, .inl (cJ, 41, .inr (.inl wo))), (a 3, .inl (cI, 41, .inl of)), (a 4, .inl (cJ, 200, .inr (.inl no))), (a 5, .inl (cJ, 3384, .inr (.inl un))), (a 6, .inl (cI, 8, .inl sa)), (a 7, .inl (cI, 8, .inl sl)), (a 8, .inl (cI, 8, .inl si)), (a 9, .inl (cZ, 41, .inl tk))]
def bMW (ty : Nat → Int32) (tm v : Nat) : Prop := bwf v ∧ tm = bln v ∧ ∀ k, k < tm → ty k = nI (bsg v k)
def bMD (wo : Nat → Int64) (of : Nat → Int32) (n : Nat) (V O : Nat → Nat) : Prop := n ≤ 40 ∧ ∀ k, k < n → wo k = lN (V k) ∧ bwf (V k) ∧ 0 < V k ∧ of k = nI (O k) ∧ 1 ≤ O k ∧ O k ≤ 99
def bMN (no : Nat → Int64) (nm : Nat) (K : Nat → Nat) : Prop := nm ≤ 200 ∧ ∀ k, k < nm → no k = lN (K k) ∧ K k < 27 ^ 7
def bMS (sa sl si : Nat → Int32) (sn : Nat) (SA SL SI : Nat → Nat) : Prop := sn ≤ 8 ∧ ∀ k, k < sn → sa k = nI (SA k) ∧ SA k < 7 ∧ sl k = nI (SL k) ∧ SL k ≤ 26 ∧ si k = nI (SI k) ∧ SI k ≤ 1
def blp (V : Nat → Nat) (v : Nat) : Nat → Nat
  | 0 => 0
  | k + 1 => if V k = v then k + 1 else blp V v k
def bbg (V : Nat → Nat) (n p : Nat) : Nat := fb_ct (fun k => bhd (V k) (bln p) == p) n
def bnd (K : Nat → Nat) (p : Nat) : Nat → Bool
  | 0 => false
  | k + 1 => bnd K p k || K k == p
def bcs (K : Nat → Nat) (nm w : Nat) : Nat := bfs (fun g => !bnd K (bhd w g) nm) (bln w + 1)
def bde (K : Nat → Nat) (nm w : Nat) : Nat := fb_ct (fun g => bnd K (bhd w g) nm) (bln w + 1)
def bft (v : Nat) (SA SL SI : Nat → Nat) : Nat → Bool
  | 0 => true
  | e + 1 => bft v SA SL SI e && ((bsg v (SA e) == SL e) == (SI e == 1))
def bno (i x : Nat) : Int32 := if i = 0 then -9 else nI x
def bpr (f : Nat → Nat) (i : Nat) : Nat := fb_ct (fun k => f k == bmx f i) i
theorem bln_lt7 {v k : Nat} (h : k < bln v) : k < 7 := Nat.lt_of_lt_of_le h (bln_le v)
theorem bhd_le (v n : Nat) : bhd v n ≤ v := Nat.sub_le _ _
theorem p27_lt (k : Nat) : 27 ^ (7 - k) < 2 ^ 63 := Nat.lt_of_le_of_lt (Nat.pow_le_pow_right (by decide) (Nat.sub_le 7 k)) (by decide)
theorem p27_pos (k : Nat) : 0 < 27 ^ (7 - k) := Nat.pow_pos (by decide)
theorem w63 {v : Nat} (h : v < 27 ^ 7) : v < 2 ^ 63 := Nat.lt_trans h (by decide)
theorem bown {v i : Nat} (h : i < 7) : v / 27 ^ (7 - i) * 27 + bsg v i = v / 27 ^ (7 - (i + 1)) := by
  have e : 27 ^ (7 - i) = 27 ^ (6 - i) * 27 := by rw [show 7 - i = (6 - i) + 1 by omega, Nat.pow_succ]
  unfold bsg
  rw [e, ← Nat.div_div_eq_div_mul, show 7 - (i + 1) = 6 - i by omega]
  omega
theorem bopt_y {n i : Nat} (h : i < n) : bopt n i = nI i := if_pos h
theorem bopt_n {n i : Nat} (h : ¬ i < n) : bopt n i = -1 := if_neg h
theorem bmx_cong {f g : Nat → Nat} : ∀ {n : Nat}, (∀ k, k < n → f k = g k) → bmx f n = bmx g n
  | 0, _ => rfl
  | n + 1, h => by rw [bmx, bmx, bmx_cong (fun k hk => h k (Nat.lt_succ_of_lt hk)), h n (Nat.lt_succ_self n)]
theorem bpr_gt {f : Nat → Nat} {i : Nat} (h : i = 0 ∨ bmx f i < f i) : bpr f (i + 1) = 1 := by
  have e : bmx f (i + 1) = f i := by
    rcases h with h | h
    · subst h; exact Nat.zero_max _
    · exact Nat.max_eq_right (Nat.le_of_lt h)
  unfold bpr
  rw [e, fb_ct_succ, fb_ct_zero.mpr, if_pos (by simp)]
  intro k hk
  rcases h with h | h
  · omega
  · have := bmx_ge (f := f) hk
    simp
    omega
theorem bpr_eq {f : Nat → Nat} {i : Nat} (h : bmx f i = f i) : bpr f (i + 1) = bpr f i + 1 := by
  have e : bmx f (i + 1) = bmx f i := by show max _ _ = _; rw [h]; exact Nat.max_self _
  unfold bpr
  rw [e, fb_ct_succ, if_pos (by simp [h])]
theorem bpr_lt {f : Nat → Nat} {i : Nat} (h : f i < bmx f i) : bpr f (i + 1) = bpr f i := by
  have e : bmx f (i + 1) = bmx f i := Nat.max_eq_left (Nat.le_of_lt h)
  unfold bpr
  rw [e, fb_ct_succ, if_neg (by simp; omega)]
  rfl
theorem bmx_s {f : Nat → Nat} {i : Nat} (h : bmx f i < f i) : bmx f (i + 1) = f i := Nat.max_eq_right (Nat.le_of_lt h)
theorem bmx_t {f : Nat → Nat} {i : Nat} (h : f i ≤ bmx f i) : bmx f (i + 1) = bmx f i := Nat.max_eq_left h
