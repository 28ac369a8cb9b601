/-! own rows, pure: words as numbers of seven figures to the base 27 (0: no letter, 1 .. 26), and as the class packs them -/
def bsg (v i : Nat) : Nat := v / 27 ^ (6 - i) % 27
def bch (x : Nat) : Nat := if x = 0 then 0 else x + 96
def be8 (v : Nat) : Nat := (((((bch (bsg v 0) * 256 + bch (bsg v 1)) * 256 + bch (bsg v 2)) * 256 + bch (bsg v 3)) * 256 + bch (bsg v 4)) * 256 + bch (bsg v 5)) * 256 + bch (bsg v 6)
/-- the first place below n with the property, or n -/
def bfs (p : Nat → Bool) : Nat → Nat
  | 0 => 0
  | n + 1 => if bfs p n < n then bfs p n else if p n then n else n + 1
theorem bfs_le (p : Nat → Bool) : ∀ n, bfs p n ≤ n
  | 0 => Nat.le_refl 0
  | n + 1 => by
    have ih := bfs_le p n
    unfold bfs
    split
    · omega
    · split <;> omega
theorem bfs_no (p : Nat → Bool) : ∀ n k, k < bfs p n → p k = false
  | 0, k, h => absurd h (Nat.not_lt_zero k)
  | n + 1, k, h => by
    have ih := bfs_no p n k
    have hle := bfs_le p n
    unfold bfs at h
    split at h
    · exact ih h
    · split at h
      · exact ih (by omega)
      · next h1 h2 =>
        rcases Nat.lt_or_ge k n with q | q
        · exact ih (by omega)
        · have e : k = n := by omega
          subst e
          simpa using h2
theorem bfs_yes (p : Nat → Bool) : ∀ n, bfs p n < n → p (bfs p n) = true
  | 0, h => absurd h (Nat.not_lt_zero _)
  | n + 1, h => by
    have ih := bfs_yes p n
    unfold bfs at h ⊢
    split at h
    · next h1 => rw [if_pos h1]; exact ih h1
    · next h1 =>
      rw [if_neg h1]
      split at h
      · next h2 => rw [if_pos h2]; exact h2
      · omega
theorem bfs_eq {p : Nat → Bool} {n i : Nat} (hi : i ≤ n) (h1 : ∀ k, k < i → p k = false) (h2 : i < n → p i = true) : bfs p n = i := by
  rcases Nat.lt_trichotomy (bfs p n) i with h | h | h
  · have := bfs_yes p n (by omega)
    rw [h1 _ h] at this
    cases this
  · exact h
  · have := bfs_no p n i h
    rw [h2 (Nat.lt_of_lt_of_le h (bfs_le p n))] at this
    cases this
theorem bfs_cong {p q : Nat → Bool} {n : Nat} (h : ∀ k, k < n → p k = q k) : bfs p n = bfs q n :=
  bfs_eq (bfs_le q n) (fun k hk => by rw [h k (Nat.lt_of_lt_of_le hk (bfs_le q n))]; exact bfs_no q n k hk) (fun hl => by rw [h _ hl]; exact bfs_yes q n hl)
def bln (v : Nat) : Nat := bfs (fun i => bsg v i == 0) 7
def bsh (u v : Nat) : Nat := bfs (fun i => bsg u i == 0 || bsg u i != bsg v i) 7
def bhd (v n : Nat) : Nat := v - v % 27 ^ (7 - n)
/-- a word: seven figures, none behind an empty one -/
def bwf (v : Nat) : Prop := v < 27 ^ 7 ∧ ∀ i, i < 6 → bsg v i = 0 → bsg v (i + 1) = 0
def bmx (f : Nat → Nat) : Nat → Nat
  | 0 => 0
  | n + 1 => max (bmx f n) (f n)
theorem bln_le (v : Nat) : bln v ≤ 7 := bfs_le _ 7
theorem bsh_le (u v : Nat) : bsh u v ≤ 7 := bfs_le _ 7
theorem bsg_lt (v i : Nat) : bsg v i < 27 := Nat.mod_lt _ (by decide)
theorem bch_lt {x : Nat} (h : x < 27) : bch x < 123 := by unfold bch; split <;> omega
theorem bch_inj {x y : Nat} : bch x = bch y ↔ x = y := by unfold bch; split <;> split <;> omega
theorem bch_0 {x : Nat} : bch x = 0 ↔ x = 0 := by unfold bch; split <;> omega
theorem bch_sg (v i : Nat) : bch (bsg v i) < 123 := bch_lt (bsg_lt v i)
theorem be8_lt (v : Nat) : be8 v < 2 ^ 56 := by
  have h0 := bch_sg v 0; have h1 := bch_sg v 1; have h2 := bch_sg v 2; have h3 := bch_sg v 3; have h4 := bch_sg v 4; have h5 := bch_sg v 5; have h6 := bch_sg v 6
  unfold be8
  omega
theorem be8_63 (v : Nat) : be8 v < 2 ^ 63 := Nat.lt_trans (be8_lt v) (by decide)
theorem be8_64 (v : Nat) : be8 v < 2 ^ 64 := Nat.lt_trans (be8_lt v) (by decide)
theorem blt7 {P : Nat → Prop} (h0 : P 0) (h1 : P 1) (h2 : P 2) (h3 : P 3) (h4 : P 4) (h5 : P 5) (h6 : P 6) : ∀ i, i < 7 → P i
  | 0, _ => h0 | 1, _ => h1 | 2, _ => h2 | 3, _ => h3 | 4, _ => h4 | 5, _ => h5 | 6, _ => h6
  | n + 7, h => absurd h (by omega)
theorem be8_dig (v : Nat) : ∀ j, j < 7 → be8 v / 2 ^ (8 * (6 - j)) % 2 ^ 8 = bch (bsg v j) := by
  have h0 := bch_sg v 0; have h1 := bch_sg v 1; have h2 := bch_sg v 2; have h3 := bch_sg v 3; have h4 := bch_sg v 4; have h5 := bch_sg v 5; have h6 := bch_sg v 6
  unfold be8
  intro j hj
  match j, hj with
  | 0, _ =>
    show _ / 281474976710656 % 256 = bch (bsg v 0)
    omega
  | 1, _ =>
    show _ / 1099511627776 % 256 = bch (bsg v 1)
    omega
  | 2, _ =>
    show _ / 4294967296 % 256 = bch (bsg v 2)
    omega
  | 3, _ =>
    show _ / 16777216 % 256 = bch (bsg v 3)
    omega
  | 4, _ =>
    show _ / 65536 % 256 = bch (bsg v 4)
    omega
  | 5, _ =>
    show _ / 256 % 256 = bch (bsg v 5)
    omega
  | 6, _ =>
    show _ / 1 % 256 = bch (bsg v 6)
    omega
  | n + 7, h => exact absurd h (by omega)
theorem bsg_e (v : Nat) : bsg v 0 = v / 387420489 % 27 ∧ bsg v 1 = v / 14348907 % 27 ∧ bsg v 2 = v / 531441 % 27 ∧ bsg v 3 = v / 19683 % 27 ∧ bsg v 4 = v / 729 % 27 ∧ bsg v 5 = v / 27 % 27 ∧ bsg v 6 = v / 1 % 27 := ⟨rfl, rfl, rfl, rfl, rfl, rfl, rfl⟩
theorem bsg_val {v : Nat} (h : v < 27 ^ 7) : v = (((((bsg v 0 * 27 + bsg v 1) * 27 + bsg v 2) * 27 + bsg v 3) * 27 + bsg v 4) * 27 + bsg v 5) * 27 + bsg v 6 := by
  obtain ⟨e0, e1, e2, e3, e4, e5, e6⟩ := bsg_e v
  rw [e0, e1, e2, e3, e4, e5, e6]
  omega
theorem bsg_ext {u v : Nat} (hu : u < 27 ^ 7) (hv : v < 27 ^ 7) (h : ∀ i, i < 7 → bsg u i = bsg v i) : u = v := by
  rw [bsg_val hu, bsg_val hv, h 0 (by decide), h 1 (by decide), h 2 (by decide), h 3 (by decide), h 4 (by decide), h 5 (by decide), h 6 (by decide)]
theorem bst {A B a b A' B' a' b' : Nat} (h1 : A < B ↔ A' < B') (h2 : A = B ↔ A' = B') (k1 : a < b ↔ a' < b') (k2 : a = b ↔ a' = b') (ha : a < 27) (hb : b < 27) (ha' : a' < 256) (hb' : b' < 256) :
    (A * 27 + a < B * 27 + b ↔ A' * 256 + a' < B' * 256 + b') ∧ (A * 27 + a = B * 27 + b ↔ A' * 256 + a' = B' * 256 + b') := by
  rcases Nat.lt_trichotomy A B with h | h | h
  · have := h1.mp h
    constructor <;> constructor <;> intro <;> omega
  · have := h2.mp h
    constructor <;> constructor <;> intro <;> omega
  · have e1 : ¬ A' < B' := fun q => absurd (h1.mpr q) (by omega)
    have e2 : ¬ A' = B' := fun q => absurd (h2.mpr q) (by omega)
    constructor <;> constructor <;> intro <;> omega
theorem bch_lti {x y : Nat} : x < y ↔ bch x < bch y := by unfold bch; split <;> split <;> omega
theorem be8_cmp {u v : Nat} (hu : u < 27 ^ 7) (hv : v < 27 ^ 7) : (u < v ↔ be8 u < be8 v) ∧ (u = v ↔ be8 u = be8 v) := by
  have L : ∀ x i, bch (bsg x i) < 256 := fun x i => Nat.lt_trans (bch_sg x i) (by decide)
  have s : ∀ {A B A' B' : Nat} (i : Nat), ((A < B ↔ A' < B') ∧ (A = B ↔ A' = B')) → ((A * 27 + bsg u i < B * 27 + bsg v i ↔ A' * 256 + bch (bsg u i) < B' * 256 + bch (bsg v i)) ∧ (A * 27 + bsg u i = B * 27 + bsg v i ↔ A' * 256 + bch (bsg u i) = B' * 256 + bch (bsg v i))) :=
    fun i h => bst h.1 h.2 bch_lti bch_inj.symm (bsg_lt u i) (bsg_lt v i) (L u i) (L v i)
  have h0 : (bsg u 0 < bsg v 0 ↔ bch (bsg u 0) < bch (bsg v 0)) ∧ (bsg u 0 = bsg v 0 ↔ bch (bsg u 0) = bch (bsg v 0)) := ⟨bch_lti, bch_inj.symm⟩
  have h6 := s 6 (s 5 (s 4 (s 3 (s 2 (s 1 h0)))))
  rw [← bsg_val hu, ← bsg_val hv] at h6
  exact h6
theorem be8_ltI {u v : Nat} (hu : u < 27 ^ 7) (hv : v < 27 ^ 7) : be8 u < be8 v ↔ u < v := (be8_cmp hu hv).1.symm
theorem be8_eqI {u v : Nat} (hu : u < 27 ^ 7) (hv : v < 27 ^ 7) : be8 u = be8 v ↔ u = v := (be8_cmp hu hv).2.symm
theorem be8_leI {u v : Nat} (hu : u < 27 ^ 7) (hv : v < 27 ^ 7) : be8 u ≤ be8 v ↔ u ≤ v := by
  have h1 := (be8_cmp hv hu).1
  omega
