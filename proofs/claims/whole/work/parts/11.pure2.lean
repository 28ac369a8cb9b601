theorem lv_cg {ls : Array Slot} {n : Nat} {l l' : List (Nat × Value)} (h : lv_has ls n l) (e : l = l') : lv_has ls n l' := e ▸ h
theorem ct_y {p : Nat → Bool} {n : Nat} (h : p n = true) : fb_ct p n + 1 = fb_ct p (n + 1) := by rw [fb_ct_succ, if_pos h]
theorem ct_n {p : Nat → Bool} {n : Nat} (h : p n = false) : fb_ct p n = fb_ct p (n + 1) := by rw [fb_ct_succ, h]; rfl
theorem bln_nz {v k : Nat} (h : k < bln v) : bsg v k ≠ 0 := by
  have := bfs_no _ 7 k h
  simpa using this
theorem bln_z {v : Nat} (h : bln v < 7) : bsg v (bln v) = 0 := by
  have := bfs_yes _ 7 h
  exact by simpa [bln] using this
theorem bwf_z {v : Nat} (hv : bwf v) : ∀ i, i < 7 → bln v ≤ i → bsg v i = 0
  | 0, h, h2 => by
    have e : bln v = 0 := by omega
    have := bln_z (v := v) (by omega)
    rwa [e] at this
  | i + 1, h, h2 => by
    rcases Nat.lt_or_ge i (bln v) with q | q
    · have e : bln v = i + 1 := by omega
      have := bln_z (v := v) (by omega)
      rwa [e] at this
    · exact hv.2 i (by omega) (bwf_z hv i (by omega) q)
theorem bwf_mod {v : Nat} (hv : bwf v) : ∀ n, n ≤ 7 → bln v ≤ n → v % 27 ^ (7 - n) = 0 := by
  obtain ⟨e0, e1, e2, e3, e4, e5, e6⟩ := bsg_e v
  have h := bwf_z hv
  intro n hn hl
  match n, hn with
  | 0, _ =>
    have z0 := h 0 (by decide) (by omega); have z1 := h 1 (by decide) (by omega); have z2 := h 2 (by decide) (by omega); have z3 := h 3 (by decide) (by omega); have z4 := h 4 (by decide) (by omega); have z5 := h 5 (by decide) (by omega); have z6 := h 6 (by decide) (by omega)
    show v % 10460353203 = 0
    omega
  | 1, _ =>
    have z1 := h 1 (by decide) (by omega); have z2 := h 2 (by decide) (by omega); have z3 := h 3 (by decide) (by omega); have z4 := h 4 (by decide) (by omega); have z5 := h 5 (by decide) (by omega); have z6 := h 6 (by decide) (by omega)
    show v % 387420489 = 0
    omega
  | 2, _ =>
    have z2 := h 2 (by decide) (by omega); have z3 := h 3 (by decide) (by omega); have z4 := h 4 (by decide) (by omega); have z5 := h 5 (by decide) (by omega); have z6 := h 6 (by decide) (by omega)
    show v % 14348907 = 0
    omega
  | 3, _ =>
    have z3 := h 3 (by decide) (by omega); have z4 := h 4 (by decide) (by omega); have z5 := h 5 (by decide) (by omega); have z6 := h 6 (by decide) (by omega)
    show v % 531441 = 0
    omega
  | 4, _ =>
    have z4 := h 4 (by decide) (by omega); have z5 := h 5 (by decide) (by omega); have z6 := h 6 (by decide) (by omega)
    show v % 19683 = 0
    omega
  | 5, _ =>
    have z5 := h 5 (by decide) (by omega); have z6 := h 6 (by decide) (by omega)
    show v % 729 = 0
    omega
  | 6, _ =>
    have z6 := h 6 (by decide) (by omega)
    show v % 27 = 0
    omega
  | 7, _ =>
    show v % 1 = 0
    omega
  | n + 8, h => exact absurd h (by omega)
theorem bsg_add {v n x : Nat} (hn : n < 7) (hz : v % 27 ^ (7 - n) = 0) (hx : x < 27) : ∀ i, i < 7 → bsg (v + x * 27 ^ (6 - n)) i = if i = n then x else bsg v i := by
  match n, hn with
  | 0, _ =>
    have hz : v % 10460353203 = 0 := hz
    refine blt7 ?_ ?_ ?_ ?_ ?_ ?_ ?_
    · show (v + x * 387420489) / 387420489 % 27 = x
      omega
    · show (v + x * 387420489) / 14348907 % 27 = v / 14348907 % 27
      omega
    · show (v + x * 387420489) / 531441 % 27 = v / 531441 % 27
      omega
    · show (v + x * 387420489) / 19683 % 27 = v / 19683 % 27
      omega
    · show (v + x * 387420489) / 729 % 27 = v / 729 % 27
      omega
    · show (v + x * 387420489) / 27 % 27 = v / 27 % 27
      omega
    · show (v + x * 387420489) / 1 % 27 = v / 1 % 27
      omega
  | 1, _ =>
    have hz : v % 387420489 = 0 := hz
    refine blt7 ?_ ?_ ?_ ?_ ?_ ?_ ?_
    · show (v + x * 14348907) / 387420489 % 27 = v / 387420489 % 27
      omega
    · show (v + x * 14348907) / 14348907 % 27 = x
      omega
    · show (v + x * 14348907) / 531441 % 27 = v / 531441 % 27
      omega
    · show (v + x * 14348907) / 19683 % 27 = v / 19683 % 27
      omega
    · show (v + x * 14348907) / 729 % 27 = v / 729 % 27
      omega
    · show (v + x * 14348907) / 27 % 27 = v / 27 % 27
      omega
    · show (v + x * 14348907) / 1 % 27 = v / 1 % 27
      omega
  | 2, _ =>
    have hz : v % 14348907 = 0 := hz
    refine blt7 ?_ ?_ ?_ ?_ ?_ ?_ ?_
    · show (v + x * 531441) / 387420489 % 27 = v / 387420489 % 27
      omega
    · show (v + x * 531441) / 14348907 % 27 = v / 14348907 % 27
      omega
    · show (v + x * 531441) / 531441 % 27 = x
      omega
    · show (v + x * 531441) / 19683 % 27 = v / 19683 % 27
      omega
    · show (v + x * 531441) / 729 % 27 = v / 729 % 27
      omega
    · show (v + x * 531441) / 27 % 27 = v / 27 % 27
      omega
    · show (v + x * 531441) / 1 % 27 = v / 1 % 27
      omega
  | 3, _ =>
    have hz : v % 531441 = 0 := hz
    refine blt7 ?_ ?_ ?_ ?_ ?_ ?_ ?_
    · show (v + x * 19683) / 387420489 % 27 = v / 387420489 % 27
      omega
    · show (v + x * 19683) / 14348907 % 27 = v / 14348907 % 27
      omega
    · show (v + x * 19683) / 531441 % 27 = v / 531441 % 27
      omega
    · show (v + x * 19683) / 19683 % 27 = x
      omega
    · show (v + x * 19683) / 729 % 27 = v / 729 % 27
      omega
    · show (v + x * 19683) / 27 % 27 = v / 27 % 27
      omega
    · show (v + x * 19683) / 1 % 27 = v / 1 % 27
      omega
  | 4, _ =>
    have hz : v % 19683 = 0 := hz
    refine blt7 ?_ ?_ ?_ ?_ ?_ ?_ ?_
    · show (v + x * 729) / 387420489 % 27 = v / 387420489 % 27
      omega
    · show (v + x * 729) / 14348907 % 27 = v / 14348907 % 27
      omega
    · show (v + x * 729) / 531441 % 27 = v / 531441 % 27
      omega
    · show (v + x * 729) / 19683 % 27 = v / 19683 % 27
      omega
    · show (v + x * 729) / 729 % 27 = x
      omega
    · show (v + x * 729) / 27 % 27 = v / 27 % 27
      omega
    · show (v + x * 729) / 1 % 27 = v / 1 % 27
      omega
  | 5, _ =>
    have hz : v % 729 = 0 := hz
    refine blt7 ?_ ?_ ?_ ?_ ?_ ?_ ?_
    · show (v + x * 27) / 387420489 % 27 = v / 387420489 % 27
      omega
    · show (v + x * 27) / 14348907 % 27 = v / 14348907 % 27
      omega
    · show (v + x * 27) / 531441 % 27 = v / 531441 % 27
      omega
    · show (v + x * 27) / 19683 % 27 = v / 19683 % 27
      omega
    · show (v + x * 27) / 729 % 27 = v / 729 % 27
      omega
    · show (v + x * 27) / 27 % 27 = x
      omega
    · show (v + x * 27) / 1 % 27 = v / 1 % 27
      omega
  | 6, _ =>
    have hz : v % 27 = 0 := hz
    refine blt7 ?_ ?_ ?_ ?_ ?_ ?_ ?_
    · show (v + x * 1) / 387420489 % 27 = v / 387420489 % 27
      omega
    · show (v + x * 1) / 14348907 % 27 = v / 14348907 % 27
      omega
    · show (v + x * 1) / 531441 % 27 = v / 531441 % 27
      omega
    · show (v + x * 1) / 19683 % 27 = v / 19683 % 27
      omega
    · show (v + x * 1) / 729 % 27 = v / 729 % 27
      omega
    · show (v + x * 1) / 27 % 27 = v / 27 % 27
      omega
    · show (v + x * 1) / 1 % 27 = x
      omega
  | n + 7, h => exact absurd h (by omega)
def bxt (v x : Nat) : Nat := v + x * 27 ^ (6 - bln v)
theorem bxt_sg {v x : Nat} (hv : bwf v) (hl : bln v < 7) (hx : x < 27) : ∀ i, i < 7 → bsg (bxt v x) i = if i = bln v then x else bsg v i := bsg_add hl (bwf_mod hv _ (by omega) (Nat.le_refl _)) hx
theorem bxt_len {v x : Nat} (hv : bwf v) (hl : bln v < 7) (hx : x < 27) (h0 : 0 < x) : bln (bxt v x) = bln v + 1 := by
  have s := bxt_sg hv hl hx
  refine bfs_eq (by omega) (fun k hk => ?_) (fun h => ?_)
  · rw [s k (by omega)]
    split
    · simp; omega
    · simpa using bln_nz (v := v) (k := k) (by omega)
  · rw [s _ h, if_neg (by omega), bwf_z hv _ h (by omega)]
    rfl
theorem bxt_lt {v x : Nat} (hv : bwf v) (hl : bln v < 7) (hx : x < 27) : bxt v x < 27 ^ 7 := by
  have hm := bwf_mod hv (bln v) (by omega) (Nat.le_refl _)
  have h7 := hv.1
  unfold bxt
  generalize bln v = n at *
  match n, hl with
  | 0, _ => show v + x * 387420489 < 10460353203; have hm : v % 10460353203 = 0 := hm; omega
  | 1, _ => show v + x * 14348907 < 10460353203; have hm : v % 387420489 = 0 := hm; omega
  | 2, _ => show v + x * 531441 < 10460353203; have hm : v % 14348907 = 0 := hm; omega
  | 3, _ => show v + x * 19683 < 10460353203; have hm : v % 531441 = 0 := hm; omega
  | 4, _ => show v + x * 729 < 10460353203; have hm : v % 19683 = 0 := hm; omega
  | 5, _ => show v + x * 27 < 10460353203; have hm : v % 729 = 0 := hm; omega
  | 6, _ => show v + x * 1 < 10460353203; have hm : v % 27 = 0 := hm; omega
  | n + 7, h => exact absurd h (by omega)
theorem bxt_wf {v x : Nat} (hv : bwf v) (hl : bln v < 7) (hx : x < 27) (h0 : 0 < x) : bwf (bxt v x) := by
  have s := bxt_sg hv hl hx
  refine ⟨bxt_lt hv hl hx, fun i hi h => ?_⟩
  rw [s i (by omega)] at h
  rw [s (i + 1) (by omega)]
  split at h
  · omega
  · next h1 =>
    have h2 : bln v ≤ i := Nat.not_lt.mp fun q => bln_nz q h
    rw [if_neg (by omega)]
    exact bwf_z hv _ (by omega) (by omega)
theorem bxt_or {v c : Nat} (hv : bwf v) (hl : bln v < 7) (h1 : 97 ≤ c) (h2 : c ≤ 122) : lN (be8 v) ||| lN (c * 2 ^ (8 * (6 - bln v))) = lN (be8 (bxt v (c - 96))) := by
  have s := bxt_sg hv hl (show c - 96 < 27 by omega)
  have z := bwf_z hv
  have hc : bch (c - 96) = c := by unfold bch; rw [if_neg (by omega)]; omega
  have h00 : bch 0 = 0 := rfl
  have key : ∀ k b a : Nat, a < 2 ^ k → be8 v = 2 ^ k * b → be8 (bxt v (c - 96)) = 2 ^ k * b + a → c * 2 ^ (8 * (6 - bln v)) = a → lN (be8 v) ||| lN (c * 2 ^ (8 * (6 - bln v))) = lN (be8 (bxt v (c - 96))) := by
    intro k b a ha e1 e2 e3
    rw [e1, e2, e3]
    exact fb_or_sumL b ha
  have s0 := s 0 (by decide); have s1 := s 1 (by decide); have s2 := s 2 (by decide); have s3 := s 3 (by decide); have s4 := s 4 (by decide); have s5 := s 5 (by decide); have s6 := s 6 (by decide)
  revert z s0 s1 s2 s3 s4 s5 s6 key
  generalize bln v = n at hl
  intro z key s0 s1 s2 s3 s4 s5 s6
  match n, hl with
  | 0, _ =>
    have z0 := z 0 (by decide) (by decide); have z1 := z 1 (by decide) (by decide); have z2 := z 2 (by decide) (by decide); have z3 := z 3 (by decide) (by decide); have z4 := z 4 (by decide) (by decide); have z5 := z 5 (by decide) (by decide); have z6 := z 6 (by decide) (by decide)
    have s0 : bsg (bxt v (c - 96)) 0 = c - 96 := s0
    have s1 : bsg (bxt v (c - 96)) 1 = bsg v 1 := s1
    have s2 : bsg (bxt v (c - 96)) 2 = bsg v 2 := s2
    have s3 : bsg (bxt v (c - 96)) 3 = bsg v 3 := s3
    have s4 : bsg (bxt v (c - 96)) 4 = bsg v 4 := s4
    have s5 : bsg (bxt v (c - 96)) 5 = bsg v 5 := s5
    have s6 : bsg (bxt v (c - 96)) 6 = bsg v 6 := s6
    refine key 56 (0) (c * 281474976710656) (by show _ < 72057594037927936; omega) ?_ ?_ rfl
    · show _ = 72057594037927936 * _
      unfold be8
      rw [z0, z1, z2, z3, z4, z5, z6, h00]
    · show _ = 72057594037927936 * _ + _
      unfold be8
      rw [s0, s1, s2, s3, s4, s5, s6, hc, z1, z2, z3, z4, z5, z6, h00]
      omega
  | 1, _ =>
    have z1 := z 1 (by decide) (by decide); have z2 := z 2 (by decide) (by decide); have z3 := z 3 (by decide) (by decide); have z4 := z 4 (by decide) (by decide); have z5 := z 5 (by decide) (by decide); have z6 := z 6 (by decide) (by decide)
    have s0 : bsg (bxt v (c - 96)) 0 = bsg v 0 := s0
    have s1 : bsg (bxt v (c - 96)) 1 = c - 96 := s1
    have s2 : bsg (bxt v (c - 96)) 2 = bsg v 2 := s2
    have s3 : bsg (bxt v (c - 96)) 3 = bsg v 3 := s3
    have s4 : bsg (bxt v (c - 96)) 4 = bsg v 4 := s4
    have s5 : bsg (bxt v (c - 96)) 5 = bsg v 5 := s5
    have s6 : bsg (bxt v (c - 96)) 6 = bsg v 6 := s6
    refine key 48 (bch (bsg v 0)) (c * 1099511627776) (by show _ < 281474976710656; omega) ?_ ?_ rfl
    · show _ = 281474976710656 * _
      unfold be8
      rw [z1, z2, z3, z4, z5, z6, h00]
      omega
    · show _ = 281474976710656 * _ + _
      unfold be8
      rw [s0, s1, s2, s3, s4, s5, s6, hc, z2, z3, z4, z5, z6, h00]
      omega
  | 2, _ =>
    have z2 := z 2 (by decide) (by decide); have z3 := z 3 (by decide) (by decide); have z4 := z 4 (by decide) (by decide); have z5 := z 5 (by decide) (by decide); have z6 := z 6 (by decide) (by decide)
    have s0 : bsg (bxt v (c - 96)) 0 = bsg v 0 := s0
    have s1 : bsg (bxt v (c - 96)) 1 = bsg v 1 := s1
    have s2 : bsg (bxt v (c - 96)) 2 = c - 96 := s2
    have s3 : bsg (bxt v (c - 96)) 3 = bsg v 3 := s3
    have s4 : bsg (bxt v (c - 96)) 4 = bsg v 4 := s4
    have s5 : bsg (bxt v (c - 96)) 5 = bsg v 5 := s5
    have s6 : bsg (bxt v (c - 96)) 6 = bsg v 6 := s6
    refine key 40 ((bch (bsg v 0)) * 256 + bch (bsg v 1)) (c * 4294967296) (by show _ < 1099511627776; omega) ?_ ?_ rfl
    · show _ = 1099511627776 * _
      unfold be8
      rw [z2, z3, z4, z5, z6, h00]
      omega
    · show _ = 1099511627776 * _ + _
      unfold be8
      rw [s0, s1, s2, s3, s4, s5, s6, hc, z3, z4, z5, z6, h00]
      omega
  | 3, _ =>
    have z3 := z 3 (by decide) (by decide); have z4 := z 4 (by decide) (by decide); have z5 := z 5 (by decide) (by decide); have z6 := z 6 (by decide) (by decide)
    have s0 : bsg (bxt v (c - 96)) 0 = bsg v 0 := s0
    have s1 : bsg (bxt v (c - 96)) 1 = bsg v 1 := s1
    have s2 : bsg (bxt v (c - 96)) 2 = bsg v 2 := s2
    have s3 : bsg (bxt v (c - 96)) 3 = c - 96 := s3
    have s4 : bsg (bxt v (c - 96)) 4 = bsg v 4 := s4
    have s5 : bsg (bxt v (c - 96)) 5 = bsg v 5 := s5
    have s6 : bsg (bxt v (c - 96)) 6 = bsg v 6 := s6
    refine key 32 (((bch (bsg v 0)) * 256 + bch (bsg v 1)) * 256 + bch (bsg v 2)) (c * 16777216) (by show _ < 4294967296; omega) ?_ ?_ rfl
    · show _ = 4294967296 * _
      unfold be8
      rw [z3, z4, z5, z6, h00]
      omega
    · show _ = 4294967296 * _ + _
      unfold be8
      rw [s0, s1, s2, s3, s4, s5, s6, hc, z4, z5, z6, h00]
      omega
  | 4, _ =>
    have z4 := z 4 (by decide) (by decide); have z5 := z 5 (by decide) (by decide); have z6 := z 6 (by decide) (by decide)
    have s0 : bsg (bxt v (c - 96)) 0 = bsg v 0 := s0
    have s1 : bsg (bxt v (c - 96)) 1 = bsg v 1 := s1
    have s2 : bsg (bxt v (c - 96)) 2 = bsg v 2 := s2
    have s3 : bsg (bxt v (c - 96)) 3 = bsg v 3 := s3
    have s4 : bsg (bxt v (c - 96)) 4 = c - 96 := s4
    have s5 : bsg (bxt v (c - 96)) 5 = bsg v 5 := s5
    have s6 : bsg (bxt v (c - 96)) 6 = bsg v 6 := s6
    refine key 24 ((((bch (bsg v 0)) * 256 + bch (bsg v 1)) * 256 + bch (bsg v 2)) * 256 + bch (bsg v 3)) (c * 65536) (by show _ < 16777216; omega) ?_ ?_ rfl
    · show _ = 16777216 * _
      unfold be8
      rw [z4, z5, z6, h00]
      omega
    · show _ = 16777216 * _ + _
      unfold be8
      rw [s0, s1, s2, s3, s4, s5, s6, hc, z5, z6, h00]
      omega
  | 5, _ =>
    have z5 := z 5 (by decide) (by decide); have z6 := z 6 (by decide) (by decide)
    have s0 : bsg (bxt v (c - 96)) 0 = bsg v 0 := s0
    have s1 : bsg (bxt v (c - 96)) 1 = bsg v 1 := s1
    have s2 : bsg (bxt v (c - 96)) 2 = bsg v 2 := s2
    have s3 : bsg (bxt v (c - 96)) 3 = bsg v 3 := s3
    have s4 : bsg (bxt v (c - 96)) 4 = bsg v 4 := s4
    have s5 : bsg (bxt v (c - 96)) 5 = c - 96 := s5
    have s6 : bsg (bxt v (c - 96)) 6 = bsg v 6 := s6
    refine key 16 (((((bch (bsg v 0)) * 256 + bch (bsg v 1)) * 256 + bch (bsg v 2)) * 256 + bch (bsg v 3)) * 256 + bch (bsg v 4)) (c * 256) (by show _ < 65536; omega) ?_ ?_ rfl
    · show _ = 65536 * _
      unfold be8
      rw [z5, z6, h00]
      omega
    · show _ = 65536 * _ + _
      unfold be8
      rw [s0, s1, s2, s3, s4, s5, s6, hc, z6, h00]
      omega
  | 6, _ =>
    have z6 := z 6 (by decide) (by decide)
    have s0 : bsg (bxt v (c - 96)) 0 = bsg v 0 := s0
    have s1 : bsg (bxt v (c - 96)) 1 = bsg v 1 := s1
    have s2 : bsg (bxt v (c - 96)) 2 = bsg v 2 := s2
    have s3 : bsg (bxt v (c - 96)) 3 = bsg v 3 := s3
    have s4 : bsg (bxt v (c - 96)) 4 = bsg v 4 := s4
    have s5 : bsg (bxt v (c - 96)) 5 = bsg v 5 := s5
    have s6 : bsg (bxt v (c - 96)) 6 = c - 96 := s6
    refine key 8 ((((((bch (bsg v 0)) * 256 + bch (bsg v 1)) * 256 + bch (bsg v 2)) * 256 + bch (bsg v 3)) * 256 + bch (bsg v 4)) * 256 + bch (bsg v 5)) (c * 1) (by show _ < 256; omega) ?_ ?_ rfl
    · show _ = 256 * _
      unfold be8
      rw [z6, h00]
      omega
    · show _ = 256 * _ + _
      unfold be8
      rw [s0, s1, s2, s3, s4, s5, s6, hc]
      omega
  | n + 7, h => exact absurd h (by omega)
theorem bch_ne {x y : Nat} (h : bch x ≠ bch y) : ¬ x = y := fun q => h (congrArg bch q)
