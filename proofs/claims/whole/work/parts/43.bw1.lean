theorem bof_31 {w : Nat → Int64} {o d : Nat → Int32} {n : Nat} {V O E : Nat → Nat} {v : Nat} (h : bDD w o d n V O E) : bof V O n v < 2 ^ 31 := by
  unfold bof
  split
  · next q => exact Nat.lt_of_le_of_lt (h.2 _ q.1).2.2.2.2.1 (by decide)
  · decide
theorem gcd_31 {a b : Nat} (h : b ≤ 3960) (h2 : a ≤ b) : Nat.gcd a b < 2 ^ 31 := by
  rcases Nat.eq_zero_or_pos b with e | e
  · subst e
    rw [show a = 0 by omega]
    decide
  · exact Nat.lt_of_le_of_lt (Nat.le_of_dvd e (Nat.gcd_dvd_right a b)) (by omega)
theorem bch_p {x : Nat} (h : 0 < bch x) : 0 < x := Nat.pos_of_ne_zero fun q => by rw [bch_0.mpr q] at h; exact absurd h (by decide)
theorem bch_v {x : Nat} (h : 0 < x) : bch x = x + 96 := if_neg (Nat.pos_iff_ne_zero.mp h)
abbrev rm_X4_isHalf : Room := { frames := 0, cells := 0, slots := 0, locals := 0 }
set_option maxHeartbeats 4000000 in
set_option maxRecDepth 100000 in
theorem c_X4_isHalf (l : Launch) (x : Int32) : Met l yX4_isHalf wsX4_isHalf rm_X4_isHalf (sPc [.int (x)]) (Ri (bI (bhf x))) 0 0 (fun _ => False) := by
  refine met_s (cc := cX4_isHalf) (maxL := 1) (ret := (some .boolean)) (own := RX4) (by decide) rfl rfl (Nat.le_of_ble_eq_true rfl) ?_
  intro p e s m below meth c S hr hlocks ls hl
  obtain ⟨hx, hb, hml, hown, hts⟩ := id S
  have hl : lv_has ls 1 [(0, .int (x))] := hl
  refine lv_iload_n hx hb dX4_isHalf_0 rfl (lv_at hl 0 rfl) ?_
  refine lv_if_eq (tgt := 9) hx hb dX4_isHalf_1 (by decide) (fun c_1 => ?_) (fun c_1 => ?_)
  · refine lv_iconst (v := nI (1)) hx hb dX4_isHalf_9 (by decide) ?_
    refine lv_goto (tgt := 14) hx hb dX4_isHalf_10 (by decide) ?_
    exact r_z (x := true) hx hb hr hlocks rfl (by simp [c_1]) dX4_isHalf_14
  · refine lv_iload_n hx hb dX4_isHalf_4 rfl (lv_at hl 0 rfl) ?_
    refine lv_iconst (v := nI (1)) hx hb dX4_isHalf_5 (by decide) ?_
    refine lv_icmp_ne (tgt := 13) hx hb dX4_isHalf_6 (by decide) (fun c_6 => ?_) (fun c_6 => ?_)
    · refine lv_iconst (v := nI (0)) hx hb dX4_isHalf_13 (by decide) ?_
      exact r_z (x := false) hx hb hr hlocks rfl (by simp [c_1, c_6]) dX4_isHalf_14
    · refine lv_iconst (v := nI (1)) hx hb dX4_isHalf_9 (by decide) ?_
      refine lv_goto (tgt := 14) hx hb dX4_isHalf_10 (by decide) ?_
      exact r_z (x := true) hx hb hr hlocks rfl (by simp [c_1, c_6]) dX4_isHalf_14
abbrev rm_X4_isAsked : Room := { frames := 0, cells := 0, slots := 0, locals := 0 }
set_option maxHeartbeats 4000000 in
set_option maxRecDepth 100000 in
theorem c_X4_isAsked (l : Launch) (x : Int32) : Met l yX4_isAsked wsX4_isAsked rm_X4_isAsked (sPc [.int (x)]) (Ri (bI (bak x))) 0 0 (fun _ => False) := by
  refine met_s (cc := cX4_isAsked) (maxL := 1) (ret := (some .boolean)) (own := RX4) (by decide) rfl rfl (Nat.le_of_ble_eq_true rfl) ?_
  intro p e s m below meth c S hr hlocks ls hl
  obtain ⟨hx, hb, hml, hown, hts⟩ := id S
  have hl : lv_has ls 1 [(0, .int (x))] := hl
  refine lv_iload_n hx hb dX4_isAsked_0 rfl (lv_at hl 0 rfl) ?_
  refine lv_iconst (v := (-1 : Int32)) hx hb dX4_isAsked_1 (by decide) ?_
  refine lv_icmp_lt (tgt := 15) hx hb dX4_isAsked_2 (by decide) (fun c_2 => ?_) (fun c_2 => ?_)
  · refine lv_iconst (v := nI (0)) hx hb dX4_isAsked_15 (by decide) ?_
    exact r_z (x := false) hx hb hr hlocks rfl (by simp [c_2]) dX4_isAsked_16
  · refine lv_iload_n hx hb dX4_isAsked_5 rfl (lv_at hl 0 rfl) ?_
    refine lv_bipush (v := nI (7)) hx hb dX4_isAsked_6 (by decide) ?_
    refine lv_icmp_ge (tgt := 15) hx hb dX4_isAsked_8 (by decide) (fun c_8 => ?_) (fun c_8 => ?_)
    · refine lv_iconst (v := nI (0)) hx hb dX4_isAsked_15 (by decide) ?_
      exact r_z (x := false) hx hb hr hlocks rfl (by simp [c_2, c_8]) dX4_isAsked_16
    · refine lv_iconst (v := nI (1)) hx hb dX4_isAsked_11 (by decide) ?_
      refine lv_goto (tgt := 16) hx hb dX4_isAsked_12 (by decide) ?_
      exact r_z (x := true) hx hb hr hlocks rfl (by simp [c_2, c_8]) dX4_isAsked_16
abbrev rm_X4_commonDivisor : Room := { frames := 0, cells := 0, slots := 0, locals := 0 }
set_option maxHeartbeats 4000000 in
set_option maxRecDepth 100000 in
theorem c_X4_commonDivisor (l : Launch) (k : Nat) (g : Nat) (hk3 : k ≤ 3960) (hgk : g ≤ k) : Met l yX4_commonDivisor wsX4_commonDivisor rm_X4_commonDivisor (sPc [.int (nI (k)), .int (nI (g))]) (Ri (nI (Nat.gcd g k))) 0 0 (fun _ => False) := by
  refine met_s (cc := cX4_commonDivisor) (maxL := 6) (ret := (some .int)) (own := RX4) (by decide) rfl rfl (Nat.le_of_ble_eq_true rfl) ?_
  intro p e s m below meth c S hr hlocks ls hl
  obtain ⟨hx, hb, hml, hown, hts⟩ := id S
  have hl : lv_has ls 6 [(0, .int (nI (k))), (1, .int (nI (g)))] := hl
  refine lv_iload_n hx hb dX4_commonDivisor_0 rfl (lv_at hl 0 rfl) ?_
  refine lv_istore_n (lv' := [(2, .int (nI (k))), (0, .int (nI (k))), (1, .int (nI (g)))]) hx hb dX4_commonDivisor_1 rfl hl (by decide) rfl (fun ls hl => ?_)
  refine lv_iload_n hx hb dX4_commonDivisor_2 rfl (lv_at hl 2 rfl) ?_
  refine lv_istore_n (lv' := [(3, .int (nI (g))), (2, .int (nI (k))), (0, .int (nI (k))), (1, .int (nI (g)))]) hx hb dX4_commonDivisor_3 rfl hl (by decide) rfl (fun ls hl => ?_)
  refine lv_iconst (v := nI (0)) hx hb dX4_commonDivisor_4 (by decide) ?_
  refine lv_istore (lv' := [(4, .int (nI (0))), (3, .int (nI (g))), (2, .int (nI (k))), (0, .int (nI (k))), (1, .int (nI (g)))]) hx hb dX4_commonDivisor_5 hl (by decide) rfl (fun ls hl => ?_)
  have lp_7 : ∀ (j_7 : Nat) (i : Nat) (j : Nat) (t : Nat), (i ≤ 3960) → (j ≤ i) → (t ≤ 64) → (Nat.gcd j i = Nat.gcd g k) → (i * j * 2 ^ t < 2 ^ 24) → (64 - t) < j_7 → ∀ ls : Array Slot, lv_has ls 6 [(2, .int (nI (i))), (3, .int (nI (j))), (4, .int (nI (t)))] → W p l e rm_X4_commonDivisor s m ([.int (nI (k)), .int (nI (g))] : List Value).toArray below meth c s.heap [] 0 0 (MQ below (Ri (nI (Nat.gcd g k))) ([.int (nI (k)), .int (nI (g))] : List Value).toArray s 0 0 (fun _ => False)) (F0 m 7 ls []) := by
    intro j_7
    induction j_7 with
    | zero => intro i j t _ _ _ _ _ h0; exact absurd h0 (Nat.not_lt_zero _)
    | succ j_7 ih_7 =>
      intro i j t hi hji ht hz hp hf_7 ls hl
      refine lv_iload hx hb dX4_commonDivisor_7 (lv_at hl 2 rfl) ?_
      refine lv_bipush (v := nI (64)) hx hb dX4_commonDivisor_9 (by decide) ?_
      refine n_ge (tgt := 34) hx hb dX4_commonDivisor_11 (by decide) (by omega) (by omega) (fun c_11 => ?_) (fun c_11 => ?_)
      · refine lv_iload_n hx hb dX4_commonDivisor_34 rfl (lv_at hl 0 rfl) ?_
        exact r_i hx hb hr hlocks (by rw [← hz, gcd_done hji c_11 hp, Nat.gcd_zero_left]) dX4_commonDivisor_35
      · refine lv_iload_n hx hb dX4_commonDivisor_14 rfl (lv_at hl 1 rfl) ?_
        refine z_le (tgt := 34) hx hb dX4_commonDivisor_15 (by decide) (by omega) (fun c_15 => ?_) (fun c_15 => ?_)
        · refine lv_iload_n hx hb dX4_commonDivisor_34 rfl (lv_at hl 0 rfl) ?_
          exact r_i hx hb hr hlocks (by rw [← hz, c_15, Nat.gcd_zero_left]) dX4_commonDivisor_35
        · refine lv_iload_n hx hb dX4_commonDivisor_18 rfl (lv_at hl 0 rfl) ?_
          refine lv_iload_n hx hb dX4_commonDivisor_19 rfl (lv_at hl 1 rfl) ?_
          refine lv_irem hx hb dX4_commonDivisor_20 (nI_ne0 (by omega) (by omega)) ?_
          refine tpi (pk_rem (by omega) (by omega) (by omega)) ?_
          refine lv_istore (lv' := [(5, .int (nI (i % j))), (2, .int (nI (i))), (3, .int (nI (j))), (4, .int (nI (t)))]) hx hb dX4_commonDivisor_21 hl (by decide) rfl (fun ls hl => ?_)
          refine lv_iload_n hx hb dX4_commonDivisor_23 rfl (lv_at hl 2 rfl) ?_
          refine lv_istore_n (lv' := [(2, .int (nI (j))), (5, .int (nI (i % j))), (3, .int (nI (j))), (4, .int (nI (t)))]) hx hb dX4_commonDivisor_24 rfl hl (by decide) rfl (fun ls hl => ?_)
          refine lv_iload hx hb dX4_commonDivisor_25 (lv_at hl 1 rfl) ?_
          refine lv_istore_n (lv' := [(3, .int (nI (i % j))), (2, .int (nI (j))), (5, .int (nI (i % j))), (4, .int (nI (t)))]) hx hb dX4_commonDivisor_27 rfl hl (by decide) rfl (fun ls hl => ?_)
          refine lv_iinc (v := nI (t + 1)) (lv' := [(4, .int (nI (t + 1))), (3, .int (nI (i % j))), (2, .int (nI (j))), (5, .int (nI (i % j)))]) hx hb dX4_commonDivisor_28 hl (k := 3) rfl (inc1 _) (by decide) rfl (fun ls hl => ?_)
          refine lv_goto (tgt := 7) hx hb dX4_commonDivisor_31 (by decide) ?_
          exact ih_7 (j) (i % j) (t + 1) (by omega) (Nat.le_of_lt (Nat.mod_lt i c_15)) (by omega) (by rw [← hz, Nat.gcd_rec j i]) (gcd_step hji c_15 hp) (by omega) ls (lv_sub hl [2, 1, 0] rfl)
  exact lp_7 _ (k) (g) (0) hk3 hgk (by omega) rfl (by have h1 : k * g ≤ 3960 * 3960 := Nat.mul_le_mul hk3 (Nat.le_trans hgk hk3); omega) (Nat.lt_succ_self _) ls (lv_sub hl [2, 1, 0] rfl)
abbrev rm_X4_times : Room := { frames := 4, cells := 0, slots := 0, locals := 88 }
set_option maxHeartbeats 4000000 in
set_option maxRecDepth 100000 in
theorem c_X4_times (l : Launch) (dC : Nat → ClassId) (dI : Nat → Nat → Nat) (cI cJ cZ : ClassId) (a : Nat → Nat) (w : Nat → Int64) (o d : Nat → Int32) (n : Nat) (hw : Nat → Int64) (ho hd : Nat → Int32) (hn : Nat) (pl le so : Nat → Int32) (sn : Nat) (ta : Nat → Int32) (v bd : Nat) (V O E HW HO HE SA SL SI : Nat → Nat) (hDD : bDD w o d n V O E) (hHH : bHH hw ho hd hn HW HO HE) (hSS : bSS pl le so sn SA SL SI) (hv : bwf v) (hbd : 2 ≤ bd ∧ bd ≤ 8) : Met l yX4_times wsX4_times rm_X4_times (rPc (dC, dI) (tysA cI cJ cZ) (wb a cI cJ cZ w o d n hw ho hd hn pl le so sn ta v bd) [.ref (a 0)]) (Ri (nI (bof V O n v))) 0 0 (fun _ => False) := by
  refine met_r (cc := cX4_times) (maxL := 1) (ret := (some .int)) (own := RX4) (by decide) rfl rfl (Nat.le_of_ble_eq_true rfl) ?_
  intro p e s m below meth c S hr hlocks hP hK ls hl
  obtain ⟨hx, hb, hml, hown, hts⟩ := id S
  have hl : lv_has ls 1 [(0, .ref (a 0))] := hl
  have hi4 : ∀ w ∈ wsX40, w ∈ wsX4_times := fun _ h => List.mem_cons_of_mem _ (List.mem_append_left _ (List.mem_append_right _ h))
  have hi0 : ∀ w ∈ wsX00, w ∈ wsX4_times := fun _ h => List.mem_cons_of_mem _ (List.mem_append_right _ h)
  obtain ⟨hn40, hk⟩ := id hDD; obtain ⟨hh12, hkh⟩ := id hHH; obtain ⟨hs8, hks⟩ := id hSS
  refine lv_aload_n hx hb dX4_times_0 rfl (lv_at hl 0 rfl) ?_
  refine va_get (D := (dC, dI)) (ci := 3) (v := .ref (a 1)) (C := RX4) (T := TX4) (N := 6) hx hb hts hi4 hown hK hP 0 rfl rfl 0 (by decide) (hts (.fieldLink RX4 10 "BurstWords" "dictionary" "LBurstWords$Dictionary;") (by decide +kernel)) (fun _ h9 => h9) rfl dX4_times_1 ?_
  refine lv_aload_n hx hb dX4_times_4 rfl (lv_at hl 0 rfl) ?_
  refine va_get (D := (dC, dI)) (ci := 3) (v := .long (lN (be8 v))) (C := RX4) (T := TX4) (N := 6) hx hb hts hi4 hown hK hP 0 rfl rfl 4 (by decide) (hts (.fieldLink RX4 36 "BurstWords" "word" "J") (by decide +kernel)) (fun _ h9 => h9) rfl dX4_times_5 ?_
  refine c_Vi (As := [.long (lN (be8 v))]) (rest := []) (ci := 0) (q0 := 0) S (c_X0_oftenOf l dC dI cI cJ cZ (a 1) (a 2) (a 3) (a 4) w o d n V O E hDD v hv.1) (cwV 1 hts gX4_times_X0_oftenOf rfl rfl rfl (by decide +kernel) ⟨Nat.le_of_ble_eq_true rfl, Nat.le_of_ble_eq_true rfl⟩) hK (hP.sub [1, 2, 3, 4] rfl) rfl rfl rfl hl.1 rfl (Nat.le_of_ble_eq_true rfl) dX4_times_8 ⟨Nat.le_of_ble_eq_true rfl, Nat.le_of_ble_eq_true rfl⟩ ?_
  exact r_i hx hb hr hlocks rfl dX4_times_11
abbrev rm_X4_rank : Room := { frames := 3, cells := 0, slots := 0, locals := 65 }
set_option maxHeartbeats 4000000 in
set_option maxRecDepth 100000 in
theorem c_X4_rank (l : Launch) (dC : Nat → ClassId) (dI : Nat → Nat → Nat) (cI cJ cZ : ClassId) (a : Nat → Nat) (w : Nat → Int64) (o d : Nat → Int32) (n : Nat) (hw : Nat → Int64) (ho hd : Nat → Int32) (hn : Nat) (pl le so : Nat → Int32) (sn : Nat) (ta : Nat → Int32) (v bd : Nat) (V O E HW HO HE SA SL SI : Nat → Nat) (hDD : bDD w o d n V O E) (hHH : bHH hw ho hd hn HW HO HE) (hSS : bSS pl le so sn SA SL SI) (hv : bwf v) (hbd : 2 ≤ bd ∧ bd ≤ 8) : Met l yX4_rank wsX4_rank rm_X4_rank (rPc (dC, dI) (tysA cI cJ cZ) (wb a cI cJ cZ w o d n hw ho hd hn pl le so sn ta v bd) [.ref (a 0)]) (Ri (nI (fb_sm O (bpl V n v)))) 0 0 (fun _ => False) := by
  refine met_r (cc := cX4_rank) (maxL := 1) (ret := (some .int)) (own := RX4) (by decide) rfl rfl (Nat.le_of_ble_eq_true rfl) ?_
  intro p e s m below meth c S hr hlocks hP hK ls hl
  obtain ⟨hx, hb, hml, hown, hts⟩ := id S
  have hl : lv_has ls 1 [(0, .ref (a 0))] := hl
  have hi4 : ∀ w ∈ wsX40, w ∈ wsX4_rank := fun _ h => List.mem_cons_of_mem _ (List.mem_append_left _ (List.mem_append_right _ h))
  have hi0 : ∀ w ∈ wsX00, w ∈ wsX4_rank := fun _ h => List.mem_cons_of_mem _ (List.mem_append_right _ h)
  obtain ⟨hn40, hk⟩ := id hDD; obtain ⟨hh12, hkh⟩ := id hHH; obtain ⟨hs8, hks⟩ := id hSS
  refine lv_aload_n hx hb dX4_rank_0 rfl (lv_at hl 0 rfl) ?_
  refine va_get (D := (dC, dI)) (ci := 3) (v := .ref (a 1)) (C := RX4) (T := TX4) (N := 6) hx hb hts hi4 hown hK hP 0 rfl rfl 0 (by decide) (hts (.fieldLink RX4 10 "BurstWords" "dictionary" "LBurstWords$Dictionary;") (by decide +kernel)) (fun _ h9 => h9) rfl dX4_rank_1 ?_
  refine lv_aload_n hx hb dX4_rank_4 rfl (lv_at hl 0 rfl) ?_
  refine va_get (D := (dC, dI)) (ci := 3) (v := .ref (a 1)) (C := RX4) (T := TX4) (N := 6) hx hb hts hi4 hown hK hP 0 rfl rfl 0 (by decide) (hts (.fieldLink RX4 10 "BurstWords" "dictionary" "LBurstWords$Dictionary;") (by decide +kernel)) (fun _ h9 => h9) rfl dX4_rank_5 ?_
  refine lv_aload_n hx hb dX4_rank_8 rfl (lv_at hl 0 rfl) ?_
  refine va_get (D := (dC, dI)) (ci := 3) (v := .long (lN (be8 v))) (C := RX4) (T := TX4) (N := 6) hx hb hts hi4 hown hK hP 0 rfl rfl 4 (by decide) (hts (.fieldLink RX4 36 "BurstWords" "word" "J") (by decide +kernel)) (fun _ h9 => h9) rfl dX4_rank_9 ?_
  refine c_Vi (As := [.long (lN (be8 v))]) (rest := [.ref (a 1)]) (ci := 0) (q0 := 0) S (c_X0_placeOf l dC dI cI cJ cZ (a 1) (a 2) (a 3) (a 4) w o d n V O E hDD v hv.1) (cwV 1 hts gX4_rank_X0_placeOf rfl rfl rfl (by decide +kernel) ⟨Nat.le_of_ble_eq_true rfl, Nat.le_of_ble_eq_true rfl⟩) hK (hP.sub [1, 2, 3, 4] rfl) rfl rfl rfl hl.1 rfl (Nat.le_of_ble_eq_true rfl) dX4_rank_12 ⟨Nat.le_of_ble_eq_true rfl, Nat.le_of_ble_eq_true rfl⟩ ?_
  refine c_Vi (As := [.int (nI (bpl V n v))]) (rest := []) (ci := 0) (q0 := 0) S (c_X0_oftenBelow l dC dI cI cJ cZ (a 1) (a 2) (a 3) (a 4) w o d n V O E hDD (bpl V n v) (bpl_le V n v)) (cwV 1 hts gX4_rank_X0_oftenBelow rfl rfl rfl (by decide +kernel) ⟨Nat.le_of_ble_eq_true rfl, Nat.le_of_ble_eq_true rfl⟩) hK (hP.sub [1, 2, 3, 4] rfl) rfl rfl rfl hl.1 rfl (Nat.le_of_ble_eq_true rfl) dX4_rank_15 ⟨Nat.le_of_ble_eq_true rfl, Nat.le_of_ble_eq_true rfl⟩ ?_
  exact r_i hx hb hr hlocks rfl dX4_rank_18
abbrev rm_X4_begin : Room := { frames := 5, cells := 0, slots := 0, locals := 113 }
set_option maxHeartbeats 4000000 in
set_option maxRecDepth 100000 in
theorem c_X4_begin (l : Launch) (dC : Nat → ClassId) (dI : Nat → Nat → Nat) (cI cJ cZ : ClassId) (a : Nat → Nat) (w : Nat → Int64) (o d : Nat → Int32) (n : Nat) (hw : Nat → Int64) (ho hd : Nat → Int32) (hn : Nat) (pl le so : Nat → Int32) (sn : Nat) (ta : Nat → Int32) (v bd : Nat) (V O E HW HO HE SA SL SI : Nat → Nat) (hDD : bDD w o d n V O E) (hHH : bHH hw ho hd hn HW HO HE) (hSS : bSS pl le so sn SA SL SI) (hv : bwf v) (hbd : 2 ≤ bd ∧ bd ≤ 8) : Met l yX4_begin wsX4_begin rm_X4_begin (rPc (dC, dI) (tysA cI cJ cZ) (wb a cI cJ cZ w o d n hw ho hd hn pl le so sn ta v bd) [.ref (a 0)]) (Ri (nI (fb_sm (fun k => if bsh v (V k) == bln v then O k else 0) n))) 0 0 (fun _ => False) := by
  refine met_r (cc := cX4_begin) (maxL := 1) (ret := (some .int)) (own := RX4) (by decide) rfl rfl (Nat.le_of_ble_eq_true rfl) ?_
  intro p e s m below meth c S hr hlocks hP hK ls hl
  obtain ⟨hx, hb, hml, hown, hts⟩ := id S
  have hl : lv_has ls 1 [(0, .ref (a 0))] := hl
  have hi4 : ∀ w ∈ wsX40, w ∈ wsX4_begin := fun _ h => List.mem_cons_of_mem _ (List.mem_append_left _ (List.mem_append_right _ h))
  have hi0 : ∀ w ∈ wsX00, w ∈ wsX4_begin := fun _ h => List.mem_cons_of_mem _ (List.mem_append_right _ h)
  obtain ⟨hn40, hk⟩ := id hDD; obtain ⟨hh12, hkh⟩ := id hHH; obtain ⟨hs8, hks⟩ := id hSS
  refine lv_aload_n hx hb dX4_begin_0 rfl (lv_at hl 0 rfl) ?_
  refine va_get (D := (dC, dI)) (ci := 3) (v := .ref (a 1)) (C := RX4) (T := TX4) (N := 6) hx hb hts hi4 hown hK hP 0 rfl rfl 0 (by decide) (hts (.fieldLink RX4 10 "BurstWords" "dictionary" "LBurstWords$Dictionary;") (by decide +kernel)) (fun _ h9 => h9) rfl dX4_begin_1 ?_
  refine lv_aload_n hx hb dX4_begin_4 rfl (lv_at hl 0 rfl) ?_
  refine va_get (D := (dC, dI)) (ci := 3) (v := .long (lN (be8 v))) (C := RX4) (T := TX4) (N := 6) hx hb hts hi4 hown hK hP 0 rfl rfl 4 (by decide) (hts (.fieldLink RX4 36 "BurstWords" "word" "J") (by decide +kernel)) (fun _ h9 => h9) rfl dX4_begin_5 ?_
  refine c_Vi (As := [.long (lN (be8 v))]) (rest := []) (ci := 0) (q0 := 0) S (c_X0_oftenBegun l dC dI cI cJ cZ (a 1) (a 2) (a 3) (a 4) w o d n V O E hDD v) (cwV 1 hts gX4_begin_X0_oftenBegun rfl rfl rfl (by decide +kernel) ⟨Nat.le_of_ble_eq_true rfl, Nat.le_of_ble_eq_true rfl⟩) hK (hP.sub [1, 2, 3, 4] rfl) rfl rfl rfl hl.1 rfl (Nat.le_of_ble_eq_true rfl) dX4_begin_8 ⟨Nat.le_of_ble_eq_true rfl, Nat.le_of_ble_eq_true rfl⟩ ?_
  exact r_i hx hb hr hlocks rfl dX4_begin_11
abbrev rm_X4_depth : Room := { frames := 4, cells := 0, slots := 0, locals := 91 }
set_option maxHeartbeats 4000000 in
set_option maxRecDepth 100000 in
theorem c_X4_depth (l : Launch) (dC : Nat → ClassId) (dI : Nat → Nat → Nat) (cI cJ cZ : ClassId) (a : Nat → Nat) (w : Nat → Int64) (o d : Nat → Int32) (n : Nat) (hw : Nat → Int64) (ho hd : Nat → Int32) (hn : Nat) (pl le so : Nat → Int32) (sn : Nat) (ta : Nat → Int32) (v bd : Nat) (V O E HW HO HE SA SL SI : Nat → Nat) (hDD : bDD w o d n V O E) (hHH : bHH hw ho hd hn HW HO HE) (hSS : bSS pl le so sn SA SL SI) (hv : bwf v) (hbd : 2 ≤ bd ∧ bd ≤ 8) : Met l yX4_depth wsX4_depth rm_X4_depth (rPc (dC, dI) (tysA cI cJ cZ) (wb a cI cJ cZ w o d n hw ho hd hn pl le so sn ta v bd) [.ref (a 0)]) (Ri (nI (bdp V E n v))) 0 0 (fun _ => False) := by
  refine met_r (cc := cX4_depth) (maxL := 1) (ret := (some .int)) (own := RX4) (by decide) rfl rfl (Nat.le_of_ble_eq_true rfl) ?_
  intro p e s m below meth c S hr hlocks hP hK ls hl
  obtain ⟨hx, hb, hml, hown, hts⟩ := id S
  have hl : lv_has ls 1 [(0, .ref (a 0))] := hl
  have hi4 : ∀ w ∈ wsX40, w ∈ wsX4_depth := fun _ h => List.mem_cons_of_mem _ (List.mem_append_left _ (List.mem_append_right _ h))
  have hi0 : ∀ w ∈ wsX00, w ∈ wsX4_depth := fun _ h => List.mem_cons_of_mem _ (List.mem_append_right _ h)
  obtain ⟨hn40, hk⟩ := id hDD; obtain ⟨hh12, hkh⟩ := id hHH; obtain ⟨hs8, hks⟩ := id hSS
  refine lv_aload_n hx hb dX4_depth_0 rfl (lv_at hl 0 rfl) ?_
  refine va_get (D := (dC, dI)) (ci := 3) (v := .ref (a 1)) (C := RX4) (T := TX4) (N := 6) hx hb hts hi4 hown hK hP 0 rfl rfl 0 (by decide) (hts (.fieldLink RX4 10 "BurstWords" "dictionary" "LBurstWords$Dictionary;") (by decide +kernel)) (fun _ h9 => h9) rfl dX4_depth_1 ?_
  refine lv_aload_n hx hb dX4_depth_4 rfl (lv_at hl 0 rfl) ?_
  refine va_get (D := (dC, dI)) (ci := 3) (v := .long (lN (be8 v))) (C := RX4) (T := TX4) (N := 6) hx hb hts hi4 hown hK hP 0 rfl rfl 4 (by decide) (hts (.fieldLink RX4 36 "BurstWords" "word" "J") (by decide +kernel)) (fun _ h9 => h9) rfl dX4_depth_5 ?_
  refine c_Vi (As := [.long (lN (be8 v))]) (rest := []) (ci := 0) (q0 := 0) S (c_X0_depthOf l dC dI cI cJ cZ (a 1) (a 2) (a 3) (a 4) w o d n V O E hDD v) (cwV 1 hts gX4_depth_X0_depthOf rfl rfl rfl (by decide +kernel) ⟨Nat.le_of_ble_eq_true rfl, Nat.le_of_ble_eq_true rfl⟩) hK (hP.sub [1, 2, 3, 4] rfl) rfl rfl rfl hl.1 rfl (Nat.le_of_ble_eq_true rfl) dX4_depth_8 ⟨Nat.le_of_ble_eq_true rfl, Nat.le_of_ble_eq_true rfl⟩ ?_
  exact r_i hx hb hr hlocks rfl dX4_depth_11
abbrev rm_X4_container : Room := { frames := 4, cells := 0, slots := 0, locals := 91 }
set_option maxHeartbeats 4000000 in
set_option maxRecDepth 100000 in
theorem c_X4_container (l : Launch) (dC : Nat → ClassId) (dI : Nat → Nat → Nat) (cI cJ cZ : ClassId) (a : Nat → Nat) (w : Nat → Int64) (o d : Nat → Int32) (n : Nat) (hw : Nat → Int64) (ho hd : Nat → Int32) (hn : Nat) (pl le so : Nat → Int32) (sn : Nat) (ta : Nat → Int32) (v bd : Nat) (V O E HW HO HE SA SL SI : Nat → Nat) (hDD : bDD w o d n V O E) (hHH : bHH hw ho hd hn HW HO HE) (hSS : bSS pl le so sn SA SL SI) (hv : bwf v) (hbd : 2 ≤ bd ∧ bd ≤ 8) (x : Int32) : Met l yX4_container wsX4_container rm_X4_container (rPc (dC, dI) (tysA cI cJ cZ) (wb a cI cJ cZ w o d n hw ho hd hn pl le so sn ta v bd) [.ref (a 0), .int (x)]) (Ri (cl_container V E n v x)) 0 0 (fun _ => False) := by
  refine met_r (cc := cX4_container) (maxL := 4) (ret := (some .int)) (own := RX4) (by decide) rfl rfl (Nat.le_of_ble_eq_true rfl) ?_
  intro p e s m below meth c S hr hlocks hP hK ls hl
  obtain ⟨hx, hb, hml, hown, hts⟩ := id S
  have hl : lv_has ls 4 [(0, .ref (a 0)), (1, .int (x))] := hl
  have hi4 : ∀ w ∈ wsX40, w ∈ wsX4_container := fun _ h => List.mem_cons_of_mem _ (List.mem_append_left _ (List.mem_append_right _ h))
  have hi0 : ∀ w ∈ wsX00, w ∈ wsX4_container := fun _ h => List.mem_cons_of_mem _ (List.mem_append_right _ h)
  obtain ⟨hn40, hk⟩ := id hDD; obtain ⟨hh12, hkh⟩ := id hHH; obtain ⟨hs8, hks⟩ := id hSS
  refine lv_iload_n hx hb dX4_container_0 rfl (lv_at hl 1 rfl) ?_
  refine c_Si (As := [.int (x)]) (rest := []) S (c_X4_isHalf l (x)) (va_cwS 1 hts gX4_container_X4_isHalf rfl rfl rfl (by decide +kernel) ⟨Nat.le_of_ble_eq_true rfl, Nat.le_of_ble_eq_true rfl⟩) rfl hl.1 rfl (Nat.le_of_ble_eq_true rfl) dX4_container_1 ⟨Nat.le_of_ble_eq_true rfl, Nat.le_of_ble_eq_true rfl⟩ ?_
  refine b_ne (tgt := 9) hx hb dX4_container_4 (by decide) (fun c_4 => ?_) (fun c_4 => ?_)
  · refine lv_aload_n hx hb dX4_container_9 rfl (lv_at hl 0 rfl) ?_
    refine va_get (D := (dC, dI)) (ci := 3) (v := .ref (a 1)) (C := RX4) (T := TX4) (N := 6) hx hb hts hi4 hown hK hP 0 rfl rfl 0 (by decide) (hts (.fieldLink RX4 10 "BurstWords" "dictionary" "LBurstWords$Dictionary;") (by decide +kernel)) (fun _ h9 => h9) rfl dX4_container_10 ?_
    refine lv_aload_n hx hb dX4_container_13 rfl (lv_at hl 0 rfl) ?_
    refine va_get (D := (dC, dI)) (ci := 3) (v := .long (lN (be8 v))) (C := RX4) (T := TX4) (N := 6) hx hb hts hi4 hown hK hP 0 rfl rfl 4 (by decide) (hts (.fieldLink RX4 36 "BurstWords" "word" "J") (by decide +kernel)) (fun _ h9 => h9) rfl dX4_container_14 ?_
    refine c_Vi (As := [.long (lN (be8 v))]) (rest := []) (ci := 0) (q0 := 0) S (c_X0_depthOf l dC dI cI cJ cZ (a 1) (a 2) (a 3) (a 4) w o d n V O E hDD v) (cwV 1 hts gX4_container_X0_depthOf rfl rfl rfl (by decide +kernel) ⟨Nat.le_of_ble_eq_true rfl, Nat.le_of_ble_eq_true rfl⟩) hK (hP.sub [1, 2, 3, 4] rfl) rfl rfl rfl hl.1 rfl (Nat.le_of_ble_eq_true rfl) dX4_container_17 ⟨Nat.le_of_ble_eq_true rfl, Nat.le_of_ble_eq_true rfl⟩ ?_
    refine lv_istore_n (lv' := [(2, .int (nI (bdp V E n v))), (0, .ref (a 0)), (1, .int (x))]) hx hb dX4_container_20 rfl hl (by decide) rfl (fun ls hl => ?_)
    refine lv_iload_n hx hb dX4_container_21 rfl (lv_at hl 0 rfl) ?_
    refine lv_aload_n hx hb dX4_container_22 rfl (lv_at hl 1 rfl) ?_
    refine va_get (D := (dC, dI)) (ci := 3) (v := .long (lN (be8 v))) (C := RX4) (T := TX4) (N := 6) hx hb hts hi4 hown hK hP 0 rfl rfl 4 (by decide) (hts (.fieldLink RX4 36 "BurstWords" "word" "J") (by decide +kernel)) (fun _ h9 => h9) rfl dX4_container_23 ?_
    refine c_Si (As := [.long (lN (be8 v))]) (rest := [.int (nI (bdp V E n v))]) S (c_X3_lengthOf l v) (va_cwS 1 hts gX4_container_X3_lengthOf rfl rfl rfl (by decide +kernel) ⟨Nat.le_of_ble_eq_true rfl, Nat.le_of_ble_eq_true rfl⟩) rfl hl.1 rfl (Nat.le_of_ble_eq_true rfl) dX4_container_26 ⟨Nat.le_of_ble_eq_true rfl, Nat.le_of_ble_eq_true rfl⟩ ?_
    refine n_le (tgt := 35) hx hb dX4_container_29 (by decide) (Nat.lt_of_le_of_lt bdp_le (by decide)) (Nat.lt_of_le_of_lt (bln_le _) (by decide)) (fun c_29 => ?_) (fun c_29 => ?_)
    · refine lv_aload_n hx hb dX4_container_35 rfl (lv_at hl 1 rfl) ?_
      refine va_get (D := (dC, dI)) (ci := 3) (v := .ref (a 1)) (C := RX4) (T := TX4) (N := 6) hx hb hts hi4 hown hK hP 0 rfl rfl 0 (by decide) (hts (.fieldLink RX4 10 "BurstWords" "dictionary" "LBurstWords$Dictionary;") (by decide +kernel)) (fun _ h9 => h9) rfl dX4_container_36 ?_
      refine lv_aload_n hx hb dX4_container_39 rfl (lv_at hl 1 rfl) ?_
      refine va_get (D := (dC, dI)) (ci := 3) (v := .long (lN (be8 v))) (C := RX4) (T := TX4) (N := 6) hx hb hts hi4 hown hK hP 0 rfl rfl 4 (by decide) (hts (.fieldLink RX4 36 "BurstWords" "word" "J") (by decide +kernel)) (fun _ h9 => h9) rfl dX4_container_40 ?_
      refine lv_iload_n hx hb dX4_container_43 rfl (lv_at hl 0 rfl) ?_
      refine c_Vi (As := [.long (lN (be8 v)), .int (nI (bdp V E n v))]) (rest := []) (ci := 0) (q0 := 0) S (c_X0_sharing l dC dI cI cJ cZ (a 1) (a 2) (a 3) (a 4) w o d n V O E hDD v (bdp V E n v) (Nat.lt_of_le_of_lt bdp_le (by decide))) (cwV 2 hts gX4_container_X0_sharing rfl rfl rfl (by decide +kernel) ⟨Nat.le_of_ble_eq_true rfl, Nat.le_of_ble_eq_true rfl⟩) hK (hP.sub [1, 2, 3, 4] rfl) rfl rfl rfl hl.1 rfl (Nat.le_of_ble_eq_true rfl) dX4_container_44 ⟨Nat.le_of_ble_eq_true rfl, Nat.le_of_ble_eq_true rfl⟩ ?_
      refine lv_istore_n (lv' := [(3, .int (nI (bsc V n v (bdp V E n v)))), (2, .int (nI (bdp V E n v))), (0, .ref (a 0)), (1, .int (x))]) hx hb dX4_container_47 rfl hl (by decide) rfl (fun ls hl => ?_)
      refine lv_iload_n hx hb dX4_container_48 rfl (lv_at hl 0 rfl) ?_
      refine z_ne (tgt := 55) hx hb dX4_container_49 (by decide) (Nat.lt_of_le_of_lt (bsc_le _ _ _ _) (by omega)) (fun c_49 => ?_) (fun c_49 => ?_)
      · refine lv_iload_n hx hb dX4_container_55 rfl (lv_at hl 3 rfl) ?_
        refine lv_if_ne (tgt := 63) hx hb dX4_container_56 (by decide) (fun c_56 => ?_) (fun c_56 => ?_)
        · refine lv_iload_n hx hb dX4_container_63 rfl (lv_at hl 1 rfl) ?_
          exact r_i hx hb hr hlocks (by rw [cl_container, if_pos c_4, if_neg (Nat.not_lt.mpr c_29), if_neg (Nat.pos_iff_ne_zero.mp c_49), if_neg c_56]) dX4_container_64
        · refine lv_iload_n hx hb dX4_container_59 rfl (lv_at hl 0 rfl) ?_
          refine lv_goto (tgt := 64) hx hb dX4_container_60 (by decide) ?_
          exact r_i hx hb hr hlocks (by rw [cl_container, if_pos c_4, if_neg (Nat.not_lt.mpr c_29), if_neg (Nat.pos_iff_ne_zero.mp c_49), if_pos c_56]) dX4_container_64
      · refine lv_bipush (v := (-9 : Int32)) hx hb dX4_container_52 (by decide) ?_
        exact r_i hx hb hr hlocks (by rw [cl_container, if_pos c_4, if_neg (Nat.not_lt.mpr c_29), if_pos c_49]) dX4_container_54
    · refine lv_bipush (v := (-9 : Int32)) hx hb dX4_container_32 (by decide) ?_
      exact r_i hx hb hr hlocks (by rw [cl_container, if_pos c_4, if_pos c_29]) dX4_container_34
  · refine lv_iconst (v := (-1 : Int32)) hx hb dX4_container_7 (by decide) ?_
    exact r_i hx hb hr hlocks (by rw [cl_container, if_neg (nt c_4)]) dX4_container_8
abbrev rm_X4_telling : Room := { frames := 4, cells := 0, slots := 0, locals := 90 }
set_option maxHeartbeats 4000000 in
set_option maxRecDepth 100000 in
theorem c_X4_telling (l : Launch) (dC : Nat → ClassId) (dI : Nat → Nat → Nat) (cI cJ cZ : ClassId) (a : Nat → Nat) (w : Nat → Int64) (o d : Nat → Int32) (n : Nat) (hw : Nat → Int64) (ho hd : Nat → Int32) (hn : Nat) (pl le so : Nat → Int32) (sn : Nat) (ta : Nat → Int32) (v bd : Nat) (V O E HW HO HE SA SL SI : Nat → Nat) (hDD : bDD w o d n V O E) (hHH : bHH hw ho hd hn HW HO HE) (hSS : bSS pl le so sn SA SL SI) (hv : bwf v) (hbd : 2 ≤ bd ∧ bd ≤ 8) : Met l yX4_telling wsX4_telling rm_X4_telling (rPc (dC, dI) (tysA cI cJ cZ) (wb a cI cJ cZ w o d n hw ho hd hn pl le so sn ta v bd) [.ref (a 0)]) (Ri (cl_telling V O n v)) 0 0 (fun _ => False) := by
  refine met_r (cc := cX4_telling) (maxL := 1) (ret := (some .int)) (own := RX4) (by decide) rfl rfl (Nat.le_of_ble_eq_true rfl) ?_
  intro p e s m below meth c S hr hlocks hP hK ls hl
  obtain ⟨hx, hb, hml, hown, hts⟩ := id S
  have hl : lv_has ls 1 [(0, .ref (a 0))] := hl
  have hi4 : ∀ w ∈ wsX40, w ∈ wsX4_telling := fun _ h => List.mem_cons_of_mem _ (List.mem_append_left _ (List.mem_append_right _ h))
  have hi0 : ∀ w ∈ wsX00, w ∈ wsX4_telling := fun _ h => List.mem_cons_of_mem _ (List.mem_append_right _ h)
  obtain ⟨hn40, hk⟩ := id hDD; obtain ⟨hh12, hkh⟩ := id hHH; obtain ⟨hs8, hks⟩ := id hSS
  refine lv_aload_n hx hb dX4_telling_0 rfl (lv_at hl 0 rfl) ?_
  refine va_get (D := (dC, dI)) (ci := 3) (v := .ref (a 1)) (C := RX4) (T := TX4) (N := 6) hx hb hts hi4 hown hK hP 0 rfl rfl 0 (by decide) (hts (.fieldLink RX4 10 "BurstWords" "dictionary" "LBurstWords$Dictionary;") (by decide +kernel)) (fun _ h9 => h9) rfl dX4_telling_1 ?_
  refine lv_aload_n hx hb dX4_telling_4 rfl (lv_at hl 0 rfl) ?_
  refine va_get (D := (dC, dI)) (ci := 3) (v := .long (lN (be8 v))) (C := RX4) (T := TX4) (N := 6) hx hb hts hi4 hown hK hP 0 rfl rfl 4 (by decide) (hts (.fieldLink RX4 36 "BurstWords" "word" "J") (by decide +kernel)) (fun _ h9 => h9) rfl dX4_telling_5 ?_
  refine c_Vi (As := [.long (lN (be8 v))]) (rest := []) (ci := 0) (q0 := 0) S (c_X0_oftenOf l dC dI cI cJ cZ (a 1) (a 2) (a 3) (a 4) w o d n V O E hDD v hv.1) (cwV 1 hts gX4_telling_X0_oftenOf rfl rfl rfl (by decide +kernel) ⟨Nat.le_of_ble_eq_true rfl, Nat.le_of_ble_eq_true rfl⟩) hK (hP.sub [1, 2, 3, 4] rfl) rfl rfl rfl hl.1 rfl (Nat.le_of_ble_eq_true rfl) dX4_telling_8 ⟨Nat.le_of_ble_eq_true rfl, Nat.le_of_ble_eq_true rfl⟩ ?_
  refine z_ne (tgt := 17) hx hb dX4_telling_11 (by decide) (bof_31 hDD) (fun c_11 => ?_) (fun c_11 => ?_)
  · refine lv_aload_n hx hb dX4_telling_17 rfl (lv_at hl 0 rfl) ?_
    refine va_get (D := (dC, dI)) (ci := 3) (v := .ref (a 1)) (C := RX4) (T := TX4) (N := 6) hx hb hts hi4 hown hK hP 0 rfl rfl 0 (by decide) (hts (.fieldLink RX4 10 "BurstWords" "dictionary" "LBurstWords$Dictionary;") (by decide +kernel)) (fun _ h9 => h9) rfl dX4_telling_18 ?_
    refine lv_aload_n hx hb dX4_telling_21 rfl (lv_at hl 0 rfl) ?_
    refine va_get (D := (dC, dI)) (ci := 3) (v := .long (lN (be8 v))) (C := RX4) (T := TX4) (N := 6) hx hb hts hi4 hown hK hP 0 rfl rfl 4 (by decide) (hts (.fieldLink RX4 36 "BurstWords" "word" "J") (by decide +kernel)) (fun _ h9 => h9) rfl dX4_telling_22 ?_
    refine c_Vi (As := [.long (lN (be8 v))]) (rest := []) (ci := 0) (q0 := 0) S (c_X0_mostSharedWithOthers l dC dI cI cJ cZ (a 1) (a 2) (a 3) (a 4) w o d n V O E hDD v hv.1) (cwV 1 hts gX4_telling_X0_mostSharedWithOthers rfl rfl rfl (by decide +kernel) ⟨Nat.le_of_ble_eq_true rfl, Nat.le_of_ble_eq_true rfl⟩) hK (hP.sub [1, 2, 3, 4] rfl) rfl rfl rfl hl.1 rfl (Nat.le_of_ble_eq_true rfl) dX4_telling_25 ⟨Nat.le_of_ble_eq_true rfl, Nat.le_of_ble_eq_true rfl⟩ ?_
    refine lv_iconst (v := nI (1)) hx hb dX4_telling_28 (by decide) ?_
    refine lv_iadd hx hb dX4_telling_29 ?_
    refine tpi (y := nI (bmx (fun k => if V k = v then 0 else bsh (V k) v + 1) n)) (nM_1 _) ?_
    exact r_i hx hb hr hlocks (by rw [cl_telling, if_neg (Nat.pos_iff_ne_zero.mp c_11)]) dX4_telling_30
  · refine lv_bipush (v := (-9 : Int32)) hx hb dX4_telling_14 (by decide) ?_
    exact r_i hx hb hr hlocks (by rw [cl_telling, if_pos c_11]) dX4_telling_16
abbrev rm_X4_longest : Room := { frames := 5, cells := 0, slots := 0, locals := 113 }
set_option maxHeartbeats 4000000 in
set_option maxRecDepth 100000 in
theorem c_X4_longest (l : Launch) (dC : Nat → ClassId) (dI : Nat → Nat → Nat) (cI cJ cZ : ClassId) (a : Nat → Nat) (w : Nat → Int64) (o d : Nat → Int32) (n : Nat) (hw : Nat → Int64) (ho hd : Nat → Int32) (hn : Nat) (pl le so : Nat → Int32) (sn : Nat) (ta : Nat → Int32) (v bd : Nat) (V O E HW HO HE SA SL SI : Nat → Nat) (hDD : bDD w o d n V O E) (hHH : bHH hw ho hd hn HW HO HE) (hSS : bSS pl le so sn SA SL SI) (hv : bwf v) (hbd : 2 ≤ bd ∧ bd ≤ 8) : Met l yX4_longest wsX4_longest rm_X4_longest (rPc (dC, dI) (tysA cI cJ cZ) (wb a cI cJ cZ w o d n hw ho hd hn pl le so sn ta v bd) [.ref (a 0)]) (Ri (bnz (bmx (fun k => if bsh (V k) v == bln (V k) then bln (V k) else 0) n))) 0 0 (fun _ => False) := by
  refine met_r (cc := cX4_longest) (maxL := 2) (ret := (some .int)) (own := RX4) (by decide) rfl rfl (Nat.le_of_ble_eq_true rfl) ?_
  intro p e s m below meth c S hr hlocks hP hK ls hl
  obtain ⟨hx, hb, hml, hown, hts⟩ := id S
  have hl : lv_has ls 2 [(0, .ref (a 0))] := hl
  have hi4 : ∀ w ∈ wsX40, w ∈ wsX4_longest := fun _ h => List.mem_cons_of_mem _ (List.mem_append_left _ (List.mem_append_right _ h))
  have hi0 : ∀ w ∈ wsX00, w ∈ wsX4_longest := fun _ h => List.mem_cons_of_mem _ (List.mem_append_right _ h)
  obtain ⟨hn40, hk⟩ := id hDD; obtain ⟨hh12, hkh⟩ := id hHH; obtain ⟨hs8, hks⟩ := id hSS
  refine lv_aload_n hx hb dX4_longest_0 rfl (lv_at hl 0 rfl) ?_
  refine va_get (D := (dC, dI)) (ci := 3) (v := .ref (a 1)) (C := RX4) (T := TX4) (N := 6) hx hb hts hi4 hown hK hP 0 rfl rfl 0 (by decide) (hts (.fieldLink RX4 10 "BurstWords" "dictionary" "LBurstWords$Dictionary;") (by decide +kernel)) (fun _ h9 => h9) rfl dX4_longest_1 ?_
  refine lv_aload_n hx hb dX4_longest_4 rfl (lv_at hl 0 rfl) ?_
  refine va_get (D := (dC, dI)) (ci := 3) (v := .long (lN (be8 v))) (C := RX4) (T := TX4) (N := 6) hx hb hts hi4 hown hK hP 0 rfl rfl 4 (by decide) (hts (.fieldLink RX4 36 "BurstWords" "word" "J") (by decide +kernel)) (fun _ h9 => h9) rfl dX4_longest_5 ?_
  refine c_Vi (As := [.long (lN (be8 v))]) (rest := []) (ci := 0) (q0 := 0) S (c_X0_longestIn l dC dI cI cJ cZ (a 1) (a 2) (a 3) (a 4) w o d n V O E hDD v) (cwV 1 hts gX4_longest_X0_longestIn rfl rfl rfl (by decide +kernel) ⟨Nat.le_of_ble_eq_true rfl, Nat.le_of_ble_eq_true rfl⟩) hK (hP.sub [1, 2, 3, 4] rfl) rfl rfl rfl hl.1 rfl (Nat.le_of_ble_eq_true rfl) dX4_longest_8 ⟨Nat.le_of_ble_eq_true rfl, Nat.le_of_ble_eq_true rfl⟩ ?_
  refine lv_istore_n (lv' := [(1, .int (nI (bmx (fun k => if bsh (V k) v == bln (V k) then bln (V k) else 0) n))), (0, .ref (a 0))]) hx hb dX4_longest_11 rfl hl (by decide) rfl (fun ls hl => ?_)
  refine lv_iload_n hx hb dX4_longest_12 rfl (lv_at hl 0 rfl) ?_
  refine z_ne (tgt := 21) hx hb dX4_longest_13 (by decide) (Nat.lt_of_le_of_lt (bmx_le (c := 7) (fun k _ => by have := bln_le (V k); split <;> omega)) (by decide)) (fun c_13 => ?_) (fun c_13 => ?_)
  · refine lv_iload_n hx hb dX4_longest_21 rfl (lv_at hl 0 rfl) ?_
    exact r_i hx hb hr hlocks (bnz_p (Nat.pos_iff_ne_zero.mp c_13)).symm dX4_longest_22
  · refine lv_bipush (v := (-9 : Int32)) hx hb dX4_longest_16 (by decide) ?_
    refine lv_goto (tgt := 22) hx hb dX4_longest_18 (by decide) ?_
    exact r_i hx hb hr hlocks (bnz_0 c_13).symm dX4_longest_22
abbrev rm_X4_like : Room := { frames := 4, cells := 0, slots := 0, locals := 93 }
set_option maxHeartbeats 4000000 in
set_option maxRecDepth 100000 in
theorem c_X4_like (l : Launch) (dC : Nat → ClassId) (dI : Nat → Nat → Nat) (cI cJ cZ : ClassId) (a : Nat → Nat) (w : Nat → Int64) (o d : Nat → Int32) (n : Nat) (hw : Nat → Int64) (ho hd : Nat → Int32) (hn : Nat) (pl le so : Nat → Int32) (sn : Nat) (ta : Nat → Int32) (v bd : Nat) (V O E HW HO HE SA SL SI : Nat → Nat) (hDD : bDD w o d n V O E) (hHH : bHH hw ho hd hn HW HO HE) (hSS : bSS pl le so sn SA SL SI) (hv : bwf v) (hbd : 2 ≤ bd ∧ bd ≤ 8) (x : Int32) : Met l yX4_like wsX4_like rm_X4_like (rPc (dC, dI) (tysA cI cJ cZ) (wb a cI cJ cZ w o d n hw ho hd hn pl le so sn ta v bd) [.ref (a 0), .int (x)]) (Ri (cl_like V n v x)) 0 0 (fun _ => False) := by
  refine met_r (cc := cX4_like) (maxL := 2) (ret := (some .int)) (own := RX4) (by decide) rfl rfl (Nat.le_of_ble_eq_true rfl) ?_
  intro p e s m below meth c S hr hlocks hP hK ls hl
  obtain ⟨hx, hb, hml, hown, hts⟩ := id S
  have hl : lv_has ls 2 [(0, .ref (a 0)), (1, .int (x))] := hl
  have hi4 : ∀ w ∈ wsX40, w ∈ wsX4_like := fun _ h => List.mem_cons_of_mem _ (List.mem_append_left _ (List.mem_append_right _ h))
  have hi0 : ∀ w ∈ wsX00, w ∈ wsX4_like := fun _ h => List.mem_cons_of_mem _ (List.mem_append_right _ h)
  obtain ⟨hn40, hk⟩ := id hDD; obtain ⟨hh12, hkh⟩ := id hHH; obtain ⟨hs8, hks⟩ := id hSS
  refine lv_iload_n hx hb dX4_like_0 rfl (lv_at hl 1 rfl) ?_
  refine lv_if_lt (tgt := 10) hx hb dX4_like_1 (by decide) (fun c_1 => ?_) (fun c_1 => ?_)
  · refine lv_iconst (v := (-1 : Int32)) hx hb dX4_like_10 (by decide) ?_
    exact r_i hx hb hr hlocks (by rw [cl_like, if_pos c_1]) dX4_like_11
  · refine lv_iload_n hx hb dX4_like_4 rfl (lv_at hl 1 rfl) ?_
    refine lv_bipush (v := nI (7)) hx hb dX4_like_5 (by decide) ?_
    refine lv_icmp_le (tgt := 12) hx hb dX4_like_7 (by decide) (fun c_7 => ?_) (fun c_7 => ?_)
    · obtain ⟨g, hg, hxg⟩ := nI_of2 (n := 7) (by decide) c_1 c_7
      have hl := lv_cg (l' := [(0, .ref (a 0)), (1, .int (nI (g)))]) hl (by rw [hxg])
      refine lv_aload_n hx hb dX4_like_12 rfl (lv_at hl 0 rfl) ?_
      refine va_get (D := (dC, dI)) (ci := 3) (v := .ref (a 1)) (C := RX4) (T := TX4) (N := 6) hx hb hts hi4 hown hK hP 0 rfl rfl 0 (by decide) (hts (.fieldLink RX4 10 "BurstWords" "dictionary" "LBurstWords$Dictionary;") (by decide +kernel)) (fun _ h9 => h9) rfl dX4_like_13 ?_
      refine lv_aload_n hx hb dX4_like_16 rfl (lv_at hl 0 rfl) ?_
      refine va_get (D := (dC, dI)) (ci := 3) (v := .long (lN (be8 v))) (C := RX4) (T := TX4) (N := 6) hx hb hts hi4 hown hK hP 0 rfl rfl 4 (by decide) (hts (.fieldLink RX4 36 "BurstWords" "word" "J") (by decide +kernel)) (fun _ h9 => h9) rfl dX4_like_17 ?_
      refine lv_iload_n hx hb dX4_like_20 rfl (lv_at hl 1 rfl) ?_
      refine c_Vi (As := [.long (lN (be8 v)), .int (nI (g))]) (rest := []) (ci := 0) (q0 := 0) S (c_X0_alike l dC dI cI cJ cZ (a 1) (a 2) (a 3) (a 4) w o d n V O E hDD v g (by omega)) (cwV 2 hts gX4_like_X0_alike rfl rfl rfl (by decide +kernel) ⟨Nat.le_of_ble_eq_true rfl, Nat.le_of_ble_eq_true rfl⟩) hK (hP.sub [1, 2, 3, 4] rfl) rfl rfl rfl hl.1 rfl (Nat.le_of_ble_eq_true rfl) dX4_like_21 ⟨Nat.le_of_ble_eq_true rfl, Nat.le_of_ble_eq_true rfl⟩ ?_
      exact r_i hx hb hr hlocks (by rw [cl_like, if_neg c_1, if_pos c_7, hxg, nI_clamp (by omega)]) dX4_like_24
    · refine lv_iconst (v := (-1 : Int32)) hx hb dX4_like_10 (by decide) ?_
      exact r_i hx hb hr hlocks (by rw [cl_like, if_neg c_1, if_neg c_7]) dX4_like_11
abbrev rm_X4_odds : Room := { frames := 5, cells := 0, slots := 0, locals := 113 }
set_option maxHeartbeats 4000000 in
set_option maxRecDepth 100000 in
theorem c_X4_odds (l : Launch) (dC : Nat → ClassId) (dI : Nat → Nat → Nat) (cI cJ cZ : ClassId) (a : Nat → Nat) (w : Nat → Int64) (o d : Nat → Int32) (n : Nat) (hw : Nat → Int64) (ho hd : Nat → Int32) (hn : Nat) (pl le so : Nat → Int32) (sn : Nat) (ta : Nat → Int32) (v bd : Nat) (V O E HW HO HE SA SL SI : Nat → Nat) (hDD : bDD w o d n V O E) (hHH : bHH hw ho hd hn HW HO HE) (hSS : bSS pl le so sn SA SL SI) (hv : bwf v) (hbd : 2 ≤ bd ∧ bd ≤ 8) (x : Int32) : Met l yX4_odds wsX4_odds rm_X4_odds (rPc (dC, dI) (tysA cI cJ cZ) (wb a cI cJ cZ w o d n hw ho hd hn pl le so sn ta v bd) [.ref (a 0), .int (x)]) (Ri (cl_odds (fb_sm O n) (fb_sm (fun k => if bsh v (V k) == bln v then O k else 0) n) x)) 0 0 (fun _ => False) := by
  refine met_r (cc := cX4_odds) (maxL := 5) (ret := (some .int)) (own := RX4) (by decide) rfl rfl (Nat.le_of_ble_eq_true rfl) ?_
  intro p e s m below meth c S hr hlocks hP hK ls hl
  obtain ⟨hx, hb, hml, hown, hts⟩ := id S
  have hl : lv_has ls 5 [(0, .ref (a 0)), (1, .int (x))] := hl
  have hi4 : ∀ w ∈ wsX40, w ∈ wsX4_odds := fun _ h => List.mem_cons_of_mem _ (List.mem_append_left _ (List.mem_append_right _ h))
  have hi0 : ∀ w ∈ wsX00, w ∈ wsX4_odds := fun _ h => List.mem_cons_of_mem _ (List.mem_append_right _ h)
  obtain ⟨hn40, hk⟩ := id hDD; obtain ⟨hh12, hkh⟩ := id hHH; obtain ⟨hs8, hks⟩ := id hSS
  have hsm : fb_sm O n ≤ 3960 := sm_99 hn40 (fun k h => (hk k h).2.2.2.2.1)
  have hsb : fb_sm (fun k => if bsh v (V k) == bln v then O k else 0) n ≤ fb_sm O n := fb_sm_le (fun k h => by split <;> omega)
  refine lv_iload_n hx hb dX4_odds_0 rfl (lv_at hl 1 rfl) ?_
  refine c_Si (As := [.int (x)]) (rest := []) S (c_X4_isHalf l (x)) (va_cwS 1 hts gX4_odds_X4_isHalf rfl rfl rfl (by decide +kernel) ⟨Nat.le_of_ble_eq_true rfl, Nat.le_of_ble_eq_true rfl⟩) rfl hl.1 rfl (Nat.le_of_ble_eq_true rfl) dX4_odds_1 ⟨Nat.le_of_ble_eq_true rfl, Nat.le_of_ble_eq_true rfl⟩ ?_
  refine b_ne (tgt := 9) hx hb dX4_odds_4 (by decide) (fun c_4 => ?_) (fun c_4 => ?_)
  · refine lv_aload_n hx hb dX4_odds_9 rfl (lv_at hl 0 rfl) ?_
    refine va_get (D := (dC, dI)) (ci := 3) (v := .ref (a 1)) (C := RX4) (T := TX4) (N := 6) hx hb hts hi4 hown hK hP 0 rfl rfl 0 (by decide) (hts (.fieldLink RX4 10 "BurstWords" "dictionary" "LBurstWords$Dictionary;") (by decide +kernel)) (fun _ h9 => h9) rfl dX4_odds_10 ?_
    refine lv_aload_n hx hb dX4_odds_13 rfl (lv_at hl 0 rfl) ?_
    refine va_get (D := (dC, dI)) (ci := 3) (v := .ref (a 1)) (C := RX4) (T := TX4) (N := 6) hx hb hts hi4 hown hK hP 0 rfl rfl 0 (by decide) (hts (.fieldLink RX4 10 "BurstWords" "dictionary" "LBurstWords$Dictionary;") (by decide +kernel)) (fun _ h9 => h9) rfl dX4_odds_14 ?_
    refine c_Vi (As := []) (rest := [.ref (a 1)]) (ci := 0) (q0 := 0) S (c_X0_size l dC dI cI cJ cZ (a 1) (a 2) (a 3) (a 4) w o d n V O E hDD ) (cwV 0 hts gX4_odds_X0_size rfl rfl rfl (by decide +kernel) ⟨Nat.le_of_ble_eq_true rfl, Nat.le_of_ble_eq_true rfl⟩) hK (hP.sub [1, 2, 3, 4] rfl) rfl rfl rfl hl.1 rfl (Nat.le_of_ble_eq_true rfl) dX4_odds_17 ⟨Nat.le_of_ble_eq_true rfl, Nat.le_of_ble_eq_true rfl⟩ ?_
    refine c_Vi (As := [.int (nI (n))]) (rest := []) (ci := 0) (q0 := 0) S (c_X0_oftenBelow l dC dI cI cJ cZ (a 1) (a 2) (a 3) (a 4) w o d n V O E hDD n (by omega)) (cwV 1 hts gX4_odds_X0_oftenBelow rfl rfl rfl (by decide +kernel) ⟨Nat.le_of_ble_eq_true rfl, Nat.le_of_ble_eq_true rfl⟩) hK (hP.sub [1, 2, 3, 4] rfl) rfl rfl rfl hl.1 rfl (Nat.le_of_ble_eq_true rfl) dX4_odds_20 ⟨Nat.le_of_ble_eq_true rfl, Nat.le_of_ble_eq_true rfl⟩ ?_
    refine lv_istore_n (lv' := [(2, .int (nI (fb_sm O n))), (0, .ref (a 0)), (1, .int (x))]) hx hb dX4_odds_23 rfl hl (by decide) rfl (fun ls hl => ?_)
    refine lv_aload_n hx hb dX4_odds_24 rfl (lv_at hl 1 rfl) ?_
    refine va_get (D := (dC, dI)) (ci := 3) (v := .ref (a 1)) (C := RX4) (T := TX4) (N := 6) hx hb hts hi4 hown hK hP 0 rfl rfl 0 (by decide) (hts (.fieldLink RX4 10 "BurstWords" "dictionary" "LBurstWords$Dictionary;") (by decide +kernel)) (fun _ h9 => h9) rfl dX4_odds_25 ?_
    refine lv_aload_n hx hb dX4_odds_28 rfl (lv_at hl 1 rfl) ?_
    refine va_get (D := (dC, dI)) (ci := 3) (v := .long (lN (be8 v))) (C := RX4) (T := TX4) (N := 6) hx hb hts hi4 hown hK hP 0 rfl rfl 4 (by decide) (hts (.fieldLink RX4 36 "BurstWords" "word" "J") (by decide +kernel)) (fun _ h9 => h9) rfl dX4_odds_29 ?_
    refine c_Vi (As := [.long (lN (be8 v))]) (rest := []) (ci := 0) (q0 := 0) S (c_X0_oftenBegun l dC dI cI cJ cZ (a 1) (a 2) (a 3) (a 4) w o d n V O E hDD v) (cwV 1 hts gX4_odds_X0_oftenBegun rfl rfl rfl (by decide +kernel) ⟨Nat.le_of_ble_eq_true rfl, Nat.le_of_ble_eq_true rfl⟩) hK (hP.sub [1, 2, 3, 4] rfl) rfl rfl rfl hl.1 rfl (Nat.le_of_ble_eq_true rfl) dX4_odds_32 ⟨Nat.le_of_ble_eq_true rfl, Nat.le_of_ble_eq_true rfl⟩ ?_
    refine lv_istore_n (lv' := [(3, .int (nI (fb_sm (fun k => if bsh v (V k) == bln v then O k else 0) n))), (2, .int (nI (fb_sm O n))), (0, .ref (a 0)), (1, .int (x))]) hx hb dX4_odds_35 rfl hl (by decide) rfl (fun ls hl => ?_)
    refine lv_iload_n hx hb dX4_odds_36 rfl (lv_at hl 1 rfl) ?_
    refine lv_iload_n hx hb dX4_odds_37 rfl (lv_at hl 0 rfl) ?_
    refine c_Si (As := [.int (nI (fb_sm O n)), .int (nI (fb_sm (fun k => if bsh v (V k) == bln v then O k else 0) n))]) (rest := []) S (c_X4_commonDivisor l (fb_sm O n) (fb_sm (fun k => if bsh v (V k) == bln v then O k else 0) n) hsm hsb) (va_cwS 2 hts gX4_odds_X4_commonDivisor rfl rfl rfl (by decide +kernel) ⟨Nat.le_of_ble_eq_true rfl, Nat.le_of_ble_eq_true rfl⟩) rfl hl.1 rfl (Nat.le_of_ble_eq_true rfl) dX4_odds_38 ⟨Nat.le_of_ble_eq_true rfl, Nat.le_of_ble_eq_true rfl⟩ ?_
    refine lv_istore (lv' := [(4, .int (nI (Nat.gcd (fb_sm (fun k => if bsh v (V k) == bln v then O k else 0) n) (fb_sm O n)))), (3, .int (nI (fb_sm (fun k => if bsh v (V k) == bln v then O k else 0) n))), (2, .int (nI (fb_sm O n))), (0, .ref (a 0)), (1, .int (x))]) hx hb dX4_odds_41 hl (by decide) rfl (fun ls hl => ?_)
    refine lv_iload hx hb dX4_odds_43 (lv_at hl 0 rfl) ?_
    refine z_gt (tgt := 50) hx hb dX4_odds_45 (by decide) (gcd_31 hsm hsb) (fun c_45 => ?_) (fun c_45 => ?_)
    · refine lv_iload_n hx hb dX4_odds_50 rfl (lv_at hl 4 rfl) ?_
      refine lv_if_ne (tgt := 58) hx hb dX4_odds_51 (by decide) (fun c_51 => ?_) (fun c_51 => ?_)
      · refine lv_iload_n hx hb dX4_odds_58 rfl (lv_at hl 2 rfl) ?_
        refine lv_iload hx hb dX4_odds_59 (lv_at hl 0 rfl) ?_
        refine lv_idiv hx hb dX4_odds_61 (nI_ne0 c_45 (gcd_31 hsm hsb)) ?_
        refine tpi (pk_div (by omega) c_45 (gcd_31 hsm hsb)) ?_
        exact r_i hx hb hr hlocks (by rw [cl_odds, if_pos c_4, cl_od, if_neg (Nat.pos_iff_ne_zero.mp c_45), if_neg c_51]) dX4_odds_62
      · refine lv_iload_n hx hb dX4_odds_54 rfl (lv_at hl 1 rfl) ?_
        refine lv_goto (tgt := 59) hx hb dX4_odds_55 (by decide) ?_
        refine lv_iload hx hb dX4_odds_59 (lv_at hl 0 rfl) ?_
        refine lv_idiv hx hb dX4_odds_61 (nI_ne0 c_45 (gcd_31 hsm hsb)) ?_
        refine tpi (pk_div (by omega) c_45 (gcd_31 hsm hsb)) ?_
        exact r_i hx hb hr hlocks (by rw [cl_odds, if_pos c_4, cl_od, if_neg (Nat.pos_iff_ne_zero.mp c_45), if_pos c_51]) dX4_odds_62
    · refine lv_iload_n hx hb dX4_odds_48 rfl (lv_at hl 4 rfl) ?_
      exact r_i hx hb hr hlocks (by rw [cl_odds, if_pos c_4, cl_od, if_pos c_45]) dX4_odds_49
  · refine lv_iconst (v := (-1 : Int32)) hx hb dX4_odds_7 (by decide) ?_
    exact r_i hx hb hr hlocks (by rw [cl_odds, if_neg (nt c_4)]) dX4_odds_8
abbrev rm_X4_told : Room := { frames := 3, cells := 0, slots := 0, locals := 64 }
set_option maxHeartbeats 4000000 in
set_option maxRecDepth 100000 in
theorem c_X4_told_m (l : Launch) (dC : Nat → ClassId) (dI : Nat → Nat → Nat) (cI cJ cZ : ClassId) (a : Nat → Nat) (w : Nat → Int64) (o d : Nat → Int32) (n : Nat) (hw : Nat → Int64) (ho hd : Nat → Int32) (hn : Nat) (pl le so : Nat → Int32) (sn : Nat) (ta : Nat → Int32) (v bd : Nat) (V O E HW HO HE SA SL SI : Nat → Nat) (hDD : bDD w o d n V O E) (hHH : bHH hw ho hd hn HW HO HE) (hSS : bSS pl le so sn SA SL SI) (hv : bwf v) (hbd : 2 ≤ bd ∧ bd ≤ 8) (y : Int32) : Met l yX4_told wsX4_told rm_X4_told (rPc (dC, dI) (tysA cI cJ cZ) (wb a cI cJ cZ w o d n hw ho hd hn pl le so sn ta v bd) [.ref (a 0), .int ((-1 : Int32)), .int (y)]) (Ri ((-9 : Int32))) 0 0 (fun _ => False) := by
  refine met_r (cc := cX4_told) (maxL := 6) (ret := (some .int)) (own := RX4) (by decide) rfl rfl (Nat.le_of_ble_eq_true rfl) ?_
  intro p e s m below meth c S hr hlocks hP hK ls hl
  obtain ⟨hx, hb, hml, hown, hts⟩ := id S
  have hl : lv_has ls 6 [(0, .ref (a 0)), (1, .int ((-1 : Int32))), (2, .int (y))] := hl
  have hi4 : ∀ w ∈ wsX40, w ∈ wsX4_told := fun _ h => List.mem_cons_of_mem _ (List.mem_append_left _ (List.mem_append_right _ h))
  have hi0 : ∀ w ∈ wsX00, w ∈ wsX4_told := fun _ h => List.mem_cons_of_mem _ (List.mem_append_right _ h)
  obtain ⟨hn40, hk⟩ := id hDD; obtain ⟨hh12, hkh⟩ := id hHH; obtain ⟨hs8, hks⟩ := id hSS
  refine lv_iload_n hx hb dX4_told_0 rfl (lv_at hl 1 rfl) ?_
  refine lv_if_lt (tgt := 15) hx hb dX4_told_1 (by decide) (fun _ => ?_) (fun q => absurd (by decide) q)
  refine lv_bipush (v := (-9 : Int32)) hx hb dX4_told_15 (by decide) ?_
  exact r_i hx hb hr hlocks rfl dX4_told_17
set_option maxHeartbeats 4000000 in
set_option maxRecDepth 100000 in
theorem c_X4_told_l (l : Launch) (dC : Nat → ClassId) (dI : Nat → Nat → Nat) (cI cJ cZ : ClassId) (a : Nat → Nat) (w : Nat → Int64) (o d : Nat → Int32) (n : Nat) (hw : Nat → Int64) (ho hd : Nat → Int32) (hn : Nat) (pl le so : Nat → Int32) (sn : Nat) (ta : Nat → Int32) (v bd : Nat) (V O E HW HO HE SA SL SI : Nat → Nat) (hDD : bDD w o d n V O E) (hHH : bHH hw ho hd hn HW HO HE) (hSS : bSS pl le so sn SA SL SI) (hv : bwf v) (hbd : 2 ≤ bd ∧ bd ≤ 8) (k : Nat) (hk31 : k < 2 ^ 31) : Met l yX4_told wsX4_told rm_X4_told (rPc (dC, dI) (tysA cI cJ cZ) (wb a cI cJ cZ w o d n hw ho hd hn pl le so sn ta v bd) [.ref (a 0), .int (nI (k)), .int ((-1 : Int32))]) (Ri (btl V n k 0)) 0 0 (fun _ => False) := by
  refine met_r (cc := cX4_told) (maxL := 6) (ret := (some .int)) (own := RX4) (by decide) rfl rfl (Nat.le_of_ble_eq_true rfl) ?_
  intro p e s m below meth c S hr hlocks hP hK ls hl
  obtain ⟨hx, hb, hml, hown, hts⟩ := id S
  have hl : lv_has ls 6 [(0, .ref (a 0)), (1, .int (nI (k))), (2, .int ((-1 : Int32)))] := hl
  have hi4 : ∀ w ∈ wsX40, w ∈ wsX4_told := fun _ h => List.mem_cons_of_mem _ (List.mem_append_left _ (List.mem_append_right _ h))
  have hi0 : ∀ w ∈ wsX00, w ∈ wsX4_told := fun _ h => List.mem_cons_of_mem _ (List.mem_append_right _ h)
  obtain ⟨hn40, hk⟩ := id hDD; obtain ⟨hh12, hkh⟩ := id hHH; obtain ⟨hs8, hks⟩ := id hSS
  refine lv_iload_n hx hb dX4_told_0 rfl (lv_at hl 1 rfl) ?_
  refine z_lt (tgt := 15) hx hb dX4_told_1 (by decide) (by omega) ?_
  refine lv_iload_n hx hb dX4_told_4 rfl (lv_at hl 1 rfl) ?_
  refine lv_aload_n hx hb dX4_told_5 rfl (lv_at hl 0 rfl) ?_
  refine va_get (D := (dC, dI)) (ci := 3) (v := .ref (a 1)) (C := RX4) (T := TX4) (N := 6) hx hb hts hi4 hown hK hP 0 rfl rfl 0 (by decide) (hts (.fieldLink RX4 10 "BurstWords" "dictionary" "LBurstWords$Dictionary;") (by decide +kernel)) (fun _ h9 => h9) rfl dX4_told_6 ?_
  refine c_Vi (As := []) (rest := [.int (nI (k))]) (ci := 0) (q0 := 0) S (c_X0_size l dC dI cI cJ cZ (a 1) (a 2) (a 3) (a 4) w o d n V O E hDD ) (cwV 0 hts gX4_told_X0_size rfl rfl rfl (by decide +kernel) ⟨Nat.le_of_ble_eq_true rfl, Nat.le_of_ble_eq_true rfl⟩) hK (hP.sub [1, 2, 3, 4] rfl) rfl rfl rfl hl.1 rfl (Nat.le_of_ble_eq_true rfl) dX4_told_9 ⟨Nat.le_of_ble_eq_true rfl, Nat.le_of_ble_eq_true rfl⟩ ?_
  refine n_lt (tgt := 18) hx hb dX4_told_12 (by decide) (by omega) (by omega) (fun c_12 => ?_) (fun c_12 => ?_)
  · refine lv_aload_n hx hb dX4_told_18 rfl (lv_at hl 0 rfl) ?_
    refine va_get (D := (dC, dI)) (ci := 3) (v := .ref (a 1)) (C := RX4) (T := TX4) (N := 6) hx hb hts hi4 hown hK hP 0 rfl rfl 0 (by decide) (hts (.fieldLink RX4 10 "BurstWords" "dictionary" "LBurstWords$Dictionary;") (by decide +kernel)) (fun _ h9 => h9) rfl dX4_told_19 ?_
    refine lv_iload_n hx hb dX4_told_22 rfl (lv_at hl 1 rfl) ?_
    refine c_Vl (As := [.int (nI (k))]) (rest := []) (ci := 0) (q0 := 0) S (c_X0_wordAt_in l dC dI cI cJ cZ (a 1) (a 2) (a 3) (a 4) w o d n V O E hDD k (by omega)) (cwV 1 hts gX4_told_X0_wordAt rfl rfl rfl (by decide +kernel) ⟨Nat.le_of_ble_eq_true rfl, Nat.le_of_ble_eq_true rfl⟩) hK (hP.sub [1, 2, 3, 4] rfl) rfl rfl rfl hl.1 rfl (Nat.le_of_ble_eq_true rfl) dX4_told_23 ⟨Nat.le_of_ble_eq_true rfl, Nat.le_of_ble_eq_true rfl⟩ ?_
    refine lv_lstore_n (lv' := [(3, .long (lN (be8 (V k)))), (0, .ref (a 0)), (1, .int (nI (k))), (2, .int ((-1 : Int32)))]) hx hb dX4_told_26 rfl hl (by decide) rfl (fun ls hl => ?_)
    refine lv_iload_n hx hb dX4_told_27 rfl (lv_at hl 3 rfl) ?_
    refine lv_if_ge (tgt := 36) hx hb dX4_told_28 (by decide) (fun q => absurd q (by decide)) (fun _ => ?_)
    refine lv_lload_n hx hb dX4_told_31 rfl (lv_at hl 0 rfl) ?_
    refine c_Si (As := [.long (lN (be8 (V k)))]) (rest := []) S (c_X3_lengthOf l (V k)) (va_cwS 1 hts gX4_told_X3_lengthOf rfl rfl rfl (by decide +kernel) ⟨Nat.le_of_ble_eq_true rfl, Nat.le_of_ble_eq_true rfl⟩) rfl hl.1 rfl (Nat.le_of_ble_eq_true rfl) dX4_told_32 ⟨Nat.le_of_ble_eq_true rfl, Nat.le_of_ble_eq_true rfl⟩ ?_
    exact r_i hx hb hr hlocks (btl_0 c_12).symm dX4_told_35
  · refine lv_bipush (v := (-9 : Int32)) hx hb dX4_told_15 (by decide) ?_
    exact r_i hx hb hr hlocks (btl_n (Nat.not_lt.mpr c_12)).symm dX4_told_17
set_option maxHeartbeats 4000000 in
set_option maxRecDepth 100000 in
theorem c_X4_told_n (l : Launch) (dC : Nat → ClassId) (dI : Nat → Nat → Nat) (cI cJ cZ : ClassId) (a : Nat → Nat) (w : Nat → Int64) (o d : Nat → Int32) (n : Nat) (hw : Nat → Int64) (ho hd : Nat → Int32) (hn : Nat) (pl le so : Nat → Int32) (sn : Nat) (ta : Nat → Int32) (v bd : Nat) (V O E HW HO HE SA SL SI : Nat → Nat) (hDD : bDD w o d n V O E) (hHH : bHH hw ho hd hn HW HO HE) (hSS : bSS pl le so sn SA SL SI) (hv : bwf v) (hbd : 2 ≤ bd ∧ bd ≤ 8) (k : Nat) (hk31 : k < 2 ^ 31) (g : Nat) (hg : g < 7) : Met l yX4_told wsX4_told rm_X4_told (rPc (dC, dI) (tysA cI cJ cZ) (wb a cI cJ cZ w o d n hw ho hd hn pl le so sn ta v bd) [.ref (a 0), .int (nI (k)), .int (nI (g))]) (Ri (btl V n k (g + 1))) 0 0 (fun _ => False) := by
  refine met_r (cc := cX4_told) (maxL := 6) (ret := (some .int)) (own := RX4) (by decide) rfl rfl (Nat.le_of_ble_eq_true rfl) ?_
  intro p e s m below meth c S hr hlocks hP hK ls hl
  obtain ⟨hx, hb, hml, hown, hts⟩ := id S
  have hl : lv_has ls 6 [(0, .ref (a 0)), (1, .int (nI (k))), (2, .int (nI (g)))] := hl
  have hi4 : ∀ w ∈ wsX40, w ∈ wsX4_told := fun _ h => List.mem_cons_of_mem _ (List.mem_append_left _ (List.mem_append_right _ h))
  have hi0 : ∀ w ∈ wsX00, w ∈ wsX4_told := fun _ h => List.mem_cons_of_mem _ (List.mem_append_right _ h)
  obtain ⟨hn40, hk⟩ := id hDD; obtain ⟨hh12, hkh⟩ := id hHH; obtain ⟨hs8, hks⟩ := id hSS
  refine lv_iload_n hx hb dX4_told_0 rfl (lv_at hl 1 rfl) ?_
  refine z_lt (tgt := 15) hx hb dX4_told_1 (by decide) (by omega) ?_
  refine lv_iload_n hx hb dX4_told_4 rfl (lv_at hl 1 rfl) ?_
  refine lv_aload_n hx hb dX4_told_5 rfl (lv_at hl 0 rfl) ?_
  refine va_get (D := (dC, dI)) (ci := 3) (v := .ref (a 1)) (C := RX4) (T := TX4) (N := 6) hx hb hts hi4 hown hK hP 0 rfl rfl 0 (by decide) (hts (.fieldLink RX4 10 "BurstWords" "dictionary" "LBurstWords$Dictionary;") (by decide +kernel)) (fun _ h9 => h9) rfl dX4_told_6 ?_
  refine c_Vi (As := []) (rest := [.int (nI (k))]) (ci := 0) (q0 := 0) S (c_X0_size l dC dI cI cJ cZ (a 1) (a 2) (a 3) (a 4) w o d n V O E hDD ) (cwV 0 hts gX4_told_X0_size rfl rfl rfl (by decide +kernel) ⟨Nat.le_of_ble_eq_true rfl, Nat.le_of_ble_eq_true rfl⟩) hK (hP.sub [1, 2, 3, 4] rfl) rfl rfl rfl hl.1 rfl (Nat.le_of_ble_eq_true rfl) dX4_told_9 ⟨Nat.le_of_ble_eq_true rfl, Nat.le_of_ble_eq_true rfl⟩ ?_
  refine n_lt (tgt := 18) hx hb dX4_told_12 (by decide) (by omega) (by omega) (fun c_12 => ?_) (fun c_12 => ?_)
  · refine lv_aload_n hx hb dX4_told_18 rfl (lv_at hl 0 rfl) ?_
    refine va_get (D := (dC, dI)) (ci := 3) (v := .ref (a 1)) (C := RX4) (T := TX4) (N := 6) hx hb hts hi4 hown hK hP 0 rfl rfl 0 (by decide) (hts (.fieldLink RX4 10 "BurstWords" "dictionary" "LBurstWords$Dictionary;") (by decide +kernel)) (fun _ h9 => h9) rfl dX4_told_19 ?_
    refine lv_iload_n hx hb dX4_told_22 rfl (lv_at hl 1 rfl) ?_
    refine c_Vl (As := [.int (nI (k))]) (rest := []) (ci := 0) (q0 := 0) S (c_X0_wordAt_in l dC dI cI cJ cZ (a 1) (a 2) (a 3) (a 4) w o d n V O E hDD k (by omega)) (cwV 1 hts gX4_told_X0_wordAt rfl rfl rfl (by decide +kernel) ⟨Nat.le_of_ble_eq_true rfl, Nat.le_of_ble_eq_true rfl⟩) hK (hP.sub [1, 2, 3, 4] rfl) rfl rfl rfl hl.1 rfl (Nat.le_of_ble_eq_true rfl) dX4_told_23 ⟨Nat.le_of_ble_eq_true rfl, Nat.le_of_ble_eq_true rfl⟩ ?_
    refine lv_lstore_n (lv' := [(3, .long (lN (be8 (V k)))), (0, .ref (a 0)), (1, .int (nI (k))), (2, .int (nI (g)))]) hx hb dX4_told_26 rfl hl (by decide) rfl (fun ls hl => ?_)
    refine lv_iload_n hx hb dX4_told_27 rfl (lv_at hl 3 rfl) ?_
    refine z_ge (tgt := 36) hx hb dX4_told_28 (by decide) (by omega) ?_
    refine lv_lload_n hx hb dX4_told_36 rfl (lv_at hl 0 rfl) ?_
    refine lv_iload_n hx hb dX4_told_37 rfl (lv_at hl 3 rfl) ?_
    refine c_Si (As := [.long (lN (be8 (V k))), .int (nI (g))]) (rest := []) S (c_X3_letterAt l (V k) g (by omega)) (va_cwS 2 hts gX4_told_X3_letterAt rfl rfl rfl (by decide +kernel) ⟨Nat.le_of_ble_eq_true rfl, Nat.le_of_ble_eq_true rfl⟩) rfl hl.1 rfl (Nat.le_of_ble_eq_true rfl) dX4_told_38 ⟨Nat.le_of_ble_eq_true rfl, Nat.le_of_ble_eq_true rfl⟩ ?_
    refine lv_istore (lv' := [(5, .int (nI (bch (bsg (V k) g)))), (3, .long (lN (be8 (V k)))), (0, .ref (a 0)), (1, .int (nI (k))), (2, .int (nI (g)))]) hx hb dX4_told_41 hl (by decide) rfl (fun ls hl => ?_)
    refine lv_iload hx hb dX4_told_43 (lv_at hl 0 rfl) ?_
    refine z_ne (tgt := 53) hx hb dX4_told_45 (by decide) (Nat.lt_trans (bch_sg _ _) (by decide)) (fun c_45 => ?_) (fun c_45 => ?_)
    · refine lv_iload hx hb dX4_told_53 (lv_at hl 0 rfl) ?_
      exact r_i hx hb hr hlocks (by rw [btl_y c_12 (bch_p c_45), bch_v (bch_p c_45)]) dX4_told_55
    · refine lv_bipush (v := (-9 : Int32)) hx hb dX4_told_48 (by decide) ?_
      refine lv_goto (tgt := 55) hx hb dX4_told_50 (by decide) ?_
      exact r_i hx hb hr hlocks (btl_z c_12 (bch_0.mp c_45)).symm dX4_told_55
  · refine lv_bipush (v := (-9 : Int32)) hx hb dX4_told_15 (by decide) ?_
    exact r_i hx hb hr hlocks (btl_n (Nat.not_lt.mpr c_12)).symm dX4_told_17
theorem c_X4_told (l : Launch) (dC : Nat → ClassId) (dI : Nat → Nat → Nat) (cI cJ cZ : ClassId) (a : Nat → Nat) (w : Nat → Int64) (o d : Nat → Int32) (n : Nat) (hw : Nat → Int64) (ho hd : Nat → Int32) (hn : Nat) (pl le so : Nat → Int32) (sn : Nat) (ta : Nat → Int32) (v bd : Nat) (V O E HW HO HE SA SL SI : Nat → Nat) (hDD : bDD w o d n V O E) (hHH : bHH hw ho hd hn HW HO HE) (hSS : bSS pl le so sn SA SL SI) (hv : bwf v) (hbd : 2 ≤ bd ∧ bd ≤ 8) (k : Nat) (hk31 : k < 2 ^ 31) (g : Nat) (hg : g ≤ 7) : Met l yX4_told wsX4_told rm_X4_told (rPc (dC, dI) (tysA cI cJ cZ) (wb a cI cJ cZ w o d n hw ho hd hn pl le so sn ta v bd) [.ref (a 0), .int (nI k), .int (nM g)]) (Ri (btl V n k g)) 0 0 (fun _ => False) := by
  cases g with
  | zero => rw [nM_0]; exact c_X4_told_l l dC dI cI cJ cZ a w o d n hw ho hd hn pl le so sn ta v bd V O E HW HO HE SA SL SI hDD hHH hSS hv hbd k hk31
  | succ g => rw [nM_s]; exact c_X4_told_n l dC dI cI cJ cZ a w o d n hw ho hd hn pl le so sn ta v bd V O E HW HO HE SA SL SI hDD hHH hSS hv hbd k hk31 g (by omega)
abbrev rm_X4_kth : Room := { frames := 4, cells := 0, slots := 0, locals := 89 }
set_option maxHeartbeats 4000000 in
set_option maxRecDepth 100000 in
theorem c_X4_kth (l : Launch) (dC : Nat → ClassId) (dI : Nat → Nat → Nat) (cI cJ cZ : ClassId) (a : Nat → Nat) (w : Nat → Int64) (o d : Nat → Int32) (n : Nat) (hw : Nat → Int64) (ho hd : Nat → Int32) (hn : Nat) (pl le so : Nat → Int32) (sn : Nat) (ta : Nat → Int32) (v bd : Nat) (V O E HW HO HE SA SL SI : Nat → Nat) (hDD : bDD w o d n V O E) (hHH : bHH hw ho hd hn HW HO HE) (hSS : bSS pl le so sn SA SL SI) (hv : bwf v) (hbd : 2 ≤ bd ∧ bd ≤ 8) (x : Int32) (y : Int32) : Met l yX4_kth wsX4_kth rm_X4_kth (rPc (dC, dI) (tysA cI cJ cZ) (wb a cI cJ cZ w o d n hw ho hd hn pl le so sn ta v bd) [.ref (a 0), .int (x), .int (y)]) (Ri (cl_kth V O n x y)) 0 0 (fun _ => False) := by
  refine met_r (cc := cX4_kth) (maxL := 3) (ret := (some .int)) (own := RX4) (by decide) rfl rfl (Nat.le_of_ble_eq_true rfl) ?_
  intro p e s m below meth c S hr hlocks hP hK ls hl
  obtain ⟨hx, hb, hml, hown, hts⟩ := id S
  have hl : lv_has ls 3 [(0, .ref (a 0)), (1, .int (x)), (2, .int (y))] := hl
  have hi4 : ∀ w ∈ wsX40, w ∈ wsX4_kth := fun _ h => List.mem_cons_of_mem _ (List.mem_append_left _ (List.mem_append_right _ h))
  have hi0 : ∀ w ∈ wsX00, w ∈ wsX4_kth := fun _ h => List.mem_cons_of_mem _ (List.mem_append_right _ h)
  obtain ⟨hn40, hk⟩ := id hDD; obtain ⟨hh12, hkh⟩ := id hHH; obtain ⟨hs8, hks⟩ := id hSS
  refine lv_iload_n hx hb dX4_kth_0 rfl (lv_at hl 1 rfl) ?_
  refine lv_if_lt (tgt := 11) hx hb dX4_kth_1 (by decide) (fun c_1 => ?_) (fun c_1 => ?_)
  · refine lv_iconst (v := (-1 : Int32)) hx hb dX4_kth_11 (by decide) ?_
    exact r_i hx hb hr hlocks (by rw [cl_kth, if_pos c_1]) dX4_kth_12
  · refine lv_iload_n hx hb dX4_kth_4 rfl (lv_at hl 2 rfl) ?_
    refine c_Si (As := [.int (y)]) (rest := []) S (c_X4_isAsked l (y)) (va_cwS 1 hts gX4_kth_X4_isAsked rfl rfl rfl (by decide +kernel) ⟨Nat.le_of_ble_eq_true rfl, Nat.le_of_ble_eq_true rfl⟩) rfl hl.1 rfl (Nat.le_of_ble_eq_true rfl) dX4_kth_5 ⟨Nat.le_of_ble_eq_true rfl, Nat.le_of_ble_eq_true rfl⟩ ?_
    refine b_ne (tgt := 13) hx hb dX4_kth_8 (by decide) (fun c_8 => ?_) (fun c_8 => ?_)
    · obtain ⟨k, hk31, hxk⟩ := nI_of c_1
      have hl := lv_cg (l' := [(0, .ref (a 0)), (1, .int (nI (k))), (2, .int (y))]) hl (by rw [hxk])
      obtain ⟨g, hg, hyg⟩ := bak_M c_8
      have hl := lv_cg (l' := [(0, .ref (a 0)), (1, .int (nI (k))), (2, .int (nM g))]) hl (by rw [hyg])
      refine lv_aload_n hx hb dX4_kth_13 rfl (lv_at hl 0 rfl) ?_
      refine lv_aload_n hx hb dX4_kth_14 rfl (lv_at hl 0 rfl) ?_
      refine va_get (D := (dC, dI)) (ci := 3) (v := .ref (a 1)) (C := RX4) (T := TX4) (N := 6) hx hb hts hi4 hown hK hP 0 rfl rfl 0 (by decide) (hts (.fieldLink RX4 10 "BurstWords" "dictionary" "LBurstWords$Dictionary;") (by decide +kernel)) (fun _ h9 => h9) rfl dX4_kth_15 ?_
      refine lv_iload_n hx hb dX4_kth_18 rfl (lv_at hl 1 rfl) ?_
      refine c_Vi (As := [.int (nI (k))]) (rest := [.ref (a 0)]) (ci := 0) (q0 := 0) S (c_X0_holderOf l dC dI cI cJ cZ (a 1) (a 2) (a 3) (a 4) w o d n V O E hDD k (by omega)) (cwV 1 hts gX4_kth_X0_holderOf rfl rfl rfl (by decide +kernel) ⟨Nat.le_of_ble_eq_true rfl, Nat.le_of_ble_eq_true rfl⟩) hK (hP.sub [1, 2, 3, 4] rfl) rfl rfl rfl hl.1 rfl (Nat.le_of_ble_eq_true rfl) dX4_kth_19 ⟨Nat.le_of_ble_eq_true rfl, Nat.le_of_ble_eq_true rfl⟩ ?_
      by_cases hsp : bfs (fun i => decide (k < fb_sm O (i + 1))) n < n
      · refine tpi (bopt_y hsp) ?_
        refine lv_iload_n hx hb dX4_kth_22 rfl (lv_at hl 2 rfl) ?_
        refine c_Vi (As := [.int (nI (bfs (fun i => decide (k < fb_sm O (i + 1))) n)), .int (nM g)]) (rest := []) (ci := 3) (q0 := 0) S (c_X4_told l dC dI cI cJ cZ a w o d n hw ho hd hn pl le so sn ta v bd V O E HW HO HE SA SL SI hDD hHH hSS hv hbd (bfs (fun i => decide (k < fb_sm O (i + 1))) n) (by omega) g hg) (cwV 2 hts gX4_kth_X4_told rfl rfl rfl (by decide +kernel) ⟨Nat.le_of_ble_eq_true rfl, Nat.le_of_ble_eq_true rfl⟩) hK hP rfl rfl rfl hl.1 rfl (Nat.le_of_ble_eq_true rfl) dX4_kth_23 ⟨Nat.le_of_ble_eq_true rfl, Nat.le_of_ble_eq_true rfl⟩ ?_
        exact r_i hx hb hr hlocks (by rw [cl_kth, if_neg c_1, if_pos c_8, hxk, hyg, nI_clamp hk31, bgi_M hg]) dX4_kth_26
      · refine tpi (bopt_n hsp) ?_
        refine lv_iload_n hx hb dX4_kth_22 rfl (lv_at hl 2 rfl) ?_
        refine c_Vi (As := [.int ((-1 : Int32)), .int (nM g)]) (rest := []) (ci := 3) (q0 := 0) S (c_X4_told_m l dC dI cI cJ cZ a w o d n hw ho hd hn pl le so sn ta v bd V O E HW HO HE SA SL SI hDD hHH hSS hv hbd (nM g)) (cwV 2 hts gX4_kth_X4_told rfl rfl rfl (by decide +kernel) ⟨Nat.le_of_ble_eq_true rfl, Nat.le_of_ble_eq_true rfl⟩) hK hP rfl rfl rfl hl.1 rfl (Nat.le_of_ble_eq_true rfl) dX4_kth_23 ⟨Nat.le_of_ble_eq_true rfl, Nat.le_of_ble_eq_true rfl⟩ ?_
        exact r_i hx hb hr hlocks (by rw [cl_kth, if_neg c_1, if_pos c_8, hxk, hyg, nI_clamp hk31, bgi_M hg, btl_n hsp]) dX4_kth_26
    · refine lv_iconst (v := (-1 : Int32)) hx hb dX4_kth_11 (by decide) ?_
      exact r_i hx hb hr hlocks (by rw [cl_kth, if_neg c_1, if_neg (nt c_8)]) dX4_kth_12
abbrev rm_X4_unlike : Room := { frames := 4, cells := 0, slots := 0, locals := 89 }
set_option maxHeartbeats 4000000 in
set_option maxRecDepth 100000 in
theorem c_X4_unlike (l : Launch) (dC : Nat → ClassId) (dI : Nat → Nat → Nat) (cI cJ cZ : ClassId) (a : Nat → Nat) (w : Nat → Int64) (o d : Nat → Int32) (n : Nat) (hw : Nat → Int64) (ho hd : Nat → Int32) (hn : Nat) (pl le so : Nat → Int32) (sn : Nat) (ta : Nat → Int32) (v bd : Nat) (V O E HW HO HE SA SL SI : Nat → Nat) (hDD : bDD w o d n V O E) (hHH : bHH hw ho hd hn HW HO HE) (hSS : bSS pl le so sn SA SL SI) (hv : bwf v) (hbd : 2 ≤ bd ∧ bd ≤ 8) (x : Int32) (y : Int32) : Met l yX4_unlike wsX4_unlike rm_X4_unlike (rPc (dC, dI) (tysA cI cJ cZ) (wb a cI cJ cZ w o d n hw ho hd hn pl le so sn ta v bd) [.ref (a 0), .int (x), .int (y)]) (Ri (cl_unlike V n x y)) 0 0 (fun _ => False) := by
  refine met_r (cc := cX4_unlike) (maxL := 3) (ret := (some .int)) (own := RX4) (by decide) rfl rfl (Nat.le_of_ble_eq_true rfl) ?_
  intro p e s m below meth c S hr hlocks hP hK ls hl
  obtain ⟨hx, hb, hml, hown, hts⟩ := id S
  have hl : lv_has ls 3 [(0, .ref (a 0)), (1, .int (x)), (2, .int (y))] := hl
  have hi4 : ∀ w ∈ wsX40, w ∈ wsX4_unlike := fun _ h => List.mem_cons_of_mem _ (List.mem_append_left _ (List.mem_append_right _ h))
  have hi0 : ∀ w ∈ wsX00, w ∈ wsX4_unlike := fun _ h => List.mem_cons_of_mem _ (List.mem_append_right _ h)
  obtain ⟨hn40, hk⟩ := id hDD; obtain ⟨hh12, hkh⟩ := id hHH; obtain ⟨hs8, hks⟩ := id hSS
  refine lv_iload_n hx hb dX4_unlike_0 rfl (lv_at hl 1 rfl) ?_
  refine lv_if_lt (tgt := 11) hx hb dX4_unlike_1 (by decide) (fun c_1 => ?_) (fun c_1 => ?_)
  · refine lv_iconst (v := (-1 : Int32)) hx hb dX4_unlike_11 (by decide) ?_
    exact r_i hx hb hr hlocks (by rw [cl_unlike, if_pos c_1]) dX4_unlike_12
  · refine lv_iload_n hx hb dX4_unlike_4 rfl (lv_at hl 2 rfl) ?_
    refine c_Si (As := [.int (y)]) (rest := []) S (c_X4_isAsked l (y)) (va_cwS 1 hts gX4_unlike_X4_isAsked rfl rfl rfl (by decide +kernel) ⟨Nat.le_of_ble_eq_true rfl, Nat.le_of_ble_eq_true rfl⟩) rfl hl.1 rfl (Nat.le_of_ble_eq_true rfl) dX4_unlike_5 ⟨Nat.le_of_ble_eq_true rfl, Nat.le_of_ble_eq_true rfl⟩ ?_
    refine b_ne (tgt := 13) hx hb dX4_unlike_8 (by decide) (fun c_8 => ?_) (fun c_8 => ?_)
    · obtain ⟨k, hk31, hxk⟩ := nI_of c_1
      have hl := lv_cg (l' := [(0, .ref (a 0)), (1, .int (nI (k))), (2, .int (y))]) hl (by rw [hxk])
      obtain ⟨g, hg, hyg⟩ := bak_M c_8
      have hl := lv_cg (l' := [(0, .ref (a 0)), (1, .int (nI (k))), (2, .int (nM g))]) hl (by rw [hyg])
      refine lv_aload_n hx hb dX4_unlike_13 rfl (lv_at hl 0 rfl) ?_
      refine lv_iload_n hx hb dX4_unlike_14 rfl (lv_at hl 1 rfl) ?_
      refine lv_iload_n hx hb dX4_unlike_15 rfl (lv_at hl 2 rfl) ?_
      refine c_Vi (As := [.int (nI (k)), .int (nM g)]) (rest := []) (ci := 3) (q0 := 0) S (c_X4_told l dC dI cI cJ cZ a w o d n hw ho hd hn pl le so sn ta v bd V O E HW HO HE SA SL SI hDD hHH hSS hv hbd k (by omega) g hg) (cwV 2 hts gX4_unlike_X4_told rfl rfl rfl (by decide +kernel) ⟨Nat.le_of_ble_eq_true rfl, Nat.le_of_ble_eq_true rfl⟩) hK hP rfl rfl rfl hl.1 rfl (Nat.le_of_ble_eq_true rfl) dX4_unlike_16 ⟨Nat.le_of_ble_eq_true rfl, Nat.le_of_ble_eq_true rfl⟩ ?_
      exact r_i hx hb hr hlocks (by rw [cl_unlike, if_neg c_1, if_pos c_8, hxk, hyg, nI_clamp hk31, bgi_M hg]) dX4_unlike_19
    · refine lv_iconst (v := (-1 : Int32)) hx hb dX4_unlike_11 (by decide) ?_
      exact r_i hx hb hr hlocks (by rw [cl_unlike, if_neg c_1, if_neg (nt c_8)]) dX4_unlike_12
abbrev rm_X4_top : Room := { frames := 6, cells := 0, slots := 0, locals := 139 }
set_option maxHeartbeats 4000000 in
set_option maxRecDepth 100000 in
theorem c_X4_top (l : Launch) (dC : Nat → ClassId) (dI : Nat → Nat → Nat) (cI cJ cZ : ClassId) (a : Nat → Nat) (w : Nat → Int64) (o d : Nat → Int32) (n : Nat) (hw : Nat → Int64) (ho hd : Nat → Int32) (hn : Nat) (pl le so : Nat → Int32) (sn : Nat) (ta : Nat → Int32) (v bd : Nat) (V O E HW HO HE SA SL SI : Nat → Nat) (hDD : bDD w o d n V O E) (hHH : bHH hw ho hd hn HW HO HE) (hSS : bSS pl le so sn SA SL SI) (hv : bwf v) (hbd : 2 ≤ bd ∧ bd ≤ 8) (x : Int32) (y : Int32) : Met l yX4_top wsX4_top rm_X4_top (rPc (dC, dI) (tysA cI cJ cZ) (wb a cI cJ cZ w o d n hw ho hd hn pl le so sn ta v bd) [.ref (a 0), .int (x), .int (y)]) (Ri (cl_top V O n v x y)) 0 0 (fun _ => False) := by
  refine met_r (cc := cX4_top) (maxL := 3) (ret := (some .int)) (own := RX4) (by decide) rfl rfl (Nat.le_of_ble_eq_true rfl) ?_
  intro p e s m below meth c S hr hlocks hP hK ls hl
  obtain ⟨hx, hb, hml, hown, hts⟩ := id S
  have hl : lv_has ls 3 [(0, .ref (a 0)), (1, .int (x)), (2, .int (y))] := hl
  have hi4 : ∀ w ∈ wsX40, w ∈ wsX4_top := fun _ h => List.mem_cons_of_mem _ (List.mem_append_left _ (List.mem_append_right _ h))
  have hi0 : ∀ w ∈ wsX00, w ∈ wsX4_top := fun _ h => List.mem_cons_of_mem _ (List.mem_append_right _ h)
  obtain ⟨hn40, hk⟩ := id hDD; obtain ⟨hh12, hkh⟩ := id hHH; obtain ⟨hs8, hks⟩ := id hSS
  refine lv_iload_n hx hb dX4_top_0 rfl (lv_at hl 1 rfl) ?_
  refine lv_if_lt (tgt := 11) hx hb dX4_top_1 (by decide) (fun c_1 => ?_) (fun c_1 => ?_)
  · refine lv_iconst (v := (-1 : Int32)) hx hb dX4_top_11 (by decide) ?_
    exact r_i hx hb hr hlocks (by rw [cl_top, if_pos c_1]) dX4_top_12
  · refine lv_iload_n hx hb dX4_top_4 rfl (lv_at hl 2 rfl) ?_
    refine c_Si (As := [.int (y)]) (rest := []) S (c_X4_isAsked l (y)) (va_cwS 1 hts gX4_top_X4_isAsked rfl rfl rfl (by decide +kernel) ⟨Nat.le_of_ble_eq_true rfl, Nat.le_of_ble_eq_true rfl⟩) rfl hl.1 rfl (Nat.le_of_ble_eq_true rfl) dX4_top_5 ⟨Nat.le_of_ble_eq_true rfl, Nat.le_of_ble_eq_true rfl⟩ ?_
    refine b_ne (tgt := 13) hx hb dX4_top_8 (by decide) (fun c_8 => ?_) (fun c_8 => ?_)
    · obtain ⟨k, hk31, hxk⟩ := nI_of c_1
      have hl := lv_cg (l' := [(0, .ref (a 0)), (1, .int (nI (k))), (2, .int (y))]) hl (by rw [hxk])
      obtain ⟨g, hg, hyg⟩ := bak_M c_8
      have hl := lv_cg (l' := [(0, .ref (a 0)), (1, .int (nI (k))), (2, .int (nM g))]) hl (by rw [hyg])
      refine lv_aload_n hx hb dX4_top_13 rfl (lv_at hl 0 rfl) ?_
      refine lv_aload_n hx hb dX4_top_14 rfl (lv_at hl 0 rfl) ?_
      refine va_get (D := (dC, dI)) (ci := 3) (v := .ref (a 1)) (C := RX4) (T := TX4) (N := 6) hx hb hts hi4 hown hK hP 0 rfl rfl 0 (by decide) (hts (.fieldLink RX4 10 "BurstWords" "dictionary" "LBurstWords$Dictionary;") (by decide +kernel)) (fun _ h9 => h9) rfl dX4_top_15 ?_
      refine lv_aload_n hx hb dX4_top_18 rfl (lv_at hl 0 rfl) ?_
      refine va_get (D := (dC, dI)) (ci := 3) (v := .long (lN (be8 v))) (C := RX4) (T := TX4) (N := 6) hx hb hts hi4 hown hK hP 0 rfl rfl 4 (by decide) (hts (.fieldLink RX4 36 "BurstWords" "word" "J") (by decide +kernel)) (fun _ h9 => h9) rfl dX4_top_19 ?_
      refine lv_iload_n hx hb dX4_top_22 rfl (lv_at hl 1 rfl) ?_
      refine c_Vi (As := [.long (lN (be8 v)), .int (nI (k))]) (rest := [.ref (a 0)]) (ci := 0) (q0 := 0) S (c_X0_frequent l dC dI cI cJ cZ (a 1) (a 2) (a 3) (a 4) w o d n V O E hDD v k (by omega)) (cwV 2 hts gX4_top_X0_frequent rfl rfl rfl (by decide +kernel) ⟨Nat.le_of_ble_eq_true rfl, Nat.le_of_ble_eq_true rfl⟩) hK (hP.sub [1, 2, 3, 4] rfl) rfl rfl rfl hl.1 rfl (Nat.le_of_ble_eq_true rfl) dX4_top_23 ⟨Nat.le_of_ble_eq_true rfl, Nat.le_of_ble_eq_true rfl⟩ ?_
      by_cases hsp : bfs (fun j => (bsh v (V j) == bln v) && (bmf V O n v j == k)) n < n
      · refine tpi (bopt_y hsp) ?_
        refine lv_iload_n hx hb dX4_top_26 rfl (lv_at hl 2 rfl) ?_
        refine c_Vi (As := [.int (nI (bfs (fun j => (bsh v (V j) == bln v) && (bmf V O n v j == k)) n)), .int (nM g)]) (rest := []) (ci := 3) (q0 := 0) S (c_X4_told l dC dI cI cJ cZ a w o d n hw ho hd hn pl le so sn ta v bd V O E HW HO HE SA SL SI hDD hHH hSS hv hbd (bfs (fun j => (bsh v (V j) == bln v) && (bmf V O n v j == k)) n) (by omega) g hg) (cwV 2 hts gX4_top_X4_told rfl rfl rfl (by decide +kernel) ⟨Nat.le_of_ble_eq_true rfl, Nat.le_of_ble_eq_true rfl⟩) hK hP rfl rfl rfl hl.1 rfl (Nat.le_of_ble_eq_true rfl) dX4_top_27 ⟨Nat.le_of_ble_eq_true rfl, Nat.le_of_ble_eq_true rfl⟩ ?_
        exact r_i hx hb hr hlocks (by rw [cl_top, if_neg c_1, if_pos c_8, hxk, hyg, nI_clamp hk31, bgi_M hg]) dX4_top_30
      · refine tpi (bopt_n hsp) ?_
        refine lv_iload_n hx hb dX4_top_26 rfl (lv_at hl 2 rfl) ?_
        refine c_Vi (As := [.int ((-1 : Int32)), .int (nM g)]) (rest := []) (ci := 3) (q0 := 0) S (c_X4_told_m l dC dI cI cJ cZ a w o d n hw ho hd hn pl le so sn ta v bd V O E HW HO HE SA SL SI hDD hHH hSS hv hbd (nM g)) (cwV 2 hts gX4_top_X4_told rfl rfl rfl (by decide +kernel) ⟨Nat.le_of_ble_eq_true rfl, Nat.le_of_ble_eq_true rfl⟩) hK hP rfl rfl rfl hl.1 rfl (Nat.le_of_ble_eq_true rfl) dX4_top_27 ⟨Nat.le_of_ble_eq_true rfl, Nat.le_of_ble_eq_true rfl⟩ ?_
        exact r_i hx hb hr hlocks (by rw [cl_top, if_neg c_1, if_pos c_8, hxk, hyg, nI_clamp hk31, bgi_M hg, btl_n hsp]) dX4_top_30
    · refine lv_iconst (v := (-1 : Int32)) hx hb dX4_top_11 (by decide) ?_
      exact r_i hx hb hr hlocks (by rw [cl_top, if_neg c_1, if_neg (nt c_8)]) dX4_top_12
abbrev rm_X4_next : Room := { frames := 4, cells := 0, slots := 0, locals := 89 }
set_option maxHeartbeats 4000000 in
set_option maxRecDepth 100000 in
theorem c_X4_next (l : Launch) (dC : Nat → ClassId) (dI : Nat → Nat → Nat) (cI cJ cZ : ClassId) (a : Nat → Nat) (w : Nat → Int64) (o d : Nat → Int32) (n : Nat) (hw : Nat → Int64) (ho hd : Nat → Int32) (hn : Nat) (pl le so : Nat → Int32) (sn : Nat) (ta : Nat → Int32) (v bd : Nat) (V O E HW HO HE SA SL SI : Nat → Nat) (hDD : bDD w o d n V O E) (hHH : bHH hw ho hd hn HW HO HE) (hSS : bSS pl le so sn SA SL SI) (hv : bwf v) (hbd : 2 ≤ bd ∧ bd ≤ 8) (y : Int32) : Met l yX4_next wsX4_next rm_X4_next (rPc (dC, dI) (tysA cI cJ cZ) (wb a cI cJ cZ w o d n hw ho hd hn pl le so sn ta v bd) [.ref (a 0), .int (y)]) (Ri (cl_next V O n v y)) 0 0 (fun _ => False) := by
  refine met_r (cc := cX4_next) (maxL := 3) (ret := (some .int)) (own := RX4) (by decide) rfl rfl (Nat.le_of_ble_eq_true rfl) ?_
  intro p e s m below meth c S hr hlocks hP hK ls hl
  obtain ⟨hx, hb, hml, hown, hts⟩ := id S
  have hl : lv_has ls 3 [(0, .ref (a 0)), (1, .int (y))] := hl
  have hi4 : ∀ w ∈ wsX40, w ∈ wsX4_next := fun _ h => List.mem_cons_of_mem _ (List.mem_append_left _ (List.mem_append_right _ h))
  have hi0 : ∀ w ∈ wsX00, w ∈ wsX4_next := fun _ h => List.mem_cons_of_mem _ (List.mem_append_right _ h)
  obtain ⟨hn40, hk⟩ := id hDD; obtain ⟨hh12, hkh⟩ := id hHH; obtain ⟨hs8, hks⟩ := id hSS
  have hpl := bpl_le V n v
  refine lv_iload_n hx hb dX4_next_0 rfl (lv_at hl 1 rfl) ?_
  refine c_Si (As := [.int (y)]) (rest := []) S (c_X4_isAsked l (y)) (va_cwS 1 hts gX4_next_X4_isAsked rfl rfl rfl (by decide +kernel) ⟨Nat.le_of_ble_eq_true rfl, Nat.le_of_ble_eq_true rfl⟩) rfl hl.1 rfl (Nat.le_of_ble_eq_true rfl) dX4_next_1 ⟨Nat.le_of_ble_eq_true rfl, Nat.le_of_ble_eq_true rfl⟩ ?_
  refine b_ne (tgt := 9) hx hb dX4_next_4 (by decide) (fun c_4 => ?_) (fun c_4 => ?_)
  · obtain ⟨g, hg, hyg⟩ := bak_M c_4
    have hl := lv_cg (l' := [(0, .ref (a 0)), (1, .int (nM g))]) hl (by rw [hyg])
    refine lv_aload_n hx hb dX4_next_9 rfl (lv_at hl 0 rfl) ?_
    refine va_get (D := (dC, dI)) (ci := 3) (v := .ref (a 1)) (C := RX4) (T := TX4) (N := 6) hx hb hts hi4 hown hK hP 0 rfl rfl 0 (by decide) (hts (.fieldLink RX4 10 "BurstWords" "dictionary" "LBurstWords$Dictionary;") (by decide +kernel)) (fun _ h9 => h9) rfl dX4_next_10 ?_
    refine lv_aload_n hx hb dX4_next_13 rfl (lv_at hl 0 rfl) ?_
    refine va_get (D := (dC, dI)) (ci := 3) (v := .long (lN (be8 v))) (C := RX4) (T := TX4) (N := 6) hx hb hts hi4 hown hK hP 0 rfl rfl 4 (by decide) (hts (.fieldLink RX4 36 "BurstWords" "word" "J") (by decide +kernel)) (fun _ h9 => h9) rfl dX4_next_14 ?_
    refine c_Vi (As := [.long (lN (be8 v))]) (rest := []) (ci := 0) (q0 := 0) S (c_X0_placeOf l dC dI cI cJ cZ (a 1) (a 2) (a 3) (a 4) w o d n V O E hDD v hv.1) (cwV 1 hts gX4_next_X0_placeOf rfl rfl rfl (by decide +kernel) ⟨Nat.le_of_ble_eq_true rfl, Nat.le_of_ble_eq_true rfl⟩) hK (hP.sub [1, 2, 3, 4] rfl) rfl rfl rfl hl.1 rfl (Nat.le_of_ble_eq_true rfl) dX4_next_17 ⟨Nat.le_of_ble_eq_true rfl, Nat.le_of_ble_eq_true rfl⟩ ?_
    refine lv_istore_n (lv' := [(2, .int (nI (bpl V n v))), (0, .ref (a 0)), (1, .int (nM g))]) hx hb dX4_next_20 rfl hl (by decide) rfl (fun ls hl => ?_)
    refine lv_aload_n hx hb dX4_next_21 rfl (lv_at hl 1 rfl) ?_
    refine lv_aload_n hx hb dX4_next_22 rfl (lv_at hl 1 rfl) ?_
    refine va_get (D := (dC, dI)) (ci := 3) (v := .ref (a 1)) (C := RX4) (T := TX4) (N := 6) hx hb hts hi4 hown hK hP 0 rfl rfl 0 (by decide) (hts (.fieldLink RX4 10 "BurstWords" "dictionary" "LBurstWords$Dictionary;") (by decide +kernel)) (fun _ h9 => h9) rfl dX4_next_23 ?_
    refine lv_aload_n hx hb dX4_next_26 rfl (lv_at hl 1 rfl) ?_
    refine va_get (D := (dC, dI)) (ci := 3) (v := .long (lN (be8 v))) (C := RX4) (T := TX4) (N := 6) hx hb hts hi4 hown hK hP 0 rfl rfl 4 (by decide) (hts (.fieldLink RX4 36 "BurstWords" "word" "J") (by decide +kernel)) (fun _ h9 => h9) rfl dX4_next_27 ?_
    refine c_Vi (As := [.long (lN (be8 v))]) (rest := [.ref (a 0)]) (ci := 0) (q0 := 0) S (c_X0_oftenOf l dC dI cI cJ cZ (a 1) (a 2) (a 3) (a 4) w o d n V O E hDD v hv.1) (cwV 1 hts gX4_next_X0_oftenOf rfl rfl rfl (by decide +kernel) ⟨Nat.le_of_ble_eq_true rfl, Nat.le_of_ble_eq_true rfl⟩) hK (hP.sub [1, 2, 3, 4] rfl) rfl rfl rfl hl.1 rfl (Nat.le_of_ble_eq_true rfl) dX4_next_30 ⟨Nat.le_of_ble_eq_true rfl, Nat.le_of_ble_eq_true rfl⟩ ?_
    refine z_ne (tgt := 40) hx hb dX4_next_33 (by decide) (bof_31 hDD) (fun c_33 => ?_) (fun c_33 => ?_)
    · refine lv_iload_n hx hb dX4_next_40 rfl (lv_at hl 0 rfl) ?_
      refine lv_iconst (v := nI (1)) hx hb dX4_next_41 (by decide) ?_
      refine lv_iadd hx hb dX4_next_42 ?_
      refine tpi (nI_add _ _) ?_
      refine lv_iload_n hx hb dX4_next_43 rfl (lv_at hl 2 rfl) ?_
      refine c_Vi (As := [.int (nI ((bpl V n v) + 1)), .int (nM g)]) (rest := []) (ci := 3) (q0 := 0) S (c_X4_told l dC dI cI cJ cZ a w o d n hw ho hd hn pl le so sn ta v bd V O E HW HO HE SA SL SI hDD hHH hSS hv hbd ((bpl V n v) + 1) (by omega) g hg) (cwV 2 hts gX4_next_X4_told rfl rfl rfl (by decide +kernel) ⟨Nat.le_of_ble_eq_true rfl, Nat.le_of_ble_eq_true rfl⟩) hK hP rfl rfl rfl hl.1 rfl (Nat.le_of_ble_eq_true rfl) dX4_next_44 ⟨Nat.le_of_ble_eq_true rfl, Nat.le_of_ble_eq_true rfl⟩ ?_
      exact r_i hx hb hr hlocks (by rw [cl_next, if_pos c_4, hyg, bgi_M hg, if_neg (Nat.pos_iff_ne_zero.mp c_33)]) dX4_next_47
    · refine lv_iload_n hx hb dX4_next_36 rfl (lv_at hl 0 rfl) ?_
      refine lv_goto (tgt := 43) hx hb dX4_next_37 (by decide) ?_
      refine lv_iload_n hx hb dX4_next_43 rfl (lv_at hl 2 rfl) ?_
      refine c_Vi (As := [.int (nI (bpl V n v)), .int (nM g)]) (rest := []) (ci := 3) (q0 := 0) S (c_X4_told l dC dI cI cJ cZ a w o d n hw ho hd hn pl le so sn ta v bd V O E HW HO HE SA SL SI hDD hHH hSS hv hbd (bpl V n v) (by omega) g hg) (cwV 2 hts gX4_next_X4_told rfl rfl rfl (by decide +kernel) ⟨Nat.le_of_ble_eq_true rfl, Nat.le_of_ble_eq_true rfl⟩) hK hP rfl rfl rfl hl.1 rfl (Nat.le_of_ble_eq_true rfl) dX4_next_44 ⟨Nat.le_of_ble_eq_true rfl, Nat.le_of_ble_eq_true rfl⟩ ?_
      exact r_i hx hb hr hlocks (by rw [cl_next, if_pos c_4, hyg, bgi_M hg, if_pos c_33]) dX4_next_47
  · refine lv_iconst (v := (-1 : Int32)) hx hb dX4_next_7 (by decide) ?_
    exact r_i hx hb hr hlocks (by rw [cl_next, if_neg (nt c_4)]) dX4_next_8
abbrev rm_X4_fit : Room := { frames := 3, cells := 0, slots := 0, locals := 66 }
set_option maxHeartbeats 4000000 in
set_option maxRecDepth 100000 in
theorem c_X4_fit (l : Launch) (dC : Nat → ClassId) (dI : Nat → Nat → Nat) (cI cJ cZ : ClassId) (a : Nat → Nat) (w : Nat → Int64) (o d : Nat → Int32) (n : Nat) (hw : Nat → Int64) (ho hd : Nat → Int32) (hn : Nat) (pl le so : Nat → Int32) (sn : Nat) (ta : Nat → Int32) (v bd : Nat) (V O E HW HO HE SA SL SI : Nat → Nat) (hDD : bDD w o d n V O E) (hHH : bHH hw ho hd hn HW HO HE) (hSS : bSS pl le so sn SA SL SI) (hv : bwf v) (hbd : 2 ≤ bd ∧ bd ≤ 8) (x : Int32) : Met l yX4_fit wsX4_fit rm_X4_fit (rPc (dC, dI) (tysA cI cJ cZ) (wb a cI cJ cZ w o d n hw ho hd hn pl le so sn ta v bd) [.ref (a 0), .int (x)]) (Ri (cl_fit V n SA SL SI sn x)) 0 0 (fun _ => False) := by
  refine met_r (cc := cX4_fit) (maxL := 4) (ret := (some .int)) (own := RX4) (by decide) rfl rfl (Nat.le_of_ble_eq_true rfl) ?_
  intro p e s m below meth c S hr hlocks hP hK ls hl
  obtain ⟨hx, hb, hml, hown, hts⟩ := id S
  have hl : lv_has ls 4 [(0, .ref (a 0)), (1, .int (x))] := hl
  have hi4 : ∀ w ∈ wsX40, w ∈ wsX4_fit := fun _ h => List.mem_cons_of_mem _ (List.mem_append_left _ (List.mem_append_left _ (List.mem_append_right _ h)))
  have hi0 : ∀ w ∈ wsX00, w ∈ wsX4_fit := fun _ h => List.mem_cons_of_mem _ (List.mem_append_left _ (List.mem_append_right _ h))
  have hi2 : ∀ w ∈ wsX20, w ∈ wsX4_fit := fun _ h => List.mem_cons_of_mem _ (List.mem_append_right _ h)
  obtain ⟨hn40, hk⟩ := id hDD; obtain ⟨hh12, hkh⟩ := id hHH; obtain ⟨hs8, hks⟩ := id hSS
  refine lv_iload_n hx hb dX4_fit_0 rfl (lv_at hl 1 rfl) ?_
  refine c_Si (As := [.int (x)]) (rest := []) S (c_X4_isHalf l (x)) (va_cwS 1 hts gX4_fit_X4_isHalf rfl rfl rfl (by decide +kernel) ⟨Nat.le_of_ble_eq_true rfl, Nat.le_of_ble_eq_true rfl⟩) rfl hl.1 rfl (Nat.le_of_ble_eq_true rfl) dX4_fit_1 ⟨Nat.le_of_ble_eq_true rfl, Nat.le_of_ble_eq_true rfl⟩ ?_
  refine b_ne (tgt := 9) hx hb dX4_fit_4 (by decide) (fun c_4 => ?_) (fun c_4 => ?_)
  · refine lv_iconst (v := nI (0)) hx hb dX4_fit_9 (by decide) ?_
    refine lv_istore_n (lv' := [(2, .int (nI (0))), (0, .ref (a 0)), (1, .int (x))]) hx hb dX4_fit_10 rfl hl (by decide) rfl (fun ls hl => ?_)
    refine lv_iconst (v := nI (0)) hx hb dX4_fit_11 (by decide) ?_
    refine lv_istore_n (lv' := [(3, .int (nI (0))), (2, .int (nI (0))), (0, .ref (a 0)), (1, .int (x))]) hx hb dX4_fit_12 rfl hl (by decide) rfl (fun ls hl => ?_)
    have lp_13 : ∀ (j_13 : Nat) (i : Nat), (i ≤ n) → (x = nI 1 → ∀ j, j < i → bft (V j) SA SL SI sn = false) → (n - i) < j_13 → ∀ ls : Array Slot, lv_has ls 4 [(0, .ref (a 0)), (1, .int (x)), (2, .int (nI (fb_ct (fun k => bft (V k) SA SL SI sn) i))), (3, .int (nI (i)))] → W p l e rm_X4_fit s m ([.ref (a 0), .int (x)] : List Value).toArray below meth c s.heap [] 0 0 (MQ below (Ri (cl_fit V n SA SL SI sn x)) ([.ref (a 0), .int (x)] : List Value).toArray s 0 0 (fun _ => False)) (F0 m 13 ls []) := by
      intro j_13
      induction j_13 with
      | zero => intro i _ _ h0; exact absurd h0 (Nat.not_lt_zero _)
      | succ j_13 ih_13 =>
        intro i hi hz hf_13 ls hl
        refine lv_iload_n hx hb dX4_fit_13 rfl (lv_at hl 3 rfl) ?_
        refine lv_aload_n hx hb dX4_fit_14 rfl (lv_at hl 0 rfl) ?_
        refine va_get (D := (dC, dI)) (ci := 3) (v := .ref (a 1)) (C := RX4) (T := TX4) (N := 6) hx hb hts hi4 hown hK hP 0 rfl rfl 0 (by decide) (hts (.fieldLink RX4 10 "BurstWords" "dictionary" "LBurstWords$Dictionary;") (by decide +kernel)) (fun _ h9 => h9) rfl dX4_fit_15 ?_
        refine c_Vi (As := []) (rest := [.int (nI (i))]) (ci := 0) (q0 := 0) S (c_X0_size l dC dI cI cJ cZ (a 1) (a 2) (a 3) (a 4) w o d n V O E hDD ) (cwV 0 hts gX4_fit_X0_size rfl rfl rfl (by decide +kernel) ⟨Nat.le_of_ble_eq_true rfl, Nat.le_of_ble_eq_true rfl⟩) hK (hP.sub [1, 2, 3, 4] rfl) rfl rfl rfl hl.1 rfl (Nat.le_of_ble_eq_true rfl) dX4_fit_18 ⟨Nat.le_of_ble_eq_true rfl, Nat.le_of_ble_eq_true rfl⟩ ?_
        refine n_ge (tgt := 58) hx hb dX4_fit_21 (by decide) (by omega) (by omega) (fun c_21 => ?_) (fun c_21 => ?_)
        · refine lv_iload_n hx hb dX4_fit_58 rfl (lv_at hl 1 rfl) ?_
          refine lv_iconst (v := nI (1)) hx hb dX4_fit_59 (by decide) ?_
          refine lv_icmp_ne (tgt := 68) hx hb dX4_fit_60 (by decide) (fun c_60 => ?_) (fun c_60 => ?_)
          · refine lv_iload_n hx hb dX4_fit_68 rfl (lv_at hl 2 rfl) ?_
            exact r_i hx hb hr hlocks (by rw [cl_fit, if_pos c_4, if_neg c_60, show i = n by omega]) dX4_fit_69
          · refine lv_bipush (v := (-9 : Int32)) hx hb dX4_fit_63 (by decide) ?_
            refine lv_goto (tgt := 69) hx hb dX4_fit_65 (by decide) ?_
            exact r_i hx hb hr hlocks (by rw [cl_fit, if_pos c_4, if_pos c_60, show bfs (fun k => bft (V k) SA SL SI sn) n = n from bfs_eq (Nat.le_refl n) (fun j h => hz c_60 j (by omega)) (fun h => absurd h (Nat.lt_irrefl n)), if_neg (Nat.lt_irrefl n)]) dX4_fit_69
        · refine lv_aload_n hx hb dX4_fit_24 rfl (lv_at hl 0 rfl) ?_
          refine va_get (D := (dC, dI)) (ci := 3) (v := .ref (a 9)) (C := RX4) (T := TX4) (N := 6) hx hb hts hi4 hown hK hP 0 rfl rfl 2 (by decide) (hts (.fieldLink RX4 26 "BurstWords" "sightings" "LBurstWords$Sightings;") (by decide +kernel)) (fun _ h9 => h9) rfl dX4_fit_25 ?_
          refine lv_aload_n hx hb dX4_fit_28 rfl (lv_at hl 0 rfl) ?_
          refine va_get (D := (dC, dI)) (ci := 3) (v := .ref (a 1)) (C := RX4) (T := TX4) (N := 6) hx hb hts hi4 hown hK hP 0 rfl rfl 0 (by decide) (hts (.fieldLink RX4 10 "BurstWords" "dictionary" "LBurstWords$Dictionary;") (by decide +kernel)) (fun _ h9 => h9) rfl dX4_fit_29 ?_
          refine lv_iload_n hx hb dX4_fit_32 rfl (lv_at hl 3 rfl) ?_
          refine c_Vl (As := [.int (nI (i))]) (rest := [.ref (a 9)]) (ci := 0) (q0 := 0) S (c_X0_wordAt_in l dC dI cI cJ cZ (a 1) (a 2) (a 3) (a 4) w o d n V O E hDD i (by omega)) (cwV 1 hts gX4_fit_X0_wordAt rfl rfl rfl (by decide +kernel) ⟨Nat.le_of_ble_eq_true rfl, Nat.le_of_ble_eq_true rfl⟩) hK (hP.sub [1, 2, 3, 4] rfl) rfl rfl rfl hl.1 rfl (Nat.le_of_ble_eq_true rfl) dX4_fit_33 ⟨Nat.le_of_ble_eq_true rfl, Nat.le_of_ble_eq_true rfl⟩ ?_
          refine c_Vi (As := [.long (lN (be8 (V i)))]) (rest := []) (ci := 2) (q0 := 0) S (c_X2_allow l dC dI cI cJ cZ (a 9) (a 10) (a 11) (a 12) pl le so sn SA SL SI hSS (V i)) (cwV 1 hts gX4_fit_X2_allow rfl rfl rfl (by decide +kernel) ⟨Nat.le_of_ble_eq_true rfl, Nat.le_of_ble_eq_true rfl⟩) hK (hP.sub [9, 10, 11, 12] rfl) rfl rfl rfl hl.1 rfl (Nat.le_of_ble_eq_true rfl) dX4_fit_36 ⟨Nat.le_of_ble_eq_true rfl, Nat.le_of_ble_eq_true rfl⟩ ?_
          refine b_eq (tgt := 52) hx hb dX4_fit_39 (by decide) (fun c_39 => ?_) (fun c_39 => ?_)
          · refine lv_iinc (v := nI (i + 1)) (lv' := [(3, .int (nI (i + 1))), (0, .ref (a 0)), (1, .int (x)), (2, .int (nI (fb_ct (fun k => bft (V k) SA SL SI sn) i)))]) hx hb dX4_fit_52 hl (k := 3) rfl (inc1 _) (by decide) rfl (fun ls hl => ?_)
            refine lv_goto (tgt := 13) hx hb dX4_fit_55 (by decide) ?_
            exact ih_13 (i + 1) (by omega) (fun q => lt_s (hz q) c_39) (by omega) ls (lv_cg (l := [(0, .ref (a 0)), (1, .int (x)), (2, .int (nI (fb_ct (fun k => bft (V k) SA SL SI sn) i))), (3, .int (nI (i + 1)))]) (lv_sub hl [1, 2, 3, 0] rfl) (by rw [ct_n (p := (fun k => bft (V k) SA SL SI sn)) (n := i) c_39]))
          · refine lv_iload_n hx hb dX4_fit_42 rfl (lv_at hl 1 rfl) ?_
            refine lv_iconst (v := nI (1)) hx hb dX4_fit_43 (by decide) ?_
            refine lv_icmp_ne (tgt := 49) hx hb dX4_fit_44 (by decide) (fun c_44 => ?_) (fun c_44 => ?_)
            · refine lv_iinc (v := nI ((fb_ct (fun k => bft (V k) SA SL SI sn) i) + 1)) (lv' := [(2, .int (nI ((fb_ct (fun k => bft (V k) SA SL SI sn) i) + 1))), (0, .ref (a 0)), (1, .int (x)), (3, .int (nI (i)))]) hx hb dX4_fit_49 hl (k := 2) rfl (inc1 _) (by decide) rfl (fun ls hl => ?_)
              refine lv_iinc (v := nI (i + 1)) (lv' := [(3, .int (nI (i + 1))), (2, .int (nI ((fb_ct (fun k => bft (V k) SA SL SI sn) i) + 1))), (0, .ref (a 0)), (1, .int (x))]) hx hb dX4_fit_52 hl (k := 3) rfl (inc1 _) (by decide) rfl (fun ls hl => ?_)
              refine lv_goto (tgt := 13) hx hb dX4_fit_55 (by decide) ?_
              exact ih_13 (i + 1) (by omega) (fun q => absurd q c_44) (by omega) ls (lv_cg (l := [(0, .ref (a 0)), (1, .int (x)), (2, .int (nI ((fb_ct (fun k => bft (V k) SA SL SI sn) i) + 1))), (3, .int (nI (i + 1)))]) (lv_sub hl [2, 3, 1, 0] rfl) (by rw [ct_y (p := (fun k => bft (V k) SA SL SI sn)) (n := i) c_39]))
            · refine lv_iload_n hx hb dX4_fit_47 rfl (lv_at hl 3 rfl) ?_
              exact r_i hx hb hr hlocks (by rw [cl_fit, if_pos c_4, if_pos c_44, show bfs (fun k => bft (V k) SA SL SI sn) n = i from bfs_eq hi (hz c_44) (fun _ => c_39), if_pos c_21]) dX4_fit_48
    exact lp_13 _ (0) (by omega) (fun _ => lt_0) (Nat.lt_succ_self _) ls (lv_sub hl [2, 3, 1, 0] rfl)
  · refine lv_iconst (v := (-1 : Int32)) hx hb dX4_fit_7 (by decide) ?_
    exact r_i hx hb hr hlocks (by rw [cl_fit, if_neg (nt c_4)]) dX4_fit_8
abbrev rm_X4_count : Room := { frames := 6, cells := 0, slots := 0, locals := 131 }
set_option maxHeartbeats 4000000 in
set_option maxRecDepth 100000 in
theorem c_X4_count (l : Launch) (dC : Nat → ClassId) (dI : Nat → Nat → Nat) (cI cJ cZ : ClassId) (a : Nat → Nat) (w : Nat → Int64) (o d : Nat → Int32) (n : Nat) (hw : Nat → Int64) (ho hd : Nat → Int32) (hn : Nat) (pl le so : Nat → Int32) (sn : Nat) (ta : Nat → Int32) (v bd : Nat) (V O E HW HO HE SA SL SI : Nat → Nat) (hDD : bDD w o d n V O E) (hHH : bHH hw ho hd hn HW HO HE) (hSS : bSS pl le so sn SA SL SI) (hv : bwf v) (hbd : 2 ≤ bd ∧ bd ≤ 8) (x : Int32) : Met l yX4_count wsX4_count rm_X4_count (rPc (dC, dI) (tysA cI cJ cZ) (wb a cI cJ cZ w o d n hw ho hd hn pl le so sn ta v bd) [.ref (a 0), .int (x)]) (Ri (cl_count V O E n bd v hn x)) 0 0 (fun _ => False) := by
  refine met_r (cc := cX4_count) (maxL := 2) (ret := (some .int)) (own := RX4) (by decide) rfl rfl (Nat.le_of_ble_eq_true rfl) ?_
  intro p e s m below meth c S hr hlocks hP hK ls hl
  obtain ⟨hx, hb, hml, hown, hts⟩ := id S
  have hl : lv_has ls 2 [(0, .ref (a 0)), (1, .int (x))] := hl
  have hi4 : ∀ w ∈ wsX40, w ∈ wsX4_count := fun _ h => List.mem_cons_of_mem _ (List.mem_append_left _ (List.mem_append_left _ (List.mem_append_right _ h)))
  have hi0 : ∀ w ∈ wsX00, w ∈ wsX4_count := fun _ h => List.mem_cons_of_mem _ (List.mem_append_left _ (List.mem_append_right _ h))
  have hi1 : ∀ w ∈ wsX10, w ∈ wsX4_count := fun _ h => List.mem_cons_of_mem _ (List.mem_append_right _ h)
  obtain ⟨hn40, hk⟩ := id hDD; obtain ⟨hh12, hkh⟩ := id hHH; obtain ⟨hs8, hks⟩ := id hSS
  refine lv_iload_n hx hb dX4_count_0 rfl (lv_at hl 1 rfl) ?_
  by_cases hx11 : bin x (nI 0) (nI 11) = true
  · obtain ⟨g, hg, hxg⟩ := bin_N (by decide) hx11
    rcases (show g = 0 ∨ g = 1 ∨ g = 2 ∨ g = 3 ∨ g = 4 ∨ g = 5 ∨ g = 6 ∨ g = 7 ∨ g = 8 ∨ g = 9 ∨ g = 10 ∨ g = 11 by omega) with rfl | rfl | rfl | rfl | rfl | rfl | rfl | rfl | rfl | rfl | rfl | rfl
    · refine tpi (y := nI 0) hxg ?_
      refine lv_tableIn (tgt := 64) hx hb dX4_count_1 (by decide) (by decide) (by rfl) (by decide) ?_
      refine lv_aload_n hx hb dX4_count_64 rfl (lv_at hl 0 rfl) ?_
      refine va_get (D := (dC, dI)) (ci := 3) (v := .ref (a 1)) (C := RX4) (T := TX4) (N := 6) hx hb hts hi4 hown hK hP 0 rfl rfl 0 (by decide) (hts (.fieldLink RX4 10 "BurstWords" "dictionary" "LBurstWords$Dictionary;") (by decide +kernel)) (fun _ h9 => h9) rfl dX4_count_65 ?_
      refine c_Vi (As := []) (rest := []) (ci := 0) (q0 := 0) S (c_X0_size l dC dI cI cJ cZ (a 1) (a 2) (a 3) (a 4) w o d n V O E hDD ) (cwV 0 hts gX4_count_X0_size rfl rfl rfl (by decide +kernel) ⟨Nat.le_of_ble_eq_true rfl, Nat.le_of_ble_eq_true rfl⟩) hK (hP.sub [1, 2, 3, 4] rfl) rfl rfl rfl hl.1 rfl (Nat.le_of_ble_eq_true rfl) dX4_count_68 ⟨Nat.le_of_ble_eq_true rfl, Nat.le_of_ble_eq_true rfl⟩ ?_
      exact r_i hx hb hr hlocks (by rw [cl_count, if_pos hx11, hxg]; rfl) dX4_count_71
    · refine tpi (y := nI 1) hxg ?_
      refine lv_tableIn (tgt := 72) hx hb dX4_count_1 (by decide) (by decide) (by rfl) (by decide) ?_
      refine lv_aload_n hx hb dX4_count_72 rfl (lv_at hl 0 rfl) ?_
      refine va_get (D := (dC, dI)) (ci := 3) (v := .ref (a 1)) (C := RX4) (T := TX4) (N := 6) hx hb hts hi4 hown hK hP 0 rfl rfl 0 (by decide) (hts (.fieldLink RX4 10 "BurstWords" "dictionary" "LBurstWords$Dictionary;") (by decide +kernel)) (fun _ h9 => h9) rfl dX4_count_73 ?_
      refine lv_aload_n hx hb dX4_count_76 rfl (lv_at hl 0 rfl) ?_
      refine va_get (D := (dC, dI)) (ci := 3) (v := .ref (a 1)) (C := RX4) (T := TX4) (N := 6) hx hb hts hi4 hown hK hP 0 rfl rfl 0 (by decide) (hts (.fieldLink RX4 10 "BurstWords" "dictionary" "LBurstWords$Dictionary;") (by decide +kernel)) (fun _ h9 => h9) rfl dX4_count_77 ?_
      refine c_Vi (As := []) (rest := [.ref (a 1)]) (ci := 0) (q0 := 0) S (c_X0_size l dC dI cI cJ cZ (a 1) (a 2) (a 3) (a 4) w o d n V O E hDD ) (cwV 0 hts gX4_count_X0_size rfl rfl rfl (by decide +kernel) ⟨Nat.le_of_ble_eq_true rfl, Nat.le_of_ble_eq_true rfl⟩) hK (hP.sub [1, 2, 3, 4] rfl) rfl rfl rfl hl.1 rfl (Nat.le_of_ble_eq_true rfl) dX4_count_80 ⟨Nat.le_of_ble_eq_true rfl, Nat.le_of_ble_eq_true rfl⟩ ?_
      refine c_Vi (As := [.int (nI (n))]) (rest := []) (ci := 0) (q0 := 0) S (c_X0_oftenBelow l dC dI cI cJ cZ (a 1) (a 2) (a 3) (a 4) w o d n V O E hDD n (Nat.le_refl _)) (cwV 1 hts gX4_count_X0_oftenBelow rfl rfl rfl (by decide +kernel) ⟨Nat.le_of_ble_eq_true rfl, Nat.le_of_ble_eq_true rfl⟩) hK (hP.sub [1, 2, 3, 4] rfl) rfl rfl rfl hl.1 rfl (Nat.le_of_ble_eq_true rfl) dX4_count_83 ⟨Nat.le_of_ble_eq_true rfl, Nat.le_of_ble_eq_true rfl⟩ ?_
      exact r_i hx hb hr hlocks (by rw [cl_count, if_pos hx11, hxg]; rfl) dX4_count_86
    · refine tpi (y := nI 2) hxg ?_
      refine lv_tableIn (tgt := 87) hx hb dX4_count_1 (by decide) (by decide) (by rfl) (by decide) ?_
      refine lv_aload_n hx hb dX4_count_87 rfl (lv_at hl 0 rfl) ?_
      refine va_get (D := (dC, dI)) (ci := 3) (v := .ref (a 1)) (C := RX4) (T := TX4) (N := 6) hx hb hts hi4 hown hK hP 0 rfl rfl 0 (by decide) (hts (.fieldLink RX4 10 "BurstWords" "dictionary" "LBurstWords$Dictionary;") (by decide +kernel)) (fun _ h9 => h9) rfl dX4_count_88 ?_
      refine c_Vi (As := []) (rest := []) (ci := 0) (q0 := 0) S (c_X0_nodes l dC dI cI cJ cZ (a 1) (a 2) (a 3) (a 4) w o d n V O E hDD ) (cwV 0 hts gX4_count_X0_nodes rfl rfl rfl (by decide +kernel) ⟨Nat.le_of_ble_eq_true rfl, Nat.le_of_ble_eq_true rfl⟩) hK (hP.sub [1, 2, 3, 4] rfl) rfl rfl rfl hl.1 rfl (Nat.le_of_ble_eq_true rfl) dX4_count_91 ⟨Nat.le_of_ble_eq_true rfl, Nat.le_of_ble_eq_true rfl⟩ ?_
      exact r_i hx hb hr hlocks (by rw [cl_count, if_pos hx11, hxg]; rfl) dX4_count_94
    · refine tpi (y := nI 3) hxg ?_
      refine lv_tableIn (tgt := 95) hx hb dX4_count_1 (by decide) (by decide) (by rfl) (by decide) ?_
      refine lv_aload_n hx hb dX4_count_95 rfl (lv_at hl 0 rfl) ?_
      refine va_get (D := (dC, dI)) (ci := 3) (v := .ref (a 1)) (C := RX4) (T := TX4) (N := 6) hx hb hts hi4 hown hK hP 0 rfl rfl 0 (by decide) (hts (.fieldLink RX4 10 "BurstWords" "dictionary" "LBurstWords$Dictionary;") (by decide +kernel)) (fun _ h9 => h9) rfl dX4_count_96 ?_
      refine c_Vi (As := []) (rest := []) (ci := 0) (q0 := 0) S (c_X0_containers l dC dI cI cJ cZ (a 1) (a 2) (a 3) (a 4) w o d n V O E hDD ) (cwV 0 hts gX4_count_X0_containers rfl rfl rfl (by decide +kernel) ⟨Nat.le_of_ble_eq_true rfl, Nat.le_of_ble_eq_true rfl⟩) hK (hP.sub [1, 2, 3, 4] rfl) rfl rfl rfl hl.1 rfl (Nat.le_of_ble_eq_true rfl) dX4_count_99 ⟨Nat.le_of_ble_eq_true rfl, Nat.le_of_ble_eq_true rfl⟩ ?_
      exact r_i hx hb hr hlocks (by rw [cl_count, if_pos hx11, hxg]; rfl) dX4_count_102
    · refine tpi (y := nI 4) hxg ?_
      refine lv_tableIn (tgt := 103) hx hb dX4_count_1 (by decide) (by decide) (by rfl) (by decide) ?_
      refine lv_aload_n hx hb dX4_count_103 rfl (lv_at hl 0 rfl) ?_
      refine va_get (D := (dC, dI)) (ci := 3) (v := .ref (a 1)) (C := RX4) (T := TX4) (N := 6) hx hb hts hi4 hown hK hP 0 rfl rfl 0 (by decide) (hts (.fieldLink RX4 10 "BurstWords" "dictionary" "LBurstWords$Dictionary;") (by decide +kernel)) (fun _ h9 => h9) rfl dX4_count_104 ?_
      refine c_Vi (As := []) (rest := []) (ci := 0) (q0 := 0) S (c_X0_fullest l dC dI cI cJ cZ (a 1) (a 2) (a 3) (a 4) w o d n V O E hDD ) (cwV 0 hts gX4_count_X0_fullest rfl rfl rfl (by decide +kernel) ⟨Nat.le_of_ble_eq_true rfl, Nat.le_of_ble_eq_true rfl⟩) hK (hP.sub [1, 2, 3, 4] rfl) rfl rfl rfl hl.1 rfl (Nat.le_of_ble_eq_true rfl) dX4_count_107 ⟨Nat.le_of_ble_eq_true rfl, Nat.le_of_ble_eq_true rfl⟩ ?_
      exact r_i hx hb hr hlocks (by rw [cl_count, if_pos hx11, hxg]; rfl) dX4_count_110
    · refine tpi (y := nI 5) hxg ?_
      refine lv_tableIn (tgt := 111) hx hb dX4_count_1 (by decide) (by decide) (by rfl) (by decide) ?_
      refine lv_aload_n hx hb dX4_count_111 rfl (lv_at hl 0 rfl) ?_
      refine va_get (D := (dC, dI)) (ci := 3) (v := .ref (a 1)) (C := RX4) (T := TX4) (N := 6) hx hb hts hi4 hown hK hP 0 rfl rfl 0 (by decide) (hts (.fieldLink RX4 10 "BurstWords" "dictionary" "LBurstWords$Dictionary;") (by decide +kernel)) (fun _ h9 => h9) rfl dX4_count_112 ?_
      refine c_Vi (As := []) (rest := []) (ci := 0) (q0 := 0) S (c_X0_deepest l dC dI cI cJ cZ (a 1) (a 2) (a 3) (a 4) w o d n V O E hDD ) (cwV 0 hts gX4_count_X0_deepest rfl rfl rfl (by decide +kernel) ⟨Nat.le_of_ble_eq_true rfl, Nat.le_of_ble_eq_true rfl⟩) hK (hP.sub [1, 2, 3, 4] rfl) rfl rfl rfl hl.1 rfl (Nat.le_of_ble_eq_true rfl) dX4_count_115 ⟨Nat.le_of_ble_eq_true rfl, Nat.le_of_ble_eq_true rfl⟩ ?_
      exact r_i hx hb hr hlocks (by rw [cl_count, if_pos hx11, hxg]; rfl) dX4_count_118
    · refine tpi (y := nI 6) hxg ?_
      refine lv_tableIn (tgt := 119) hx hb dX4_count_1 (by decide) (by decide) (by rfl) (by decide) ?_
      refine lv_aload_n hx hb dX4_count_119 rfl (lv_at hl 0 rfl) ?_
      refine va_get (D := (dC, dI)) (ci := 3) (v := .ref (a 1)) (C := RX4) (T := TX4) (N := 6) hx hb hts hi4 hown hK hP 0 rfl rfl 0 (by decide) (hts (.fieldLink RX4 10 "BurstWords" "dictionary" "LBurstWords$Dictionary;") (by decide +kernel)) (fun _ h9 => h9) rfl dX4_count_120 ?_
      refine c_Vi (As := []) (rest := []) (ci := 0) (q0 := 0) S (c_X0_lettersKept l dC dI cI cJ cZ (a 1) (a 2) (a 3) (a 4) w o d n V O E hDD ) (cwV 0 hts gX4_count_X0_lettersKept rfl rfl rfl (by decide +kernel) ⟨Nat.le_of_ble_eq_true rfl, Nat.le_of_ble_eq_true rfl⟩) hK (hP.sub [1, 2, 3, 4] rfl) rfl rfl rfl hl.1 rfl (Nat.le_of_ble_eq_true rfl) dX4_count_123 ⟨Nat.le_of_ble_eq_true rfl, Nat.le_of_ble_eq_true rfl⟩ ?_
      exact r_i hx hb hr hlocks (by rw [cl_count, if_pos hx11, hxg]; rfl) dX4_count_126
    · refine tpi (y := nI 7) hxg ?_
      refine lv_tableIn (tgt := 127) hx hb dX4_count_1 (by decide) (by decide) (by rfl) (by decide) ?_
      refine lv_aload_n hx hb dX4_count_127 rfl (lv_at hl 0 rfl) ?_
      refine va_get (D := (dC, dI)) (ci := 3) (v := .ref (a 1)) (C := RX4) (T := TX4) (N := 6) hx hb hts hi4 hown hK hP 0 rfl rfl 0 (by decide) (hts (.fieldLink RX4 10 "BurstWords" "dictionary" "LBurstWords$Dictionary;") (by decide +kernel)) (fun _ h9 => h9) rfl dX4_count_128 ?_
      refine c_Vi (As := []) (rest := []) (ci := 0) (q0 := 0) S (c_X0_size l dC dI cI cJ cZ (a 1) (a 2) (a 3) (a 4) w o d n V O E hDD ) (cwV 0 hts gX4_count_X0_size rfl rfl rfl (by decide +kernel) ⟨Nat.le_of_ble_eq_true rfl, Nat.le_of_ble_eq_true rfl⟩) hK (hP.sub [1, 2, 3, 4] rfl) rfl rfl rfl hl.1 rfl (Nat.le_of_ble_eq_true rfl) dX4_count_131 ⟨Nat.le_of_ble_eq_true rfl, Nat.le_of_ble_eq_true rfl⟩ ?_
      refine lv_iconst (v := nI (2)) hx hb dX4_count_134 (by decide) ?_
      refine n_ge (tgt := 143) hx hb dX4_count_135 (by decide) (by omega) (by omega) (fun c_135 => ?_) (fun c_135 => ?_)
      · refine lv_aload_n hx hb dX4_count_143 rfl (lv_at hl 0 rfl) ?_
        refine va_get (D := (dC, dI)) (ci := 3) (v := .ref (a 1)) (C := RX4) (T := TX4) (N := 6) hx hb hts hi4 hown hK hP 0 rfl rfl 0 (by decide) (hts (.fieldLink RX4 10 "BurstWords" "dictionary" "LBurstWords$Dictionary;") (by decide +kernel)) (fun _ h9 => h9) rfl dX4_count_144 ?_
        refine c_Vi (As := []) (rest := []) (ci := 0) (q0 := 0) S (c_X0_mostShared l dC dI cI cJ cZ (a 1) (a 2) (a 3) (a 4) w o d n V O E hDD ) (cwV 0 hts gX4_count_X0_mostShared rfl rfl rfl (by decide +kernel) ⟨Nat.le_of_ble_eq_true rfl, Nat.le_of_ble_eq_true rfl⟩) hK (hP.sub [1, 2, 3, 4] rfl) rfl rfl rfl hl.1 rfl (Nat.le_of_ble_eq_true rfl) dX4_count_147 ⟨Nat.le_of_ble_eq_true rfl, Nat.le_of_ble_eq_true rfl⟩ ?_
        exact r_i hx hb hr hlocks (by rw [cl_count, if_pos hx11, hxg]; exact (if_neg (Nat.not_lt.mpr c_135)).symm) dX4_count_150
      · refine lv_bipush (v := (-9 : Int32)) hx hb dX4_count_138 (by decide) ?_
        refine lv_goto (tgt := 150) hx hb dX4_count_140 (by decide) ?_
        exact r_i hx hb hr hlocks (by rw [cl_count, if_pos hx11, hxg]; exact (if_pos c_135).symm) dX4_count_150
    · refine tpi (y := nI 8) hxg ?_
      refine lv_tableIn (tgt := 151) hx hb dX4_count_1 (by decide) (by decide) (by rfl) (by decide) ?_
      refine lv_aload_n hx hb dX4_count_151 rfl (lv_at hl 0 rfl) ?_
      refine va_get (D := (dC, dI)) (ci := 3) (v := .ref (a 1)) (C := RX4) (T := TX4) (N := 6) hx hb hts hi4 hown hK hP 0 rfl rfl 0 (by decide) (hts (.fieldLink RX4 10 "BurstWords" "dictionary" "LBurstWords$Dictionary;") (by decide +kernel)) (fun _ h9 => h9) rfl dX4_count_152 ?_
      refine lv_aload_n hx hb dX4_count_155 rfl (lv_at hl 0 rfl) ?_
      refine va_get (D := (dC, dI)) (ci := 3) (v := .ref (a 1)) (C := RX4) (T := TX4) (N := 6) hx hb hts hi4 hown hK hP 0 rfl rfl 0 (by decide) (hts (.fieldLink RX4 10 "BurstWords" "dictionary" "LBurstWords$Dictionary;") (by decide +kernel)) (fun _ h9 => h9) rfl dX4_count_156 ?_
      refine c_Vi (As := []) (rest := [.ref (a 1)]) (ci := 0) (q0 := 0) S (c_X0_mostShared l dC dI cI cJ cZ (a 1) (a 2) (a 3) (a 4) w o d n V O E hDD ) (cwV 0 hts gX4_count_X0_mostShared rfl rfl rfl (by decide +kernel) ⟨Nat.le_of_ble_eq_true rfl, Nat.le_of_ble_eq_true rfl⟩) hK (hP.sub [1, 2, 3, 4] rfl) rfl rfl rfl hl.1 rfl (Nat.le_of_ble_eq_true rfl) dX4_count_159 ⟨Nat.le_of_ble_eq_true rfl, Nat.le_of_ble_eq_true rfl⟩ ?_
      refine c_Vi (As := [.int (nI (bmx (fun k => bsh (V k) (V (k + 1))) (n - 1)))]) (rest := []) (ci := 0) (q0 := 0) S (c_X0_pairsSharing l dC dI cI cJ cZ (a 1) (a 2) (a 3) (a 4) w o d n V O E hDD (bmx (fun k => bsh (V k) (V (k + 1))) (n - 1)) (bmx_le (c := 7) (fun k _ => bsh_le _ _))) (cwV 1 hts gX4_count_X0_pairsSharing rfl rfl rfl (by decide +kernel) ⟨Nat.le_of_ble_eq_true rfl, Nat.le_of_ble_eq_true rfl⟩) hK (hP.sub [1, 2, 3, 4] rfl) rfl rfl rfl hl.1 rfl (Nat.le_of_ble_eq_true rfl) dX4_count_162 ⟨Nat.le_of_ble_eq_true rfl, Nat.le_of_ble_eq_true rfl⟩ ?_
      exact r_i hx hb hr hlocks (by rw [cl_count, if_pos hx11, hxg]; rfl) dX4_count_165
    · refine tpi (y := nI 9) hxg ?_
      refine lv_tableIn (tgt := 166) hx hb dX4_count_1 (by decide) (by decide) (by rfl) (by decide) ?_
      refine lv_aload_n hx hb dX4_count_166 rfl (lv_at hl 0 rfl) ?_
      refine va_get (D := (dC, dI)) (ci := 3) (v := .int (nI (bd))) (C := RX4) (T := TX4) (N := 6) hx hb hts hi4 hown hK hP 0 rfl rfl 5 (by decide) (hts (.fieldLink RX4 40 "BurstWords" "bound" "I") (by decide +kernel)) (fun _ h9 => h9) rfl dX4_count_167 ?_
      exact r_i hx hb hr hlocks (by rw [cl_count, if_pos hx11, hxg]; rfl) dX4_count_170
    · refine tpi (y := nI 10) hxg ?_
      refine lv_tableIn (tgt := 171) hx hb dX4_count_1 (by decide) (by decide) (by rfl) (by decide) ?_
      refine lv_aload_n hx hb dX4_count_171 rfl (lv_at hl 0 rfl) ?_
      refine va_get (D := (dC, dI)) (ci := 3) (v := .long (lN (be8 v))) (C := RX4) (T := TX4) (N := 6) hx hb hts hi4 hown hK hP 0 rfl rfl 4 (by decide) (hts (.fieldLink RX4 36 "BurstWords" "word" "J") (by decide +kernel)) (fun _ h9 => h9) rfl dX4_count_172 ?_
      refine c_Si (As := [.long (lN (be8 v))]) (rest := []) S (c_X3_lengthOf l v) (va_cwS 1 hts gX4_count_X3_lengthOf rfl rfl rfl (by decide +kernel) ⟨Nat.le_of_ble_eq_true rfl, Nat.le_of_ble_eq_true rfl⟩) rfl hl.1 rfl (Nat.le_of_ble_eq_true rfl) dX4_count_175 ⟨Nat.le_of_ble_eq_true rfl, Nat.le_of_ble_eq_true rfl⟩ ?_
      exact r_i hx hb hr hlocks (by rw [cl_count, if_pos hx11, hxg]; rfl) dX4_count_178
    · refine tpi (y := nI 11) hxg ?_
      refine lv_tableIn (tgt := 179) hx hb dX4_count_1 (by decide) (by decide) (by rfl) (by decide) ?_
      refine lv_aload_n hx hb dX4_count_179 rfl (lv_at hl 0 rfl) ?_
      refine va_get (D := (dC, dI)) (ci := 3) (v := .ref (a 5)) (C := RX4) (T := TX4) (N := 6) hx hb hts hi4 hown hK hP 0 rfl rfl 1 (by decide) (hts (.fieldLink RX4 19 "BurstWords" "history" "LBurstWords$History;") (by decide +kernel)) (fun _ h9 => h9) rfl dX4_count_180 ?_
      refine c_Vi (As := []) (rest := []) (ci := 1) (q0 := 0) S (c_X1_size l dC dI cI cJ cZ (a 5) (a 6) (a 7) (a 8) hw ho hd hn HW HO HE hHH ) (cwV 0 hts gX4_count_X1_size rfl rfl rfl (by decide +kernel) ⟨Nat.le_of_ble_eq_true rfl, Nat.le_of_ble_eq_true rfl⟩) hK (hP.sub [5, 6, 7, 8] rfl) rfl rfl rfl hl.1 rfl (Nat.le_of_ble_eq_true rfl) dX4_count_183 ⟨Nat.le_of_ble_eq_true rfl, Nat.le_of_ble_eq_true rfl⟩ ?_
      exact r_i hx hb hr hlocks (by rw [cl_count, if_pos hx11, hxg]; rfl) dX4_count_186
  · refine lv_tableOut (tgt := 187) hx hb dX4_count_1 (bin_no (by decide) (by decide) hx11) (by decide) ?_
    refine lv_iconst (v := (-1 : Int32)) hx hb dX4_count_187 (by decide) ?_
    exact r_i hx hb hr hlocks (by rw [cl_count, if_neg hx11]) dX4_count_188
abbrev rm_X4_digest : Room := { frames := 3, cells := 0, slots := 0, locals := 64 }
set_option maxHeartbeats 4000000 in
set_option maxRecDepth 100000 in
theorem c_X4_digest (l : Launch) (dC : Nat → ClassId) (dI : Nat → Nat → Nat) (cI cJ cZ : ClassId) (a : Nat → Nat) (w : Nat → Int64) (o d : Nat → Int32) (n : Nat) (hw : Nat → Int64) (ho hd : Nat → Int32) (hn : Nat) (pl le so : Nat → Int32) (sn : Nat) (ta : Nat → Int32) (v bd : Nat) (V O E HW HO HE SA SL SI : Nat → Nat) (hDD : bDD w o d n V O E) (hHH : bHH hw ho hd hn HW HO HE) (hSS : bSS pl le so sn SA SL SI) (hv : bwf v) (hbd : 2 ≤ bd ∧ bd ≤ 8) : Met l yX4_digest wsX4_digest rm_X4_digest (rPc (dC, dI) (tysA cI cJ cZ) (wb a cI cJ cZ w o d n hw ho hd hn pl le so sn ta v bd) [.ref (a 0)]) (Rl (cgo V O E n)) 0 0 (fun _ => False) := by
  refine met_r (cc := cX4_digest) (maxL := 8) (ret := (some .long)) (own := RX4) (by decide) rfl rfl (Nat.le_of_ble_eq_true rfl) ?_
  intro p e s m below meth c S hr hlocks hP hK ls hl
  obtain ⟨hx, hb, hml, hown, hts⟩ := id S
  have hl : lv_has ls 8 [(0, .ref (a 0))] := hl
  have hi4 : ∀ w ∈ wsX40, w ∈ wsX4_digest := fun _ h => List.mem_cons_of_mem _ (List.mem_append_left _ (List.mem_append_right _ h))
  have hi0 : ∀ w ∈ wsX00, w ∈ wsX4_digest := fun _ h => List.mem_cons_of_mem _ (List.mem_append_right _ h)
  obtain ⟨hn40, hk⟩ := id hDD; obtain ⟨hh12, hkh⟩ := id hHH; obtain ⟨hs8, hks⟩ := id hSS
  have hln := bln_le
  refine lv_ldc2 (v := lN (17)) hx hb hown (hts (.constantLong RX4 185 (17)) (by decide +kernel)) dX4_digest_0 ?_
  refine lv_lstore_n (lv' := [(1, .long (lN (17))), (0, .ref (a 0))]) hx hb dX4_digest_3 rfl hl (by decide) rfl (fun ls hl => ?_)
  refine lv_iconst (v := nI (0)) hx hb dX4_digest_4 (by decide) ?_
  refine lv_istore_n (lv' := [(3, .int (nI (0))), (1, .long (lN (17))), (0, .ref (a 0))]) hx hb dX4_digest_5 rfl hl (by decide) rfl (fun ls hl => ?_)
  have lp_6 : ∀ (j_6 : Nat) (i : Nat), (i ≤ n) → (n - i) < j_6 → ∀ ls : Array Slot, lv_has ls 8 [(0, .ref (a 0)), (1, .long (cgo V O E i)), (3, .int (nI (i)))] → W p l e rm_X4_digest s m ([.ref (a 0)] : List Value).toArray below meth c s.heap [] 0 0 (MQ below (Rl (cgo V O E n)) ([.ref (a 0)] : List Value).toArray s 0 0 (fun _ => False)) (F0 m 6 ls []) := by
    intro j_6
    induction j_6 with
    | zero => intro i _ h0; exact absurd h0 (Nat.not_lt_zero _)
    | succ j_6 ih_6 =>
      intro i hi hf_6 ls hl
      refine lv_iload_n hx hb dX4_digest_6 rfl (lv_at hl 2 rfl) ?_
      refine lv_aload_n hx hb dX4_digest_7 rfl (lv_at hl 0 rfl) ?_
      refine va_get (D := (dC, dI)) (ci := 3) (v := .ref (a 1)) (C := RX4) (T := TX4) (N := 6) hx hb hts hi4 hown hK hP 0 rfl rfl 0 (by decide) (hts (.fieldLink RX4 10 "BurstWords" "dictionary" "LBurstWords$Dictionary;") (by decide +kernel)) (fun _ h9 => h9) rfl dX4_digest_8 ?_
      refine c_Vi (As := []) (rest := [.int (nI (i))]) (ci := 0) (q0 := 0) S (c_X0_size l dC dI cI cJ cZ (a 1) (a 2) (a 3) (a 4) w o d n V O E hDD ) (cwV 0 hts gX4_digest_X0_size rfl rfl rfl (by decide +kernel) ⟨Nat.le_of_ble_eq_true rfl, Nat.le_of_ble_eq_true rfl⟩) hK (hP.sub [1, 2, 3, 4] rfl) rfl rfl rfl hl.1 rfl (Nat.le_of_ble_eq_true rfl) dX4_digest_11 ⟨Nat.le_of_ble_eq_true rfl, Nat.le_of_ble_eq_true rfl⟩ ?_
      refine n_ge (tgt := 103) hx hb dX4_digest_14 (by decide) (by omega) (by omega) (fun c_14 => ?_) (fun c_14 => ?_)
      · refine lv_lload_n hx hb dX4_digest_103 rfl (lv_at hl 1 rfl) ?_
        exact r_l hx hb hr hlocks (by rw [show i = n by omega]) dX4_digest_104
      · refine lv_aload_n hx hb dX4_digest_17 rfl (lv_at hl 0 rfl) ?_
        refine va_get (D := (dC, dI)) (ci := 3) (v := .ref (a 1)) (C := RX4) (T := TX4) (N := 6) hx hb hts hi4 hown hK hP 0 rfl rfl 0 (by decide) (hts (.fieldLink RX4 10 "BurstWords" "dictionary" "LBurstWords$Dictionary;") (by decide +kernel)) (fun _ h9 => h9) rfl dX4_digest_18 ?_
        refine lv_iload_n hx hb dX4_digest_21 rfl (lv_at hl 2 rfl) ?_
        refine c_Vl (As := [.int (nI (i))]) (rest := []) (ci := 0) (q0 := 0) S (c_X0_wordAt_in l dC dI cI cJ cZ (a 1) (a 2) (a 3) (a 4) w o d n V O E hDD i (by omega)) (cwV 1 hts gX4_digest_X0_wordAt rfl rfl rfl (by decide +kernel) ⟨Nat.le_of_ble_eq_true rfl, Nat.le_of_ble_eq_true rfl⟩) hK (hP.sub [1, 2, 3, 4] rfl) rfl rfl rfl hl.1 rfl (Nat.le_of_ble_eq_true rfl) dX4_digest_22 ⟨Nat.le_of_ble_eq_true rfl, Nat.le_of_ble_eq_true rfl⟩ ?_
        refine lv_lstore (lv' := [(4, .long (lN (be8 (V i)))), (0, .ref (a 0)), (1, .long (cgo V O E i)), (3, .int (nI (i)))]) hx hb dX4_digest_25 hl (by decide) rfl (fun ls hl => ?_)
        refine lv_lload hx hb dX4_digest_27 (lv_at hl 0 rfl) ?_
        refine c_Si (As := [.long (lN (be8 (V i)))]) (rest := []) S (c_X3_lengthOf l (V i)) (va_cwS 1 hts gX4_digest_X3_lengthOf rfl rfl rfl (by decide +kernel) ⟨Nat.le_of_ble_eq_true rfl, Nat.le_of_ble_eq_true rfl⟩) rfl hl.1 rfl (Nat.le_of_ble_eq_true rfl) dX4_digest_29 ⟨Nat.le_of_ble_eq_true rfl, Nat.le_of_ble_eq_true rfl⟩ ?_
        refine lv_istore (lv' := [(6, .int (nI (bln (V i)))), (4, .long (lN (be8 (V i)))), (0, .ref (a 0)), (1, .long (cgo V O E i)), (3, .int (nI (i)))]) hx hb dX4_digest_32 hl (by decide) rfl (fun ls hl => ?_)
        refine lv_iconst (v := nI (0)) hx hb dX4_digest_34 (by decide) ?_
        refine lv_istore (lv' := [(7, .int (nI (0))), (6, .int (nI (bln (V i)))), (4, .long (lN (be8 (V i)))), (0, .ref (a 0)), (1, .long (cgo V O E i)), (3, .int (nI (i)))]) hx hb dX4_digest_35 hl (by decide) rfl (fun ls hl => ?_)
        have lp_37 : ∀ (j_37 : Nat) (j : Nat), (j ≤ bln (V i)) → (bln (V i) - j) < j_37 → ∀ ls : Array Slot, lv_has ls 8 [(0, .ref (a 0)), (1, .long (cgl (V i) (cgo V O E i) j)), (3, .int (nI (i))), (4, .long (lN (be8 (V i)))), (6, .int (nI (bln (V i)))), (7, .int (nI (j)))] → W p l e rm_X4_digest s m ([.ref (a 0)] : List Value).toArray below meth c s.heap [] 0 0 (MQ below (Rl (cgo V O E n)) ([.ref (a 0)] : List Value).toArray s 0 0 (fun _ => False)) (F0 m 37 ls []) := by
          intro j_37
          induction j_37 with
          | zero => intro j _ h0; exact absurd h0 (Nat.not_lt_zero _)
          | succ j_37 ih_37 =>
            intro j hj hf_37 ls hl
            refine lv_iload hx hb dX4_digest_37 (lv_at hl 5 rfl) ?_
            refine lv_iload hx hb dX4_digest_39 (lv_at hl 4 rfl) ?_
            refine n_ge (tgt := 65) hx hb dX4_digest_41 (by decide) (by have := hln (V i); omega) (Nat.lt_of_le_of_lt (bln_le _) (by decide)) (fun c_41 => ?_) (fun c_41 => ?_)
            · refine lv_ldc2 (v := lN (31)) hx hb hown (hts (.constantLong RX4 187 (31)) (by decide +kernel)) dX4_digest_65 ?_
              refine lv_lload_n hx hb dX4_digest_68 rfl (lv_at hl 1 rfl) ?_
              refine lv_lmul hx hb dX4_digest_69 ?_
              refine lv_aload_n hx hb dX4_digest_70 rfl (lv_at hl 0 rfl) ?_
              refine va_get (D := (dC, dI)) (ci := 3) (v := .ref (a 1)) (C := RX4) (T := TX4) (N := 6) hx hb hts hi4 hown hK hP 0 rfl rfl 0 (by decide) (hts (.fieldLink RX4 10 "BurstWords" "dictionary" "LBurstWords$Dictionary;") (by decide +kernel)) (fun _ h9 => h9) rfl dX4_digest_71 ?_
              refine lv_iload_n hx hb dX4_digest_74 rfl (lv_at hl 2 rfl) ?_
              refine c_Vi (As := [.int (nI (i))]) (rest := [.long ((lN (31)) * (cgl (V i) (cgo V O E i) j))]) (ci := 0) (q0 := 0) S (c_X0_oftenAt_in l dC dI cI cJ cZ (a 1) (a 2) (a 3) (a 4) w o d n V O E hDD i (by omega)) (cwV 1 hts gX4_digest_X0_oftenAt rfl rfl rfl (by decide +kernel) ⟨Nat.le_of_ble_eq_true rfl, Nat.le_of_ble_eq_true rfl⟩) hK (hP.sub [1, 2, 3, 4] rfl) rfl rfl rfl hl.1 rfl (Nat.le_of_ble_eq_true rfl) dX4_digest_75 ⟨Nat.le_of_ble_eq_true rfl, Nat.le_of_ble_eq_true rfl⟩ ?_
              refine lv_i2l (v := lN (O i)) hx hb dX4_digest_78 (nI_l (Nat.lt_of_le_of_lt (hk _ (by omega)).2.2.2.2.1 (by decide))) ?_
              refine lv_ladd hx hb dX4_digest_79 ?_
              refine lv_lstore_n (lv' := [(1, .long (((lN (31)) * (cgl (V i) (cgo V O E i) j)) + (lN (O i)))), (0, .ref (a 0)), (3, .int (nI (i))), (4, .long (lN (be8 (V i)))), (6, .int (nI (bln (V i)))), (7, .int (nI (j)))]) hx hb dX4_digest_80 rfl hl (by decide) rfl (fun ls hl => ?_)
              refine lv_ldc2 (v := lN (31)) hx hb hown (hts (.constantLong RX4 187 (31)) (by decide +kernel)) dX4_digest_81 ?_
              refine lv_lload_n hx hb dX4_digest_84 rfl (lv_at hl 0 rfl) ?_
              refine lv_lmul hx hb dX4_digest_85 ?_
              refine lv_aload_n hx hb dX4_digest_86 rfl (lv_at hl 1 rfl) ?_
              refine va_get (D := (dC, dI)) (ci := 3) (v := .ref (a 1)) (C := RX4) (T := TX4) (N := 6) hx hb hts hi4 hown hK hP 0 rfl rfl 0 (by decide) (hts (.fieldLink RX4 10 "BurstWords" "dictionary" "LBurstWords$Dictionary;") (by decide +kernel)) (fun _ h9 => h9) rfl dX4_digest_87 ?_
              refine lv_iload_n hx hb dX4_digest_90 rfl (lv_at hl 2 rfl) ?_
              refine c_Vi (As := [.int (nI (i))]) (rest := [.long ((lN (31)) * (((lN (31)) * (cgl (V i) (cgo V O E i) j)) + (lN (O i))))]) (ci := 0) (q0 := 0) S (c_X0_depthAt_in l dC dI cI cJ cZ (a 1) (a 2) (a 3) (a 4) w o d n V O E hDD i (by omega)) (cwV 1 hts gX4_digest_X0_depthAt rfl rfl rfl (by decide +kernel) ⟨Nat.le_of_ble_eq_true rfl, Nat.le_of_ble_eq_true rfl⟩) hK (hP.sub [1, 2, 3, 4] rfl) rfl rfl rfl hl.1 rfl (Nat.le_of_ble_eq_true rfl) dX4_digest_91 ⟨Nat.le_of_ble_eq_true rfl, Nat.le_of_ble_eq_true rfl⟩ ?_
              refine lv_i2l (v := lN (E i)) hx hb dX4_digest_94 (nI_l (Nat.lt_of_le_of_lt (hk _ (by omega)).2.2.2.2.2.2 (by decide))) ?_
              refine lv_ladd hx hb dX4_digest_95 ?_
              refine lv_lstore_n (lv' := [(1, .long (((lN (31)) * (((lN (31)) * (cgl (V i) (cgo V O E i) j)) + (lN (O i)))) + (lN (E i)))), (0, .ref (a 0)), (3, .int (nI (i))), (4, .long (lN (be8 (V i)))), (6, .int (nI (bln (V i)))), (7, .int (nI (j)))]) hx hb dX4_digest_96 rfl hl (by decide) rfl (fun ls hl => ?_)
              refine lv_iinc (v := nI (i + 1)) (lv' := [(3, .int (nI (i + 1))), (1, .long (((lN (31)) * (((lN (31)) * (cgl (V i) (cgo V O E i) j)) + (lN (O i)))) + (lN (E i)))), (0, .ref (a 0)), (4, .long (lN (be8 (V i)))), (6, .int (nI (bln (V i)))), (7, .int (nI (j)))]) hx hb dX4_digest_97 hl (k := 2) rfl (inc1 _) (by decide) rfl (fun ls hl => ?_)
              refine lv_goto (tgt := 6) hx hb dX4_digest_100 (by decide) ?_
              exact ih_6 (i + 1) (by omega) (by omega) ls (lv_cg (l := [(0, .ref (a 0)), (1, .long (((lN (31)) * (((lN (31)) * (cgl (V i) (cgo V O E i) j)) + (lN (O i)))) + (lN (E i)))), (3, .int (nI (i + 1)))]) (lv_sub hl [2, 1, 0] rfl) (by rw [cgo, show bln (V i) = j by omega]))
            · refine lv_ldc2 (v := lN (31)) hx hb hown (hts (.constantLong RX4 187 (31)) (by decide +kernel)) dX4_digest_44 ?_
              refine lv_lload_n hx hb dX4_digest_47 rfl (lv_at hl 1 rfl) ?_
              refine lv_lmul hx hb dX4_digest_48 ?_
              refine lv_lload hx hb dX4_digest_49 (lv_at hl 3 rfl) ?_
              refine lv_iload hx hb dX4_digest_51 (lv_at hl 5 rfl) ?_
              refine c_Si (As := [.long (lN (be8 (V i))), .int (nI (j))]) (rest := [.long ((lN (31)) * (cgl (V i) (cgo V O E i) j))]) S (c_X3_letterAt l (V i) j (by have := hln (V i); omega)) (va_cwS 2 hts gX4_digest_X3_letterAt rfl rfl rfl (by decide +kernel) ⟨Nat.le_of_ble_eq_true rfl, Nat.le_of_ble_eq_true rfl⟩) rfl hl.1 rfl (Nat.le_of_ble_eq_true rfl) dX4_digest_53 ⟨Nat.le_of_ble_eq_true rfl, Nat.le_of_ble_eq_true rfl⟩ ?_
              refine lv_i2l (v := lN (bch (bsg (V i) j))) hx hb dX4_digest_56 (nI_l (Nat.lt_trans (bch_sg _ _) (by decide))) ?_
              refine lv_ladd hx hb dX4_digest_57 ?_
              refine lv_lstore_n (lv' := [(1, .long (((lN (31)) * (cgl (V i) (cgo V O E i) j)) + (lN (bch (bsg (V i) j))))), (0, .ref (a 0)), (3, .int (nI (i))), (4, .long (lN (be8 (V i)))), (6, .int (nI (bln (V i)))), (7, .int (nI (j)))]) hx hb dX4_digest_58 rfl hl (by decide) rfl (fun ls hl => ?_)
              refine lv_iinc (v := nI (j + 1)) (lv' := [(7, .int (nI (j + 1))), (1, .long (((lN (31)) * (cgl (V i) (cgo V O E i) j)) + (lN (bch (bsg (V i) j))))), (0, .ref (a 0)), (3, .int (nI (i))), (4, .long (lN (be8 (V i)))), (6, .int (nI (bln (V i))))]) hx hb dX4_digest_59 hl (k := 5) rfl (inc1 _) (by decide) rfl (fun ls hl => ?_)
              refine lv_goto (tgt := 37) hx hb dX4_digest_62 (by decide) ?_
              exact ih_37 (j + 1) (by omega) (by omega) ls (lv_sub hl [2, 1, 3, 4, 5, 0] rfl)
        exact lp_37 _ (0) (by omega) (Nat.lt_succ_self _) ls (lv_sub hl [3, 4, 5, 2, 1, 0] rfl)
  exact lp_6 _ (0) (by omega) (Nat.lt_succ_self _) ls (lv_sub hl [2, 1, 0] rfl)
