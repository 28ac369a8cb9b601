theorem bwa_63 (V : Nat → Nat) (n k : Nat) : bwa V n k < 2 ^ 63 := by
  unfold bwa
  split
  · exact be8_63 _
  · decide
theorem be8_0 : be8 0 = 0 := rfl
theorem bof_y {V O : Nat → Nat} {n v : Nat} (hV : ∀ k, k < n → V k < 27 ^ 7) (hp : ∀ k, k < n → 0 < V k) (hv : v < 27 ^ 7) (h : bwa V n (bpl V n v) = be8 v) : boa O n (bpl V n v) = bof V O n v := by
  unfold boa bof
  unfold bwa at h
  split
  · next h1 =>
    rw [if_pos h1] at h
    rw [if_pos ⟨h1, (be8_eqI (hV _ h1) hv).mp h⟩]
  · next h1 => rw [if_neg (fun q => h1 q.1)]
theorem bof_n {V O : Nat → Nat} {n v : Nat} (hV : ∀ k, k < n → V k < 27 ^ 7) (hp : ∀ k, k < n → 0 < V k) (hv : v < 27 ^ 7) (h : bwa V n (bpl V n v) ≠ be8 v) : 0 = bof V O n v := by
  unfold bof
  rw [if_neg]
  intro q
  apply h
  unfold bwa
  rw [if_pos q.1, q.2]
theorem bmd_s {V : Nat → Nat} {n v b t : Nat} (h : 0 < t) (h2 : bsc V n v (t - 1) ≤ b) : bmd V n v b t = bmd V n v b (t - 1) := by
  obtain ⟨k, rfl⟩ : ∃ k, t = k + 1 := ⟨t - 1, by omega⟩
  exact if_pos h2
theorem bmd_e {V : Nat → Nat} {n v b t : Nat} (h : 0 < t) (h2 : b < bsc V n v (t - 1)) : bmd V n v b t = t := by
  obtain ⟨k, rfl⟩ : ∃ k, t = k + 1 := ⟨t - 1, by omega⟩
  exact if_neg (Nat.not_le.mpr h2)
abbrev rm_X0_size : Room := { frames := 0, cells := 0, slots := 0, locals := 0 }
set_option maxHeartbeats 4000000 in
set_option maxRecDepth 100000 in
theorem c_X0_size (l : Launch) (dC : Nat → ClassId) (dI : Nat → Nat → Nat) (cI cJ cZ : ClassId) (q0 q1 q2 q3 : Nat) (w : Nat → Int64) (o d : Nat → Int32) (n : Nat) (V O E : Nat → Nat) (hD : bDD w o d n V O E) : Met l yX0_size wsX0_size rm_X0_size (rPc (dC, dI) (tysA cI cJ cZ) (wd q0 q1 q2 q3 cI cJ w o d n) [.ref (q0)]) (Ri (nI (n))) 0 0 (fun _ => False) := by
  refine met_r (cc := cX0_size) (maxL := 1) (ret := (some .int)) (own := RX0) (by decide) rfl rfl (Nat.le_of_ble_eq_true rfl) ?_
  intro p e s m below meth c S hr hlocks hP hK ls hl
  obtain ⟨hx, hb, hml, hown, hts⟩ := id S
  have hl : lv_has ls 1 [(0, .ref (q0))] := hl
  have hi0 : ∀ w ∈ wsX00, w ∈ wsX0_size := fun _ h => List.mem_cons_of_mem _ (List.mem_append_right _ h)
  obtain ⟨hn, hk⟩ := id hD
  refine lv_aload_n hx hb dX0_size_0 rfl (lv_at hl 0 rfl) ?_
  refine va_get (D := (dC, dI)) (ci := 0) (v := .int (nI (n))) (C := RX0) (T := TX0) (N := 4) hx hb hts hi0 hown hK hP 0 rfl rfl 3 (by decide) (hts (.fieldLink RX0 22 "BurstWords$Dictionary" "size" "I") (by decide +kernel)) (fun _ h9 => h9) rfl dX0_size_1 ?_
  exact r_i hx hb hr hlocks rfl dX0_size_4
abbrev rm_X0_has : Room := { frames := 0, cells := 0, slots := 0, locals := 0 }
set_option maxHeartbeats 4000000 in
set_option maxRecDepth 100000 in
theorem c_X0_has (l : Launch) (dC : Nat → ClassId) (dI : Nat → Nat → Nat) (cI cJ cZ : ClassId) (q0 q1 q2 q3 : Nat) (w : Nat → Int64) (o d : Nat → Int32) (n : Nat) (V O E : Nat → Nat) (hD : bDD w o d n V O E) (k : Nat) (hk31 : k < 2 ^ 31) : Met l yX0_has wsX0_has rm_X0_has (rPc (dC, dI) (tysA cI cJ cZ) (wd q0 q1 q2 q3 cI cJ w o d n) [.ref (q0), .int (nI (k))]) (Ri (bI (decide (k < n)))) 0 0 (fun _ => False) := by
  refine met_r (cc := cX0_has) (maxL := 2) (ret := (some .boolean)) (own := RX0) (by decide) rfl rfl (Nat.le_of_ble_eq_true rfl) ?_
  intro p e s m below meth c S hr hlocks hP hK ls hl
  obtain ⟨hx, hb, hml, hown, hts⟩ := id S
  have hl : lv_has ls 2 [(0, .ref (q0)), (1, .int (nI (k)))] := hl
  have hi0 : ∀ w ∈ wsX00, w ∈ wsX0_has := fun _ h => List.mem_cons_of_mem _ (List.mem_append_right _ h)
  obtain ⟨hn, hk⟩ := id hD
  refine lv_iload_n hx hb dX0_has_0 rfl (lv_at hl 1 rfl) ?_
  refine z_lt (tgt := 22) hx hb dX0_has_1 (by decide) (by omega) ?_
  refine lv_iload_n hx hb dX0_has_4 rfl (lv_at hl 1 rfl) ?_
  refine lv_aload_n hx hb dX0_has_5 rfl (lv_at hl 0 rfl) ?_
  refine va_get (D := (dC, dI)) (ci := 0) (v := .int (nI (n))) (C := RX0) (T := TX0) (N := 4) hx hb hts hi0 hown hK hP 0 rfl rfl 3 (by decide) (hts (.fieldLink RX0 22 "BurstWords$Dictionary" "size" "I") (by decide +kernel)) (fun _ h9 => h9) rfl dX0_has_6 ?_
  refine n_ge (tgt := 22) hx hb dX0_has_9 (by decide) (by omega) (by omega) (fun c_9 => ?_) (fun c_9 => ?_)
  · refine lv_iconst (v := nI (0)) hx hb dX0_has_22 (by decide) ?_
    exact r_z (x := false) hx hb hr hlocks rfl (by simp; omega) dX0_has_23
  · refine lv_iload_n hx hb dX0_has_12 rfl (lv_at hl 1 rfl) ?_
    refine lv_bipush (v := nI (40)) hx hb dX0_has_13 (by decide) ?_
    refine n_ge (tgt := 22) hx hb dX0_has_15 (by decide) (by omega) (by omega) (fun c_15 => ?_) (fun c_15 => ?_)
    · exact absurd c_15 (by omega)
    · refine lv_iconst (v := nI (1)) hx hb dX0_has_18 (by decide) ?_
      refine lv_goto (tgt := 23) hx hb dX0_has_19 (by decide) ?_
      exact r_z (x := true) hx hb hr hlocks rfl (by simp; omega) dX0_has_23
abbrev rm_X0_wordAt : Room := { frames := 1, cells := 0, slots := 0, locals := 21 }
set_option maxHeartbeats 4000000 in
set_option maxRecDepth 100000 in
theorem c_X0_wordAt_in (l : Launch) (dC : Nat → ClassId) (dI : Nat → Nat → Nat) (cI cJ cZ : ClassId) (q0 q1 q2 q3 : Nat) (w : Nat → Int64) (o d : Nat → Int32) (n : Nat) (V O E : Nat → Nat) (hD : bDD w o d n V O E) (k : Nat) (hkn : k < n) : Met l yX0_wordAt wsX0_wordAt rm_X0_wordAt (rPc (dC, dI) (tysA cI cJ cZ) (wd q0 q1 q2 q3 cI cJ w o d n) [.ref (q0), .int (nI (k))]) (Rl (lN (be8 (V k)))) 0 0 (fun _ => False) := by
  refine met_r (cc := cX0_wordAt) (maxL := 2) (ret := (some .long)) (own := RX0) (by decide) rfl rfl (Nat.le_of_ble_eq_true rfl) ?_
  intro p e s m below meth c S hr hlocks hP hK ls hl
  obtain ⟨hx, hb, hml, hown, hts⟩ := id S
  have hl : lv_has ls 2 [(0, .ref (q0)), (1, .int (nI (k)))] := hl
  have hi0 : ∀ w ∈ wsX00, w ∈ wsX0_wordAt := fun _ h => List.mem_cons_of_mem _ (List.mem_append_right _ h)
  obtain ⟨hn, hk⟩ := id hD
  refine lv_aload_n hx hb dX0_wordAt_0 rfl (lv_at hl 0 rfl) ?_
  refine lv_iload_n hx hb dX0_wordAt_1 rfl (lv_at hl 1 rfl) ?_
  refine c_Vi (As := [.int (nI (k))]) (rest := []) (ci := 0) (q0 := 0) S (c_X0_has l dC dI cI cJ cZ q0 q1 q2 q3 w o d n V O E hD k (by omega)) (cwV 1 hts gX0_wordAt_X0_has rfl rfl rfl (by decide +kernel) ⟨Nat.le_of_ble_eq_true rfl, Nat.le_of_ble_eq_true rfl⟩) hK hP rfl rfl rfl hl.1 rfl (Nat.le_of_ble_eq_true rfl) dX0_wordAt_2 ⟨Nat.le_of_ble_eq_true rfl, Nat.le_of_ble_eq_true rfl⟩ ?_
  refine b_eq (tgt := 17) hx hb dX0_wordAt_5 (by decide) (fun c_5 => ?_) (fun c_5 => ?_)
  · exact absurd hkn (by simpa using c_5)
  · refine lv_aload_n hx hb dX0_wordAt_8 rfl (lv_at hl 0 rfl) ?_
    refine va_get (D := (dC, dI)) (ci := 0) (v := .ref (q1)) (C := RX0) (T := TX0) (N := 4) hx hb hts hi0 hown hK hP 0 rfl rfl 0 (by decide) (hts (.fieldLink RX0 9 "BurstWords$Dictionary" "words" "[J") (by decide +kernel)) (fun _ h9 => h9) rfl dX0_wordAt_9 ?_
    refine lv_iload_n hx hb dX0_wordAt_12 rfl (lv_at hl 1 rfl) ?_
    refine g_l hx hb hK hP 1 1 rfl rfl (k := k) (by omega) (by decide) dX0_wordAt_13 (v := lN (be8 (V k))) (hk _ (by omega)).1 ?_
    refine lv_goto (tgt := 18) hx hb dX0_wordAt_14 (by decide) ?_
    exact r_l hx hb hr hlocks rfl dX0_wordAt_18
set_option maxHeartbeats 4000000 in
set_option maxRecDepth 100000 in
theorem c_X0_wordAt (l : Launch) (dC : Nat → ClassId) (dI : Nat → Nat → Nat) (cI cJ cZ : ClassId) (q0 q1 q2 q3 : Nat) (w : Nat → Int64) (o d : Nat → Int32) (n : Nat) (V O E : Nat → Nat) (hD : bDD w o d n V O E) (k : Nat) (hk31 : k < 2 ^ 31) : Met l yX0_wordAt wsX0_wordAt rm_X0_wordAt (rPc (dC, dI) (tysA cI cJ cZ) (wd q0 q1 q2 q3 cI cJ w o d n) [.ref (q0), .int (nI (k))]) (Rl (lN (bwa V n k))) 0 0 (fun _ => False) := by
  refine met_r (cc := cX0_wordAt) (maxL := 2) (ret := (some .long)) (own := RX0) (by decide) rfl rfl (Nat.le_of_ble_eq_true rfl) ?_
  intro p e s m below meth c S hr hlocks hP hK ls hl
  obtain ⟨hx, hb, hml, hown, hts⟩ := id S
  have hl : lv_has ls 2 [(0, .ref (q0)), (1, .int (nI (k)))] := hl
  have hi0 : ∀ w ∈ wsX00, w ∈ wsX0_wordAt := fun _ h => List.mem_cons_of_mem _ (List.mem_append_right _ h)
  obtain ⟨hn, hk⟩ := id hD
  refine lv_aload_n hx hb dX0_wordAt_0 rfl (lv_at hl 0 rfl) ?_
  refine lv_iload_n hx hb dX0_wordAt_1 rfl (lv_at hl 1 rfl) ?_
  refine c_Vi (As := [.int (nI (k))]) (rest := []) (ci := 0) (q0 := 0) S (c_X0_has l dC dI cI cJ cZ q0 q1 q2 q3 w o d n V O E hD k (by omega)) (cwV 1 hts gX0_wordAt_X0_has rfl rfl rfl (by decide +kernel) ⟨Nat.le_of_ble_eq_true rfl, Nat.le_of_ble_eq_true rfl⟩) hK hP rfl rfl rfl hl.1 rfl (Nat.le_of_ble_eq_true rfl) dX0_wordAt_2 ⟨Nat.le_of_ble_eq_true rfl, Nat.le_of_ble_eq_true rfl⟩ ?_
  refine b_eq (tgt := 17) hx hb dX0_wordAt_5 (by decide) (fun c_5 => ?_) (fun c_5 => ?_)
  · refine lv_lconst (v := lN (0)) hx hb dX0_wordAt_17 rfl ?_
    exact r_l hx hb hr hlocks (congrArg lN (if_neg (by simpa using c_5)).symm) dX0_wordAt_18
  · refine lv_aload_n hx hb dX0_wordAt_8 rfl (lv_at hl 0 rfl) ?_
    refine va_get (D := (dC, dI)) (ci := 0) (v := .ref (q1)) (C := RX0) (T := TX0) (N := 4) hx hb hts hi0 hown hK hP 0 rfl rfl 0 (by decide) (hts (.fieldLink RX0 9 "BurstWords$Dictionary" "words" "[J") (by decide +kernel)) (fun _ h9 => h9) rfl dX0_wordAt_9 ?_
    refine lv_iload_n hx hb dX0_wordAt_12 rfl (lv_at hl 1 rfl) ?_
    refine g_l hx hb hK hP 1 1 rfl rfl (k := k) (by simp at c_5; omega) (by decide) dX0_wordAt_13 (v := lN (be8 (V k))) (hk k (by simpa using c_5)).1 ?_
    refine lv_goto (tgt := 18) hx hb dX0_wordAt_14 (by decide) ?_
    exact r_l hx hb hr hlocks (congrArg lN (if_pos (by simpa using c_5)).symm) dX0_wordAt_18
abbrev rm_X0_oftenAt : Room := { frames := 1, cells := 0, slots := 0, locals := 21 }
set_option maxHeartbeats 4000000 in
set_option maxRecDepth 100000 in
theorem c_X0_oftenAt_in (l : Launch) (dC : Nat → ClassId) (dI : Nat → Nat → Nat) (cI cJ cZ : ClassId) (q0 q1 q2 q3 : Nat) (w : Nat → Int64) (o d : Nat → Int32) (n : Nat) (V O E : Nat → Nat) (hD : bDD w o d n V O E) (k : Nat) (hkn : k < n) : Met l yX0_oftenAt wsX0_oftenAt rm_X0_oftenAt (rPc (dC, dI) (tysA cI cJ cZ) (wd q0 q1 q2 q3 cI cJ w o d n) [.ref (q0), .int (nI (k))]) (Ri (nI (O k))) 0 0 (fun _ => False) := by
  refine met_r (cc := cX0_oftenAt) (maxL := 2) (ret := (some .int)) (own := RX0) (by decide) rfl rfl (Nat.le_of_ble_eq_true rfl) ?_
  intro p e s m below meth c S hr hlocks hP hK ls hl
  obtain ⟨hx, hb, hml, hown, hts⟩ := id S
  have hl : lv_has ls 2 [(0, .ref (q0)), (1, .int (nI (k)))] := hl
  have hi0 : ∀ w ∈ wsX00, w ∈ wsX0_oftenAt := fun _ h => List.mem_cons_of_mem _ (List.mem_append_right _ h)
  obtain ⟨hn, hk⟩ := id hD
  refine lv_aload_n hx hb dX0_oftenAt_0 rfl (lv_at hl 0 rfl) ?_
  refine lv_iload_n hx hb dX0_oftenAt_1 rfl (lv_at hl 1 rfl) ?_
  refine c_Vi (As := [.int (nI (k))]) (rest := []) (ci := 0) (q0 := 0) S (c_X0_has l dC dI cI cJ cZ q0 q1 q2 q3 w o d n V O E hD k (by omega)) (cwV 1 hts gX0_oftenAt_X0_has rfl rfl rfl (by decide +kernel) ⟨Nat.le_of_ble_eq_true rfl, Nat.le_of_ble_eq_true rfl⟩) hK hP rfl rfl rfl hl.1 rfl (Nat.le_of_ble_eq_true rfl) dX0_oftenAt_2 ⟨Nat.le_of_ble_eq_true rfl, Nat.le_of_ble_eq_true rfl⟩ ?_
  refine b_eq (tgt := 17) hx hb dX0_oftenAt_5 (by decide) (fun c_5 => ?_) (fun c_5 => ?_)
  · exact absurd hkn (by simpa using c_5)
  · refine lv_aload_n hx hb dX0_oftenAt_8 rfl (lv_at hl 0 rfl) ?_
    refine va_get (D := (dC, dI)) (ci := 0) (v := .ref (q2)) (C := RX0) (T := TX0) (N := 4) hx hb hts hi0 hown hK hP 0 rfl rfl 1 (by decide) (hts (.fieldLink RX0 15 "BurstWords$Dictionary" "often" "[I") (by decide +kernel)) (fun _ h9 => h9) rfl dX0_oftenAt_9 ?_
    refine lv_iload_n hx hb dX0_oftenAt_12 rfl (lv_at hl 1 rfl) ?_
    refine g_i hx hb hK hP 2 0 rfl rfl (k := k) (by omega) (by decide) dX0_oftenAt_13 (v := nI (O k)) (hk _ (by omega)).2.2.2.1 ?_
    refine lv_goto (tgt := 18) hx hb dX0_oftenAt_14 (by decide) ?_
    exact r_i hx hb hr hlocks rfl dX0_oftenAt_18
set_option maxHeartbeats 4000000 in
set_option maxRecDepth 100000 in
theorem c_X0_oftenAt (l : Launch) (dC : Nat → ClassId) (dI : Nat → Nat → Nat) (cI cJ cZ : ClassId) (q0 q1 q2 q3 : Nat) (w : Nat → Int64) (o d : Nat → Int32) (n : Nat) (V O E : Nat → Nat) (hD : bDD w o d n V O E) (k : Nat) (hk31 : k < 2 ^ 31) : Met l yX0_oftenAt wsX0_oftenAt rm_X0_oftenAt (rPc (dC, dI) (tysA cI cJ cZ) (wd q0 q1 q2 q3 cI cJ w o d n) [.ref (q0), .int (nI (k))]) (Ri (nI (boa O n k))) 0 0 (fun _ => False) := by
  refine met_r (cc := cX0_oftenAt) (maxL := 2) (ret := (some .int)) (own := RX0) (by decide) rfl rfl (Nat.le_of_ble_eq_true rfl) ?_
  intro p e s m below meth c S hr hlocks hP hK ls hl
  obtain ⟨hx, hb, hml, hown, hts⟩ := id S
  have hl : lv_has ls 2 [(0, .ref (q0)), (1, .int (nI (k)))] := hl
  have hi0 : ∀ w ∈ wsX00, w ∈ wsX0_oftenAt := fun _ h => List.mem_cons_of_mem _ (List.mem_append_right _ h)
  obtain ⟨hn, hk⟩ := id hD
  refine lv_aload_n hx hb dX0_oftenAt_0 rfl (lv_at hl 0 rfl) ?_
  refine lv_iload_n hx hb dX0_oftenAt_1 rfl (lv_at hl 1 rfl) ?_
  refine c_Vi (As := [.int (nI (k))]) (rest := []) (ci := 0) (q0 := 0) S (c_X0_has l dC dI cI cJ cZ q0 q1 q2 q3 w o d n V O E hD k (by omega)) (cwV 1 hts gX0_oftenAt_X0_has rfl rfl rfl (by decide +kernel) ⟨Nat.le_of_ble_eq_true rfl, Nat.le_of_ble_eq_true rfl⟩) hK hP rfl rfl rfl hl.1 rfl (Nat.le_of_ble_eq_true rfl) dX0_oftenAt_2 ⟨Nat.le_of_ble_eq_true rfl, Nat.le_of_ble_eq_true rfl⟩ ?_
  refine b_eq (tgt := 17) hx hb dX0_oftenAt_5 (by decide) (fun c_5 => ?_) (fun c_5 => ?_)
  · refine lv_iconst (v := nI (0)) hx hb dX0_oftenAt_17 (by decide) ?_
    exact r_i hx hb hr hlocks (congrArg nI (if_neg (by simpa using c_5)).symm) dX0_oftenAt_18
  · refine lv_aload_n hx hb dX0_oftenAt_8 rfl (lv_at hl 0 rfl) ?_
    refine va_get (D := (dC, dI)) (ci := 0) (v := .ref (q2)) (C := RX0) (T := TX0) (N := 4) hx hb hts hi0 hown hK hP 0 rfl rfl 1 (by decide) (hts (.fieldLink RX0 15 "BurstWords$Dictionary" "often" "[I") (by decide +kernel)) (fun _ h9 => h9) rfl dX0_oftenAt_9 ?_
    refine lv_iload_n hx hb dX0_oftenAt_12 rfl (lv_at hl 1 rfl) ?_
    refine g_i hx hb hK hP 2 0 rfl rfl (k := k) (by simp at c_5; omega) (by decide) dX0_oftenAt_13 (v := nI (O k)) (hk k (by simpa using c_5)).2.2.2.1 ?_
    refine lv_goto (tgt := 18) hx hb dX0_oftenAt_14 (by decide) ?_
    exact r_i hx hb hr hlocks (congrArg nI (if_pos (by simpa using c_5)).symm) dX0_oftenAt_18
abbrev rm_X0_depthAt : Room := { frames := 1, cells := 0, slots := 0, locals := 21 }
set_option maxHeartbeats 4000000 in
set_option maxRecDepth 100000 in
theorem c_X0_depthAt_in (l : Launch) (dC : Nat → ClassId) (dI : Nat → Nat → Nat) (cI cJ cZ : ClassId) (q0 q1 q2 q3 : Nat) (w : Nat → Int64) (o d : Nat → Int32) (n : Nat) (V O E : Nat → Nat) (hD : bDD w o d n V O E) (k : Nat) (hkn : k < n) : Met l yX0_depthAt wsX0_depthAt rm_X0_depthAt (rPc (dC, dI) (tysA cI cJ cZ) (wd q0 q1 q2 q3 cI cJ w o d n) [.ref (q0), .int (nI (k))]) (Ri (nI (E k))) 0 0 (fun _ => False) := by
  refine met_r (cc := cX0_depthAt) (maxL := 2) (ret := (some .int)) (own := RX0) (by decide) rfl rfl (Nat.le_of_ble_eq_true rfl) ?_
  intro p e s m below meth c S hr hlocks hP hK ls hl
  obtain ⟨hx, hb, hml, hown, hts⟩ := id S
  have hl : lv_has ls 2 [(0, .ref (q0)), (1, .int (nI (k)))] := hl
  have hi0 : ∀ w ∈ wsX00, w ∈ wsX0_depthAt := fun _ h => List.mem_cons_of_mem _ (List.mem_append_right _ h)
  obtain ⟨hn, hk⟩ := id hD
  refine lv_aload_n hx hb dX0_depthAt_0 rfl (lv_at hl 0 rfl) ?_
  refine lv_iload_n hx hb dX0_depthAt_1 rfl (lv_at hl 1 rfl) ?_
  refine c_Vi (As := [.int (nI (k))]) (rest := []) (ci := 0) (q0 := 0) S (c_X0_has l dC dI cI cJ cZ q0 q1 q2 q3 w o d n V O E hD k (by omega)) (cwV 1 hts gX0_depthAt_X0_has rfl rfl rfl (by decide +kernel) ⟨Nat.le_of_ble_eq_true rfl, Nat.le_of_ble_eq_true rfl⟩) hK hP rfl rfl rfl hl.1 rfl (Nat.le_of_ble_eq_true rfl) dX0_depthAt_2 ⟨Nat.le_of_ble_eq_true rfl, Nat.le_of_ble_eq_true rfl⟩ ?_
  refine b_eq (tgt := 17) hx hb dX0_depthAt_5 (by decide) (fun c_5 => ?_) (fun c_5 => ?_)
  · exact absurd hkn (by simpa using c_5)
  · refine lv_aload_n hx hb dX0_depthAt_8 rfl (lv_at hl 0 rfl) ?_
    refine va_get (D := (dC, dI)) (ci := 0) (v := .ref (q3)) (C := RX0) (T := TX0) (N := 4) hx hb hts hi0 hown hK hP 0 rfl rfl 2 (by decide) (hts (.fieldLink RX0 19 "BurstWords$Dictionary" "depths" "[I") (by decide +kernel)) (fun _ h9 => h9) rfl dX0_depthAt_9 ?_
    refine lv_iload_n hx hb dX0_depthAt_12 rfl (lv_at hl 1 rfl) ?_
    refine g_i hx hb hK hP 3 0 rfl rfl (k := k) (by omega) (by decide) dX0_depthAt_13 (v := nI (E k)) (hk _ (by omega)).2.2.2.2.2.1 ?_
    refine lv_goto (tgt := 18) hx hb dX0_depthAt_14 (by decide) ?_
    exact r_i hx hb hr hlocks rfl dX0_depthAt_18
set_option maxHeartbeats 4000000 in
set_option maxRecDepth 100000 in
theorem c_X0_depthAt (l : Launch) (dC : Nat → ClassId) (dI : Nat → Nat → Nat) (cI cJ cZ : ClassId) (q0 q1 q2 q3 : Nat) (w : Nat → Int64) (o d : Nat → Int32) (n : Nat) (V O E : Nat → Nat) (hD : bDD w o d n V O E) (k : Nat) (hk31 : k < 2 ^ 31) : Met l yX0_depthAt wsX0_depthAt rm_X0_depthAt (rPc (dC, dI) (tysA cI cJ cZ) (wd q0 q1 q2 q3 cI cJ w o d n) [.ref (q0), .int (nI (k))]) (Ri (nI (boa E n k))) 0 0 (fun _ => False) := by
  refine met_r (cc := cX0_depthAt) (maxL := 2) (ret := (some .int)) (own := RX0) (by decide) rfl rfl (Nat.le_of_ble_eq_true rfl) ?_
  intro p e s m below meth c S hr hlocks hP hK ls hl
  obtain ⟨hx, hb, hml, hown, hts⟩ := id S
  have hl : lv_has ls 2 [(0, .ref (q0)), (1, .int (nI (k)))] := hl
  have hi0 : ∀ w ∈ wsX00, w ∈ wsX0_depthAt := fun _ h => List.mem_cons_of_mem _ (List.mem_append_right _ h)
  obtain ⟨hn, hk⟩ := id hD
  refine lv_aload_n hx hb dX0_depthAt_0 rfl (lv_at hl 0 rfl) ?_
  refine lv_iload_n hx hb dX0_depthAt_1 rfl (lv_at hl 1 rfl) ?_
  refine c_Vi (As := [.int (nI (k))]) (rest := []) (ci := 0) (q0 := 0) S (c_X0_has l dC dI cI cJ cZ q0 q1 q2 q3 w o d n V O E hD k (by omega)) (cwV 1 hts gX0_depthAt_X0_has rfl rfl rfl (by decide +kernel) ⟨Nat.le_of_ble_eq_true rfl, Nat.le_of_ble_eq_true rfl⟩) hK hP rfl rfl rfl hl.1 rfl (Nat.le_of_ble_eq_true rfl) dX0_depthAt_2 ⟨Nat.le_of_ble_eq_true rfl, Nat.le_of_ble_eq_true rfl⟩ ?_
  refine b_eq (tgt := 17) hx hb dX0_depthAt_5 (by decide) (fun c_5 => ?_) (fun c_5 => ?_)
  · refine lv_iconst (v := nI (0)) hx hb dX0_depthAt_17 (by decide) ?_
    exact r_i hx hb hr hlocks (congrArg nI (if_neg (by simpa using c_5)).symm) dX0_depthAt_18
  · refine lv_aload_n hx hb dX0_depthAt_8 rfl (lv_at hl 0 rfl) ?_
    refine va_get (D := (dC, dI)) (ci := 0) (v := .ref (q3)) (C := RX0) (T := TX0) (N := 4) hx hb hts hi0 hown hK hP 0 rfl rfl 2 (by decide) (hts (.fieldLink RX0 19 "BurstWords$Dictionary" "depths" "[I") (by decide +kernel)) (fun _ h9 => h9) rfl dX0_depthAt_9 ?_
    refine lv_iload_n hx hb dX0_depthAt_12 rfl (lv_at hl 1 rfl) ?_
    refine g_i hx hb hK hP 3 0 rfl rfl (k := k) (by simp at c_5; omega) (by decide) dX0_depthAt_13 (v := nI (E k)) (hk k (by simpa using c_5)).2.2.2.2.2.1 ?_
    refine lv_goto (tgt := 18) hx hb dX0_depthAt_14 (by decide) ?_
    exact r_i hx hb hr hlocks (congrArg nI (if_pos (by simpa using c_5)).symm) dX0_depthAt_18
abbrev rm_X0_placeOf : Room := { frames := 2, cells := 0, slots := 0, locals := 42 }
set_option maxHeartbeats 4000000 in
set_option maxRecDepth 100000 in
theorem c_X0_placeOf (l : Launch) (dC : Nat → ClassId) (dI : Nat → Nat → Nat) (cI cJ cZ : ClassId) (q0 q1 q2 q3 : Nat) (w : Nat → Int64) (o d : Nat → Int32) (n : Nat) (V O E : Nat → Nat) (hD : bDD w o d n V O E) (v : Nat) (hv : v < 27 ^ 7) : Met l yX0_placeOf wsX0_placeOf rm_X0_placeOf (rPc (dC, dI) (tysA cI cJ cZ) (wd q0 q1 q2 q3 cI cJ w o d n) [.ref (q0), .long (lN (be8 v))]) (Ri (nI (bpl V n v))) 0 0 (fun _ => False) := by
  refine met_r (cc := cX0_placeOf) (maxL := 4) (ret := (some .int)) (own := RX0) (by decide) rfl rfl (Nat.le_of_ble_eq_true rfl) ?_
  intro p e s m below meth c S hr hlocks hP hK ls hl
  obtain ⟨hx, hb, hml, hown, hts⟩ := id S
  have hl : lv_has ls 4 [(0, .ref (q0)), (1, .long (lN (be8 v)))] := hl
  have hi0 : ∀ w ∈ wsX00, w ∈ wsX0_placeOf := fun _ h => List.mem_cons_of_mem _ (List.mem_append_right _ h)
  obtain ⟨hn, hk⟩ := id hD
  refine lv_iconst (v := nI (0)) hx hb dX0_placeOf_0 (by decide) ?_
  refine lv_istore_n (lv' := [(3, .int (nI (0))), (0, .ref (q0)), (1, .long (lN (be8 v)))]) hx hb dX0_placeOf_1 rfl hl (by decide) rfl (fun ls hl => ?_)
  have lp_2 : ∀ (j_2 : Nat) (i : Nat), (i ≤ n) → (∀ k, k < i → V k < v) → (n - i) < j_2 → ∀ ls : Array Slot, lv_has ls 4 [(0, .ref (q0)), (1, .long (lN (be8 v))), (3, .int (nI (i)))] → W p l e rm_X0_placeOf s m ([.ref (q0), .long (lN (be8 v))] : List Value).toArray below meth c s.heap [] 0 0 (MQ below (Ri (nI (bpl V n v))) ([.ref (q0), .long (lN (be8 v))] : List Value).toArray s 0 0 (fun _ => False)) (F0 m 2 ls []) := by
    intro j_2
    induction j_2 with
    | zero => intro i _ _ h0; exact absurd h0 (Nat.not_lt_zero _)
    | succ j_2 ih_2 =>
      intro i hi hz hf_2 ls hl
      refine lv_iload_n hx hb dX0_placeOf_2 rfl (lv_at hl 2 rfl) ?_
      refine lv_aload_n hx hb dX0_placeOf_3 rfl (lv_at hl 0 rfl) ?_
      refine va_get (D := (dC, dI)) (ci := 0) (v := .int (nI (n))) (C := RX0) (T := TX0) (N := 4) hx hb hts hi0 hown hK hP 0 rfl rfl 3 (by decide) (hts (.fieldLink RX0 22 "BurstWords$Dictionary" "size" "I") (by decide +kernel)) (fun _ h9 => h9) rfl dX0_placeOf_4 ?_
      refine n_ge (tgt := 26) hx hb dX0_placeOf_7 (by decide) (by omega) (by omega) (fun c_7 => ?_) (fun c_7 => ?_)
      · refine lv_iload_n hx hb dX0_placeOf_26 rfl (lv_at hl 2 rfl) ?_
        exact r_i hx hb hr hlocks (congrArg nI (bfs_eq hi (fun k h => by simpa using hz k h) (fun h => absurd h (by omega))).symm) dX0_placeOf_27
      · refine lv_aload_n hx hb dX0_placeOf_10 rfl (lv_at hl 0 rfl) ?_
        refine lv_iload_n hx hb dX0_placeOf_11 rfl (lv_at hl 2 rfl) ?_
        refine c_Vl (As := [.int (nI (i))]) (rest := []) (ci := 0) (q0 := 0) S (c_X0_wordAt_in l dC dI cI cJ cZ q0 q1 q2 q3 w o d n V O E hD i (by omega)) (cwV 1 hts gX0_placeOf_X0_wordAt rfl rfl rfl (by decide +kernel) ⟨Nat.le_of_ble_eq_true rfl, Nat.le_of_ble_eq_true rfl⟩) hK hP rfl rfl rfl hl.1 rfl (Nat.le_of_ble_eq_true rfl) dX0_placeOf_12 ⟨Nat.le_of_ble_eq_true rfl, Nat.le_of_ble_eq_true rfl⟩ ?_
        refine lv_lload_n hx hb dX0_placeOf_15 rfl (lv_at hl 1 rfl) ?_
        refine q_ge (tgt := 26) hx hb dX0_placeOf_16 dX0_placeOf_17 (by decide) (be8_63 _) (be8_63 _) (fun c_16 => ?_) (fun c_16 => ?_)
        · refine lv_iload_n hx hb dX0_placeOf_26 rfl (lv_at hl 2 rfl) ?_
          exact r_i hx hb hr hlocks (congrArg nI (bfs_eq hi (fun k h => by simpa using hz k h) (fun h => by simpa using (be8_leI hv (hk i c_7).2.1.1).mp c_16)).symm) dX0_placeOf_27
        · refine lv_iinc (v := nI (i + 1)) (lv' := [(3, .int (nI (i + 1))), (0, .ref (q0)), (1, .long (lN (be8 v)))]) hx hb dX0_placeOf_20 hl (k := 2) rfl (inc1 _) (by decide) rfl (fun ls hl => ?_)
          refine lv_goto (tgt := 2) hx hb dX0_placeOf_23 (by decide) ?_
          exact ih_2 (i + 1) (by omega) (lt_s hz ((be8_ltI (hk i c_7).2.1.1 hv).mp c_16)) (by omega) ls (lv_sub hl [1, 2, 0] rfl)
  exact lp_2 _ (0) (by omega) lt_0 (Nat.lt_succ_self _) ls (lv_sub hl [1, 2, 0] rfl)
abbrev rm_X0_oftenOf : Room := { frames := 3, cells := 0, slots := 0, locals := 65 }
set_option maxHeartbeats 4000000 in
set_option maxRecDepth 100000 in
theorem c_X0_oftenOf (l : Launch) (dC : Nat → ClassId) (dI : Nat → Nat → Nat) (cI cJ cZ : ClassId) (q0 q1 q2 q3 : Nat) (w : Nat → Int64) (o d : Nat → Int32) (n : Nat) (V O E : Nat → Nat) (hD : bDD w o d n V O E) (v : Nat) (hv : v < 27 ^ 7) : Met l yX0_oftenOf wsX0_oftenOf rm_X0_oftenOf (rPc (dC, dI) (tysA cI cJ cZ) (wd q0 q1 q2 q3 cI cJ w o d n) [.ref (q0), .long (lN (be8 v))]) (Ri (nI (bof V O n v))) 0 0 (fun _ => False) := by
  refine met_r (cc := cX0_oftenOf) (maxL := 4) (ret := (some .int)) (own := RX0) (by decide) rfl rfl (Nat.le_of_ble_eq_true rfl) ?_
  intro p e s m below meth c S hr hlocks hP hK ls hl
  obtain ⟨hx, hb, hml, hown, hts⟩ := id S
  have hl : lv_has ls 4 [(0, .ref (q0)), (1, .long (lN (be8 v)))] := hl
  have hi0 : ∀ w ∈ wsX00, w ∈ wsX0_oftenOf := fun _ h => List.mem_cons_of_mem _ (List.mem_append_right _ h)
  obtain ⟨hn, hk⟩ := id hD
  have hpl := bpl_le V n v
  refine lv_aload_n hx hb dX0_oftenOf_0 rfl (lv_at hl 0 rfl) ?_
  refine lv_lload_n hx hb dX0_oftenOf_1 rfl (lv_at hl 1 rfl) ?_
  refine c_Vi (As := [.long (lN (be8 v))]) (rest := []) (ci := 0) (q0 := 0) S (c_X0_placeOf l dC dI cI cJ cZ q0 q1 q2 q3 w o d n V O E hD v hv) (cwV 1 hts gX0_oftenOf_X0_placeOf rfl rfl rfl (by decide +kernel) ⟨Nat.le_of_ble_eq_true rfl, Nat.le_of_ble_eq_true rfl⟩) hK hP rfl rfl rfl hl.1 rfl (Nat.le_of_ble_eq_true rfl) dX0_oftenOf_2 ⟨Nat.le_of_ble_eq_true rfl, Nat.le_of_ble_eq_true rfl⟩ ?_
  refine lv_istore_n (lv' := [(3, .int (nI (bpl V n v))), (0, .ref (q0)), (1, .long (lN (be8 v)))]) hx hb dX0_oftenOf_5 rfl hl (by decide) rfl (fun ls hl => ?_)
  refine lv_aload_n hx hb dX0_oftenOf_6 rfl (lv_at hl 1 rfl) ?_
  refine lv_iload_n hx hb dX0_oftenOf_7 rfl (lv_at hl 0 rfl) ?_
  refine c_Vl (As := [.int (nI (bpl V n v))]) (rest := []) (ci := 0) (q0 := 0) S (c_X0_wordAt l dC dI cI cJ cZ q0 q1 q2 q3 w o d n V O E hD (bpl V n v) (by omega)) (cwV 1 hts gX0_oftenOf_X0_wordAt rfl rfl rfl (by decide +kernel) ⟨Nat.le_of_ble_eq_true rfl, Nat.le_of_ble_eq_true rfl⟩) hK hP rfl rfl rfl hl.1 rfl (Nat.le_of_ble_eq_true rfl) dX0_oftenOf_8 ⟨Nat.le_of_ble_eq_true rfl, Nat.le_of_ble_eq_true rfl⟩ ?_
  refine lv_lload_n hx hb dX0_oftenOf_11 rfl (lv_at hl 2 rfl) ?_
  refine q_ne (tgt := 24) hx hb dX0_oftenOf_12 dX0_oftenOf_13 (by decide) (bwa_63 V n _) (be8_63 _) (fun c_12 => ?_) (fun c_12 => ?_)
  · refine lv_iconst (v := nI (0)) hx hb dX0_oftenOf_24 (by decide) ?_
    exact r_i hx hb hr hlocks (congrArg nI (bof_n (fun k h => (hk k h).2.1.1) (fun k h => (hk k h).2.2.1) hv c_12)) dX0_oftenOf_25
  · refine lv_aload_n hx hb dX0_oftenOf_16 rfl (lv_at hl 1 rfl) ?_
    refine lv_iload_n hx hb dX0_oftenOf_17 rfl (lv_at hl 0 rfl) ?_
    refine c_Vi (As := [.int (nI (bpl V n v))]) (rest := []) (ci := 0) (q0 := 0) S (c_X0_oftenAt l dC dI cI cJ cZ q0 q1 q2 q3 w o d n V O E hD (bpl V n v) (by omega)) (cwV 1 hts gX0_oftenOf_X0_oftenAt rfl rfl rfl (by decide +kernel) ⟨Nat.le_of_ble_eq_true rfl, Nat.le_of_ble_eq_true rfl⟩) hK hP rfl rfl rfl hl.1 rfl (Nat.le_of_ble_eq_true rfl) dX0_oftenOf_18 ⟨Nat.le_of_ble_eq_true rfl, Nat.le_of_ble_eq_true rfl⟩ ?_
    refine lv_goto (tgt := 25) hx hb dX0_oftenOf_21 (by decide) ?_
    exact r_i hx hb hr hlocks (congrArg nI (bof_y (fun k h => (hk k h).2.1.1) (fun k h => (hk k h).2.2.1) hv c_12)) dX0_oftenOf_25
abbrev rm_X0_depthOf : Room := { frames := 3, cells := 0, slots := 0, locals := 66 }
set_option maxHeartbeats 4000000 in
set_option maxRecDepth 100000 in
theorem c_X0_depthOf (l : Launch) (dC : Nat → ClassId) (dI : Nat → Nat → Nat) (cI cJ cZ : ClassId) (q0 q1 q2 q3 : Nat) (w : Nat → Int64) (o d : Nat → Int32) (n : Nat) (V O E : Nat → Nat) (hD : bDD w o d n V O E) (v : Nat) : Met l yX0_depthOf wsX0_depthOf rm_X0_depthOf (rPc (dC, dI) (tysA cI cJ cZ) (wd q0 q1 q2 q3 cI cJ w o d n) [.ref (q0), .long (lN (be8 v))]) (Ri (nI (bdp V E n v))) 0 0 (fun _ => False) := by
  refine met_r (cc := cX0_depthOf) (maxL := 6) (ret := (some .int)) (own := RX0) (by decide) rfl rfl (Nat.le_of_ble_eq_true rfl) ?_
  intro p e s m below meth c S hr hlocks hP hK ls hl
  obtain ⟨hx, hb, hml, hown, hts⟩ := id S
  have hl : lv_has ls 6 [(0, .ref (q0)), (1, .long (lN (be8 v)))] := hl
  have hi0 : ∀ w ∈ wsX00, w ∈ wsX0_depthOf := fun _ h => List.mem_cons_of_mem _ (List.mem_append_right _ h)
  obtain ⟨hn, hk⟩ := id hD
  refine lv_iconst (v := nI (0)) hx hb dX0_depthOf_0 (by decide) ?_
  refine lv_istore_n (lv' := [(3, .int (nI (0))), (0, .ref (q0)), (1, .long (lN (be8 v)))]) hx hb dX0_depthOf_1 rfl hl (by decide) rfl (fun ls hl => ?_)
  refine lv_iconst (v := nI (0)) hx hb dX0_depthOf_2 (by decide) ?_
  refine lv_istore (lv' := [(4, .int (nI (0))), (3, .int (nI (0))), (0, .ref (q0)), (1, .long (lN (be8 v)))]) hx hb dX0_depthOf_3 hl (by decide) rfl (fun ls hl => ?_)
  have lp_5 : ∀ (j_5 : Nat) (i : Nat), (i ≤ n) → (n - i) < j_5 → ∀ ls : Array Slot, lv_has ls 6 [(0, .ref (q0)), (1, .long (lN (be8 v))), (3, .int (nI (bdp V E i v))), (4, .int (nI (i)))] → W p l e rm_X0_depthOf s m ([.ref (q0), .long (lN (be8 v))] : List Value).toArray below meth c s.heap [] 0 0 (MQ below (Ri (nI (bdp V E n v))) ([.ref (q0), .long (lN (be8 v))] : List Value).toArray s 0 0 (fun _ => False)) (F0 m 5 ls []) := by
    intro j_5
    induction j_5 with
    | zero => intro i _ h0; exact absurd h0 (Nat.not_lt_zero _)
    | succ j_5 ih_5 =>
      intro i hi hf_5 ls hl
      refine lv_iload hx hb dX0_depthOf_5 (lv_at hl 3 rfl) ?_
      refine lv_aload_n hx hb dX0_depthOf_7 rfl (lv_at hl 0 rfl) ?_
      refine va_get (D := (dC, dI)) (ci := 0) (v := .int (nI (n))) (C := RX0) (T := TX0) (N := 4) hx hb hts hi0 hown hK hP 0 rfl rfl 3 (by decide) (hts (.fieldLink RX0 22 "BurstWords$Dictionary" "size" "I") (by decide +kernel)) (fun _ h9 => h9) rfl dX0_depthOf_8 ?_
      refine n_ge (tgt := 50) hx hb dX0_depthOf_11 (by decide) (by omega) (by omega) (fun c_11 => ?_) (fun c_11 => ?_)
      · refine lv_iload_n hx hb dX0_depthOf_50 rfl (lv_at hl 2 rfl) ?_
        exact r_i hx hb hr hlocks (by rw [show i = n by omega]) dX0_depthOf_51
      · refine lv_aload_n hx hb dX0_depthOf_14 rfl (lv_at hl 0 rfl) ?_
        refine lv_iload hx hb dX0_depthOf_15 (lv_at hl 3 rfl) ?_
        refine c_Vl (As := [.int (nI (i))]) (rest := []) (ci := 0) (q0 := 0) S (c_X0_wordAt_in l dC dI cI cJ cZ q0 q1 q2 q3 w o d n V O E hD i (by omega)) (cwV 1 hts gX0_depthOf_X0_wordAt rfl rfl rfl (by decide +kernel) ⟨Nat.le_of_ble_eq_true rfl, Nat.le_of_ble_eq_true rfl⟩) hK hP rfl rfl rfl hl.1 rfl (Nat.le_of_ble_eq_true rfl) dX0_depthOf_17 ⟨Nat.le_of_ble_eq_true rfl, Nat.le_of_ble_eq_true rfl⟩ ?_
        refine lv_lload_n hx hb dX0_depthOf_20 rfl (lv_at hl 1 rfl) ?_
        refine c_Si (As := [.long (lN (be8 (V i))), .long (lN (be8 v))]) (rest := []) S (c_X3_sharedBy l (V i) v) (va_cwS 2 hts gX0_depthOf_X3_sharedBy rfl rfl rfl (by decide +kernel) ⟨Nat.le_of_ble_eq_true rfl, Nat.le_of_ble_eq_true rfl⟩) rfl hl.1 rfl (Nat.le_of_ble_eq_true rfl) dX0_depthOf_21 ⟨Nat.le_of_ble_eq_true rfl, Nat.le_of_ble_eq_true rfl⟩ ?_
        refine lv_iconst (v := nI (1)) hx hb dX0_depthOf_24 (by decide) ?_
        refine lv_iadd hx hb dX0_depthOf_25 ?_
        refine tpi (nI_add _ _) ?_
        refine lv_istore (lv' := [(5, .int (nI ((bsh (V i) v) + 1))), (0, .ref (q0)), (1, .long (lN (be8 v))), (3, .int (nI (bdp V E i v))), (4, .int (nI (i)))]) hx hb dX0_depthOf_26 hl (by decide) rfl (fun ls hl => ?_)
        refine lv_iload_n hx hb dX0_depthOf_28 rfl (lv_at hl 3 rfl) ?_
        refine lv_iload hx hb dX0_depthOf_29 (lv_at hl 0 rfl) ?_
        refine lv_aload_n hx hb dX0_depthOf_31 rfl (lv_at hl 1 rfl) ?_
        refine lv_iload hx hb dX0_depthOf_32 (lv_at hl 4 rfl) ?_
        refine c_Vi (As := [.int (nI (i))]) (rest := [.int (nI ((bsh (V i) v) + 1)), .int (nI (bdp V E i v))]) (ci := 0) (q0 := 0) S (c_X0_depthAt_in l dC dI cI cJ cZ q0 q1 q2 q3 w o d n V O E hD i (by omega)) (cwV 1 hts gX0_depthOf_X0_depthAt rfl rfl rfl (by decide +kernel) ⟨Nat.le_of_ble_eq_true rfl, Nat.le_of_ble_eq_true rfl⟩) hK hP rfl rfl rfl hl.1 rfl (Nat.le_of_ble_eq_true rfl) dX0_depthOf_34 ⟨Nat.le_of_ble_eq_true rfl, Nat.le_of_ble_eq_true rfl⟩ ?_
        refine va_mmin hx hb (hml.trans hl.1.symm) hown (hts (.methodLink RX0 68 Lib.Math.min.name) (by decide +kernel)) (hts (.static Lib.Math.min.name) (by decide +kernel)) (hts (.initialized "java/lang/Math") (by decide +kernel)) (hts (.code Lib.Math.min.name Lib.Math.min.code 2 (some .int)) (by decide +kernel)) (Nat.le_of_ble_eq_true rfl) (Nat.le_of_ble_eq_true rfl) (Nat.le_of_ble_eq_true rfl) (Nat.le_of_ble_eq_true rfl) dX0_depthOf_37 ?_
        refine tpi (nmin (Nat.lt_of_le_of_lt (Nat.succ_le_succ (bsh_le _ _)) (by decide)) (Nat.lt_of_le_of_lt (hk _ c_11).2.2.2.2.2.2 (by decide))) ?_
        refine va_mmax hx hb (hml.trans hl.1.symm) hown (hts (.methodLink RX0 74 Lib.Math.max.name) (by decide +kernel)) (hts (.static Lib.Math.max.name) (by decide +kernel)) (hts (.initialized "java/lang/Math") (by decide +kernel)) (hts (.code Lib.Math.max.name Lib.Math.max.code 2 (some .int)) (by decide +kernel)) (Nat.le_of_ble_eq_true rfl) (Nat.le_of_ble_eq_true rfl) (Nat.le_of_ble_eq_true rfl) (Nat.le_of_ble_eq_true rfl) dX0_depthOf_40 ?_
        refine tpi (nmax (Nat.lt_of_le_of_lt bdp_le (by decide)) (Nat.lt_of_le_of_lt (Nat.min_le_right _ _) (Nat.lt_of_le_of_lt (hk _ c_11).2.2.2.2.2.2 (by decide)))) ?_
        refine lv_istore_n (lv' := [(3, .int (nI (max (bdp V E i v) (min ((bsh (V i) v) + 1) (E i))))), (5, .int (nI ((bsh (V i) v) + 1))), (0, .ref (q0)), (1, .long (lN (be8 v))), (4, .int (nI (i)))]) hx hb dX0_depthOf_43 rfl hl (by decide) rfl (fun ls hl => ?_)
        refine lv_iinc (v := nI (i + 1)) (lv' := [(4, .int (nI (i + 1))), (3, .int (nI (max (bdp V E i v) (min ((bsh (V i) v) + 1) (E i))))), (5, .int (nI ((bsh (V i) v) + 1))), (0, .ref (q0)), (1, .long (lN (be8 v)))]) hx hb dX0_depthOf_44 hl (k := 4) rfl (inc1 _) (by decide) rfl (fun ls hl => ?_)
        refine lv_goto (tgt := 5) hx hb dX0_depthOf_47 (by decide) ?_
        exact ih_5 (i + 1) (by omega) (by omega) ls (lv_sub hl [3, 4, 1, 0] rfl)
  exact lp_5 _ (0) (by omega) (Nat.lt_succ_self _) ls (lv_sub hl [2, 3, 1, 0] rfl)
abbrev rm_X0_sharing : Room := { frames := 3, cells := 0, slots := 0, locals := 66 }
set_option maxHeartbeats 4000000 in
set_option maxRecDepth 100000 in
theorem c_X0_sharing (l : Launch) (dC : Nat → ClassId) (dI : Nat → Nat → Nat) (cI cJ cZ : ClassId) (q0 q1 q2 q3 : Nat) (w : Nat → Int64) (o d : Nat → Int32) (n : Nat) (V O E : Nat → Nat) (hD : bDD w o d n V O E) (v : Nat) (g : Nat) (hg : g < 2 ^ 31) : Met l yX0_sharing wsX0_sharing rm_X0_sharing (rPc (dC, dI) (tysA cI cJ cZ) (wd q0 q1 q2 q3 cI cJ w o d n) [.ref (q0), .long (lN (be8 v)), .int (nI (g))]) (Ri (nI (bsc V n v g))) 0 0 (fun _ => False) := by
  refine met_r (cc := cX0_sharing) (maxL := 6) (ret := (some .int)) (own := RX0) (by decide) rfl rfl (Nat.le_of_ble_eq_true rfl) ?_
  intro p e s m below meth c S hr hlocks hP hK ls hl
  obtain ⟨hx, hb, hml, hown, hts⟩ := id S
  have hl : lv_has ls 6 [(0, .ref (q0)), (1, .long (lN (be8 v))), (3, .int (nI (g)))] := hl
  have hi0 : ∀ w ∈ wsX00, w ∈ wsX0_sharing := fun _ h => List.mem_cons_of_mem _ (List.mem_append_right _ h)
  obtain ⟨hn, hk⟩ := id hD
  refine lv_iconst (v := nI (0)) hx hb dX0_sharing_0 (by decide) ?_
  refine lv_istore (lv' := [(4, .int (nI (0))), (0, .ref (q0)), (1, .long (lN (be8 v))), (3, .int (nI (g)))]) hx hb dX0_sharing_1 hl (by decide) rfl (fun ls hl => ?_)
  refine lv_iconst (v := nI (0)) hx hb dX0_sharing_3 (by decide) ?_
  refine lv_istore (lv' := [(5, .int (nI (0))), (4, .int (nI (0))), (0, .ref (q0)), (1, .long (lN (be8 v))), (3, .int (nI (g)))]) hx hb dX0_sharing_4 hl (by decide) rfl (fun ls hl => ?_)
  have lp_6 : ∀ (j_6 : Nat) (i : Nat), (i ≤ n) → (n - i) < j_6 → ∀ ls : Array Slot, lv_has ls 6 [(0, .ref (q0)), (1, .long (lN (be8 v))), (3, .int (nI (g))), (4, .int (nI (bsc V i v g))), (5, .int (nI (i)))] → W p l e rm_X0_sharing s m ([.ref (q0), .long (lN (be8 v)), .int (nI (g))] : List Value).toArray below meth c s.heap [] 0 0 (MQ below (Ri (nI (bsc V n v g))) ([.ref (q0), .long (lN (be8 v)), .int (nI (g))] : List Value).toArray s 0 0 (fun _ => False)) (F0 m 6 ls []) := by
    intro j_6
    induction j_6 with
    | zero => intro i _ h0; exact absurd h0 (Nat.not_lt_zero _)
    | succ j_6 ih_6 =>
      intro i hi hf_6 ls hl
      refine lv_iload hx hb dX0_sharing_6 (lv_at hl 4 rfl) ?_
      refine lv_aload_n hx hb dX0_sharing_8 rfl (lv_at hl 0 rfl) ?_
      refine va_get (D := (dC, dI)) (ci := 0) (v := .int (nI (n))) (C := RX0) (T := TX0) (N := 4) hx hb hts hi0 hown hK hP 0 rfl rfl 3 (by decide) (hts (.fieldLink RX0 22 "BurstWords$Dictionary" "size" "I") (by decide +kernel)) (fun _ h9 => h9) rfl dX0_sharing_9 ?_
      refine n_ge (tgt := 38) hx hb dX0_sharing_12 (by decide) (by omega) (by omega) (fun c_12 => ?_) (fun c_12 => ?_)
      · refine lv_iload hx hb dX0_sharing_38 (lv_at hl 3 rfl) ?_
        exact r_i hx hb hr hlocks (by rw [show i = n by omega]) dX0_sharing_40
      · refine lv_aload_n hx hb dX0_sharing_15 rfl (lv_at hl 0 rfl) ?_
        refine lv_iload hx hb dX0_sharing_16 (lv_at hl 4 rfl) ?_
        refine c_Vl (As := [.int (nI (i))]) (rest := []) (ci := 0) (q0 := 0) S (c_X0_wordAt_in l dC dI cI cJ cZ q0 q1 q2 q3 w o d n V O E hD i (by omega)) (cwV 1 hts gX0_sharing_X0_wordAt rfl rfl rfl (by decide +kernel) ⟨Nat.le_of_ble_eq_true rfl, Nat.le_of_ble_eq_true rfl⟩) hK hP rfl rfl rfl hl.1 rfl (Nat.le_of_ble_eq_true rfl) dX0_sharing_18 ⟨Nat.le_of_ble_eq_true rfl, Nat.le_of_ble_eq_true rfl⟩ ?_
        refine lv_lload_n hx hb dX0_sharing_21 rfl (lv_at hl 1 rfl) ?_
        refine c_Si (As := [.long (lN (be8 (V i))), .long (lN (be8 v))]) (rest := []) S (c_X3_sharedBy l (V i) v) (va_cwS 2 hts gX0_sharing_X3_sharedBy rfl rfl rfl (by decide +kernel) ⟨Nat.le_of_ble_eq_true rfl, Nat.le_of_ble_eq_true rfl⟩) rfl hl.1 rfl (Nat.le_of_ble_eq_true rfl) dX0_sharing_22 ⟨Nat.le_of_ble_eq_true rfl, Nat.le_of_ble_eq_true rfl⟩ ?_
        refine lv_iload_n hx hb dX0_sharing_25 rfl (lv_at hl 2 rfl) ?_
        refine n_lt (tgt := 32) hx hb dX0_sharing_26 (by decide) (Nat.lt_of_le_of_lt (bsh_le _ _) (by decide)) hg (fun c_26 => ?_) (fun c_26 => ?_)
        · refine lv_iinc (v := nI (i + 1)) (lv' := [(5, .int (nI (i + 1))), (0, .ref (q0)), (1, .long (lN (be8 v))), (3, .int (nI (g))), (4, .int (nI (bsc V i v g)))]) hx hb dX0_sharing_32 hl (k := 4) rfl (inc1 _) (by decide) rfl (fun ls hl => ?_)
          refine lv_goto (tgt := 6) hx hb dX0_sharing_35 (by decide) ?_
          exact ih_6 (i + 1) (by omega) (by omega) ls (lv_cg (l := [(0, .ref (q0)), (1, .long (lN (be8 v))), (3, .int (nI (g))), (4, .int (nI (bsc V i v g))), (5, .int (nI (i + 1)))]) (lv_sub hl [1, 2, 3, 4, 0] rfl) (by unfold bsc; rw [ct_n (p := (fun k => decide (g ≤ bsh (V k) v))) (n := i) (by simpa using c_26)]))
        · refine lv_iinc (v := nI (bsc V i v g + 1)) (lv' := [(4, .int (nI (bsc V i v g + 1))), (0, .ref (q0)), (1, .long (lN (be8 v))), (3, .int (nI (g))), (5, .int (nI (i)))]) hx hb dX0_sharing_29 hl (k := 3) rfl (inc1 _) (by decide) rfl (fun ls hl => ?_)
          refine lv_iinc (v := nI (i + 1)) (lv' := [(5, .int (nI (i + 1))), (4, .int (nI (bsc V i v g + 1))), (0, .ref (q0)), (1, .long (lN (be8 v))), (3, .int (nI (g)))]) hx hb dX0_sharing_32 hl (k := 4) rfl (inc1 _) (by decide) rfl (fun ls hl => ?_)
          refine lv_goto (tgt := 6) hx hb dX0_sharing_35 (by decide) ?_
          exact ih_6 (i + 1) (by omega) (by omega) ls (lv_cg (l := [(0, .ref (q0)), (1, .long (lN (be8 v))), (3, .int (nI (g))), (4, .int (nI (bsc V i v g + 1))), (5, .int (nI (i + 1)))]) (lv_sub hl [2, 3, 4, 1, 0] rfl) (by unfold bsc; rw [ct_y (p := (fun k => decide (g ≤ bsh (V k) v))) (n := i) (by simpa using c_26)]))
  exact lp_6 _ (0) (by omega) (Nat.lt_succ_self _) ls (lv_sub hl [2, 3, 4, 1, 0] rfl)
abbrev rm_X0_burstDepth : Room := { frames := 4, cells := 0, slots := 0, locals := 91 }
set_option maxHeartbeats 4000000 in
set_option maxRecDepth 100000 in
theorem c_X0_burstDepth (l : Launch) (dC : Nat → ClassId) (dI : Nat → Nat → Nat) (cI cJ cZ : ClassId) (q0 q1 q2 q3 : Nat) (w : Nat → Int64) (o d : Nat → Int32) (n : Nat) (V O E : Nat → Nat) (hD : bDD w o d n V O E) (v : Nat) (g : Nat) (b : Nat) (hg : g ≤ bln v + 1) (hb2 : b < 2 ^ 31) : Met l yX0_burstDepth wsX0_burstDepth rm_X0_burstDepth (rPc (dC, dI) (tysA cI cJ cZ) (wd q0 q1 q2 q3 cI cJ w o d n) [.ref (q0), .long (lN (be8 v)), .int (nI (g)), .int (nI (b))]) (Ri (nI (bbd V n v g b))) 0 0 (fun _ => False) := by
  refine met_r (cc := cX0_burstDepth) (maxL := 7) (ret := (some .int)) (own := RX0) (by decide) rfl rfl (Nat.le_of_ble_eq_true rfl) ?_
  intro p e s m below meth c S hr hlocks hP hK ls hl
  obtain ⟨hx, hb, hml, hown, hts⟩ := id S
  have hl : lv_has ls 7 [(0, .ref (q0)), (1, .long (lN (be8 v))), (3, .int (nI (g))), (4, .int (nI (b)))] := hl
  have hi0 : ∀ w ∈ wsX00, w ∈ wsX0_burstDepth := fun _ h => List.mem_cons_of_mem _ (List.mem_append_right _ h)
  obtain ⟨hn, hk⟩ := id hD
  have hln := bln_le v
  refine lv_lload_n hx hb dX0_burstDepth_0 rfl (lv_at hl 1 rfl) ?_
  refine c_Si (As := [.long (lN (be8 v))]) (rest := []) S (c_X3_lengthOf l v) (va_cwS 1 hts gX0_burstDepth_X3_lengthOf rfl rfl rfl (by decide +kernel) ⟨Nat.le_of_ble_eq_true rfl, Nat.le_of_ble_eq_true rfl⟩) rfl hl.1 rfl (Nat.le_of_ble_eq_true rfl) dX0_burstDepth_1 ⟨Nat.le_of_ble_eq_true rfl, Nat.le_of_ble_eq_true rfl⟩ ?_
  refine lv_istore (lv' := [(5, .int (nI (bln v))), (0, .ref (q0)), (1, .long (lN (be8 v))), (3, .int (nI (g))), (4, .int (nI (b)))]) hx hb dX0_burstDepth_4 hl (by decide) rfl (fun ls hl => ?_)
  refine lv_iload_n hx hb dX0_burstDepth_6 rfl (lv_at hl 3 rfl) ?_
  refine lv_istore (lv' := [(6, .int (nI (g))), (5, .int (nI (bln v))), (0, .ref (q0)), (1, .long (lN (be8 v))), (3, .int (nI (g))), (4, .int (nI (b)))]) hx hb dX0_burstDepth_7 hl (by decide) rfl (fun ls hl => ?_)
  have lp_9 : ∀ (j_9 : Nat) (t : Nat), (t ≤ bln v + 1 - g) → (∀ k, k < t → b < bsc V n v (g + k)) → (bln v + 1 - t) < j_9 → ∀ ls : Array Slot, lv_has ls 7 [(0, .ref (q0)), (1, .long (lN (be8 v))), (4, .int (nI (b))), (5, .int (nI (bln v))), (6, .int (nI (g + t)))] → W p l e rm_X0_burstDepth s m ([.ref (q0), .long (lN (be8 v)), .int (nI (g)), .int (nI (b))] : List Value).toArray below meth c s.heap [] 0 0 (MQ below (Ri (nI (bbd V n v g b))) ([.ref (q0), .long (lN (be8 v)), .int (nI (g)), .int (nI (b))] : List Value).toArray s 0 0 (fun _ => False)) (F0 m 9 ls []) := by
    intro j_9
    induction j_9 with
    | zero => intro t _ _ h0; exact absurd h0 (Nat.not_lt_zero _)
    | succ j_9 ih_9 =>
      intro t ht hz hf_9 ls hl
      refine lv_iload hx hb dX0_burstDepth_9 (lv_at hl 4 rfl) ?_
      refine lv_iload hx hb dX0_burstDepth_11 (lv_at hl 3 rfl) ?_
      refine n_gt (tgt := 34) hx hb dX0_burstDepth_13 (by decide) (by omega) (by omega) (fun c_13 => ?_) (fun c_13 => ?_)
      · refine lv_iload hx hb dX0_burstDepth_34 (lv_at hl 4 rfl) ?_
        exact r_i hx hb hr hlocks (congrArg nI (congrArg (g + ·) (bfs_eq ht (fun k h => by simpa using hz k h) (fun h => absurd h (by omega))).symm)) dX0_burstDepth_36
      · refine lv_aload_n hx hb dX0_burstDepth_16 rfl (lv_at hl 0 rfl) ?_
        refine lv_lload_n hx hb dX0_burstDepth_17 rfl (lv_at hl 1 rfl) ?_
        refine lv_iload hx hb dX0_burstDepth_18 (lv_at hl 4 rfl) ?_
        refine c_Vi (As := [.long (lN (be8 v)), .int (nI (g + t))]) (rest := []) (ci := 0) (q0 := 0) S (c_X0_sharing l dC dI cI cJ cZ q0 q1 q2 q3 w o d n V O E hD v (g + t) (by omega)) (cwV 2 hts gX0_burstDepth_X0_sharing rfl rfl rfl (by decide +kernel) ⟨Nat.le_of_ble_eq_true rfl, Nat.le_of_ble_eq_true rfl⟩) hK hP rfl rfl rfl hl.1 rfl (Nat.le_of_ble_eq_true rfl) dX0_burstDepth_20 ⟨Nat.le_of_ble_eq_true rfl, Nat.le_of_ble_eq_true rfl⟩ ?_
        refine lv_iload hx hb dX0_burstDepth_23 (lv_at hl 2 rfl) ?_
        refine n_le (tgt := 34) hx hb dX0_burstDepth_25 (by decide) (Nat.lt_of_le_of_lt (bsc_le _ _ _ _) (by omega)) (by omega) (fun c_25 => ?_) (fun c_25 => ?_)
        · refine lv_iload hx hb dX0_burstDepth_34 (lv_at hl 4 rfl) ?_
          exact r_i hx hb hr hlocks (congrArg nI (congrArg (g + ·) (bfs_eq ht (fun k h => by simpa using hz k h) (fun h => by simpa using c_25)).symm)) dX0_burstDepth_36
        · refine lv_iinc (v := nI ((g + t) + 1)) (lv' := [(6, .int (nI ((g + t) + 1))), (0, .ref (q0)), (1, .long (lN (be8 v))), (4, .int (nI (b))), (5, .int (nI (bln v)))]) hx hb dX0_burstDepth_28 hl (k := 4) rfl (inc1 _) (by decide) rfl (fun ls hl => ?_)
          refine lv_goto (tgt := 9) hx hb dX0_burstDepth_31 (by decide) ?_
          exact ih_9 (t + 1) (by omega) (lt_s hz c_25) (by omega) ls (lv_sub hl [1, 2, 3, 4, 0] rfl)
  exact lp_9 _ (0) (by omega) lt_0 (Nat.lt_succ_self _) ls (lv_sub hl [2, 3, 5, 1, 0] rfl)
abbrev rm_X0_mergedDepth : Room := { frames := 4, cells := 0, slots := 0, locals := 91 }
set_option maxHeartbeats 4000000 in
set_option maxRecDepth 100000 in
theorem c_X0_mergedDepth (l : Launch) (dC : Nat → ClassId) (dI : Nat → Nat → Nat) (cI cJ cZ : ClassId) (q0 q1 q2 q3 : Nat) (w : Nat → Int64) (o d : Nat → Int32) (n : Nat) (V O E : Nat → Nat) (hD : bDD w o d n V O E) (v : Nat) (g : Nat) (b : Nat) (hg : g ≤ 8) (hb2 : b < 2 ^ 31) : Met l yX0_mergedDepth wsX0_mergedDepth rm_X0_mergedDepth (rPc (dC, dI) (tysA cI cJ cZ) (wd q0 q1 q2 q3 cI cJ w o d n) [.ref (q0), .long (lN (be8 v)), .int (nI (g)), .int (nI (b))]) (Ri (nI (bmd V n v b g))) 0 0 (fun _ => False) := by
  refine met_r (cc := cX0_mergedDepth) (maxL := 6) (ret := (some .int)) (own := RX0) (by decide) rfl rfl (Nat.le_of_ble_eq_true rfl) ?_
  intro p e s m below meth c S hr hlocks hP hK ls hl
  obtain ⟨hx, hb, hml, hown, hts⟩ := id S
  have hl : lv_has ls 6 [(0, .ref (q0)), (1, .long (lN (be8 v))), (3, .int (nI (g))), (4, .int (nI (b)))] := hl
  have hi0 : ∀ w ∈ wsX00, w ∈ wsX0_mergedDepth := fun _ h => List.mem_cons_of_mem _ (List.mem_append_right _ h)
  obtain ⟨hn, hk⟩ := id hD
  refine lv_iload_n hx hb dX0_mergedDepth_0 rfl (lv_at hl 2 rfl) ?_
  refine lv_istore (lv' := [(5, .int (nI (g))), (0, .ref (q0)), (1, .long (lN (be8 v))), (3, .int (nI (g))), (4, .int (nI (b)))]) hx hb dX0_mergedDepth_1 hl (by decide) rfl (fun ls hl => ?_)
  have lp_3 : ∀ (j_3 : Nat) (t : Nat), (t ≤ g) → (bmd V n v b t = bmd V n v b g) → (t) < j_3 → ∀ ls : Array Slot, lv_has ls 6 [(0, .ref (q0)), (1, .long (lN (be8 v))), (4, .int (nI (b))), (5, .int (nI (t)))] → W p l e rm_X0_mergedDepth s m ([.ref (q0), .long (lN (be8 v)), .int (nI (g)), .int (nI (b))] : List Value).toArray below meth c s.heap [] 0 0 (MQ below (Ri (nI (bmd V n v b g))) ([.ref (q0), .long (lN (be8 v)), .int (nI (g)), .int (nI (b))] : List Value).toArray s 0 0 (fun _ => False)) (F0 m 3 ls []) := by
    intro j_3
    induction j_3 with
    | zero => intro t _ _ h0; exact absurd h0 (Nat.not_lt_zero _)
    | succ j_3 ih_3 =>
      intro t ht hz hf_3 ls hl
      refine lv_iload hx hb dX0_mergedDepth_3 (lv_at hl 3 rfl) ?_
      refine z_le (tgt := 28) hx hb dX0_mergedDepth_5 (by decide) (by omega) (fun c_5 => ?_) (fun c_5 => ?_)
      · refine lv_iload hx hb dX0_mergedDepth_28 (lv_at hl 3 rfl) ?_
        exact r_i hx hb hr hlocks (by rw [← hz, c_5]; rfl) dX0_mergedDepth_30
      · refine lv_aload_n hx hb dX0_mergedDepth_8 rfl (lv_at hl 0 rfl) ?_
        refine lv_lload_n hx hb dX0_mergedDepth_9 rfl (lv_at hl 1 rfl) ?_
        refine lv_iload hx hb dX0_mergedDepth_10 (lv_at hl 3 rfl) ?_
        refine lv_iconst (v := nI (1)) hx hb dX0_mergedDepth_12 (by decide) ?_
        refine lv_isub hx hb dX0_mergedDepth_13 ?_
        refine tpi (pk_sub (by omega)) ?_
        refine c_Vi (As := [.long (lN (be8 v)), .int (nI (t - 1))]) (rest := []) (ci := 0) (q0 := 0) S (c_X0_sharing l dC dI cI cJ cZ q0 q1 q2 q3 w o d n V O E hD v (t - 1) (by omega)) (cwV 2 hts gX0_mergedDepth_X0_sharing rfl rfl rfl (by decide +kernel) ⟨Nat.le_of_ble_eq_true rfl, Nat.le_of_ble_eq_true rfl⟩) hK hP rfl rfl rfl hl.1 rfl (Nat.le_of_ble_eq_true rfl) dX0_mergedDepth_14 ⟨Nat.le_of_ble_eq_true rfl, Nat.le_of_ble_eq_true rfl⟩ ?_
        refine lv_iload hx hb dX0_mergedDepth_17 (lv_at hl 2 rfl) ?_
        refine n_gt (tgt := 28) hx hb dX0_mergedDepth_19 (by decide) (Nat.lt_of_le_of_lt (bsc_le _ _ _ _) (by omega)) (by omega) (fun c_19 => ?_) (fun c_19 => ?_)
        · refine lv_iload hx hb dX0_mergedDepth_28 (lv_at hl 3 rfl) ?_
          exact r_i hx hb hr hlocks (by rw [← hz, bmd_e c_5 c_19]) dX0_mergedDepth_30
        · refine lv_iinc (v := nI ((t) - 1)) (lv' := [(5, .int (nI ((t) - 1))), (0, .ref (q0)), (1, .long (lN (be8 v))), (4, .int (nI (b)))]) hx hb dX0_mergedDepth_22 hl (k := 3) rfl (dec1 (by omega)) (by decide) rfl (fun ls hl => ?_)
          refine lv_goto (tgt := 3) hx hb dX0_mergedDepth_25 (by decide) ?_
          exact ih_3 ((t) - 1) (by omega) (by rw [← hz, ← bmd_s c_5 c_19]) (by omega) ls (lv_sub hl [1, 2, 3, 0] rfl)
  exact lp_3 _ (g) (by omega) rfl (Nat.lt_succ_self _) ls (lv_sub hl [1, 2, 4, 0] rfl)
