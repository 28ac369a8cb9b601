/-- the words' depths behind reshape -/
def brs (V E : Nat → Nat) (x f t k : Nat) : Nat := if min f t ≤ bsh (V k) x then min t (bsh (V k) x + 1) else E k
theorem brs_y {V E : Nat → Nat} {x f t k : Nat} (h : min f t ≤ bsh (V k) x) : brs V E x f t k = min t (bsh (V k) x + 1) := if_pos h
theorem brs_n {V E : Nat → Nat} {x f t k : Nat} (h : bsh (V k) x < min f t) : brs V E x f t k = E k := if_neg (Nat.not_le.mpr h)
theorem brs_le {V E : Nat → Nat} {x f t k : Nat} (h : E k ≤ 8) (ht : t ≤ 8) : brs V E x f t k ≤ 8 := by unfold brs; split <;> omega
abbrev rm_X1_size : Room := { frames := 0, cells := 0, slots := 0, locals := 0 }
set_option maxHeartbeats 4000000 in
set_option maxRecDepth 100000 in
theorem c_X1_size (l : Launch) (dC : Nat → ClassId) (dI : Nat → Nat → Nat) (cI cJ cZ : ClassId) (q0 q1 q2 q3 : Nat) (hw : Nat → Int64) (ho hd : Nat → Int32) (hn : Nat) (HW HO HE : Nat → Nat) (hHH : bHH hw ho hd hn HW HO HE) : Met l yX1_size wsX1_size rm_X1_size (rPc (dC, dI) (tysA cI cJ cZ) (whi q0 q1 q2 q3 cI cJ hw ho hd hn) [.ref (q0)]) (Ri (nI (hn))) 0 0 (fun _ => False) := by
  refine met_r (cc := cX1_size) (maxL := 1) (ret := (some .int)) (own := RX1) (by decide) rfl rfl (Nat.le_of_ble_eq_true rfl) ?_
  intro p e s m below meth c S hr hlocks hP hK ls hl
  obtain ⟨hx, hb, hml, hown, hts⟩ := id S
  have hl : lv_has ls 1 [(0, .ref (q0))] := hl
  have hi1 : ∀ w ∈ wsX10, w ∈ wsX1_size := fun _ h => List.mem_cons_of_mem _ (List.mem_append_right _ h)
  obtain ⟨hh12, hkh⟩ := id hHH
  refine lv_aload_n hx hb dX1_size_0 rfl (lv_at hl 0 rfl) ?_
  refine va_get (D := (dC, dI)) (ci := 1) (v := .int (nI (hn))) (C := RX1) (T := TX1) (N := 4) hx hb hts hi1 hown hK hP 0 rfl rfl 3 (by decide) (hts (.fieldLink RX1 22 "BurstWords$History" "size" "I") (by decide +kernel)) (fun _ h9 => h9) rfl dX1_size_1 ?_
  exact r_i hx hb hr hlocks rfl dX1_size_4
abbrev rm_X1_empty : Room := { frames := 0, cells := 0, slots := 0, locals := 0 }
set_option maxHeartbeats 4000000 in
set_option maxRecDepth 100000 in
theorem c_X1_empty (l : Launch) (dC : Nat → ClassId) (dI : Nat → Nat → Nat) (cI cJ cZ : ClassId) (q0 q1 q2 q3 : Nat) (hw : Nat → Int64) (ho hd : Nat → Int32) (hn : Nat) (HW HO HE : Nat → Nat) (hHH : bHH hw ho hd hn HW HO HE) (sz : Nat) : Met l yX1_empty wsX1_empty rm_X1_empty (mPc (dC, dI) (tysA cI cJ cZ) (whi q0 q1 q2 q3 cI cJ hw ho hd hn) sz [.ref (q0)]) (mQv (dC, dI) (fun (u : Nat) => u = 0) (fun u => whi q0 q1 q2 q3 cI cJ hw ho hd u) (va_A (whi q0 q1 q2 q3 cI cJ hw ho hd hn) sz)) 0 0 (va_A (whi q0 q1 q2 q3 cI cJ hw ho hd hn) sz) := by
  refine met_m (cc := cX1_empty) (maxL := 1) (ret := none) (own := RX1) (Qc := fun A => mQv (dC, dI) (fun (u : Nat) => u = 0) (fun u => whi q0 q1 q2 q3 cI cJ hw ho hd u) A) (by decide) rfl rfl (Nat.le_of_ble_eq_true rfl) ?_
  intro p e s m below meth c S hr hlocks hname hK A hA hP hD hS ls hl
  obtain ⟨hx, hb, hml, hown, hts⟩ := id S
  generalize hQQ : MQ below (mQv (dC, dI) (fun (u : Nat) => u = 0) (fun u => whi q0 q1 q2 q3 cI cJ hw ho hd u) A) ([.ref (q0)] : List Value).toArray s 0 0 A = QQ
  have hl : lv_has ls 1 [(0, .ref (q0))] := hl
  have hi1 : ∀ w ∈ wsX10, w ∈ wsX1_empty := fun _ h => List.mem_cons_of_mem _ (List.mem_append_right _ h)
  obtain ⟨hh12, hkh⟩ := id hHH
  refine lv_aload_n hx hb dX1_empty_0 rfl (lv_at hl 0 rfl) ?_
  refine lv_iconst (v := nI (0)) hx hb dX1_empty_1 (by decide) ?_
  refine va_put (D := (dC, dI)) (ci := 1) (v := .int (nI (0))) (ty := .int) (C := RX1) (T := TX1) (N := 4) hx hb hts hi1 tyX1 tyX1_ok nmX1 hown hK hP hD hS 0 rfl rfl 3 (by decide) (hts (.fieldLink RX1 22 "BurstWords$History" "size" "I") (by decide +kernel)) (fun _ h9 => h9) rfl (by decide +kernel) rfl rfl (Nat.le_of_ble_eq_true rfl) dX1_empty_2 (fun H locs hP hD hS => ?_)
  have hP : va_P (dC, dI) vwCl (whi q0 q1 q2 q3 cI cJ hw ho hd 0) H := hP
  have hD : va_D A (whi q0 q1 q2 q3 cI cJ hw ho hd 0) := hD
  rw [← hQQ]
  exact m_v (0) hx hb hr hlocks rfl hP hD hS dX1_empty_5
abbrev rm_X1_hasLast : Room := { frames := 0, cells := 0, slots := 0, locals := 0 }
set_option maxHeartbeats 4000000 in
set_option maxRecDepth 100000 in
theorem c_X1_hasLast (l : Launch) (dC : Nat → ClassId) (dI : Nat → Nat → Nat) (cI cJ cZ : ClassId) (q0 q1 q2 q3 : Nat) (hw : Nat → Int64) (ho hd : Nat → Int32) (hn : Nat) (HW HO HE : Nat → Nat) (hHH : bHH hw ho hd hn HW HO HE) : Met l yX1_hasLast wsX1_hasLast rm_X1_hasLast (rPc (dC, dI) (tysA cI cJ cZ) (whi q0 q1 q2 q3 cI cJ hw ho hd hn) [.ref (q0)]) (Ri (bI (decide (0 < hn)))) 0 0 (fun _ => False) := by
  refine met_r (cc := cX1_hasLast) (maxL := 1) (ret := (some .boolean)) (own := RX1) (by decide) rfl rfl (Nat.le_of_ble_eq_true rfl) ?_
  intro p e s m below meth c S hr hlocks hP hK ls hl
  obtain ⟨hx, hb, hml, hown, hts⟩ := id S
  have hl : lv_has ls 1 [(0, .ref (q0))] := hl
  have hi1 : ∀ w ∈ wsX10, w ∈ wsX1_hasLast := fun _ h => List.mem_cons_of_mem _ (List.mem_append_right _ h)
  obtain ⟨hh12, hkh⟩ := id hHH
  refine lv_aload_n hx hb dX1_hasLast_0 rfl (lv_at hl 0 rfl) ?_
  refine va_get (D := (dC, dI)) (ci := 1) (v := .int (nI (hn))) (C := RX1) (T := TX1) (N := 4) hx hb hts hi1 hown hK hP 0 rfl rfl 3 (by decide) (hts (.fieldLink RX1 22 "BurstWords$History" "size" "I") (by decide +kernel)) (fun _ h9 => h9) rfl dX1_hasLast_1 ?_
  refine z_le (tgt := 20) hx hb dX1_hasLast_4 (by decide) (by omega) (fun c_4 => ?_) (fun c_4 => ?_)
  · refine lv_iconst (v := nI (0)) hx hb dX1_hasLast_20 (by decide) ?_
    exact r_z (x := false) hx hb hr hlocks rfl (by simp; omega) dX1_hasLast_21
  · refine lv_aload_n hx hb dX1_hasLast_7 rfl (lv_at hl 0 rfl) ?_
    refine va_get (D := (dC, dI)) (ci := 1) (v := .int (nI (hn))) (C := RX1) (T := TX1) (N := 4) hx hb hts hi1 hown hK hP 0 rfl rfl 3 (by decide) (hts (.fieldLink RX1 22 "BurstWords$History" "size" "I") (by decide +kernel)) (fun _ h9 => h9) rfl dX1_hasLast_8 ?_
    refine lv_bipush (v := nI (12)) hx hb dX1_hasLast_11 (by decide) ?_
    refine n_gt (tgt := 20) hx hb dX1_hasLast_13 (by decide) (by omega) (by omega) (fun c_13 => ?_) (fun c_13 => ?_)
    · exact absurd c_13 (by omega)
    · refine lv_iconst (v := nI (1)) hx hb dX1_hasLast_16 (by decide) ?_
      refine lv_goto (tgt := 21) hx hb dX1_hasLast_17 (by decide) ?_
      exact r_z (x := true) hx hb hr hlocks rfl (by simp; omega) dX1_hasLast_21
abbrev rm_X1_lastWord : Room := { frames := 1, cells := 0, slots := 0, locals := 20 }
set_option maxHeartbeats 4000000 in
set_option maxRecDepth 100000 in
theorem c_X1_lastWord (l : Launch) (dC : Nat → ClassId) (dI : Nat → Nat → Nat) (cI cJ cZ : ClassId) (q0 q1 q2 q3 : Nat) (hw : Nat → Int64) (ho hd : Nat → Int32) (hn : Nat) (HW HO HE : Nat → Nat) (hHH : bHH hw ho hd hn HW HO HE) (h0 : 0 < hn) : Met l yX1_lastWord wsX1_lastWord rm_X1_lastWord (rPc (dC, dI) (tysA cI cJ cZ) (whi q0 q1 q2 q3 cI cJ hw ho hd hn) [.ref (q0)]) (Rl (lN (be8 (HW (hn - 1))))) 0 0 (fun _ => False) := by
  refine met_r (cc := cX1_lastWord) (maxL := 1) (ret := (some .long)) (own := RX1) (by decide) rfl rfl (Nat.le_of_ble_eq_true rfl) ?_
  intro p e s m below meth c S hr hlocks hP hK ls hl
  obtain ⟨hx, hb, hml, hown, hts⟩ := id S
  have hl : lv_has ls 1 [(0, .ref (q0))] := hl
  have hi1 : ∀ w ∈ wsX10, w ∈ wsX1_lastWord := fun _ h => List.mem_cons_of_mem _ (List.mem_append_right _ h)
  obtain ⟨hh12, hkh⟩ := id hHH
  refine lv_aload_n hx hb dX1_lastWord_0 rfl (lv_at hl 0 rfl) ?_
  refine c_Vi (As := []) (rest := []) (ci := 1) (q0 := 0) S (c_X1_hasLast l dC dI cI cJ cZ q0 q1 q2 q3 hw ho hd hn HW HO HE hHH ) (cwV 0 hts gX1_lastWord_X1_hasLast rfl rfl rfl (by decide +kernel) ⟨Nat.le_of_ble_eq_true rfl, Nat.le_of_ble_eq_true rfl⟩) hK hP rfl rfl rfl hl.1 rfl (Nat.le_of_ble_eq_true rfl) dX1_lastWord_1 ⟨Nat.le_of_ble_eq_true rfl, Nat.le_of_ble_eq_true rfl⟩ ?_
  refine b_eq (tgt := 21) hx hb dX1_lastWord_4 (by decide) (fun c_4 => ?_) (fun c_4 => ?_)
  · exact absurd h0 (of_decide_eq_false c_4)
  · refine lv_aload_n hx hb dX1_lastWord_7 rfl (lv_at hl 0 rfl) ?_
    refine va_get (D := (dC, dI)) (ci := 1) (v := .ref (q1)) (C := RX1) (T := TX1) (N := 4) hx hb hts hi1 hown hK hP 0 rfl rfl 0 (by decide) (hts (.fieldLink RX1 9 "BurstWords$History" "words" "[J") (by decide +kernel)) (fun _ h9 => h9) rfl dX1_lastWord_8 ?_
    refine lv_aload_n hx hb dX1_lastWord_11 rfl (lv_at hl 0 rfl) ?_
    refine va_get (D := (dC, dI)) (ci := 1) (v := .int (nI (hn))) (C := RX1) (T := TX1) (N := 4) hx hb hts hi1 hown hK hP 0 rfl rfl 3 (by decide) (hts (.fieldLink RX1 22 "BurstWords$History" "size" "I") (by decide +kernel)) (fun _ h9 => h9) rfl dX1_lastWord_12 ?_
    refine lv_iconst (v := nI (1)) hx hb dX1_lastWord_15 (by decide) ?_
    refine lv_isub hx hb dX1_lastWord_16 ?_
    refine tpi (pk_sub (by omega)) ?_
    refine g_l hx hb hK hP 1 1 rfl rfl (k := hn - 1) (by omega) (by decide) dX1_lastWord_17 (v := lN (be8 (HW (hn - 1)))) (hkh _ (by omega)).1 ?_
    refine lv_goto (tgt := 22) hx hb dX1_lastWord_18 (by decide) ?_
    exact r_l hx hb hr hlocks rfl dX1_lastWord_22
abbrev rm_X1_lastOften : Room := { frames := 1, cells := 0, slots := 0, locals := 20 }
set_option maxHeartbeats 4000000 in
set_option maxRecDepth 100000 in
theorem c_X1_lastOften (l : Launch) (dC : Nat → ClassId) (dI : Nat → Nat → Nat) (cI cJ cZ : ClassId) (q0 q1 q2 q3 : Nat) (hw : Nat → Int64) (ho hd : Nat → Int32) (hn : Nat) (HW HO HE : Nat → Nat) (hHH : bHH hw ho hd hn HW HO HE) (h0 : 0 < hn) : Met l yX1_lastOften wsX1_lastOften rm_X1_lastOften (rPc (dC, dI) (tysA cI cJ cZ) (whi q0 q1 q2 q3 cI cJ hw ho hd hn) [.ref (q0)]) (Ri (nI (HO (hn - 1)))) 0 0 (fun _ => False) := by
  refine met_r (cc := cX1_lastOften) (maxL := 1) (ret := (some .int)) (own := RX1) (by decide) rfl rfl (Nat.le_of_ble_eq_true rfl) ?_
  intro p e s m below meth c S hr hlocks hP hK ls hl
  obtain ⟨hx, hb, hml, hown, hts⟩ := id S
  have hl : lv_has ls 1 [(0, .ref (q0))] := hl
  have hi1 : ∀ w ∈ wsX10, w ∈ wsX1_lastOften := fun _ h => List.mem_cons_of_mem _ (List.mem_append_right _ h)
  obtain ⟨hh12, hkh⟩ := id hHH
  refine lv_aload_n hx hb dX1_lastOften_0 rfl (lv_at hl 0 rfl) ?_
  refine c_Vi (As := []) (rest := []) (ci := 1) (q0 := 0) S (c_X1_hasLast l dC dI cI cJ cZ q0 q1 q2 q3 hw ho hd hn HW HO HE hHH ) (cwV 0 hts gX1_lastOften_X1_hasLast rfl rfl rfl (by decide +kernel) ⟨Nat.le_of_ble_eq_true rfl, Nat.le_of_ble_eq_true rfl⟩) hK hP rfl rfl rfl hl.1 rfl (Nat.le_of_ble_eq_true rfl) dX1_lastOften_1 ⟨Nat.le_of_ble_eq_true rfl, Nat.le_of_ble_eq_true rfl⟩ ?_
  refine b_eq (tgt := 21) hx hb dX1_lastOften_4 (by decide) (fun c_4 => ?_) (fun c_4 => ?_)
  · exact absurd h0 (of_decide_eq_false c_4)
  · refine lv_aload_n hx hb dX1_lastOften_7 rfl (lv_at hl 0 rfl) ?_
    refine va_get (D := (dC, dI)) (ci := 1) (v := .ref (q2)) (C := RX1) (T := TX1) (N := 4) hx hb hts hi1 hown hK hP 0 rfl rfl 1 (by decide) (hts (.fieldLink RX1 15 "BurstWords$History" "often" "[I") (by decide +kernel)) (fun _ h9 => h9) rfl dX1_lastOften_8 ?_
    refine lv_aload_n hx hb dX1_lastOften_11 rfl (lv_at hl 0 rfl) ?_
    refine va_get (D := (dC, dI)) (ci := 1) (v := .int (nI (hn))) (C := RX1) (T := TX1) (N := 4) hx hb hts hi1 hown hK hP 0 rfl rfl 3 (by decide) (hts (.fieldLink RX1 22 "BurstWords$History" "size" "I") (by decide +kernel)) (fun _ h9 => h9) rfl dX1_lastOften_12 ?_
    refine lv_iconst (v := nI (1)) hx hb dX1_lastOften_15 (by decide) ?_
    refine lv_isub hx hb dX1_lastOften_16 ?_
    refine tpi (pk_sub (by omega)) ?_
    refine g_i hx hb hK hP 2 0 rfl rfl (k := hn - 1) (by omega) (by decide) dX1_lastOften_17 (v := nI (HO (hn - 1))) (hkh _ (by omega)).2.2.1 ?_
    refine lv_goto (tgt := 22) hx hb dX1_lastOften_18 (by decide) ?_
    exact r_i hx hb hr hlocks rfl dX1_lastOften_22
abbrev rm_X1_lastDepth : Room := { frames := 1, cells := 0, slots := 0, locals := 20 }
set_option maxHeartbeats 4000000 in
set_option maxRecDepth 100000 in
theorem c_X1_lastDepth (l : Launch) (dC : Nat → ClassId) (dI : Nat → Nat → Nat) (cI cJ cZ : ClassId) (q0 q1 q2 q3 : Nat) (hw : Nat → Int64) (ho hd : Nat → Int32) (hn : Nat) (HW HO HE : Nat → Nat) (hHH : bHH hw ho hd hn HW HO HE) (h0 : 0 < hn) : Met l yX1_lastDepth wsX1_lastDepth rm_X1_lastDepth (rPc (dC, dI) (tysA cI cJ cZ) (whi q0 q1 q2 q3 cI cJ hw ho hd hn) [.ref (q0)]) (Ri (nI (HE (hn - 1)))) 0 0 (fun _ => False) := by
  refine met_r (cc := cX1_lastDepth) (maxL := 1) (ret := (some .int)) (own := RX1) (by decide) rfl rfl (Nat.le_of_ble_eq_true rfl) ?_
  intro p e s m below meth c S hr hlocks hP hK ls hl
  obtain ⟨hx, hb, hml, hown, hts⟩ := id S
  have hl : lv_has ls 1 [(0, .ref (q0))] := hl
  have hi1 : ∀ w ∈ wsX10, w ∈ wsX1_lastDepth := fun _ h => List.mem_cons_of_mem _ (List.mem_append_right _ h)
  obtain ⟨hh12, hkh⟩ := id hHH
  refine lv_aload_n hx hb dX1_lastDepth_0 rfl (lv_at hl 0 rfl) ?_
  refine c_Vi (As := []) (rest := []) (ci := 1) (q0 := 0) S (c_X1_hasLast l dC dI cI cJ cZ q0 q1 q2 q3 hw ho hd hn HW HO HE hHH ) (cwV 0 hts gX1_lastDepth_X1_hasLast rfl rfl rfl (by decide +kernel) ⟨Nat.le_of_ble_eq_true rfl, Nat.le_of_ble_eq_true rfl⟩) hK hP rfl rfl rfl hl.1 rfl (Nat.le_of_ble_eq_true rfl) dX1_lastDepth_1 ⟨Nat.le_of_ble_eq_true rfl, Nat.le_of_ble_eq_true rfl⟩ ?_
  refine b_eq (tgt := 21) hx hb dX1_lastDepth_4 (by decide) (fun c_4 => ?_) (fun c_4 => ?_)
  · exact absurd h0 (of_decide_eq_false c_4)
  · refine lv_aload_n hx hb dX1_lastDepth_7 rfl (lv_at hl 0 rfl) ?_
    refine va_get (D := (dC, dI)) (ci := 1) (v := .ref (q3)) (C := RX1) (T := TX1) (N := 4) hx hb hts hi1 hown hK hP 0 rfl rfl 2 (by decide) (hts (.fieldLink RX1 19 "BurstWords$History" "depths" "[I") (by decide +kernel)) (fun _ h9 => h9) rfl dX1_lastDepth_8 ?_
    refine lv_aload_n hx hb dX1_lastDepth_11 rfl (lv_at hl 0 rfl) ?_
    refine va_get (D := (dC, dI)) (ci := 1) (v := .int (nI (hn))) (C := RX1) (T := TX1) (N := 4) hx hb hts hi1 hown hK hP 0 rfl rfl 3 (by decide) (hts (.fieldLink RX1 22 "BurstWords$History" "size" "I") (by decide +kernel)) (fun _ h9 => h9) rfl dX1_lastDepth_12 ?_
    refine lv_iconst (v := nI (1)) hx hb dX1_lastDepth_15 (by decide) ?_
    refine lv_isub hx hb dX1_lastDepth_16 ?_
    refine tpi (pk_sub (by omega)) ?_
    refine g_i hx hb hK hP 3 0 rfl rfl (k := hn - 1) (by omega) (by decide) dX1_lastDepth_17 (v := nI (HE (hn - 1))) (hkh _ (by omega)).2.2.2.2.1 ?_
    refine lv_goto (tgt := 22) hx hb dX1_lastDepth_18 (by decide) ?_
    exact r_i hx hb hr hlocks rfl dX1_lastDepth_22
abbrev rm_X1_drop : Room := { frames := 1, cells := 0, slots := 0, locals := 20 }
set_option maxHeartbeats 4000000 in
set_option maxRecDepth 100000 in
theorem c_X1_drop (l : Launch) (dC : Nat → ClassId) (dI : Nat → Nat → Nat) (cI cJ cZ : ClassId) (q0 q1 q2 q3 : Nat) (hw : Nat → Int64) (ho hd : Nat → Int32) (hn : Nat) (HW HO HE : Nat → Nat) (hHH : bHH hw ho hd hn HW HO HE) (sz : Nat) (h0 : 0 < hn) : Met l yX1_drop wsX1_drop rm_X1_drop (mPc (dC, dI) (tysA cI cJ cZ) (whi q0 q1 q2 q3 cI cJ hw ho hd hn) sz [.ref (q0)]) (mQv (dC, dI) (fun (u : Nat) => u = hn - 1) (fun u => whi q0 q1 q2 q3 cI cJ hw ho hd u) (va_A (whi q0 q1 q2 q3 cI cJ hw ho hd hn) sz)) 0 0 (va_A (whi q0 q1 q2 q3 cI cJ hw ho hd hn) sz) := by
  refine met_m (cc := cX1_drop) (maxL := 1) (ret := none) (own := RX1) (Qc := fun A => mQv (dC, dI) (fun (u : Nat) => u = hn - 1) (fun u => whi q0 q1 q2 q3 cI cJ hw ho hd u) A) (by decide) rfl rfl (Nat.le_of_ble_eq_true rfl) ?_
  intro p e s m below meth c S hr hlocks hname hK A hA hP hD hS ls hl
  obtain ⟨hx, hb, hml, hown, hts⟩ := id S
  generalize hQQ : MQ below (mQv (dC, dI) (fun (u : Nat) => u = hn - 1) (fun u => whi q0 q1 q2 q3 cI cJ hw ho hd u) A) ([.ref (q0)] : List Value).toArray s 0 0 A = QQ
  have hl : lv_has ls 1 [(0, .ref (q0))] := hl
  have hi1 : ∀ w ∈ wsX10, w ∈ wsX1_drop := fun _ h => List.mem_cons_of_mem _ (List.mem_append_right _ h)
  obtain ⟨hh12, hkh⟩ := id hHH
  refine lv_aload_n hx hb dX1_drop_0 rfl (lv_at hl 0 rfl) ?_
  refine c_Vi (As := []) (rest := []) (ci := 1) (q0 := 0) S (c_X1_hasLast l dC dI cI cJ cZ q0 q1 q2 q3 hw ho hd hn HW HO HE hHH ) (cwV 0 hts gX1_drop_X1_hasLast rfl rfl rfl (by decide +kernel) ⟨Nat.le_of_ble_eq_true rfl, Nat.le_of_ble_eq_true rfl⟩) hK hP rfl rfl rfl hl.1 rfl (Nat.le_of_ble_eq_true rfl) dX1_drop_1 ⟨Nat.le_of_ble_eq_true rfl, Nat.le_of_ble_eq_true rfl⟩ ?_
  refine b_eq (tgt := 17) hx hb dX1_drop_4 (by decide) (fun c_4 => ?_) (fun c_4 => ?_)
  · exact absurd h0 (of_decide_eq_false c_4)
  · refine lv_aload_n hx hb dX1_drop_7 rfl (lv_at hl 0 rfl) ?_
    refine lv_dup hx hb dX1_drop_8 rfl ?_
    refine va_get (D := (dC, dI)) (ci := 1) (v := .int (nI (hn))) (C := RX1) (T := TX1) (N := 4) hx hb hts hi1 hown hK hP 0 rfl rfl 3 (by decide) (hts (.fieldLink RX1 22 "BurstWords$History" "size" "I") (by decide +kernel)) (fun _ h9 => h9) rfl dX1_drop_9 ?_
    refine lv_iconst (v := nI (1)) hx hb dX1_drop_12 (by decide) ?_
    refine lv_isub hx hb dX1_drop_13 ?_
    refine tpi (pk_sub (by omega)) ?_
    refine va_put (D := (dC, dI)) (ci := 1) (v := .int (nI (hn - 1))) (ty := .int) (C := RX1) (T := TX1) (N := 4) hx hb hts hi1 tyX1 tyX1_ok nmX1 hown hK hP hD hS 0 rfl rfl 3 (by decide) (hts (.fieldLink RX1 22 "BurstWords$History" "size" "I") (by decide +kernel)) (fun _ h9 => h9) rfl (by decide +kernel) rfl rfl (Nat.le_of_ble_eq_true rfl) dX1_drop_14 (fun H locs hP hD hS => ?_)
    have hP : va_P (dC, dI) vwCl (whi q0 q1 q2 q3 cI cJ hw ho hd (hn - 1)) H := hP
    have hD : va_D A (whi q0 q1 q2 q3 cI cJ hw ho hd (hn - 1)) := hD
    rw [← hQQ]
    exact m_v (hn - 1) hx hb hr hlocks rfl hP hD hS dX1_drop_17
abbrev rm_X1_loseOldest : Room := { frames := 1, cells := 0, slots := 0, locals := 34 }
set_option maxHeartbeats 4000000 in
set_option maxRecDepth 100000 in
theorem c_X1_loseOldest (l : Launch) (dC : Nat → ClassId) (dI : Nat → Nat → Nat) (cI cJ cZ : ClassId) (q0 q1 q2 q3 : Nat) (hw : Nat → Int64) (ho hd : Nat → Int32) (hn : Nat) (HW HO HE : Nat → Nat) (hHH : bHH hw ho hd hn HW HO HE) (sz : Nat) : Met l yX1_loseOldest wsX1_loseOldest rm_X1_loseOldest (mPc (dC, dI) (tysA cI cJ cZ) (whi q0 q1 q2 q3 cI cJ hw ho hd hn) sz [.ref (q0)]) (mQv (dC, dI) (fun (u : (Nat → Int64) × (Nat → Int32) × (Nat → Int32) × (Nat)) => u.2.2.2 = 11 ∧ ∀ k, k < 11 → u.1 k = hw (k + 1) ∧ u.2.1 k = ho (k + 1) ∧ u.2.2.1 k = hd (k + 1)) (fun u => whi q0 q1 q2 q3 cI cJ u.1 u.2.1 u.2.2.1 u.2.2.2) (va_A (whi q0 q1 q2 q3 cI cJ hw ho hd hn) sz)) 0 0 (va_A (whi q0 q1 q2 q3 cI cJ hw ho hd hn) sz) := by
  refine met_m (cc := cX1_loseOldest) (maxL := 1) (ret := none) (own := RX1) (Qc := fun A => mQv (dC, dI) (fun (u : (Nat → Int64) × (Nat → Int32) × (Nat → Int32) × (Nat)) => u.2.2.2 = 11 ∧ ∀ k, k < 11 → u.1 k = hw (k + 1) ∧ u.2.1 k = ho (k + 1) ∧ u.2.2.1 k = hd (k + 1)) (fun u => whi q0 q1 q2 q3 cI cJ u.1 u.2.1 u.2.2.1 u.2.2.2) A) (by decide) rfl rfl (Nat.le_of_ble_eq_true rfl) ?_
  intro p e s m below meth c S hr hlocks hname hK A hA hP hD hS ls hl
  obtain ⟨hx, hb, hml, hown, hts⟩ := id S
  generalize hQQ : MQ below (mQv (dC, dI) (fun (u : (Nat → Int64) × (Nat → Int32) × (Nat → Int32) × (Nat)) => u.2.2.2 = 11 ∧ ∀ k, k < 11 → u.1 k = hw (k + 1) ∧ u.2.1 k = ho (k + 1) ∧ u.2.2.1 k = hd (k + 1)) (fun u => whi q0 q1 q2 q3 cI cJ u.1 u.2.1 u.2.2.1 u.2.2.2) A) ([.ref (q0)] : List Value).toArray s 0 0 A = QQ
  have hl : lv_has ls 1 [(0, .ref (q0))] := hl
  have hi1 : ∀ w ∈ wsX10, w ∈ wsX1_loseOldest := fun _ h => List.mem_cons_of_mem _ (List.mem_append_right _ h)
  obtain ⟨hh12, hkh⟩ := id hHH
  refine lv_aload_n hx hb dX1_loseOldest_0 rfl (lv_at hl 0 rfl) ?_
  refine lv_bipush (v := nI (11)) hx hb dX1_loseOldest_1 (by decide) ?_
  refine va_put (D := (dC, dI)) (ci := 1) (v := .int (nI (11))) (ty := .int) (C := RX1) (T := TX1) (N := 4) hx hb hts hi1 tyX1 tyX1_ok nmX1 hown hK hP hD hS 0 rfl rfl 3 (by decide) (hts (.fieldLink RX1 22 "BurstWords$History" "size" "I") (by decide +kernel)) (fun _ h9 => h9) rfl (by decide +kernel) rfl rfl (Nat.le_of_ble_eq_true rfl) dX1_loseOldest_3 (fun H locs hP hD hS => ?_)
  have hP : va_P (dC, dI) vwCl (whi q0 q1 q2 q3 cI cJ hw ho hd 11) H := hP
  have hD : va_D A (whi q0 q1 q2 q3 cI cJ hw ho hd 11) := hD
  refine lv_aload_n hx hb dX1_loseOldest_6 rfl (lv_at hl 0 rfl) ?_
  refine va_get (D := (dC, dI)) (ci := 1) (v := .ref (q1)) (C := RX1) (T := TX1) (N := 4) hx hb hts hi1 hown hK hP 0 rfl rfl 0 (by decide) (hts (.fieldLink RX1 9 "BurstWords$History" "words" "[J") (by decide +kernel)) (fun _ h9 => h9) rfl dX1_loseOldest_7 ?_
  refine lv_iconst (v := nI (1)) hx hb dX1_loseOldest_10 (by decide) ?_
  refine lv_aload_n hx hb dX1_loseOldest_11 rfl (lv_at hl 0 rfl) ?_
  refine va_get (D := (dC, dI)) (ci := 1) (v := .ref (q1)) (C := RX1) (T := TX1) (N := 4) hx hb hts hi1 hown hK hP 0 rfl rfl 0 (by decide) (hts (.fieldLink RX1 9 "BurstWords$History" "words" "[J") (by decide +kernel)) (fun _ h9 => h9) rfl dX1_loseOldest_12 ?_
  refine lv_iconst (v := nI (0)) hx hb dX1_loseOldest_15 (by decide) ?_
  refine lv_aload_n hx hb dX1_loseOldest_16 rfl (lv_at hl 0 rfl) ?_
  refine va_get (D := (dC, dI)) (ci := 1) (v := .int (nI (11))) (C := RX1) (T := TX1) (N := 4) hx hb hts hi1 hown hK hP 0 rfl rfl 3 (by decide) (hts (.fieldLink RX1 22 "BurstWords$History" "size" "I") (by decide +kernel)) (fun _ h9 => h9) rfl dX1_loseOldest_17 ?_
  refine cp_l (sp := 1) (dp := 0) (n := 11) hx hb (hml.trans hl.1.symm) hown (hts (.methodLink RX1 29 arraycopyName) (by decide +kernel)) (hts (.native arraycopyName) (by decide +kernel)) (hts (.static arraycopyName) (by decide +kernel)) (hts (.initialized "java/lang/System") (by decide +kernel)) hK hP hD hS 1 1 rfl rfl (by decide) (by omega) (by omega) (Nat.le_of_ble_eq_true rfl) (Nat.le_of_ble_eq_true rfl) dX1_loseOldest_20 (fun H locs hP hD hS => ?_)
  have hP : va_P (dC, dI) vwCl (whi q0 q1 q2 q3 cI cJ (va_cpy hw hw 1 0 11) ho hd 11) H := hP
  have hD : va_D A (whi q0 q1 q2 q3 cI cJ (va_cpy hw hw 1 0 11) ho hd 11) := hD
  refine lv_aload_n hx hb dX1_loseOldest_23 rfl (lv_at hl 0 rfl) ?_
  refine va_get (D := (dC, dI)) (ci := 1) (v := .ref (q2)) (C := RX1) (T := TX1) (N := 4) hx hb hts hi1 hown hK hP 0 rfl rfl 1 (by decide) (hts (.fieldLink RX1 15 "BurstWords$History" "often" "[I") (by decide +kernel)) (fun _ h9 => h9) rfl dX1_loseOldest_24 ?_
  refine lv_iconst (v := nI (1)) hx hb dX1_loseOldest_27 (by decide) ?_
  refine lv_aload_n hx hb dX1_loseOldest_28 rfl (lv_at hl 0 rfl) ?_
  refine va_get (D := (dC, dI)) (ci := 1) (v := .ref (q2)) (C := RX1) (T := TX1) (N := 4) hx hb hts hi1 hown hK hP 0 rfl rfl 1 (by decide) (hts (.fieldLink RX1 15 "BurstWords$History" "often" "[I") (by decide +kernel)) (fun _ h9 => h9) rfl dX1_loseOldest_29 ?_
  refine lv_iconst (v := nI (0)) hx hb dX1_loseOldest_32 (by decide) ?_
  refine lv_aload_n hx hb dX1_loseOldest_33 rfl (lv_at hl 0 rfl) ?_
  refine va_get (D := (dC, dI)) (ci := 1) (v := .int (nI (11))) (C := RX1) (T := TX1) (N := 4) hx hb hts hi1 hown hK hP 0 rfl rfl 3 (by decide) (hts (.fieldLink RX1 22 "BurstWords$History" "size" "I") (by decide +kernel)) (fun _ h9 => h9) rfl dX1_loseOldest_34 ?_
  refine cp_i (sp := 1) (dp := 0) (n := 11) hx hb (hml.trans hl.1.symm) hown (hts (.methodLink RX1 29 arraycopyName) (by decide +kernel)) (hts (.native arraycopyName) (by decide +kernel)) (hts (.static arraycopyName) (by decide +kernel)) (hts (.initialized "java/lang/System") (by decide +kernel)) hK hP hD hS 2 0 rfl rfl (by decide) (by omega) (by omega) (Nat.le_of_ble_eq_true rfl) (Nat.le_of_ble_eq_true rfl) dX1_loseOldest_37 (fun H locs hP hD hS => ?_)
  have hP : va_P (dC, dI) vwCl (whi q0 q1 q2 q3 cI cJ (va_cpy hw hw 1 0 11) (va_cpy ho ho 1 0 11) hd 11) H := hP
  have hD : va_D A (whi q0 q1 q2 q3 cI cJ (va_cpy hw hw 1 0 11) (va_cpy ho ho 1 0 11) hd 11) := hD
  refine lv_aload_n hx hb dX1_loseOldest_40 rfl (lv_at hl 0 rfl) ?_
  refine va_get (D := (dC, dI)) (ci := 1) (v := .ref (q3)) (C := RX1) (T := TX1) (N := 4) hx hb hts hi1 hown hK hP 0 rfl rfl 2 (by decide) (hts (.fieldLink RX1 19 "BurstWords$History" "depths" "[I") (by decide +kernel)) (fun _ h9 => h9) rfl dX1_loseOldest_41 ?_
  refine lv_iconst (v := nI (1)) hx hb dX1_loseOldest_44 (by decide) ?_
  refine lv_aload_n hx hb dX1_loseOldest_45 rfl (lv_at hl 0 rfl) ?_
  refine va_get (D := (dC, dI)) (ci := 1) (v := .ref (q3)) (C := RX1) (T := TX1) (N := 4) hx hb hts hi1 hown hK hP 0 rfl rfl 2 (by decide) (hts (.fieldLink RX1 19 "BurstWords$History" "depths" "[I") (by decide +kernel)) (fun _ h9 => h9) rfl dX1_loseOldest_46 ?_
  refine lv_iconst (v := nI (0)) hx hb dX1_loseOldest_49 (by decide) ?_
  refine lv_aload_n hx hb dX1_loseOldest_50 rfl (lv_at hl 0 rfl) ?_
  refine va_get (D := (dC, dI)) (ci := 1) (v := .int (nI (11))) (C := RX1) (T := TX1) (N := 4) hx hb hts hi1 hown hK hP 0 rfl rfl 3 (by decide) (hts (.fieldLink RX1 22 "BurstWords$History" "size" "I") (by decide +kernel)) (fun _ h9 => h9) rfl dX1_loseOldest_51 ?_
  refine cp_i (sp := 1) (dp := 0) (n := 11) hx hb (hml.trans hl.1.symm) hown (hts (.methodLink RX1 29 arraycopyName) (by decide +kernel)) (hts (.native arraycopyName) (by decide +kernel)) (hts (.static arraycopyName) (by decide +kernel)) (hts (.initialized "java/lang/System") (by decide +kernel)) hK hP hD hS 3 0 rfl rfl (by decide) (by omega) (by omega) (Nat.le_of_ble_eq_true rfl) (Nat.le_of_ble_eq_true rfl) dX1_loseOldest_54 (fun H locs hP hD hS => ?_)
  have hP : va_P (dC, dI) vwCl (whi q0 q1 q2 q3 cI cJ (va_cpy hw hw 1 0 11) (va_cpy ho ho 1 0 11) (va_cpy hd hd 1 0 11) 11) H := hP
  have hD : va_D A (whi q0 q1 q2 q3 cI cJ (va_cpy hw hw 1 0 11) (va_cpy ho ho 1 0 11) (va_cpy hd hd 1 0 11) 11) := hD
  rw [← hQQ]
  exact m_v (va_cpy hw hw 1 0 11, va_cpy ho ho 1 0 11, va_cpy hd hd 1 0 11, 11) hx hb hr hlocks ⟨rfl, fun k h => ⟨(pk_cpy_in (Nat.zero_le k) (by omega)).trans (by rw [Nat.sub_zero, Nat.add_comm]), (pk_cpy_in (Nat.zero_le k) (by omega)).trans (by rw [Nat.sub_zero, Nat.add_comm]), (pk_cpy_in (Nat.zero_le k) (by omega)).trans (by rw [Nat.sub_zero, Nat.add_comm])⟩⟩ hP hD hS dX1_loseOldest_57
abbrev rm_X1_push : Room := { frames := 2, cells := 0, slots := 0, locals := 54 }
set_option maxHeartbeats 4000000 in
set_option maxRecDepth 100000 in
theorem c_X1_push (l : Launch) (dC : Nat → ClassId) (dI : Nat → Nat → Nat) (cI cJ cZ : ClassId) (q0 q1 q2 q3 : Nat) (hw : Nat → Int64) (ho hd : Nat → Int32) (hn : Nat) (HW HO HE : Nat → Nat) (hHH : bHH hw ho hd hn HW HO HE) (sz : Nat) (x : Nat) (y : Nat) (z : Nat) (hx7 : bwf x) (hy : y ≤ 99) (hz : z ≤ 8) : Met l yX1_push wsX1_push rm_X1_push (mPc (dC, dI) (tysA cI cJ cZ) (whi q0 q1 q2 q3 cI cJ hw ho hd hn) sz [.ref (q0), .long (lN (be8 x)), .int (nI (y)), .int (nI (z))]) (mQv (dC, dI) (fun (u : (Nat → Int64) × (Nat → Int32) × (Nat → Int32) × (Nat)) => u.2.2.2 = bhn hn ∧ bHH u.1 u.2.1 u.2.2.1 u.2.2.2 (bhp HW hn x) (bhp HO hn y) (bhp HE hn z)) (fun u => whi q0 q1 q2 q3 cI cJ u.1 u.2.1 u.2.2.1 u.2.2.2) (va_A (whi q0 q1 q2 q3 cI cJ hw ho hd hn) sz)) 0 0 (va_A (whi q0 q1 q2 q3 cI cJ hw ho hd hn) sz) := by
  refine met_m (cc := cX1_push) (maxL := 5) (ret := none) (own := RX1) (Qc := fun A => mQv (dC, dI) (fun (u : (Nat → Int64) × (Nat → Int32) × (Nat → Int32) × (Nat)) => u.2.2.2 = bhn hn ∧ bHH u.1 u.2.1 u.2.2.1 u.2.2.2 (bhp HW hn x) (bhp HO hn y) (bhp HE hn z)) (fun u => whi q0 q1 q2 q3 cI cJ u.1 u.2.1 u.2.2.1 u.2.2.2) A) (by decide) rfl rfl (Nat.le_of_ble_eq_true rfl) ?_
  intro p e s m below meth c S hr hlocks hname hK A hA hP hD hS ls hl
  obtain ⟨hx, hb, hml, hown, hts⟩ := id S
  generalize hQQ : MQ below (mQv (dC, dI) (fun (u : (Nat → Int64) × (Nat → Int32) × (Nat → Int32) × (Nat)) => u.2.2.2 = bhn hn ∧ bHH u.1 u.2.1 u.2.2.1 u.2.2.2 (bhp HW hn x) (bhp HO hn y) (bhp HE hn z)) (fun u => whi q0 q1 q2 q3 cI cJ u.1 u.2.1 u.2.2.1 u.2.2.2) A) ([.ref (q0), .long (lN (be8 x)), .int (nI (y)), .int (nI (z))] : List Value).toArray s 0 0 A = QQ
  have hl : lv_has ls 5 [(0, .ref (q0)), (1, .long (lN (be8 x))), (3, .int (nI (y))), (4, .int (nI (z)))] := hl
  have hi1 : ∀ w ∈ wsX10, w ∈ wsX1_push := fun _ h => List.mem_cons_of_mem _ (List.mem_append_right _ h)
  obtain ⟨hh12, hkh⟩ := id hHH
  refine lv_aload_n hx hb dX1_push_0 rfl (lv_at hl 0 rfl) ?_
  refine va_get (D := (dC, dI)) (ci := 1) (v := .int (nI (hn))) (C := RX1) (T := TX1) (N := 4) hx hb hts hi1 hown hK hP 0 rfl rfl 3 (by decide) (hts (.fieldLink RX1 22 "BurstWords$History" "size" "I") (by decide +kernel)) (fun _ h9 => h9) rfl dX1_push_1 ?_
  refine lv_bipush (v := nI (12)) hx hb dX1_push_4 (by decide) ?_
  refine n_lt (tgt := 13) hx hb dX1_push_6 (by decide) (by omega) (by omega) (fun c_6 => ?_) (fun c_6 => ?_)
  · refine lv_aload_n hx hb dX1_push_13 rfl (lv_at hl 0 rfl) ?_
    refine va_get (D := (dC, dI)) (ci := 1) (v := .ref (q1)) (C := RX1) (T := TX1) (N := 4) hx hb hts hi1 hown hK hP 0 rfl rfl 0 (by decide) (hts (.fieldLink RX1 9 "BurstWords$History" "words" "[J") (by decide +kernel)) (fun _ h9 => h9) rfl dX1_push_14 ?_
    refine lv_aload_n hx hb dX1_push_17 rfl (lv_at hl 0 rfl) ?_
    refine va_get (D := (dC, dI)) (ci := 1) (v := .int (nI (hn))) (C := RX1) (T := TX1) (N := 4) hx hb hts hi1 hown hK hP 0 rfl rfl 3 (by decide) (hts (.fieldLink RX1 22 "BurstWords$History" "size" "I") (by decide +kernel)) (fun _ h9 => h9) rfl dX1_push_18 ?_
    refine lv_lload_n hx hb dX1_push_21 rfl (lv_at hl 1 rfl) ?_
    refine s_l (k := hn) hx hb hK hP hD hS 1 1 rfl rfl (hin := (by omega)) (hn := by decide) (hdg := dX1_push_22) (fun H locs hP hD hS => ?_)
    have hP : va_P (dC, dI) vwCl (whi q0 q1 q2 q3 cI cJ (vp_updL hw hn (lN (be8 x))) ho hd hn) H := hP
    have hD : va_D A (whi q0 q1 q2 q3 cI cJ (vp_updL hw hn (lN (be8 x))) ho hd hn) := hD
    refine lv_aload_n hx hb dX1_push_23 rfl (lv_at hl 0 rfl) ?_
    refine va_get (D := (dC, dI)) (ci := 1) (v := .ref (q2)) (C := RX1) (T := TX1) (N := 4) hx hb hts hi1 hown hK hP 0 rfl rfl 1 (by decide) (hts (.fieldLink RX1 15 "BurstWords$History" "often" "[I") (by decide +kernel)) (fun _ h9 => h9) rfl dX1_push_24 ?_
    refine lv_aload_n hx hb dX1_push_27 rfl (lv_at hl 0 rfl) ?_
    refine va_get (D := (dC, dI)) (ci := 1) (v := .int (nI (hn))) (C := RX1) (T := TX1) (N := 4) hx hb hts hi1 hown hK hP 0 rfl rfl 3 (by decide) (hts (.fieldLink RX1 22 "BurstWords$History" "size" "I") (by decide +kernel)) (fun _ h9 => h9) rfl dX1_push_28 ?_
    refine lv_iload_n hx hb dX1_push_31 rfl (lv_at hl 2 rfl) ?_
    refine s_i (k := hn) hx hb hK hP hD hS 2 0 rfl rfl (hin := (by omega)) (hn := by decide) (hdg := dX1_push_32) (fun H locs hP hD hS => ?_)
    have hP : va_P (dC, dI) vwCl (whi q0 q1 q2 q3 cI cJ (vp_updL hw hn (lN (be8 x))) (upd ho hn (nI (y))) hd hn) H := hP
    have hD : va_D A (whi q0 q1 q2 q3 cI cJ (vp_updL hw hn (lN (be8 x))) (upd ho hn (nI (y))) hd hn) := hD
    refine lv_aload_n hx hb dX1_push_33 rfl (lv_at hl 0 rfl) ?_
    refine va_get (D := (dC, dI)) (ci := 1) (v := .ref (q3)) (C := RX1) (T := TX1) (N := 4) hx hb hts hi1 hown hK hP 0 rfl rfl 2 (by decide) (hts (.fieldLink RX1 19 "BurstWords$History" "depths" "[I") (by decide +kernel)) (fun _ h9 => h9) rfl dX1_push_34 ?_
    refine lv_aload_n hx hb dX1_push_37 rfl (lv_at hl 0 rfl) ?_
    refine va_get (D := (dC, dI)) (ci := 1) (v := .int (nI (hn))) (C := RX1) (T := TX1) (N := 4) hx hb hts hi1 hown hK hP 0 rfl rfl 3 (by decide) (hts (.fieldLink RX1 22 "BurstWords$History" "size" "I") (by decide +kernel)) (fun _ h9 => h9) rfl dX1_push_38 ?_
    refine lv_iload hx hb dX1_push_41 (lv_at hl 3 rfl) ?_
    refine s_i (k := hn) hx hb hK hP hD hS 3 0 rfl rfl (hin := (by omega)) (hn := by decide) (hdg := dX1_push_43) (fun H locs hP hD hS => ?_)
    have hP : va_P (dC, dI) vwCl (whi q0 q1 q2 q3 cI cJ (vp_updL hw hn (lN (be8 x))) (upd ho hn (nI (y))) (upd hd hn (nI (z))) hn) H := hP
    have hD : va_D A (whi q0 q1 q2 q3 cI cJ (vp_updL hw hn (lN (be8 x))) (upd ho hn (nI (y))) (upd hd hn (nI (z))) hn) := hD
    refine lv_aload_n hx hb dX1_push_44 rfl (lv_at hl 0 rfl) ?_
    refine lv_dup hx hb dX1_push_45 rfl ?_
    refine va_get (D := (dC, dI)) (ci := 1) (v := .int (nI (hn))) (C := RX1) (T := TX1) (N := 4) hx hb hts hi1 hown hK hP 0 rfl rfl 3 (by decide) (hts (.fieldLink RX1 22 "BurstWords$History" "size" "I") (by decide +kernel)) (fun _ h9 => h9) rfl dX1_push_46 ?_
    refine lv_iconst (v := nI (1)) hx hb dX1_push_49 (by decide) ?_
    refine lv_iadd hx hb dX1_push_50 ?_
    refine tpi (nI_add _ _) ?_
    refine va_put (D := (dC, dI)) (ci := 1) (v := .int (nI (hn + 1))) (ty := .int) (C := RX1) (T := TX1) (N := 4) hx hb hts hi1 tyX1 tyX1_ok nmX1 hown hK hP hD hS 0 rfl rfl 3 (by decide) (hts (.fieldLink RX1 22 "BurstWords$History" "size" "I") (by decide +kernel)) (fun _ h9 => h9) rfl (by decide +kernel) rfl rfl (Nat.le_of_ble_eq_true rfl) dX1_push_51 (fun H locs hP hD hS => ?_)
    have hP : va_P (dC, dI) vwCl (whi q0 q1 q2 q3 cI cJ (vp_updL hw hn (lN (be8 x))) (upd ho hn (nI (y))) (upd hd hn (nI (z))) (hn + 1)) H := hP
    have hD : va_D A (whi q0 q1 q2 q3 cI cJ (vp_updL hw hn (lN (be8 x))) (upd ho hn (nI (y))) (upd hd hn (nI (z))) (hn + 1)) := hD
    rw [← hQQ]
    exact m_v (vp_updL hw hn (lN (be8 x)), upd ho hn (nI (y)), upd hd hn (nI (z)), hn + 1) hx hb hr hlocks ⟨(if_pos c_6).symm, bHH_a hHH c_6 hx7 hy hz⟩ hP hD hS dX1_push_54
  · refine lv_aload_n hx hb dX1_push_9 rfl (lv_at hl 0 rfl) ?_
    refine m_Vv (As := []) (rest := []) (ci := 1) (q0 := 0) (wr := []) S (c_X1_loseOldest l dC dI cI cJ cZ q0 q1 q2 q3 hw ho hd hn HW HO HE hHH s.heap.size ) (cwV 0 hts gX1_push_X1_loseOldest rfl rfl rfl (by decide +kernel) ⟨Nat.le_of_ble_eq_true rfl, Nat.le_of_ble_eq_true rfl⟩) hK hP hD hS hA [0, 1, 2, 3] [] hP hD rfl rfl (by decide) (by decide) rfl rfl rfl hl.1 rfl (Nat.le_of_ble_eq_true rfl) dX1_push_10 ⟨Nat.le_of_ble_eq_true rfl, Nat.le_of_ble_eq_true rfl⟩ (fun u_10 H locs hu_10 hP hD hS => ?_)
    obtain ⟨hw9, ho9, hd9, hn9⟩ := u_10
    have hP : va_P (dC, dI) vwCl (whi q0 q1 q2 q3 cI cJ hw9 ho9 hd9 hn9) H := hP
    have hD : va_D A (whi q0 q1 q2 q3 cI cJ hw9 ho9 hd9 hn9) := hD
    obtain ⟨e11, hsh⟩ := hu_10
    have e11 : hn9 = 11 := e11
    subst e11
    have hP : va_P (dC, dI) vwCl (whi q0 q1 q2 q3 cI cJ hw9 ho9 hd9 11) H := hP
    have hD : va_D A (whi q0 q1 q2 q3 cI cJ hw9 ho9 hd9 11) := hD
    refine lv_aload_n hx hb dX1_push_13 rfl (lv_at hl 0 rfl) ?_
    refine va_get (D := (dC, dI)) (ci := 1) (v := .ref (q1)) (C := RX1) (T := TX1) (N := 4) hx hb hts hi1 hown hK hP 0 rfl rfl 0 (by decide) (hts (.fieldLink RX1 9 "BurstWords$History" "words" "[J") (by decide +kernel)) (fun _ h9 => h9) rfl dX1_push_14 ?_
    refine lv_aload_n hx hb dX1_push_17 rfl (lv_at hl 0 rfl) ?_
    refine va_get (D := (dC, dI)) (ci := 1) (v := .int (nI (11))) (C := RX1) (T := TX1) (N := 4) hx hb hts hi1 hown hK hP 0 rfl rfl 3 (by decide) (hts (.fieldLink RX1 22 "BurstWords$History" "size" "I") (by decide +kernel)) (fun _ h9 => h9) rfl dX1_push_18 ?_
    refine lv_lload_n hx hb dX1_push_21 rfl (lv_at hl 1 rfl) ?_
    refine s_l (k := 11) hx hb hK hP hD hS 1 1 rfl rfl (hin := (by omega)) (hn := by decide) (hdg := dX1_push_22) (fun H locs hP hD hS => ?_)
    have hP : va_P (dC, dI) vwCl (whi q0 q1 q2 q3 cI cJ (vp_updL hw9 11 (lN (be8 x))) ho9 hd9 11) H := hP
    have hD : va_D A (whi q0 q1 q2 q3 cI cJ (vp_updL hw9 11 (lN (be8 x))) ho9 hd9 11) := hD
    refine lv_aload_n hx hb dX1_push_23 rfl (lv_at hl 0 rfl) ?_
    refine va_get (D := (dC, dI)) (ci := 1) (v := .ref (q2)) (C := RX1) (T := TX1) (N := 4) hx hb hts hi1 hown hK hP 0 rfl rfl 1 (by decide) (hts (.fieldLink RX1 15 "BurstWords$History" "often" "[I") (by decide +kernel)) (fun _ h9 => h9) rfl dX1_push_24 ?_
    refine lv_aload_n hx hb dX1_push_27 rfl (lv_at hl 0 rfl) ?_
    refine va_get (D := (dC, dI)) (ci := 1) (v := .int (nI (11))) (C := RX1) (T := TX1) (N := 4) hx hb hts hi1 hown hK hP 0 rfl rfl 3 (by decide) (hts (.fieldLink RX1 22 "BurstWords$History" "size" "I") (by decide +kernel)) (fun _ h9 => h9) rfl dX1_push_28 ?_
    refine lv_iload_n hx hb dX1_push_31 rfl (lv_at hl 2 rfl) ?_
    refine s_i (k := 11) hx hb hK hP hD hS 2 0 rfl rfl (hin := (by omega)) (hn := by decide) (hdg := dX1_push_32) (fun H locs hP hD hS => ?_)
    have hP : va_P (dC, dI) vwCl (whi q0 q1 q2 q3 cI cJ (vp_updL hw9 11 (lN (be8 x))) (upd ho9 11 (nI (y))) hd9 11) H := hP
    have hD : va_D A (whi q0 q1 q2 q3 cI cJ (vp_updL hw9 11 (lN (be8 x))) (upd ho9 11 (nI (y))) hd9 11) := hD
    refine lv_aload_n hx hb dX1_push_33 rfl (lv_at hl 0 rfl) ?_
    refine va_get (D := (dC, dI)) (ci := 1) (v := .ref (q3)) (C := RX1) (T := TX1) (N := 4) hx hb hts hi1 hown hK hP 0 rfl rfl 2 (by decide) (hts (.fieldLink RX1 19 "BurstWords$History" "depths" "[I") (by decide +kernel)) (fun _ h9 => h9) rfl dX1_push_34 ?_
    refine lv_aload_n hx hb dX1_push_37 rfl (lv_at hl 0 rfl) ?_
    refine va_get (D := (dC, dI)) (ci := 1) (v := .int (nI (11))) (C := RX1) (T := TX1) (N := 4) hx hb hts hi1 hown hK hP 0 rfl rfl 3 (by decide) (hts (.fieldLink RX1 22 "BurstWords$History" "size" "I") (by decide +kernel)) (fun _ h9 => h9) rfl dX1_push_38 ?_
    refine lv_iload hx hb dX1_push_41 (lv_at hl 3 rfl) ?_
    refine s_i (k := 11) hx hb hK hP hD hS 3 0 rfl rfl (hin := (by omega)) (hn := by decide) (hdg := dX1_push_43) (fun H locs hP hD hS => ?_)
    have hP : va_P (dC, dI) vwCl (whi q0 q1 q2 q3 cI cJ (vp_updL hw9 11 (lN (be8 x))) (upd ho9 11 (nI (y))) (upd hd9 11 (nI (z))) 11) H := hP
    have hD : va_D A (whi q0 q1 q2 q3 cI cJ (vp_updL hw9 11 (lN (be8 x))) (upd ho9 11 (nI (y))) (upd hd9 11 (nI (z))) 11) := hD
    refine lv_aload_n hx hb dX1_push_44 rfl (lv_at hl 0 rfl) ?_
    refine lv_dup hx hb dX1_push_45 rfl ?_
    refine va_get (D := (dC, dI)) (ci := 1) (v := .int (nI (11))) (C := RX1) (T := TX1) (N := 4) hx hb hts hi1 hown hK hP 0 rfl rfl 3 (by decide) (hts (.fieldLink RX1 22 "BurstWords$History" "size" "I") (by decide +kernel)) (fun _ h9 => h9) rfl dX1_push_46 ?_
    refine lv_iconst (v := nI (1)) hx hb dX1_push_49 (by decide) ?_
    refine lv_iadd hx hb dX1_push_50 ?_
    refine tpi (nI_add _ _) ?_
    refine va_put (D := (dC, dI)) (ci := 1) (v := .int (nI (11 + 1))) (ty := .int) (C := RX1) (T := TX1) (N := 4) hx hb hts hi1 tyX1 tyX1_ok nmX1 hown hK hP hD hS 0 rfl rfl 3 (by decide) (hts (.fieldLink RX1 22 "BurstWords$History" "size" "I") (by decide +kernel)) (fun _ h9 => h9) rfl (by decide +kernel) rfl rfl (Nat.le_of_ble_eq_true rfl) dX1_push_51 (fun H locs hP hD hS => ?_)
    have hP : va_P (dC, dI) vwCl (whi q0 q1 q2 q3 cI cJ (vp_updL hw9 11 (lN (be8 x))) (upd ho9 11 (nI (y))) (upd hd9 11 (nI (z))) (11 + 1)) H := hP
    have hD : va_D A (whi q0 q1 q2 q3 cI cJ (vp_updL hw9 11 (lN (be8 x))) (upd ho9 11 (nI (y))) (upd hd9 11 (nI (z))) (11 + 1)) := hD
    rw [← hQQ]
    exact m_v (vp_updL hw9 11 (lN (be8 x)), upd ho9 11 (nI (y)), upd hd9 11 (nI (z)), 11 + 1) hx hb hr hlocks ⟨(if_neg (Nat.not_lt.mpr c_6)).symm, bHH_b hHH (by omega) hsh hx7 hy hz⟩ hP hD hS dX1_push_54
abbrev rm_X2_size : Room := { frames := 0, cells := 0, slots := 0, locals := 0 }
set_option maxHeartbeats 4000000 in
set_option maxRecDepth 100000 in
theorem c_X2_size (l : Launch) (dC : Nat → ClassId) (dI : Nat → Nat → Nat) (cI cJ cZ : ClassId) (q0 q1 q2 q3 : Nat) (pl le so : Nat → Int32) (sn : Nat) (SA SL SI : Nat → Nat) (hSS : bSS pl le so sn SA SL SI) : Met l yX2_size wsX2_size rm_X2_size (rPc (dC, dI) (tysA cI cJ cZ) (wsi q0 q1 q2 q3 cI cZ pl le so sn) [.ref (q0)]) (Ri (nI (sn))) 0 0 (fun _ => False) := by
  refine met_r (cc := cX2_size) (maxL := 1) (ret := (some .int)) (own := RX2) (by decide) rfl rfl (Nat.le_of_ble_eq_true rfl) ?_
  intro p e s m below meth c S hr hlocks hP hK ls hl
  obtain ⟨hx, hb, hml, hown, hts⟩ := id S
  have hl : lv_has ls 1 [(0, .ref (q0))] := hl
  have hi2 : ∀ w ∈ wsX20, w ∈ wsX2_size := fun _ h => List.mem_cons_of_mem _ (List.mem_append_right _ h)
  obtain ⟨hs8, hks⟩ := id hSS
  refine lv_aload_n hx hb dX2_size_0 rfl (lv_at hl 0 rfl) ?_
  refine va_get (D := (dC, dI)) (ci := 2) (v := .int (nI (sn))) (C := RX2) (T := TX2) (N := 4) hx hb hts hi2 hown hK hP 0 rfl rfl 3 (by decide) (hts (.fieldLink RX2 22 "BurstWords$Sightings" "size" "I") (by decide +kernel)) (fun _ h9 => h9) rfl dX2_size_1 ?_
  exact r_i hx hb hr hlocks rfl dX2_size_4
abbrev rm_X2_empty : Room := { frames := 0, cells := 0, slots := 0, locals := 0 }
set_option maxHeartbeats 4000000 in
set_option maxRecDepth 100000 in
theorem c_X2_empty (l : Launch) (dC : Nat → ClassId) (dI : Nat → Nat → Nat) (cI cJ cZ : ClassId) (q0 q1 q2 q3 : Nat) (pl le so : Nat → Int32) (sn : Nat) (SA SL SI : Nat → Nat) (hSS : bSS pl le so sn SA SL SI) (sz : Nat) : Met l yX2_empty wsX2_empty rm_X2_empty (mPc (dC, dI) (tysA cI cJ cZ) (wsi q0 q1 q2 q3 cI cZ pl le so sn) sz [.ref (q0)]) (mQv (dC, dI) (fun (u : Nat) => u = 0) (fun u => wsi q0 q1 q2 q3 cI cZ pl le so u) (va_A (wsi q0 q1 q2 q3 cI cZ pl le so sn) sz)) 0 0 (va_A (wsi q0 q1 q2 q3 cI cZ pl le so sn) sz) := by
  refine met_m (cc := cX2_empty) (maxL := 1) (ret := none) (own := RX2) (Qc := fun A => mQv (dC, dI) (fun (u : Nat) => u = 0) (fun u => wsi q0 q1 q2 q3 cI cZ pl le so u) A) (by decide) rfl rfl (Nat.le_of_ble_eq_true rfl) ?_
  intro p e s m below meth c S hr hlocks hname hK A hA hP hD hS ls hl
  obtain ⟨hx, hb, hml, hown, hts⟩ := id S
  generalize hQQ : MQ below (mQv (dC, dI) (fun (u : Nat) => u = 0) (fun u => wsi q0 q1 q2 q3 cI cZ pl le so u) A) ([.ref (q0)] : List Value).toArray s 0 0 A = QQ
  have hl : lv_has ls 1 [(0, .ref (q0))] := hl
  have hi2 : ∀ w ∈ wsX20, w ∈ wsX2_empty := fun _ h => List.mem_cons_of_mem _ (List.mem_append_right _ h)
  obtain ⟨hs8, hks⟩ := id hSS
  refine lv_aload_n hx hb dX2_empty_0 rfl (lv_at hl 0 rfl) ?_
  refine lv_iconst (v := nI (0)) hx hb dX2_empty_1 (by decide) ?_
  refine va_put (D := (dC, dI)) (ci := 2) (v := .int (nI (0))) (ty := .int) (C := RX2) (T := TX2) (N := 4) hx hb hts hi2 tyX2 tyX2_ok nmX2 hown hK hP hD hS 0 rfl rfl 3 (by decide) (hts (.fieldLink RX2 22 "BurstWords$Sightings" "size" "I") (by decide +kernel)) (fun _ h9 => h9) rfl (by decide +kernel) rfl rfl (Nat.le_of_ble_eq_true rfl) dX2_empty_2 (fun H locs hP hD hS => ?_)
  have hP : va_P (dC, dI) vwCl (wsi q0 q1 q2 q3 cI cZ pl le so 0) H := hP
  have hD : va_D A (wsi q0 q1 q2 q3 cI cZ pl le so 0) := hD
  rw [← hQQ]
  exact m_v (0) hx hb hr hlocks rfl hP hD hS dX2_empty_5
abbrev rm_X2_push : Room := { frames := 0, cells := 0, slots := 0, locals := 0 }
set_option maxHeartbeats 4000000 in
set_option maxRecDepth 100000 in
theorem c_X2_push (l : Launch) (dC : Nat → ClassId) (dI : Nat → Nat → Nat) (cI cJ cZ : ClassId) (q0 q1 q2 q3 : Nat) (pl le so : Nat → Int32) (sn : Nat) (SA SL SI : Nat → Nat) (hSS : bSS pl le so sn SA SL SI) (sz : Nat) (i : Nat) (k : Nat) (t : Nat) (h8 : sn < 8) (hi6 : i ≤ 6) (hk1 : 97 ≤ k) (hk2 : k ≤ 122) : Met l yX2_push wsX2_push rm_X2_push (mPc (dC, dI) (tysA cI cJ cZ) (wsi q0 q1 q2 q3 cI cZ pl le so sn) sz [.ref (q0), .int (nI (i)), .int (nI (k)), .int (bI (t == 1))]) (mQv (dC, dI) (fun (u : (Nat → Int32) × (Nat → Int32) × (Nat → Int32) × (Nat)) => u.2.2.2 = sn + 1 ∧ bSS u.1 u.2.1 u.2.2.1 (sn + 1) (va_up SA sn i) (va_up SL sn (k - 96)) (va_up SI sn t)) (fun u => wsi q0 q1 q2 q3 cI cZ u.1 u.2.1 u.2.2.1 u.2.2.2) (va_A (wsi q0 q1 q2 q3 cI cZ pl le so sn) sz)) 0 0 (va_A (wsi q0 q1 q2 q3 cI cZ pl le so sn) sz) := by
  refine met_m (cc := cX2_push) (maxL := 4) (ret := none) (own := RX2) (Qc := fun A => mQv (dC, dI) (fun (u : (Nat → Int32) × (Nat → Int32) × (Nat → Int32) × (Nat)) => u.2.2.2 = sn + 1 ∧ bSS u.1 u.2.1 u.2.2.1 (sn + 1) (va_up SA sn i) (va_up SL sn (k - 96)) (va_up SI sn t)) (fun u => wsi q0 q1 q2 q3 cI cZ u.1 u.2.1 u.2.2.1 u.2.2.2) A) (by decide) rfl rfl (Nat.le_of_ble_eq_true rfl) ?_
  intro p e s m below meth c S hr hlocks hname hK A hA hP hD hS ls hl
  obtain ⟨hx, hb, hml, hown, hts⟩ := id S
  generalize hQQ : MQ below (mQv (dC, dI) (fun (u : (Nat → Int32) × (Nat → Int32) × (Nat → Int32) × (Nat)) => u.2.2.2 = sn + 1 ∧ bSS u.1 u.2.1 u.2.2.1 (sn + 1) (va_up SA sn i) (va_up SL sn (k - 96)) (va_up SI sn t)) (fun u => wsi q0 q1 q2 q3 cI cZ u.1 u.2.1 u.2.2.1 u.2.2.2) A) ([.ref (q0), .int (nI (i)), .int (nI (k)), .int (bI (t == 1))] : List Value).toArray s 0 0 A = QQ
  have hl : lv_has ls 4 [(0, .ref (q0)), (1, .int (nI (i))), (2, .int (nI (k))), (3, .int (bI (t == 1)))] := hl
  have hi2 : ∀ w ∈ wsX20, w ∈ wsX2_push := fun _ h => List.mem_cons_of_mem _ (List.mem_append_right _ h)
  obtain ⟨hs8, hks⟩ := id hSS
  refine lv_aload_n hx hb dX2_push_0 rfl (lv_at hl 0 rfl) ?_
  refine va_get (D := (dC, dI)) (ci := 2) (v := .int (nI (sn))) (C := RX2) (T := TX2) (N := 4) hx hb hts hi2 hown hK hP 0 rfl rfl 3 (by decide) (hts (.fieldLink RX2 22 "BurstWords$Sightings" "size" "I") (by decide +kernel)) (fun _ h9 => h9) rfl dX2_push_1 ?_
  refine lv_bipush (v := nI (8)) hx hb dX2_push_4 (by decide) ?_
  refine n_lt (tgt := 10) hx hb dX2_push_6 (by decide) (by omega) (by omega) (fun c_6 => ?_) (fun c_6 => ?_)
  · refine lv_aload_n hx hb dX2_push_10 rfl (lv_at hl 0 rfl) ?_
    refine va_get (D := (dC, dI)) (ci := 2) (v := .ref (q1)) (C := RX2) (T := TX2) (N := 4) hx hb hts hi2 hown hK hP 0 rfl rfl 0 (by decide) (hts (.fieldLink RX2 9 "BurstWords$Sightings" "places" "[I") (by decide +kernel)) (fun _ h9 => h9) rfl dX2_push_11 ?_
    refine lv_aload_n hx hb dX2_push_14 rfl (lv_at hl 0 rfl) ?_
    refine va_get (D := (dC, dI)) (ci := 2) (v := .int (nI (sn))) (C := RX2) (T := TX2) (N := 4) hx hb hts hi2 hown hK hP 0 rfl rfl 3 (by decide) (hts (.fieldLink RX2 22 "BurstWords$Sightings" "size" "I") (by decide +kernel)) (fun _ h9 => h9) rfl dX2_push_15 ?_
    refine lv_iload_n hx hb dX2_push_18 rfl (lv_at hl 1 rfl) ?_
    refine s_i (k := sn) hx hb hK hP hD hS 1 0 rfl rfl (hin := (by omega)) (hn := by decide) (hdg := dX2_push_19) (fun H locs hP hD hS => ?_)
    have hP : va_P (dC, dI) vwCl (wsi q0 q1 q2 q3 cI cZ (upd pl sn (nI (i))) le so sn) H := hP
    have hD : va_D A (wsi q0 q1 q2 q3 cI cZ (upd pl sn (nI (i))) le so sn) := hD
    refine lv_aload_n hx hb dX2_push_20 rfl (lv_at hl 0 rfl) ?_
    refine va_get (D := (dC, dI)) (ci := 2) (v := .ref (q2)) (C := RX2) (T := TX2) (N := 4) hx hb hts hi2 hown hK hP 0 rfl rfl 1 (by decide) (hts (.fieldLink RX2 15 "BurstWords$Sightings" "letters" "[I") (by decide +kernel)) (fun _ h9 => h9) rfl dX2_push_21 ?_
    refine lv_aload_n hx hb dX2_push_24 rfl (lv_at hl 0 rfl) ?_
    refine va_get (D := (dC, dI)) (ci := 2) (v := .int (nI (sn))) (C := RX2) (T := TX2) (N := 4) hx hb hts hi2 hown hK hP 0 rfl rfl 3 (by decide) (hts (.fieldLink RX2 22 "BurstWords$Sightings" "size" "I") (by decide +kernel)) (fun _ h9 => h9) rfl dX2_push_25 ?_
    refine lv_iload_n hx hb dX2_push_28 rfl (lv_at hl 2 rfl) ?_
    refine s_i (k := sn) hx hb hK hP hD hS 2 0 rfl rfl (hin := (by omega)) (hn := by decide) (hdg := dX2_push_29) (fun H locs hP hD hS => ?_)
    have hP : va_P (dC, dI) vwCl (wsi q0 q1 q2 q3 cI cZ (upd pl sn (nI (i))) (upd le sn (nI (k))) so sn) H := hP
    have hD : va_D A (wsi q0 q1 q2 q3 cI cZ (upd pl sn (nI (i))) (upd le sn (nI (k))) so sn) := hD
    refine lv_aload_n hx hb dX2_push_30 rfl (lv_at hl 0 rfl) ?_
    refine va_get (D := (dC, dI)) (ci := 2) (v := .ref (q3)) (C := RX2) (T := TX2) (N := 4) hx hb hts hi2 hown hK hP 0 rfl rfl 2 (by decide) (hts (.fieldLink RX2 18 "BurstWords$Sightings" "so" "[Z") (by decide +kernel)) (fun _ h9 => h9) rfl dX2_push_31 ?_
    refine lv_aload_n hx hb dX2_push_34 rfl (lv_at hl 0 rfl) ?_
    refine va_get (D := (dC, dI)) (ci := 2) (v := .int (nI (sn))) (C := RX2) (T := TX2) (N := 4) hx hb hts hi2 hown hK hP 0 rfl rfl 3 (by decide) (hts (.fieldLink RX2 22 "BurstWords$Sightings" "size" "I") (by decide +kernel)) (fun _ h9 => h9) rfl dX2_push_35 ?_
    refine lv_iload_n hx hb dX2_push_38 rfl (lv_at hl 3 rfl) ?_
    refine s_z (k := sn) (z := t == 1) (hz := rfl) hx hb hK hP hD hS 3 2 rfl rfl (hin := (by omega)) (hn := by decide) (hdg := dX2_push_39) (fun H locs hP hD hS => ?_)
    have hP : va_P (dC, dI) vwCl (wsi q0 q1 q2 q3 cI cZ (upd pl sn (nI (i))) (upd le sn (nI (k))) (upd so sn (bI (t == 1))) sn) H := hP
    have hD : va_D A (wsi q0 q1 q2 q3 cI cZ (upd pl sn (nI (i))) (upd le sn (nI (k))) (upd so sn (bI (t == 1))) sn) := hD
    refine lv_aload_n hx hb dX2_push_40 rfl (lv_at hl 0 rfl) ?_
    refine lv_dup hx hb dX2_push_41 rfl ?_
    refine va_get (D := (dC, dI)) (ci := 2) (v := .int (nI (sn))) (C := RX2) (T := TX2) (N := 4) hx hb hts hi2 hown hK hP 0 rfl rfl 3 (by decide) (hts (.fieldLink RX2 22 "BurstWords$Sightings" "size" "I") (by decide +kernel)) (fun _ h9 => h9) rfl dX2_push_42 ?_
    refine lv_iconst (v := nI (1)) hx hb dX2_push_45 (by decide) ?_
    refine lv_iadd hx hb dX2_push_46 ?_
    refine tpi (nI_add _ _) ?_
    refine va_put (D := (dC, dI)) (ci := 2) (v := .int (nI (sn + 1))) (ty := .int) (C := RX2) (T := TX2) (N := 4) hx hb hts hi2 tyX2 tyX2_ok nmX2 hown hK hP hD hS 0 rfl rfl 3 (by decide) (hts (.fieldLink RX2 22 "BurstWords$Sightings" "size" "I") (by decide +kernel)) (fun _ h9 => h9) rfl (by decide +kernel) rfl rfl (Nat.le_of_ble_eq_true rfl) dX2_push_47 (fun H locs hP hD hS => ?_)
    have hP : va_P (dC, dI) vwCl (wsi q0 q1 q2 q3 cI cZ (upd pl sn (nI (i))) (upd le sn (nI (k))) (upd so sn (bI (t == 1))) (sn + 1)) H := hP
    have hD : va_D A (wsi q0 q1 q2 q3 cI cZ (upd pl sn (nI (i))) (upd le sn (nI (k))) (upd so sn (bI (t == 1))) (sn + 1)) := hD
    rw [← hQQ]
    exact m_v (upd pl sn (nI (i)), upd le sn (nI (k)), upd so sn (bI (t == 1)), sn + 1) hx hb hr hlocks ⟨rfl, bSS_add hSS h8 hi6 hk1 hk2⟩ hP hD hS dX2_push_50
  · exact absurd h8 (by omega)
abbrev rm_X2_allow : Room := { frames := 2, cells := 0, slots := 0, locals := 42 }
set_option maxHeartbeats 4000000 in
set_option maxRecDepth 100000 in
theorem c_X2_allow (l : Launch) (dC : Nat → ClassId) (dI : Nat → Nat → Nat) (cI cJ cZ : ClassId) (q0 q1 q2 q3 : Nat) (pl le so : Nat → Int32) (sn : Nat) (SA SL SI : Nat → Nat) (hSS : bSS pl le so sn SA SL SI) (x : Nat) : Met l yX2_allow wsX2_allow rm_X2_allow (rPc (dC, dI) (tysA cI cJ cZ) (wsi q0 q1 q2 q3 cI cZ pl le so sn) [.ref (q0), .long (lN (be8 x))]) (Ri (bI (bft x SA SL SI sn))) 0 0 (fun _ => False) := by
  refine met_r (cc := cX2_allow) (maxL := 5) (ret := (some .boolean)) (own := RX2) (by decide) rfl rfl (Nat.le_of_ble_eq_true rfl) ?_
  intro p e s m below meth c S hr hlocks hP hK ls hl
  obtain ⟨hx, hb, hml, hown, hts⟩ := id S
  have hl : lv_has ls 5 [(0, .ref (q0)), (1, .long (lN (be8 x)))] := hl
  have hi2 : ∀ w ∈ wsX20, w ∈ wsX2_allow := fun _ h => List.mem_cons_of_mem _ (List.mem_append_right _ h)
  obtain ⟨hs8, hks⟩ := id hSS
  refine lv_iconst (v := nI (0)) hx hb dX2_allow_0 (by decide) ?_
  refine lv_istore_n (lv' := [(3, .int (nI (0))), (0, .ref (q0)), (1, .long (lN (be8 x)))]) hx hb dX2_allow_1 rfl hl (by decide) rfl (fun ls hl => ?_)
  have lp_2 : ∀ (j_2 : Nat) (i : Nat), (i ≤ sn) → (bft x SA SL SI i = true) → (sn - i) < j_2 → ∀ ls : Array Slot, lv_has ls 5 [(0, .ref (q0)), (1, .long (lN (be8 x))), (3, .int (nI (i)))] → W p l e rm_X2_allow s m ([.ref (q0), .long (lN (be8 x))] : List Value).toArray below meth c s.heap [] 0 0 (MQ below (Ri (bI (bft x SA SL SI sn))) ([.ref (q0), .long (lN (be8 x))] : List Value).toArray s 0 0 (fun _ => False)) (F0 m 2 ls []) := by
    intro j_2
    induction j_2 with
    | zero => intro i _ _ h0; exact absurd h0 (Nat.not_lt_zero _)
    | succ j_2 ih_2 =>
      intro i hi hz hf_2 ls hl
      refine lv_iload_n hx hb dX2_allow_2 rfl (lv_at hl 2 rfl) ?_
      refine lv_aload_n hx hb dX2_allow_3 rfl (lv_at hl 0 rfl) ?_
      refine va_get (D := (dC, dI)) (ci := 2) (v := .int (nI (sn))) (C := RX2) (T := TX2) (N := 4) hx hb hts hi2 hown hK hP 0 rfl rfl 3 (by decide) (hts (.fieldLink RX2 22 "BurstWords$Sightings" "size" "I") (by decide +kernel)) (fun _ h9 => h9) rfl dX2_allow_4 ?_
      refine n_ge (tgt := 61) hx hb dX2_allow_7 (by decide) (by omega) (by omega) (fun c_7 => ?_) (fun c_7 => ?_)
      · refine lv_iconst (v := nI (1)) hx hb dX2_allow_61 (by decide) ?_
        exact r_z (x := true) hx hb hr hlocks rfl (by rw [← hz, show i = sn by omega]) dX2_allow_62
      · refine lv_iload_n hx hb dX2_allow_10 rfl (lv_at hl 2 rfl) ?_
        refine lv_bipush (v := nI (8)) hx hb dX2_allow_11 (by decide) ?_
        refine n_ge (tgt := 61) hx hb dX2_allow_13 (by decide) (by omega) (by omega) (fun c_13 => ?_) (fun c_13 => ?_)
        · exact absurd c_13 (by omega)
        · refine lv_lload_n hx hb dX2_allow_16 rfl (lv_at hl 1 rfl) ?_
          refine lv_aload_n hx hb dX2_allow_17 rfl (lv_at hl 0 rfl) ?_
          refine va_get (D := (dC, dI)) (ci := 2) (v := .ref (q1)) (C := RX2) (T := TX2) (N := 4) hx hb hts hi2 hown hK hP 0 rfl rfl 0 (by decide) (hts (.fieldLink RX2 9 "BurstWords$Sightings" "places" "[I") (by decide +kernel)) (fun _ h9 => h9) rfl dX2_allow_18 ?_
          refine lv_iload_n hx hb dX2_allow_21 rfl (lv_at hl 2 rfl) ?_
          refine g_i hx hb hK hP 1 0 rfl rfl (k := i) (by omega) (by decide) dX2_allow_22 (v := nI (SA i)) (hks _ (by omega)).1 ?_
          refine c_Si (As := [.long (lN (be8 x)), .int (nI (SA i))]) (rest := []) S (c_X3_letterAt l x (SA i) (hks _ (by omega)).2.1) (va_cwS 2 hts gX2_allow_X3_letterAt rfl rfl rfl (by decide +kernel) ⟨Nat.le_of_ble_eq_true rfl, Nat.le_of_ble_eq_true rfl⟩) rfl hl.1 rfl (Nat.le_of_ble_eq_true rfl) dX2_allow_23 ⟨Nat.le_of_ble_eq_true rfl, Nat.le_of_ble_eq_true rfl⟩ ?_
          refine lv_aload_n hx hb dX2_allow_26 rfl (lv_at hl 0 rfl) ?_
          refine va_get (D := (dC, dI)) (ci := 2) (v := .ref (q2)) (C := RX2) (T := TX2) (N := 4) hx hb hts hi2 hown hK hP 0 rfl rfl 1 (by decide) (hts (.fieldLink RX2 15 "BurstWords$Sightings" "letters" "[I") (by decide +kernel)) (fun _ h9 => h9) rfl dX2_allow_27 ?_
          refine lv_iload_n hx hb dX2_allow_30 rfl (lv_at hl 2 rfl) ?_
          refine g_i hx hb hK hP 2 0 rfl rfl (k := i) (by omega) (by decide) dX2_allow_31 (v := nI (SL i + 96)) (hks _ (by omega)).2.2.1 ?_
          refine n_ne (tgt := 39) hx hb dX2_allow_32 (by decide) (Nat.lt_trans (bch_sg _ _) (by decide)) (by have := (hks i (by omega)).2.2.2.2.1; omega) (fun c_32 => ?_) (fun c_32 => ?_)
          · refine lv_iconst (v := nI (0)) hx hb dX2_allow_39 (by decide) ?_
            refine tpi (y := bI false) rfl ?_
            refine lv_istore (lv' := [(4, .int (bI (false))), (0, .ref (q0)), (1, .long (lN (be8 x))), (3, .int (nI (i)))]) hx hb dX2_allow_40 hl (by decide) rfl (fun ls hl => ?_)
            refine lv_iload hx hb dX2_allow_42 (lv_at hl 0 rfl) ?_
            refine lv_aload_n hx hb dX2_allow_44 rfl (lv_at hl 1 rfl) ?_
            refine va_get (D := (dC, dI)) (ci := 2) (v := .ref (q3)) (C := RX2) (T := TX2) (N := 4) hx hb hts hi2 hown hK hP 0 rfl rfl 2 (by decide) (hts (.fieldLink RX2 18 "BurstWords$Sightings" "so" "[Z") (by decide +kernel)) (fun _ h9 => h9) rfl dX2_allow_45 ?_
            refine lv_iload_n hx hb dX2_allow_48 rfl (lv_at hl 3 rfl) ?_
            refine g_z hx hb hK hP 3 2 rfl rfl (k := i) (by omega) (by decide) dX2_allow_49 (v := bI (SI i == 1)) (hks _ (by omega)).2.2.2.2.2 ?_
            refine bb_eq (tgt := 55) hx hb dX2_allow_50 (by decide) (fun c_50 => ?_) (fun c_50 => ?_)
            · refine lv_iinc (v := nI (i + 1)) (lv' := [(3, .int (nI (i + 1))), (4, .int (bI (false))), (0, .ref (q0)), (1, .long (lN (be8 x)))]) hx hb dX2_allow_55 hl (k := 3) rfl (inc1 _) (by decide) rfl (fun ls hl => ?_)
              refine lv_goto (tgt := 2) hx hb dX2_allow_58 (by decide) ?_
              exact ih_2 (i + 1) (by omega) (by rw [bft, hz, show (bsg x (SA i) == SL i) = false from beq_false_of_ne (fun q => c_32 ((bch_96 (hks i (by omega)).2.2.2.1).mpr q)), ← c_50]; rfl) (by omega) ls (lv_sub hl [2, 3, 0] rfl)
            · refine lv_iconst (v := nI (0)) hx hb dX2_allow_53 (by decide) ?_
              exact r_z (x := false) hx hb hr hlocks rfl (bft_f (i := i + 1) (by rw [bft, hz, show (bsg x (SA i) == SL i) = false from beq_false_of_ne (fun q => c_32 ((bch_96 (hks i (by omega)).2.2.2.1).mpr q)), show (SI i == 1) = true from (by cases hh9 : (SI i == 1) <;> simp_all)]; rfl) sn (by omega)).symm dX2_allow_54
          · refine lv_iconst (v := nI (1)) hx hb dX2_allow_35 (by decide) ?_
            refine lv_goto (tgt := 40) hx hb dX2_allow_36 (by decide) ?_
            refine tpi (y := bI true) rfl ?_
            refine lv_istore (lv' := [(4, .int (bI (true))), (0, .ref (q0)), (1, .long (lN (be8 x))), (3, .int (nI (i)))]) hx hb dX2_allow_40 hl (by decide) rfl (fun ls hl => ?_)
            refine lv_iload hx hb dX2_allow_42 (lv_at hl 0 rfl) ?_
            refine lv_aload_n hx hb dX2_allow_44 rfl (lv_at hl 1 rfl) ?_
            refine va_get (D := (dC, dI)) (ci := 2) (v := .ref (q3)) (C := RX2) (T := TX2) (N := 4) hx hb hts hi2 hown hK hP 0 rfl rfl 2 (by decide) (hts (.fieldLink RX2 18 "BurstWords$Sightings" "so" "[Z") (by decide +kernel)) (fun _ h9 => h9) rfl dX2_allow_45 ?_
            refine lv_iload_n hx hb dX2_allow_48 rfl (lv_at hl 3 rfl) ?_
            refine g_z hx hb hK hP 3 2 rfl rfl (k := i) (by omega) (by decide) dX2_allow_49 (v := bI (SI i == 1)) (hks _ (by omega)).2.2.2.2.2 ?_
            refine bb_eq (tgt := 55) hx hb dX2_allow_50 (by decide) (fun c_50 => ?_) (fun c_50 => ?_)
            · refine lv_iinc (v := nI (i + 1)) (lv' := [(3, .int (nI (i + 1))), (4, .int (bI (true))), (0, .ref (q0)), (1, .long (lN (be8 x)))]) hx hb dX2_allow_55 hl (k := 3) rfl (inc1 _) (by decide) rfl (fun ls hl => ?_)
              refine lv_goto (tgt := 2) hx hb dX2_allow_58 (by decide) ?_
              exact ih_2 (i + 1) (by omega) (by rw [bft, hz, show (bsg x (SA i) == SL i) = true from beq_iff_eq.mpr ((bch_96 (hks i (by omega)).2.2.2.1).mp c_32), ← c_50]; rfl) (by omega) ls (lv_sub hl [2, 3, 0] rfl)
            · refine lv_iconst (v := nI (0)) hx hb dX2_allow_53 (by decide) ?_
              exact r_z (x := false) hx hb hr hlocks rfl (bft_f (i := i + 1) (by rw [bft, hz, show (bsg x (SA i) == SL i) = true from beq_iff_eq.mpr ((bch_96 (hks i (by omega)).2.2.2.1).mp c_32), show (SI i == 1) = false from (by cases hh9 : (SI i == 1) <;> simp_all)]; rfl) sn (by omega)).symm dX2_allow_54
  exact lp_2 _ (0) (by omega) rfl (Nat.lt_succ_self _) ls (lv_sub hl [1, 2, 0] rfl)
abbrev rm_X0_insert : Room := { frames := 4, cells := 0, slots := 0, locals := 91 }
set_option maxHeartbeats 4000000 in
set_option maxRecDepth 100000 in
theorem c_X0_insert (l : Launch) (dC : Nat → ClassId) (dI : Nat → Nat → Nat) (cI cJ cZ : ClassId) (q0 q1 q2 q3 : Nat) (w : Nat → Int64) (o d : Nat → Int32) (n : Nat) (V O E : Nat → Nat) (hDD : bDD w o d n V O E) (sz : Nat) (i : Nat) (x : Nat) (y : Nat) (hi : i ≤ n) (hn40 : n < 40) (hx7 : bwf x) (hx0 : 0 < x) (hy : y ≤ 99) : Met l yX0_insert wsX0_insert rm_X0_insert (mPc (dC, dI) (tysA cI cJ cZ) (wd q0 q1 q2 q3 cI cJ w o d n) sz [.ref (q0), .int (nI (i)), .long (lN (be8 x)), .int (nI (y))]) (mQv (dC, dI) (fun (u : (Nat → Int64) × (Nat → Int32) × (Nat → Int32) × (Nat)) => u.2.2.2 = n + 1 ∧ bDD u.1 u.2.1 u.2.2.1 (n + 1) (bic V i x) (bic O i y) (bic E i (bdp V E n x))) (fun u => wd q0 q1 q2 q3 cI cJ u.1 u.2.1 u.2.2.1 u.2.2.2) (va_A (wd q0 q1 q2 q3 cI cJ w o d n) sz)) 0 0 (va_A (wd q0 q1 q2 q3 cI cJ w o d n) sz) := by
  refine met_m (cc := cX0_insert) (maxL := 7) (ret := none) (own := RX0) (Qc := fun A => mQv (dC, dI) (fun (u : (Nat → Int64) × (Nat → Int32) × (Nat → Int32) × (Nat)) => u.2.2.2 = n + 1 ∧ bDD u.1 u.2.1 u.2.2.1 (n + 1) (bic V i x) (bic O i y) (bic E i (bdp V E n x))) (fun u => wd q0 q1 q2 q3 cI cJ u.1 u.2.1 u.2.2.1 u.2.2.2) A) (by decide) rfl rfl (Nat.le_of_ble_eq_true rfl) ?_
  intro p e s m below meth c S hr hlocks hname hK A hA hP hD hS ls hl
  obtain ⟨hx, hb, hml, hown, hts⟩ := id S
  generalize hQQ : MQ below (mQv (dC, dI) (fun (u : (Nat → Int64) × (Nat → Int32) × (Nat → Int32) × (Nat)) => u.2.2.2 = n + 1 ∧ bDD u.1 u.2.1 u.2.2.1 (n + 1) (bic V i x) (bic O i y) (bic E i (bdp V E n x))) (fun u => wd q0 q1 q2 q3 cI cJ u.1 u.2.1 u.2.2.1 u.2.2.2) A) ([.ref (q0), .int (nI (i)), .long (lN (be8 x)), .int (nI (y))] : List Value).toArray s 0 0 A = QQ
  have hl : lv_has ls 7 [(0, .ref (q0)), (1, .int (nI (i))), (2, .long (lN (be8 x))), (4, .int (nI (y)))] := hl
  have hi0 : ∀ w ∈ wsX00, w ∈ wsX0_insert := fun _ h => List.mem_cons_of_mem _ (List.mem_append_right _ h)
  obtain ⟨hn, hk⟩ := id hDD
  refine lv_iload_n hx hb dX0_insert_0 rfl (lv_at hl 1 rfl) ?_
  refine z_lt (tgt := 21) hx hb dX0_insert_1 (by decide) (by omega) ?_
  refine lv_iload_n hx hb dX0_insert_4 rfl (lv_at hl 1 rfl) ?_
  refine lv_aload_n hx hb dX0_insert_5 rfl (lv_at hl 0 rfl) ?_
  refine va_get (D := (dC, dI)) (ci := 0) (v := .int (nI (n))) (C := RX0) (T := TX0) (N := 4) hx hb hts hi0 hown hK hP 0 rfl rfl 3 (by decide) (hts (.fieldLink RX0 22 "BurstWords$Dictionary" "size" "I") (by decide +kernel)) (fun _ h9 => h9) rfl dX0_insert_6 ?_
  refine n_gt (tgt := 21) hx hb dX0_insert_9 (by decide) (by omega) (by omega) (fun c_9 => ?_) (fun c_9 => ?_)
  · exact absurd c_9 (by omega)
  · refine lv_aload_n hx hb dX0_insert_12 rfl (lv_at hl 0 rfl) ?_
    refine va_get (D := (dC, dI)) (ci := 0) (v := .int (nI (n))) (C := RX0) (T := TX0) (N := 4) hx hb hts hi0 hown hK hP 0 rfl rfl 3 (by decide) (hts (.fieldLink RX0 22 "BurstWords$Dictionary" "size" "I") (by decide +kernel)) (fun _ h9 => h9) rfl dX0_insert_13 ?_
    refine lv_bipush (v := nI (40)) hx hb dX0_insert_16 (by decide) ?_
    refine n_lt (tgt := 22) hx hb dX0_insert_18 (by decide) (by omega) (by omega) (fun c_18 => ?_) (fun c_18 => ?_)
    · refine lv_aload_n hx hb dX0_insert_22 rfl (lv_at hl 0 rfl) ?_
      refine lv_lload_n hx hb dX0_insert_23 rfl (lv_at hl 2 rfl) ?_
      refine c_Vi (As := [.long (lN (be8 x))]) (rest := []) (ci := 0) (q0 := 0) S (c_X0_depthOf l dC dI cI cJ cZ q0 q1 q2 q3 w o d n V O E hDD x) (cwV 1 hts gX0_insert_X0_depthOf rfl rfl rfl (by decide +kernel) ⟨Nat.le_of_ble_eq_true rfl, Nat.le_of_ble_eq_true rfl⟩) hK hP rfl rfl rfl hl.1 rfl (Nat.le_of_ble_eq_true rfl) dX0_insert_24 ⟨Nat.le_of_ble_eq_true rfl, Nat.le_of_ble_eq_true rfl⟩ ?_
      refine lv_istore (lv' := [(5, .int (nI (bdp V E n x))), (0, .ref (q0)), (1, .int (nI (i))), (2, .long (lN (be8 x))), (4, .int (nI (y)))]) hx hb dX0_insert_27 hl (by decide) rfl (fun ls hl => ?_)
      refine lv_aload_n hx hb dX0_insert_29 rfl (lv_at hl 1 rfl) ?_
      refine va_get (D := (dC, dI)) (ci := 0) (v := .int (nI (n))) (C := RX0) (T := TX0) (N := 4) hx hb hts hi0 hown hK hP 0 rfl rfl 3 (by decide) (hts (.fieldLink RX0 22 "BurstWords$Dictionary" "size" "I") (by decide +kernel)) (fun _ h9 => h9) rfl dX0_insert_30 ?_
      refine lv_iload_n hx hb dX0_insert_33 rfl (lv_at hl 2 rfl) ?_
      refine lv_isub hx hb dX0_insert_34 ?_
      refine tpi (pk_sub (by omega)) ?_
      refine lv_istore (lv' := [(6, .int (nI (n - i))), (5, .int (nI (bdp V E n x))), (0, .ref (q0)), (1, .int (nI (i))), (2, .long (lN (be8 x))), (4, .int (nI (y)))]) hx hb dX0_insert_35 hl (by decide) rfl (fun ls hl => ?_)
      refine lv_aload_n hx hb dX0_insert_37 rfl (lv_at hl 2 rfl) ?_
      refine va_get (D := (dC, dI)) (ci := 0) (v := .ref (q1)) (C := RX0) (T := TX0) (N := 4) hx hb hts hi0 hown hK hP 0 rfl rfl 0 (by decide) (hts (.fieldLink RX0 9 "BurstWords$Dictionary" "words" "[J") (by decide +kernel)) (fun _ h9 => h9) rfl dX0_insert_38 ?_
      refine lv_iload_n hx hb dX0_insert_41 rfl (lv_at hl 3 rfl) ?_
      refine lv_aload_n hx hb dX0_insert_42 rfl (lv_at hl 2 rfl) ?_
      refine va_get (D := (dC, dI)) (ci := 0) (v := .ref (q1)) (C := RX0) (T := TX0) (N := 4) hx hb hts hi0 hown hK hP 0 rfl rfl 0 (by decide) (hts (.fieldLink RX0 9 "BurstWords$Dictionary" "words" "[J") (by decide +kernel)) (fun _ h9 => h9) rfl dX0_insert_43 ?_
      refine lv_iload_n hx hb dX0_insert_46 rfl (lv_at hl 3 rfl) ?_
      refine lv_iconst (v := nI (1)) hx hb dX0_insert_47 (by decide) ?_
      refine lv_iadd hx hb dX0_insert_48 ?_
      refine tpi (nI_add _ _) ?_
      refine lv_iload hx hb dX0_insert_49 (lv_at hl 0 rfl) ?_
      refine cp_l (sp := i) (dp := i + 1) (n := n - i) hx hb (hml.trans hl.1.symm) hown (hts (.methodLink RX0 55 arraycopyName) (by decide +kernel)) (hts (.native arraycopyName) (by decide +kernel)) (hts (.static arraycopyName) (by decide +kernel)) (hts (.initialized "java/lang/System") (by decide +kernel)) hK hP hD hS 1 1 rfl rfl (by decide) (by omega) (by omega) (Nat.le_of_ble_eq_true rfl) (Nat.le_of_ble_eq_true rfl) dX0_insert_51 (fun H locs hP hD hS => ?_)
      have hP : va_P (dC, dI) vwCl (wd q0 q1 q2 q3 cI cJ (va_cpy w w i (i + 1) (n - i)) o d n) H := hP
      have hD : va_D A (wd q0 q1 q2 q3 cI cJ (va_cpy w w i (i + 1) (n - i)) o d n) := hD
      refine lv_aload_n hx hb dX0_insert_54 rfl (lv_at hl 2 rfl) ?_
      refine va_get (D := (dC, dI)) (ci := 0) (v := .ref (q2)) (C := RX0) (T := TX0) (N := 4) hx hb hts hi0 hown hK hP 0 rfl rfl 1 (by decide) (hts (.fieldLink RX0 15 "BurstWords$Dictionary" "often" "[I") (by decide +kernel)) (fun _ h9 => h9) rfl dX0_insert_55 ?_
      refine lv_iload_n hx hb dX0_insert_58 rfl (lv_at hl 3 rfl) ?_
      refine lv_aload_n hx hb dX0_insert_59 rfl (lv_at hl 2 rfl) ?_
      refine va_get (D := (dC, dI)) (ci := 0) (v := .ref (q2)) (C := RX0) (T := TX0) (N := 4) hx hb hts hi0 hown hK hP 0 rfl rfl 1 (by decide) (hts (.fieldLink RX0 15 "BurstWords$Dictionary" "often" "[I") (by decide +kernel)) (fun _ h9 => h9) rfl dX0_insert_60 ?_
      refine lv_iload_n hx hb dX0_insert_63 rfl (lv_at hl 3 rfl) ?_
      refine lv_iconst (v := nI (1)) hx hb dX0_insert_64 (by decide) ?_
      refine lv_iadd hx hb dX0_insert_65 ?_
      refine tpi (nI_add _ _) ?_
      refine lv_iload hx hb dX0_insert_66 (lv_at hl 0 rfl) ?_
      refine cp_i (sp := i) (dp := i + 1) (n := n - i) hx hb (hml.trans hl.1.symm) hown (hts (.methodLink RX0 55 arraycopyName) (by decide +kernel)) (hts (.native arraycopyName) (by decide +kernel)) (hts (.static arraycopyName) (by decide +kernel)) (hts (.initialized "java/lang/System") (by decide +kernel)) hK hP hD hS 2 0 rfl rfl (by decide) (by omega) (by omega) (Nat.le_of_ble_eq_true rfl) (Nat.le_of_ble_eq_true rfl) dX0_insert_68 (fun H locs hP hD hS => ?_)
      have hP : va_P (dC, dI) vwCl (wd q0 q1 q2 q3 cI cJ (va_cpy w w i (i + 1) (n - i)) (va_cpy o o i (i + 1) (n - i)) d n) H := hP
      have hD : va_D A (wd q0 q1 q2 q3 cI cJ (va_cpy w w i (i + 1) (n - i)) (va_cpy o o i (i + 1) (n - i)) d n) := hD
      refine lv_aload_n hx hb dX0_insert_71 rfl (lv_at hl 2 rfl) ?_
      refine va_get (D := (dC, dI)) (ci := 0) (v := .ref (q3)) (C := RX0) (T := TX0) (N := 4) hx hb hts hi0 hown hK hP 0 rfl rfl 2 (by decide) (hts (.fieldLink RX0 19 "BurstWords$Dictionary" "depths" "[I") (by decide +kernel)) (fun _ h9 => h9) rfl dX0_insert_72 ?_
      refine lv_iload_n hx hb dX0_insert_75 rfl (lv_at hl 3 rfl) ?_
      refine lv_aload_n hx hb dX0_insert_76 rfl (lv_at hl 2 rfl) ?_
      refine va_get (D := (dC, dI)) (ci := 0) (v := .ref (q3)) (C := RX0) (T := TX0) (N := 4) hx hb hts hi0 hown hK hP 0 rfl rfl 2 (by decide) (hts (.fieldLink RX0 19 "BurstWords$Dictionary" "depths" "[I") (by decide +kernel)) (fun _ h9 => h9) rfl dX0_insert_77 ?_
      refine lv_iload_n hx hb dX0_insert_80 rfl (lv_at hl 3 rfl) ?_
      refine lv_iconst (v := nI (1)) hx hb dX0_insert_81 (by decide) ?_
      refine lv_iadd hx hb dX0_insert_82 ?_
      refine tpi (nI_add _ _) ?_
      refine lv_iload hx hb dX0_insert_83 (lv_at hl 0 rfl) ?_
      refine cp_i (sp := i) (dp := i + 1) (n := n - i) hx hb (hml.trans hl.1.symm) hown (hts (.methodLink RX0 55 arraycopyName) (by decide +kernel)) (hts (.native arraycopyName) (by decide +kernel)) (hts (.static arraycopyName) (by decide +kernel)) (hts (.initialized "java/lang/System") (by decide +kernel)) hK hP hD hS 3 0 rfl rfl (by decide) (by omega) (by omega) (Nat.le_of_ble_eq_true rfl) (Nat.le_of_ble_eq_true rfl) dX0_insert_85 (fun H locs hP hD hS => ?_)
      have hP : va_P (dC, dI) vwCl (wd q0 q1 q2 q3 cI cJ (va_cpy w w i (i + 1) (n - i)) (va_cpy o o i (i + 1) (n - i)) (va_cpy d d i (i + 1) (n - i)) n) H := hP
      have hD : va_D A (wd q0 q1 q2 q3 cI cJ (va_cpy w w i (i + 1) (n - i)) (va_cpy o o i (i + 1) (n - i)) (va_cpy d d i (i + 1) (n - i)) n) := hD
      refine lv_aload_n hx hb dX0_insert_88 rfl (lv_at hl 2 rfl) ?_
      refine va_get (D := (dC, dI)) (ci := 0) (v := .ref (q1)) (C := RX0) (T := TX0) (N := 4) hx hb hts hi0 hown hK hP 0 rfl rfl 0 (by decide) (hts (.fieldLink RX0 9 "BurstWords$Dictionary" "words" "[J") (by decide +kernel)) (fun _ h9 => h9) rfl dX0_insert_89 ?_
      refine lv_iload_n hx hb dX0_insert_92 rfl (lv_at hl 3 rfl) ?_
      refine lv_lload_n hx hb dX0_insert_93 rfl (lv_at hl 4 rfl) ?_
      refine s_l (k := i) hx hb hK hP hD hS 1 1 rfl rfl (hin := (by omega)) (hn := by decide) (hdg := dX0_insert_94) (fun H locs hP hD hS => ?_)
      have hP : va_P (dC, dI) vwCl (wd q0 q1 q2 q3 cI cJ (vp_updL (va_cpy w w i (i + 1) (n - i)) i (lN (be8 x))) (va_cpy o o i (i + 1) (n - i)) (va_cpy d d i (i + 1) (n - i)) n) H := hP
      have hD : va_D A (wd q0 q1 q2 q3 cI cJ (vp_updL (va_cpy w w i (i + 1) (n - i)) i (lN (be8 x))) (va_cpy o o i (i + 1) (n - i)) (va_cpy d d i (i + 1) (n - i)) n) := hD
      refine lv_aload_n hx hb dX0_insert_95 rfl (lv_at hl 2 rfl) ?_
      refine va_get (D := (dC, dI)) (ci := 0) (v := .ref (q2)) (C := RX0) (T := TX0) (N := 4) hx hb hts hi0 hown hK hP 0 rfl rfl 1 (by decide) (hts (.fieldLink RX0 15 "BurstWords$Dictionary" "often" "[I") (by decide +kernel)) (fun _ h9 => h9) rfl dX0_insert_96 ?_
      refine lv_iload_n hx hb dX0_insert_99 rfl (lv_at hl 3 rfl) ?_
      refine lv_iload hx hb dX0_insert_100 (lv_at hl 5 rfl) ?_
      refine s_i (k := i) hx hb hK hP hD hS 2 0 rfl rfl (hin := (by omega)) (hn := by decide) (hdg := dX0_insert_102) (fun H locs hP hD hS => ?_)
      have hP : va_P (dC, dI) vwCl (wd q0 q1 q2 q3 cI cJ (vp_updL (va_cpy w w i (i + 1) (n - i)) i (lN (be8 x))) (upd (va_cpy o o i (i + 1) (n - i)) i (nI (y))) (va_cpy d d i (i + 1) (n - i)) n) H := hP
      have hD : va_D A (wd q0 q1 q2 q3 cI cJ (vp_updL (va_cpy w w i (i + 1) (n - i)) i (lN (be8 x))) (upd (va_cpy o o i (i + 1) (n - i)) i (nI (y))) (va_cpy d d i (i + 1) (n - i)) n) := hD
      refine lv_aload_n hx hb dX0_insert_103 rfl (lv_at hl 2 rfl) ?_
      refine va_get (D := (dC, dI)) (ci := 0) (v := .ref (q3)) (C := RX0) (T := TX0) (N := 4) hx hb hts hi0 hown hK hP 0 rfl rfl 2 (by decide) (hts (.fieldLink RX0 19 "BurstWords$Dictionary" "depths" "[I") (by decide +kernel)) (fun _ h9 => h9) rfl dX0_insert_104 ?_
      refine lv_iload_n hx hb dX0_insert_107 rfl (lv_at hl 3 rfl) ?_
      refine lv_iload hx hb dX0_insert_108 (lv_at hl 1 rfl) ?_
      refine s_i (k := i) hx hb hK hP hD hS 3 0 rfl rfl (hin := (by omega)) (hn := by decide) (hdg := dX0_insert_110) (fun H locs hP hD hS => ?_)
      have hP : va_P (dC, dI) vwCl (wd q0 q1 q2 q3 cI cJ (vp_updL (va_cpy w w i (i + 1) (n - i)) i (lN (be8 x))) (upd (va_cpy o o i (i + 1) (n - i)) i (nI (y))) (upd (va_cpy d d i (i + 1) (n - i)) i (nI (bdp V E n x))) n) H := hP
      have hD : va_D A (wd q0 q1 q2 q3 cI cJ (vp_updL (va_cpy w w i (i + 1) (n - i)) i (lN (be8 x))) (upd (va_cpy o o i (i + 1) (n - i)) i (nI (y))) (upd (va_cpy d d i (i + 1) (n - i)) i (nI (bdp V E n x))) n) := hD
      refine lv_aload_n hx hb dX0_insert_111 rfl (lv_at hl 2 rfl) ?_
      refine lv_dup hx hb dX0_insert_112 rfl ?_
      refine va_get (D := (dC, dI)) (ci := 0) (v := .int (nI (n))) (C := RX0) (T := TX0) (N := 4) hx hb hts hi0 hown hK hP 0 rfl rfl 3 (by decide) (hts (.fieldLink RX0 22 "BurstWords$Dictionary" "size" "I") (by decide +kernel)) (fun _ h9 => h9) rfl dX0_insert_113 ?_
      refine lv_iconst (v := nI (1)) hx hb dX0_insert_116 (by decide) ?_
      refine lv_iadd hx hb dX0_insert_117 ?_
      refine tpi (nI_add _ _) ?_
      refine va_put (D := (dC, dI)) (ci := 0) (v := .int (nI (n + 1))) (ty := .int) (C := RX0) (T := TX0) (N := 4) hx hb hts hi0 tyX0 tyX0_ok nmX0 hown hK hP hD hS 0 rfl rfl 3 (by decide) (hts (.fieldLink RX0 22 "BurstWords$Dictionary" "size" "I") (by decide +kernel)) (fun _ h9 => h9) rfl (by decide +kernel) rfl rfl (Nat.le_of_ble_eq_true rfl) dX0_insert_118 (fun H locs hP hD hS => ?_)
      have hP : va_P (dC, dI) vwCl (wd q0 q1 q2 q3 cI cJ (vp_updL (va_cpy w w i (i + 1) (n - i)) i (lN (be8 x))) (upd (va_cpy o o i (i + 1) (n - i)) i (nI (y))) (upd (va_cpy d d i (i + 1) (n - i)) i (nI (bdp V E n x))) (n + 1)) H := hP
      have hD : va_D A (wd q0 q1 q2 q3 cI cJ (vp_updL (va_cpy w w i (i + 1) (n - i)) i (lN (be8 x))) (upd (va_cpy o o i (i + 1) (n - i)) i (nI (y))) (upd (va_cpy d d i (i + 1) (n - i)) i (nI (bdp V E n x))) (n + 1)) := hD
      rw [← hQQ]
      exact m_v (vp_updL (va_cpy w w i (i + 1) (n - i)) i (lN (be8 x)), upd (va_cpy o o i (i + 1) (n - i)) i (nI (y)), upd (va_cpy d d i (i + 1) (n - i)) i (nI (bdp V E n x)), n + 1) hx hb hr hlocks ⟨rfl, bDD_ins hDD hn40 hi hx7 hx0 hy bdp_le⟩ hP hD hS dX0_insert_121
    · exact absurd c_18 (by omega)
abbrev rm_X0_remove : Room := { frames := 1, cells := 0, slots := 0, locals := 34 }
set_option maxHeartbeats 4000000 in
set_option maxRecDepth 100000 in
theorem c_X0_remove (l : Launch) (dC : Nat → ClassId) (dI : Nat → Nat → Nat) (cI cJ cZ : ClassId) (q0 q1 q2 q3 : Nat) (w : Nat → Int64) (o d : Nat → Int32) (n : Nat) (V O E : Nat → Nat) (hDD : bDD w o d n V O E) (sz : Nat) (i : Nat) (hi : i < n) : Met l yX0_remove wsX0_remove rm_X0_remove (mPc (dC, dI) (tysA cI cJ cZ) (wd q0 q1 q2 q3 cI cJ w o d n) sz [.ref (q0), .int (nI (i))]) (mQv (dC, dI) (fun (u : (Nat → Int64) × (Nat → Int32) × (Nat → Int32) × (Nat)) => u.2.2.2 = n - 1 ∧ bDD u.1 u.2.1 u.2.2.1 (n - 1) (brm V i) (brm O i) (brm E i)) (fun u => wd q0 q1 q2 q3 cI cJ u.1 u.2.1 u.2.2.1 u.2.2.2) (va_A (wd q0 q1 q2 q3 cI cJ w o d n) sz)) 0 0 (va_A (wd q0 q1 q2 q3 cI cJ w o d n) sz) := by
  refine met_m (cc := cX0_remove) (maxL := 3) (ret := none) (own := RX0) (Qc := fun A => mQv (dC, dI) (fun (u : (Nat → Int64) × (Nat → Int32) × (Nat → Int32) × (Nat)) => u.2.2.2 = n - 1 ∧ bDD u.1 u.2.1 u.2.2.1 (n - 1) (brm V i) (brm O i) (brm E i)) (fun u => wd q0 q1 q2 q3 cI cJ u.1 u.2.1 u.2.2.1 u.2.2.2) A) (by decide) rfl rfl (Nat.le_of_ble_eq_true rfl) ?_
  intro p e s m below meth c S hr hlocks hname hK A hA hP hD hS ls hl
  obtain ⟨hx, hb, hml, hown, hts⟩ := id S
  generalize hQQ : MQ below (mQv (dC, dI) (fun (u : (Nat → Int64) × (Nat → Int32) × (Nat → Int32) × (Nat)) => u.2.2.2 = n - 1 ∧ bDD u.1 u.2.1 u.2.2.1 (n - 1) (brm V i) (brm O i) (brm E i)) (fun u => wd q0 q1 q2 q3 cI cJ u.1 u.2.1 u.2.2.1 u.2.2.2) A) ([.ref (q0), .int (nI (i))] : List Value).toArray s 0 0 A = QQ
  have hl : lv_has ls 3 [(0, .ref (q0)), (1, .int (nI (i)))] := hl
  have hi0 : ∀ w ∈ wsX00, w ∈ wsX0_remove := fun _ h => List.mem_cons_of_mem _ (List.mem_append_right _ h)
  obtain ⟨hn, hk⟩ := id hDD
  refine lv_aload_n hx hb dX0_remove_0 rfl (lv_at hl 0 rfl) ?_
  refine lv_iload_n hx hb dX0_remove_1 rfl (lv_at hl 1 rfl) ?_
  refine c_Vi (As := [.int (nI (i))]) (rest := []) (ci := 0) (q0 := 0) S (c_X0_has l dC dI cI cJ cZ q0 q1 q2 q3 w o d n V O E hDD i (by omega)) (cwV 1 hts gX0_remove_X0_has rfl rfl rfl (by decide +kernel) ⟨Nat.le_of_ble_eq_true rfl, Nat.le_of_ble_eq_true rfl⟩) hK hP rfl rfl rfl hl.1 rfl (Nat.le_of_ble_eq_true rfl) dX0_remove_2 ⟨Nat.le_of_ble_eq_true rfl, Nat.le_of_ble_eq_true rfl⟩ ?_
  refine b_ne (tgt := 9) hx hb dX0_remove_5 (by decide) (fun c_5 => ?_) (fun c_5 => ?_)
  · refine lv_aload_n hx hb dX0_remove_9 rfl (lv_at hl 0 rfl) ?_
    refine va_get (D := (dC, dI)) (ci := 0) (v := .int (nI (n))) (C := RX0) (T := TX0) (N := 4) hx hb hts hi0 hown hK hP 0 rfl rfl 3 (by decide) (hts (.fieldLink RX0 22 "BurstWords$Dictionary" "size" "I") (by decide +kernel)) (fun _ h9 => h9) rfl dX0_remove_10 ?_
    refine lv_iload_n hx hb dX0_remove_13 rfl (lv_at hl 1 rfl) ?_
    refine lv_isub hx hb dX0_remove_14 ?_
    refine tpi (pk_sub (by omega)) ?_
    refine lv_iconst (v := nI (1)) hx hb dX0_remove_15 (by decide) ?_
    refine lv_isub hx hb dX0_remove_16 ?_
    refine tpi (pk_sub (by omega)) ?_
    refine lv_istore_n (lv' := [(2, .int (nI ((n - i) - 1))), (0, .ref (q0)), (1, .int (nI (i)))]) hx hb dX0_remove_17 rfl hl (by decide) rfl (fun ls hl => ?_)
    refine lv_aload_n hx hb dX0_remove_18 rfl (lv_at hl 1 rfl) ?_
    refine va_get (D := (dC, dI)) (ci := 0) (v := .ref (q1)) (C := RX0) (T := TX0) (N := 4) hx hb hts hi0 hown hK hP 0 rfl rfl 0 (by decide) (hts (.fieldLink RX0 9 "BurstWords$Dictionary" "words" "[J") (by decide +kernel)) (fun _ h9 => h9) rfl dX0_remove_19 ?_
    refine lv_iload_n hx hb dX0_remove_22 rfl (lv_at hl 2 rfl) ?_
    refine lv_iconst (v := nI (1)) hx hb dX0_remove_23 (by decide) ?_
    refine lv_iadd hx hb dX0_remove_24 ?_
    refine tpi (nI_add _ _) ?_
    refine lv_aload_n hx hb dX0_remove_25 rfl (lv_at hl 1 rfl) ?_
    refine va_get (D := (dC, dI)) (ci := 0) (v := .ref (q1)) (C := RX0) (T := TX0) (N := 4) hx hb hts hi0 hown hK hP 0 rfl rfl 0 (by decide) (hts (.fieldLink RX0 9 "BurstWords$Dictionary" "words" "[J") (by decide +kernel)) (fun _ h9 => h9) rfl dX0_remove_26 ?_
    refine lv_iload_n hx hb dX0_remove_29 rfl (lv_at hl 2 rfl) ?_
    refine lv_iload_n hx hb dX0_remove_30 rfl (lv_at hl 0 rfl) ?_
    refine cp_l (sp := i + 1) (dp := i) (n := (n - i) - 1) hx hb (hml.trans hl.1.symm) hown (hts (.methodLink RX0 55 arraycopyName) (by decide +kernel)) (hts (.native arraycopyName) (by decide +kernel)) (hts (.static arraycopyName) (by decide +kernel)) (hts (.initialized "java/lang/System") (by decide +kernel)) hK hP hD hS 1 1 rfl rfl (by decide) (by omega) (by omega) (Nat.le_of_ble_eq_true rfl) (Nat.le_of_ble_eq_true rfl) dX0_remove_31 (fun H locs hP hD hS => ?_)
    have hP : va_P (dC, dI) vwCl (wd q0 q1 q2 q3 cI cJ (va_cpy w w (i + 1) i ((n - i) - 1)) o d n) H := hP
    have hD : va_D A (wd q0 q1 q2 q3 cI cJ (va_cpy w w (i + 1) i ((n - i) - 1)) o d n) := hD
    refine lv_aload_n hx hb dX0_remove_34 rfl (lv_at hl 1 rfl) ?_
    refine va_get (D := (dC, dI)) (ci := 0) (v := .ref (q2)) (C := RX0) (T := TX0) (N := 4) hx hb hts hi0 hown hK hP 0 rfl rfl 1 (by decide) (hts (.fieldLink RX0 15 "BurstWords$Dictionary" "often" "[I") (by decide +kernel)) (fun _ h9 => h9) rfl dX0_remove_35 ?_
    refine lv_iload_n hx hb dX0_remove_38 rfl (lv_at hl 2 rfl) ?_
    refine lv_iconst (v := nI (1)) hx hb dX0_remove_39 (by decide) ?_
    refine lv_iadd hx hb dX0_remove_40 ?_
    refine tpi (nI_add _ _) ?_
    refine lv_aload_n hx hb dX0_remove_41 rfl (lv_at hl 1 rfl) ?_
    refine va_get (D := (dC, dI)) (ci := 0) (v := .ref (q2)) (C := RX0) (T := TX0) (N := 4) hx hb hts hi0 hown hK hP 0 rfl rfl 1 (by decide) (hts (.fieldLink RX0 15 "BurstWords$Dictionary" "often" "[I") (by decide +kernel)) (fun _ h9 => h9) rfl dX0_remove_42 ?_
    refine lv_iload_n hx hb dX0_remove_45 rfl (lv_at hl 2 rfl) ?_
    refine lv_iload_n hx hb dX0_remove_46 rfl (lv_at hl 0 rfl) ?_
    refine cp_i (sp := i + 1) (dp := i) (n := (n - i) - 1) hx hb (hml.trans hl.1.symm) hown (hts (.methodLink RX0 55 arraycopyName) (by decide +kernel)) (hts (.native arraycopyName) (by decide +kernel)) (hts (.static arraycopyName) (by decide +kernel)) (hts (.initialized "java/lang/System") (by decide +kernel)) hK hP hD hS 2 0 rfl rfl (by decide) (by omega) (by omega) (Nat.le_of_ble_eq_true rfl) (Nat.le_of_ble_eq_true rfl) dX0_remove_47 (fun H locs hP hD hS => ?_)
    have hP : va_P (dC, dI) vwCl (wd q0 q1 q2 q3 cI cJ (va_cpy w w (i + 1) i ((n - i) - 1)) (va_cpy o o (i + 1) i ((n - i) - 1)) d n) H := hP
    have hD : va_D A (wd q0 q1 q2 q3 cI cJ (va_cpy w w (i + 1) i ((n - i) - 1)) (va_cpy o o (i + 1) i ((n - i) - 1)) d n) := hD
    refine lv_aload_n hx hb dX0_remove_50 rfl (lv_at hl 1 rfl) ?_
    refine va_get (D := (dC, dI)) (ci := 0) (v := .ref (q3)) (C := RX0) (T := TX0) (N := 4) hx hb hts hi0 hown hK hP 0 rfl rfl 2 (by decide) (hts (.fieldLink RX0 19 "BurstWords$Dictionary" "depths" "[I") (by decide +kernel)) (fun _ h9 => h9) rfl dX0_remove_51 ?_
    refine lv_iload_n hx hb dX0_remove_54 rfl (lv_at hl 2 rfl) ?_
    refine lv_iconst (v := nI (1)) hx hb dX0_remove_55 (by decide) ?_
    refine lv_iadd hx hb dX0_remove_56 ?_
    refine tpi (nI_add _ _) ?_
    refine lv_aload_n hx hb dX0_remove_57 rfl (lv_at hl 1 rfl) ?_
    refine va_get (D := (dC, dI)) (ci := 0) (v := .ref (q3)) (C := RX0) (T := TX0) (N := 4) hx hb hts hi0 hown hK hP 0 rfl rfl 2 (by decide) (hts (.fieldLink RX0 19 "BurstWords$Dictionary" "depths" "[I") (by decide +kernel)) (fun _ h9 => h9) rfl dX0_remove_58 ?_
    refine lv_iload_n hx hb dX0_remove_61 rfl (lv_at hl 2 rfl) ?_
    refine lv_iload_n hx hb dX0_remove_62 rfl (lv_at hl 0 rfl) ?_
    refine cp_i (sp := i + 1) (dp := i) (n := (n - i) - 1) hx hb (hml.trans hl.1.symm) hown (hts (.methodLink RX0 55 arraycopyName) (by decide +kernel)) (hts (.native arraycopyName) (by decide +kernel)) (hts (.static arraycopyName) (by decide +kernel)) (hts (.initialized "java/lang/System") (by decide +kernel)) hK hP hD hS 3 0 rfl rfl (by decide) (by omega) (by omega) (Nat.le_of_ble_eq_true rfl) (Nat.le_of_ble_eq_true rfl) dX0_remove_63 (fun H locs hP hD hS => ?_)
    have hP : va_P (dC, dI) vwCl (wd q0 q1 q2 q3 cI cJ (va_cpy w w (i + 1) i ((n - i) - 1)) (va_cpy o o (i + 1) i ((n - i) - 1)) (va_cpy d d (i + 1) i ((n - i) - 1)) n) H := hP
    have hD : va_D A (wd q0 q1 q2 q3 cI cJ (va_cpy w w (i + 1) i ((n - i) - 1)) (va_cpy o o (i + 1) i ((n - i) - 1)) (va_cpy d d (i + 1) i ((n - i) - 1)) n) := hD
    refine lv_aload_n hx hb dX0_remove_66 rfl (lv_at hl 1 rfl) ?_
    refine lv_dup hx hb dX0_remove_67 rfl ?_
    refine va_get (D := (dC, dI)) (ci := 0) (v := .int (nI (n))) (C := RX0) (T := TX0) (N := 4) hx hb hts hi0 hown hK hP 0 rfl rfl 3 (by decide) (hts (.fieldLink RX0 22 "BurstWords$Dictionary" "size" "I") (by decide +kernel)) (fun _ h9 => h9) rfl dX0_remove_68 ?_
    refine lv_iconst (v := nI (1)) hx hb dX0_remove_71 (by decide) ?_
    refine lv_isub hx hb dX0_remove_72 ?_
    refine tpi (pk_sub (by omega)) ?_
    refine va_put (D := (dC, dI)) (ci := 0) (v := .int (nI (n - 1))) (ty := .int) (C := RX0) (T := TX0) (N := 4) hx hb hts hi0 tyX0 tyX0_ok nmX0 hown hK hP hD hS 0 rfl rfl 3 (by decide) (hts (.fieldLink RX0 22 "BurstWords$Dictionary" "size" "I") (by decide +kernel)) (fun _ h9 => h9) rfl (by decide +kernel) rfl rfl (Nat.le_of_ble_eq_true rfl) dX0_remove_73 (fun H locs hP hD hS => ?_)
    have hP : va_P (dC, dI) vwCl (wd q0 q1 q2 q3 cI cJ (va_cpy w w (i + 1) i ((n - i) - 1)) (va_cpy o o (i + 1) i ((n - i) - 1)) (va_cpy d d (i + 1) i ((n - i) - 1)) (n - 1)) H := hP
    have hD : va_D A (wd q0 q1 q2 q3 cI cJ (va_cpy w w (i + 1) i ((n - i) - 1)) (va_cpy o o (i + 1) i ((n - i) - 1)) (va_cpy d d (i + 1) i ((n - i) - 1)) (n - 1)) := hD
    rw [← hQQ]
    exact m_v (va_cpy w w (i + 1) i ((n - i) - 1), va_cpy o o (i + 1) i ((n - i) - 1), va_cpy d d (i + 1) i ((n - i) - 1), n - 1) hx hb hr hlocks ⟨rfl, bDD_rm hDD hi⟩ hP hD hS dX0_remove_76
  · exact absurd hi (of_decide_eq_false c_5)
abbrev rm_X0_put : Room := { frames := 5, cells := 0, slots := 0, locals := 117 }
set_option maxHeartbeats 4000000 in
set_option maxRecDepth 100000 in
theorem c_X0_put (l : Launch) (dC : Nat → ClassId) (dI : Nat → Nat → Nat) (cI cJ cZ : ClassId) (q0 q1 q2 q3 : Nat) (w : Nat → Int64) (o d : Nat → Int32) (n : Nat) (V O E : Nat → Nat) (hDD : bDD w o d n V O E) (sz : Nat) (x : Nat) (y : Nat) (hx7 : bwf x) (hx0 : 0 < x) (hy : y ≤ 99) (hpa : ¬ (bpl V n x < n ∧ V (bpl V n x) = x) → 0 < y ∧ n < 40) : Met l yX0_put wsX0_put rm_X0_put (mPc (dC, dI) (tysA cI cJ cZ) (wd q0 q1 q2 q3 cI cJ w o d n) sz [.ref (q0), .long (lN (be8 x)), .int (nI (y))]) (mQv (dC, dI) (fun (u : (Nat → Int64) × (Nat → Int32) × (Nat → Int32) × (Nat)) => (¬ (bpl V n x < n ∧ V (bpl V n x) = x) ∧ 0 < y ∧ u.2.2.2 = n + 1 ∧ bDD u.1 u.2.1 u.2.2.1 (n + 1) (bic V (bpl V n x) x) (bic O (bpl V n x) y) (bic E (bpl V n x) (bdp V E n x))) ∨ ((bpl V n x < n ∧ V (bpl V n x) = x) ∧ 0 < y ∧ u.2.2.2 = n ∧ bDD u.1 u.2.1 u.2.2.1 n V (va_up O (bpl V n x) y) E) ∨ ((bpl V n x < n ∧ V (bpl V n x) = x) ∧ y = 0 ∧ u.2.2.2 = n - 1 ∧ bDD u.1 u.2.1 u.2.2.1 (n - 1) (brm V (bpl V n x)) (brm O (bpl V n x)) (brm E (bpl V n x)))) (fun u => wd q0 q1 q2 q3 cI cJ u.1 u.2.1 u.2.2.1 u.2.2.2) (va_A (wd q0 q1 q2 q3 cI cJ w o d n) sz)) 0 0 (va_A (wd q0 q1 q2 q3 cI cJ w o d n) sz) := by
  refine met_m (cc := cX0_put) (maxL := 6) (ret := none) (own := RX0) (Qc := fun A => mQv (dC, dI) (fun (u : (Nat → Int64) × (Nat → Int32) × (Nat → Int32) × (Nat)) => (¬ (bpl V n x < n ∧ V (bpl V n x) = x) ∧ 0 < y ∧ u.2.2.2 = n + 1 ∧ bDD u.1 u.2.1 u.2.2.1 (n + 1) (bic V (bpl V n x) x) (bic O (bpl V n x) y) (bic E (bpl V n x) (bdp V E n x))) ∨ ((bpl V n x < n ∧ V (bpl V n x) = x) ∧ 0 < y ∧ u.2.2.2 = n ∧ bDD u.1 u.2.1 u.2.2.1 n V (va_up O (bpl V n x) y) E) ∨ ((bpl V n x < n ∧ V (bpl V n x) = x) ∧ y = 0 ∧ u.2.2.2 = n - 1 ∧ bDD u.1 u.2.1 u.2.2.1 (n - 1) (brm V (bpl V n x)) (brm O (bpl V n x)) (brm E (bpl V n x)))) (fun u => wd q0 q1 q2 q3 cI cJ u.1 u.2.1 u.2.2.1 u.2.2.2) A) (by decide) rfl rfl (Nat.le_of_ble_eq_true rfl) ?_
  intro p e s m below meth c S hr hlocks hname hK A hA hP hD hS ls hl
  obtain ⟨hx, hb, hml, hown, hts⟩ := id S
  generalize hQQ : MQ below (mQv (dC, dI) (fun (u : (Nat → Int64) × (Nat → Int32) × (Nat → Int32) × (Nat)) => (¬ (bpl V n x < n ∧ V (bpl V n x) = x) ∧ 0 < y ∧ u.2.2.2 = n + 1 ∧ bDD u.1 u.2.1 u.2.2.1 (n + 1) (bic V (bpl V n x) x) (bic O (bpl V n x) y) (bic E (bpl V n x) (bdp V E n x))) ∨ ((bpl V n x < n ∧ V (bpl V n x) = x) ∧ 0 < y ∧ u.2.2.2 = n ∧ bDD u.1 u.2.1 u.2.2.1 n V (va_up O (bpl V n x) y) E) ∨ ((bpl V n x < n ∧ V (bpl V n x) = x) ∧ y = 0 ∧ u.2.2.2 = n - 1 ∧ bDD u.1 u.2.1 u.2.2.1 (n - 1) (brm V (bpl V n x)) (brm O (bpl V n x)) (brm E (bpl V n x)))) (fun u => wd q0 q1 q2 q3 cI cJ u.1 u.2.1 u.2.2.1 u.2.2.2) A) ([.ref (q0), .long (lN (be8 x)), .int (nI (y))] : List Value).toArray s 0 0 A = QQ
  have hl : lv_has ls 6 [(0, .ref (q0)), (1, .long (lN (be8 x))), (3, .int (nI (y)))] := hl
  have hi0 : ∀ w ∈ wsX00, w ∈ wsX0_put := fun _ h => List.mem_cons_of_mem _ (List.mem_append_right _ h)
  obtain ⟨hn, hk⟩ := id hDD
  have hpl := bpl_le V n x
  refine lv_aload_n hx hb dX0_put_0 rfl (lv_at hl 0 rfl) ?_
  refine lv_lload_n hx hb dX0_put_1 rfl (lv_at hl 1 rfl) ?_
  refine c_Vi (As := [.long (lN (be8 x))]) (rest := []) (ci := 0) (q0 := 0) S (c_X0_placeOf l dC dI cI cJ cZ q0 q1 q2 q3 w o d n V O E hDD x hx7.1) (cwV 1 hts gX0_put_X0_placeOf rfl rfl rfl (by decide +kernel) ⟨Nat.le_of_ble_eq_true rfl, Nat.le_of_ble_eq_true rfl⟩) hK hP rfl rfl rfl hl.1 rfl (Nat.le_of_ble_eq_true rfl) dX0_put_2 ⟨Nat.le_of_ble_eq_true rfl, Nat.le_of_ble_eq_true rfl⟩ ?_
  refine lv_istore (lv' := [(4, .int (nI (bpl V n x))), (0, .ref (q0)), (1, .long (lN (be8 x))), (3, .int (nI (y)))]) hx hb dX0_put_5 hl (by decide) rfl (fun ls hl => ?_)
  refine lv_aload_n hx hb dX0_put_7 rfl (lv_at hl 1 rfl) ?_
  refine lv_iload hx hb dX0_put_8 (lv_at hl 0 rfl) ?_
  refine c_Vi (As := [.int (nI (bpl V n x))]) (rest := []) (ci := 0) (q0 := 0) S (c_X0_has l dC dI cI cJ cZ q0 q1 q2 q3 w o d n V O E hDD (bpl V n x) (by omega)) (cwV 1 hts gX0_put_X0_has rfl rfl rfl (by decide +kernel) ⟨Nat.le_of_ble_eq_true rfl, Nat.le_of_ble_eq_true rfl⟩) hK hP rfl rfl rfl hl.1 rfl (Nat.le_of_ble_eq_true rfl) dX0_put_10 ⟨Nat.le_of_ble_eq_true rfl, Nat.le_of_ble_eq_true rfl⟩ ?_
  refine b_eq (tgt := 32) hx hb dX0_put_13 (by decide) (fun c_13 => ?_) (fun c_13 => ?_)
  · refine lv_iconst (v := nI (0)) hx hb dX0_put_32 (by decide) ?_
    refine lv_istore (lv' := [(5, .int (nI (0))), (4, .int (nI (bpl V n x))), (0, .ref (q0)), (1, .long (lN (be8 x))), (3, .int (nI (y)))]) hx hb dX0_put_33 hl (by decide) rfl (fun ls hl => ?_)
    have hth : ¬ (bpl V n x < n ∧ V (bpl V n x) = x) := (fun q => of_decide_eq_false c_13 q.1)
    refine lv_iload hx hb dX0_put_35 (lv_at hl 0 rfl) ?_
    refine z_ne (tgt := 55) hx hb dX0_put_37 (by decide) (by omega) (fun c_37 => ?_) (fun c_37 => ?_)
    · exact absurd c_37 (Nat.lt_irrefl 0)
    · refine lv_iload_n hx hb dX0_put_40 rfl (lv_at hl 4 rfl) ?_
      refine z_le (tgt := 55) hx hb dX0_put_41 (by decide) (by omega) (fun c_41 => ?_) (fun c_41 => ?_)
      · exact absurd c_41 (by have := (hpa hth).1; omega)
      · refine lv_aload_n hx hb dX0_put_44 rfl (lv_at hl 2 rfl) ?_
        refine lv_iload hx hb dX0_put_45 (lv_at hl 1 rfl) ?_
        refine lv_lload_n hx hb dX0_put_47 rfl (lv_at hl 3 rfl) ?_
        refine lv_iload_n hx hb dX0_put_48 rfl (lv_at hl 4 rfl) ?_
        refine m_Vv (As := [.int (nI (bpl V n x)), .long (lN (be8 x)), .int (nI (y))]) (rest := []) (ci := 0) (q0 := 0) (wr := []) S (c_X0_insert l dC dI cI cJ cZ q0 q1 q2 q3 w o d n V O E hDD s.heap.size (bpl V n x) x y hpl (hpa hth).2 hx7 hx0 hy) (cwV 3 hts gX0_put_X0_insert rfl rfl rfl (by decide +kernel) ⟨Nat.le_of_ble_eq_true rfl, Nat.le_of_ble_eq_true rfl⟩) hK hP hD hS hA [0, 1, 2, 3] [] hP hD rfl rfl (by decide) (by decide) rfl rfl rfl hl.1 rfl (Nat.le_of_ble_eq_true rfl) dX0_put_49 ⟨Nat.le_of_ble_eq_true rfl, Nat.le_of_ble_eq_true rfl⟩ (fun u_49 H locs hu_49 hP hD hS => ?_)
        obtain ⟨w9, o9, d9, n9⟩ := u_49
        have hP : va_P (dC, dI) vwCl (wd q0 q1 q2 q3 cI cJ w9 o9 d9 n9) H := hP
        have hD : va_D A (wd q0 q1 q2 q3 cI cJ w9 o9 d9 n9) := hD
        refine lv_goto (tgt := 86) hx hb dX0_put_52 (by decide) ?_
        rw [← hQQ]
        exact m_v (w9, o9, d9, n9) hx hb hr hlocks (Or.inl ⟨hth, (hpa hth).1, hu_49.1, hu_49.2⟩) hP hD hS dX0_put_86
  · refine lv_aload_n hx hb dX0_put_16 rfl (lv_at hl 1 rfl) ?_
    refine va_get (D := (dC, dI)) (ci := 0) (v := .ref (q1)) (C := RX0) (T := TX0) (N := 4) hx hb hts hi0 hown hK hP 0 rfl rfl 0 (by decide) (hts (.fieldLink RX0 9 "BurstWords$Dictionary" "words" "[J") (by decide +kernel)) (fun _ h9 => h9) rfl dX0_put_17 ?_
    refine lv_iload hx hb dX0_put_20 (lv_at hl 0 rfl) ?_
    refine g_l hx hb hK hP 1 1 rfl rfl (k := bpl V n x) (by have := of_decide_eq_true c_13; omega) (by decide) dX0_put_22 (v := lN (be8 (V (bpl V n x)))) (hk _ (of_decide_eq_true c_13)).1 ?_
    refine lv_lload_n hx hb dX0_put_23 rfl (lv_at hl 2 rfl) ?_
    refine q_ne (tgt := 32) hx hb dX0_put_24 dX0_put_25 (by decide) (be8_63 _) (be8_63 _) (fun c_24 => ?_) (fun c_24 => ?_)
    · refine lv_iconst (v := nI (0)) hx hb dX0_put_32 (by decide) ?_
      refine lv_istore (lv' := [(5, .int (nI (0))), (4, .int (nI (bpl V n x))), (0, .ref (q0)), (1, .long (lN (be8 x))), (3, .int (nI (y)))]) hx hb dX0_put_33 hl (by decide) rfl (fun ls hl => ?_)
      have hth : ¬ (bpl V n x < n ∧ V (bpl V n x) = x) := (fun q => c_24 (congrArg be8 q.2))
      refine lv_iload hx hb dX0_put_35 (lv_at hl 0 rfl) ?_
      refine z_ne (tgt := 55) hx hb dX0_put_37 (by decide) (by omega) (fun c_37 => ?_) (fun c_37 => ?_)
      · exact absurd c_37 (Nat.lt_irrefl 0)
      · refine lv_iload_n hx hb dX0_put_40 rfl (lv_at hl 4 rfl) ?_
        refine z_le (tgt := 55) hx hb dX0_put_41 (by decide) (by omega) (fun c_41 => ?_) (fun c_41 => ?_)
        · exact absurd c_41 (by have := (hpa hth).1; omega)
        · refine lv_aload_n hx hb dX0_put_44 rfl (lv_at hl 2 rfl) ?_
          refine lv_iload hx hb dX0_put_45 (lv_at hl 1 rfl) ?_
          refine lv_lload_n hx hb dX0_put_47 rfl (lv_at hl 3 rfl) ?_
          refine lv_iload_n hx hb dX0_put_48 rfl (lv_at hl 4 rfl) ?_
          refine m_Vv (As := [.int (nI (bpl V n x)), .long (lN (be8 x)), .int (nI (y))]) (rest := []) (ci := 0) (q0 := 0) (wr := []) S (c_X0_insert l dC dI cI cJ cZ q0 q1 q2 q3 w o d n V O E hDD s.heap.size (bpl V n x) x y hpl (hpa hth).2 hx7 hx0 hy) (cwV 3 hts gX0_put_X0_insert rfl rfl rfl (by decide +kernel) ⟨Nat.le_of_ble_eq_true rfl, Nat.le_of_ble_eq_true rfl⟩) hK hP hD hS hA [0, 1, 2, 3] [] hP hD rfl rfl (by decide) (by decide) rfl rfl rfl hl.1 rfl (Nat.le_of_ble_eq_true rfl) dX0_put_49 ⟨Nat.le_of_ble_eq_true rfl, Nat.le_of_ble_eq_true rfl⟩ (fun u_49 H locs hu_49 hP hD hS => ?_)
          obtain ⟨w9, o9, d9, n9⟩ := u_49
          have hP : va_P (dC, dI) vwCl (wd q0 q1 q2 q3 cI cJ w9 o9 d9 n9) H := hP
          have hD : va_D A (wd q0 q1 q2 q3 cI cJ w9 o9 d9 n9) := hD
          refine lv_goto (tgt := 86) hx hb dX0_put_52 (by decide) ?_
          rw [← hQQ]
          exact m_v (w9, o9, d9, n9) hx hb hr hlocks (Or.inl ⟨hth, (hpa hth).1, hu_49.1, hu_49.2⟩) hP hD hS dX0_put_86
    · refine lv_iconst (v := nI (1)) hx hb dX0_put_28 (by decide) ?_
      refine lv_goto (tgt := 33) hx hb dX0_put_29 (by decide) ?_
      refine lv_istore (lv' := [(5, .int (nI (1))), (4, .int (nI (bpl V n x))), (0, .ref (q0)), (1, .long (lN (be8 x))), (3, .int (nI (y)))]) hx hb dX0_put_33 hl (by decide) rfl (fun ls hl => ?_)
      have hth : bpl V n x < n ∧ V (bpl V n x) = x := ⟨of_decide_eq_true c_13, (be8_eqI (hk _ (of_decide_eq_true c_13)).2.1.1 hx7.1).mp c_24⟩
      refine lv_iload hx hb dX0_put_35 (lv_at hl 0 rfl) ?_
      refine z_ne (tgt := 55) hx hb dX0_put_37 (by decide) (by omega) (fun c_37 => ?_) (fun c_37 => ?_)
      · refine lv_iload hx hb dX0_put_55 (lv_at hl 0 rfl) ?_
        refine z_eq (tgt := 75) hx hb dX0_put_57 (by decide) (by omega) (fun c_57 => ?_) (fun c_57 => ?_)
        · exact absurd c_57 (by decide)
        · refine lv_iload_n hx hb dX0_put_60 rfl (lv_at hl 4 rfl) ?_
          refine z_le (tgt := 75) hx hb dX0_put_61 (by decide) (by omega) (fun c_61 => ?_) (fun c_61 => ?_)
          · refine lv_iload hx hb dX0_put_75 (lv_at hl 0 rfl) ?_
            refine z_eq (tgt := 86) hx hb dX0_put_77 (by decide) (by omega) (fun c_77 => ?_) (fun c_77 => ?_)
            · exact absurd c_77 (by decide)
            · refine lv_aload_n hx hb dX0_put_80 rfl (lv_at hl 2 rfl) ?_
              refine lv_iload hx hb dX0_put_81 (lv_at hl 1 rfl) ?_
              refine m_Vv (As := [.int (nI (bpl V n x))]) (rest := []) (ci := 0) (q0 := 0) (wr := []) S (c_X0_remove l dC dI cI cJ cZ q0 q1 q2 q3 w o d n V O E hDD s.heap.size (bpl V n x) hth.1) (cwV 1 hts gX0_put_X0_remove rfl rfl rfl (by decide +kernel) ⟨Nat.le_of_ble_eq_true rfl, Nat.le_of_ble_eq_true rfl⟩) hK hP hD hS hA [0, 1, 2, 3] [] hP hD rfl rfl (by decide) (by decide) rfl rfl rfl hl.1 rfl (Nat.le_of_ble_eq_true rfl) dX0_put_83 ⟨Nat.le_of_ble_eq_true rfl, Nat.le_of_ble_eq_true rfl⟩ (fun u_83 H locs hu_83 hP hD hS => ?_)
              obtain ⟨w9, o9, d9, n9⟩ := u_83
              have hP : va_P (dC, dI) vwCl (wd q0 q1 q2 q3 cI cJ w9 o9 d9 n9) H := hP
              have hD : va_D A (wd q0 q1 q2 q3 cI cJ w9 o9 d9 n9) := hD
              rw [← hQQ]
              exact m_v (w9, o9, d9, n9) hx hb hr hlocks (Or.inr (Or.inr ⟨hth, c_61, hu_83.1, hu_83.2⟩)) hP hD hS dX0_put_86
          · refine lv_aload_n hx hb dX0_put_64 rfl (lv_at hl 2 rfl) ?_
            refine va_get (D := (dC, dI)) (ci := 0) (v := .ref (q2)) (C := RX0) (T := TX0) (N := 4) hx hb hts hi0 hown hK hP 0 rfl rfl 1 (by decide) (hts (.fieldLink RX0 15 "BurstWords$Dictionary" "often" "[I") (by decide +kernel)) (fun _ h9 => h9) rfl dX0_put_65 ?_
            refine lv_iload hx hb dX0_put_68 (lv_at hl 1 rfl) ?_
            refine lv_iload_n hx hb dX0_put_70 rfl (lv_at hl 4 rfl) ?_
            refine s_i (k := bpl V n x) hx hb hK hP hD hS 2 0 rfl rfl (hin := (by have := hth.1; omega)) (hn := by decide) (hdg := dX0_put_71) (fun H locs hP hD hS => ?_)
            have hP : va_P (dC, dI) vwCl (wd q0 q1 q2 q3 cI cJ w (upd o (bpl V n x) (nI (y))) d n) H := hP
            have hD : va_D A (wd q0 q1 q2 q3 cI cJ w (upd o (bpl V n x) (nI (y))) d n) := hD
            refine lv_goto (tgt := 86) hx hb dX0_put_72 (by decide) ?_
            rw [← hQQ]
            exact m_v (w, upd o (bpl V n x) (nI (y)), d, n) hx hb hr hlocks (Or.inr (Or.inl ⟨hth, c_61, rfl, bDD_o hDD hy⟩)) hP hD hS dX0_put_86
      · exact absurd c_37 (by decide)
abbrev rm_X0_reshape : Room := { frames := 3, cells := 0, slots := 0, locals := 66 }
set_option maxHeartbeats 4000000 in
set_option maxRecDepth 100000 in
theorem c_X0_reshape (l : Launch) (dC : Nat → ClassId) (dI : Nat → Nat → Nat) (cI cJ cZ : ClassId) (q0 q1 q2 q3 : Nat) (w : Nat → Int64) (o d : Nat → Int32) (n : Nat) (V O E : Nat → Nat) (hDD : bDD w o d n V O E) (sz : Nat) (x : Nat) (f : Nat) (t : Nat) (hf : f ≤ 8) (ht : t ≤ 8) : Met l yX0_reshape wsX0_reshape rm_X0_reshape (mPc (dC, dI) (tysA cI cJ cZ) (wd q0 q1 q2 q3 cI cJ w o d n) sz [.ref (q0), .long (lN (be8 x)), .int (nI (f)), .int (nI (t))]) (mQv (dC, dI) (fun (u : Nat → Int32) => bDD w o u n V O (brs V E x f t)) (fun u => wd q0 q1 q2 q3 cI cJ w o u n) (va_A (wd q0 q1 q2 q3 cI cJ w o d n) sz)) 0 0 (va_A (wd q0 q1 q2 q3 cI cJ w o d n) sz) := by
  refine met_m (cc := cX0_reshape) (maxL := 8) (ret := none) (own := RX0) (Qc := fun A => mQv (dC, dI) (fun (u : Nat → Int32) => bDD w o u n V O (brs V E x f t)) (fun u => wd q0 q1 q2 q3 cI cJ w o u n) A) (by decide) rfl rfl (Nat.le_of_ble_eq_true rfl) ?_
  intro p e s m below meth c S hr hlocks hname hK A hA hP hD hS ls hl
  obtain ⟨hx, hb, hml, hown, hts⟩ := id S
  generalize hQQ : MQ below (mQv (dC, dI) (fun (u : Nat → Int32) => bDD w o u n V O (brs V E x f t)) (fun u => wd q0 q1 q2 q3 cI cJ w o u n) A) ([.ref (q0), .long (lN (be8 x)), .int (nI (f)), .int (nI (t))] : List Value).toArray s 0 0 A = QQ
  have hl : lv_has ls 8 [(0, .ref (q0)), (1, .long (lN (be8 x))), (3, .int (nI (f))), (4, .int (nI (t)))] := hl
  have hi0 : ∀ w ∈ wsX00, w ∈ wsX0_reshape := fun _ h => List.mem_cons_of_mem _ (List.mem_append_right _ h)
  obtain ⟨hn, hk⟩ := id hDD
  refine lv_iload_n hx hb dX0_reshape_0 rfl (lv_at hl 2 rfl) ?_
  refine lv_iload hx hb dX0_reshape_1 (lv_at hl 3 rfl) ?_
  refine va_mmin hx hb (hml.trans hl.1.symm) hown (hts (.methodLink RX0 68 Lib.Math.min.name) (by decide +kernel)) (hts (.static Lib.Math.min.name) (by decide +kernel)) (hts (.initialized "java/lang/Math") (by decide +kernel)) (hts (.code Lib.Math.min.name Lib.Math.min.code 2 (some .int)) (by decide +kernel)) (Nat.le_of_ble_eq_true rfl) (Nat.le_of_ble_eq_true rfl) (Nat.le_of_ble_eq_true rfl) (Nat.le_of_ble_eq_true rfl) dX0_reshape_3 ?_
  refine tpi (nmin (by omega) (by omega)) ?_
  refine lv_istore (lv' := [(5, .int (nI (min f t))), (0, .ref (q0)), (1, .long (lN (be8 x))), (3, .int (nI (f))), (4, .int (nI (t)))]) hx hb dX0_reshape_6 hl (by decide) rfl (fun ls hl => ?_)
  refine lv_iconst (v := nI (0)) hx hb dX0_reshape_8 (by decide) ?_
  refine lv_istore (lv' := [(6, .int (nI (0))), (5, .int (nI (min f t))), (0, .ref (q0)), (1, .long (lN (be8 x))), (3, .int (nI (f))), (4, .int (nI (t)))]) hx hb dX0_reshape_9 hl (by decide) rfl (fun ls hl => ?_)
  have lp_11 : ∀ (j_11 : Nat) (i : Nat) (d1 : Nat → Int32), (i ≤ n) → (∀ k, k < i → d1 k = nI ((brs V E x f t) k)) → (∀ k, i ≤ k → k < n → d1 k = d k) → (n - i) < j_11 → ∀ (H : Heap) (locs : List Loc), va_P (dC, dI) vwCl (wd q0 q1 q2 q3 cI cJ w o d1 n) H → va_D A (wd q0 q1 q2 q3 cI cJ w o d1 n) → va_S A s.heap H locs → ∀ ls : Array Slot, lv_has ls 8 [(0, .ref (q0)), (1, .long (lN (be8 x))), (4, .int (nI (t))), (5, .int (nI (min f t))), (6, .int (nI (i)))] → W p l e rm_X0_reshape s m ([.ref (q0), .long (lN (be8 x)), .int (nI (f)), .int (nI (t))] : List Value).toArray below meth c H locs 0 0 QQ (F0 m 11 ls []) := by
    intro j_11
    induction j_11 with
    | zero => intro i d1 _ _ _ h0; exact absurd h0 (Nat.not_lt_zero _)
    | succ j_11 ih_11 =>
      intro i d1 hi h1 h2 hf_11 H locs hP hD hS ls hl
      refine lv_iload hx hb dX0_reshape_11 (lv_at hl 4 rfl) ?_
      refine lv_aload_n hx hb dX0_reshape_13 rfl (lv_at hl 0 rfl) ?_
      refine va_get (D := (dC, dI)) (ci := 0) (v := .int (nI (n))) (C := RX0) (T := TX0) (N := 4) hx hb hts hi0 hown hK hP 0 rfl rfl 3 (by decide) (hts (.fieldLink RX0 22 "BurstWords$Dictionary" "size" "I") (by decide +kernel)) (fun _ h9 => h9) rfl dX0_reshape_14 ?_
      refine n_ge (tgt := 69) hx hb dX0_reshape_17 (by decide) (by omega) (by omega) (fun c_17 => ?_) (fun c_17 => ?_)
      · rw [← hQQ]
        exact m_v (d1) hx hb hr hlocks ⟨hn, fun k h => ⟨(hk k h).1, (hk k h).2.1, (hk k h).2.2.1, (hk k h).2.2.2.1, (hk k h).2.2.2.2.1, h1 k (by omega), brs_le (hk k h).2.2.2.2.2.2 ht⟩⟩ hP hD hS dX0_reshape_69
      · refine lv_iload hx hb dX0_reshape_20 (lv_at hl 4 rfl) ?_
        refine lv_bipush (v := nI (40)) hx hb dX0_reshape_22 (by decide) ?_
        refine n_ge (tgt := 69) hx hb dX0_reshape_24 (by decide) (by omega) (by omega) (fun c_24 => ?_) (fun c_24 => ?_)
        · exact absurd c_24 (by omega)
        · refine lv_aload_n hx hb dX0_reshape_27 rfl (lv_at hl 0 rfl) ?_
          refine va_get (D := (dC, dI)) (ci := 0) (v := .ref (q1)) (C := RX0) (T := TX0) (N := 4) hx hb hts hi0 hown hK hP 0 rfl rfl 0 (by decide) (hts (.fieldLink RX0 9 "BurstWords$Dictionary" "words" "[J") (by decide +kernel)) (fun _ h9 => h9) rfl dX0_reshape_28 ?_
          refine lv_iload hx hb dX0_reshape_31 (lv_at hl 4 rfl) ?_
          refine g_l hx hb hK hP 1 1 rfl rfl (k := i) (by omega) (by decide) dX0_reshape_33 (v := lN (be8 (V i))) (hk _ (by omega)).1 ?_
          refine lv_lload_n hx hb dX0_reshape_34 rfl (lv_at hl 1 rfl) ?_
          refine c_Si (As := [.long (lN (be8 (V i))), .long (lN (be8 x))]) (rest := []) S (c_X3_sharedBy l (V i) x) (va_cwS 2 hts gX0_reshape_X3_sharedBy rfl rfl rfl (by decide +kernel) ⟨Nat.le_of_ble_eq_true rfl, Nat.le_of_ble_eq_true rfl⟩) rfl hl.1 rfl (Nat.le_of_ble_eq_true rfl) dX0_reshape_35 ⟨Nat.le_of_ble_eq_true rfl, Nat.le_of_ble_eq_true rfl⟩ ?_
          refine lv_istore (lv' := [(7, .int (nI (bsh (V i) x))), (0, .ref (q0)), (1, .long (lN (be8 x))), (4, .int (nI (t))), (5, .int (nI (min f t))), (6, .int (nI (i)))]) hx hb dX0_reshape_38 hl (by decide) rfl (fun ls hl => ?_)
          refine lv_iload hx hb dX0_reshape_40 (lv_at hl 0 rfl) ?_
          refine lv_iload hx hb dX0_reshape_42 (lv_at hl 4 rfl) ?_
          refine n_lt (tgt := 63) hx hb dX0_reshape_44 (by decide) (Nat.lt_of_le_of_lt (bsh_le _ _) (by decide)) (by omega) (fun c_44 => ?_) (fun c_44 => ?_)
          · refine lv_iinc (v := nI (i + 1)) (lv' := [(6, .int (nI (i + 1))), (7, .int (nI (bsh (V i) x))), (0, .ref (q0)), (1, .long (lN (be8 x))), (4, .int (nI (t))), (5, .int (nI (min f t)))]) hx hb dX0_reshape_63 hl (k := 5) rfl (inc1 _) (by decide) rfl (fun ls hl => ?_)
            refine lv_goto (tgt := 11) hx hb dX0_reshape_66 (by decide) ?_
            exact ih_11 (i + 1) (d1) (by omega) (lt_s h1 (by rw [h2 i (Nat.le_refl i) c_17, brs_n (by omega)]; exact (hk i c_17).2.2.2.2.2.1)) (fun k h3 h4 => h2 k (by omega) h4) (by omega) _ _ hP hD hS ls (lv_sub hl [2, 3, 4, 5, 0] rfl)
          · refine lv_aload_n hx hb dX0_reshape_47 rfl (lv_at hl 1 rfl) ?_
            refine va_get (D := (dC, dI)) (ci := 0) (v := .ref (q3)) (C := RX0) (T := TX0) (N := 4) hx hb hts hi0 hown hK hP 0 rfl rfl 2 (by decide) (hts (.fieldLink RX0 19 "BurstWords$Dictionary" "depths" "[I") (by decide +kernel)) (fun _ h9 => h9) rfl dX0_reshape_48 ?_
            refine lv_iload hx hb dX0_reshape_51 (lv_at hl 5 rfl) ?_
            refine lv_iload hx hb dX0_reshape_53 (lv_at hl 3 rfl) ?_
            refine lv_iload hx hb dX0_reshape_55 (lv_at hl 0 rfl) ?_
            refine lv_iconst (v := nI (1)) hx hb dX0_reshape_57 (by decide) ?_
            refine lv_iadd hx hb dX0_reshape_58 ?_
            refine tpi (nI_add _ _) ?_
            refine va_mmin hx hb (hml.trans hl.1.symm) hown (hts (.methodLink RX0 68 Lib.Math.min.name) (by decide +kernel)) (hts (.static Lib.Math.min.name) (by decide +kernel)) (hts (.initialized "java/lang/Math") (by decide +kernel)) (hts (.code Lib.Math.min.name Lib.Math.min.code 2 (some .int)) (by decide +kernel)) (Nat.le_of_ble_eq_true rfl) (Nat.le_of_ble_eq_true rfl) (Nat.le_of_ble_eq_true rfl) (Nat.le_of_ble_eq_true rfl) dX0_reshape_59 ?_
            refine tpi (nmin (by omega) (by have := bsh_le (V i) x; omega)) ?_
            refine s_i (k := i) hx hb hK hP hD hS 3 0 rfl rfl (hin := (by omega)) (hn := by decide) (hdg := dX0_reshape_62) (fun H locs hP hD hS => ?_)
            have hP : va_P (dC, dI) vwCl (wd q0 q1 q2 q3 cI cJ w o (upd d1 i (nI (min t ((bsh (V i) x) + 1)))) n) H := hP
            have hD : va_D A (wd q0 q1 q2 q3 cI cJ w o (upd d1 i (nI (min t ((bsh (V i) x) + 1)))) n) := hD
            refine lv_iinc (v := nI (i + 1)) (lv' := [(6, .int (nI (i + 1))), (7, .int (nI (bsh (V i) x))), (0, .ref (q0)), (1, .long (lN (be8 x))), (4, .int (nI (t))), (5, .int (nI (min f t)))]) hx hb dX0_reshape_63 hl (k := 5) rfl (inc1 _) (by decide) rfl (fun ls hl => ?_)
            refine lv_goto (tgt := 11) hx hb dX0_reshape_66 (by decide) ?_
            exact ih_11 (i + 1) (upd d1 i (nI (min t ((bsh (V i) x) + 1)))) (by omega) (lt_s (fun k h => by rw [pk_un (by omega)]; exact h1 k h) (by rw [pk_us, brs_y (by omega)])) (fun k h3 h4 => by rw [pk_un (by omega)]; exact h2 k (by omega) h4) (by omega) _ _ hP hD hS ls (lv_sub hl [2, 3, 4, 5, 0] rfl)
  exact lp_11 _ (0) (d) (by omega) lt_0 (fun _ _ _ => rfl) (Nat.lt_succ_self _) _ _ hP hD hS ls (lv_sub hl [2, 3, 5, 1, 0] rfl)
