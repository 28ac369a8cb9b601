abbrev rm_X3_isLetter : Room := { frames := 0, cells := 0, slots := 0, locals := 0 }
set_option maxHeartbeats 4000000 in
set_option maxRecDepth 100000 in
theorem c_X3_isLetter (l : Launch) (a : Int32) : Met l yX3_isLetter wsX3_isLetter rm_X3_isLetter (sPc [.int (a)]) (Ri (bI (!decide (a < nI 97) && !decide (nI 122 < a)))) 0 0 (fun _ => False) := by
  refine met_s (cc := cX3_isLetter) (maxL := 1) (ret := (some .boolean)) (own := RX3) (by decide) rfl rfl (Nat.le_of_ble_eq_true rfl) ?_
  intro p e s m below meth c S hr hlocks ls hl
  obtain ⟨hx, hb, hml, hown, hts⟩ := id S
  have hl : lv_has ls 1 [(0, .int (a))] := hl
  refine lv_iload_n hx hb dX3_isLetter_0 rfl (lv_at hl 0 rfl) ?_
  refine lv_bipush (v := nI (97)) hx hb dX3_isLetter_1 (by decide) ?_
  refine lv_icmp_lt (tgt := 16) hx hb dX3_isLetter_3 (by decide) (fun c_3 => ?_) (fun c_3 => ?_)
  · refine lv_iconst (v := nI (0)) hx hb dX3_isLetter_16 (by decide) ?_
    exact r_z (x := false) hx hb hr hlocks rfl (by simp [c_3]) dX3_isLetter_17
  · refine lv_iload_n hx hb dX3_isLetter_6 rfl (lv_at hl 0 rfl) ?_
    refine lv_bipush (v := nI (122)) hx hb dX3_isLetter_7 (by decide) ?_
    refine lv_icmp_gt (tgt := 16) hx hb dX3_isLetter_9 (by decide) (fun c_9 => ?_) (fun c_9 => ?_)
    · refine lv_iconst (v := nI (0)) hx hb dX3_isLetter_16 (by decide) ?_
      exact r_z (x := false) hx hb hr hlocks rfl (by simp [c_3, c_9]) dX3_isLetter_17
    · refine lv_iconst (v := nI (1)) hx hb dX3_isLetter_12 (by decide) ?_
      refine lv_goto (tgt := 17) hx hb dX3_isLetter_13 (by decide) ?_
      exact r_z (x := true) hx hb hr hlocks rfl (by simp [c_3, c_9]) dX3_isLetter_17
abbrev rm_X3_shiftOf : Room := { frames := 0, cells := 0, slots := 0, locals := 0 }
set_option maxHeartbeats 4000000 in
set_option maxRecDepth 100000 in
theorem c_X3_shiftOf (l : Launch) (i : Nat) (hi : i ≤ 6) : Met l yX3_shiftOf wsX3_shiftOf rm_X3_shiftOf (sPc [.int (nI (i))]) (Ri (nI (8 * (6 - i)))) 0 0 (fun _ => False) := by
  refine met_s (cc := cX3_shiftOf) (maxL := 1) (ret := (some .int)) (own := RX3) (by decide) rfl rfl (Nat.le_of_ble_eq_true rfl) ?_
  intro p e s m below meth c S hr hlocks ls hl
  obtain ⟨hx, hb, hml, hown, hts⟩ := id S
  have hl : lv_has ls 1 [(0, .int (nI (i)))] := hl
  refine lv_bipush (v := nI (8)) hx hb dX3_shiftOf_0 (by decide) ?_
  refine lv_bipush (v := nI (6)) hx hb dX3_shiftOf_2 (by decide) ?_
  refine lv_iload_n hx hb dX3_shiftOf_4 rfl (lv_at hl 0 rfl) ?_
  refine lv_isub hx hb dX3_shiftOf_5 ?_
  refine tpi (pk_sub (by omega)) ?_
  refine lv_imul hx hb dX3_shiftOf_6 ?_
  refine tpi (pk_mul _ _) ?_
  exact r_i hx hb hr hlocks rfl dX3_shiftOf_7
abbrev rm_X3_letterAt : Room := { frames := 1, cells := 0, slots := 0, locals := 20 }
set_option maxHeartbeats 4000000 in
set_option maxRecDepth 100000 in
theorem c_X3_letterAt (l : Launch) (v : Nat) (i : Nat) (hi : i < 7) : Met l yX3_letterAt wsX3_letterAt rm_X3_letterAt (sPc [.long (lN (be8 v)), .int (nI (i))]) (Ri (nI (bch (bsg v i)))) 0 0 (fun _ => False) := by
  refine met_s (cc := cX3_letterAt) (maxL := 3) (ret := (some .int)) (own := RX3) (by decide) rfl rfl (Nat.le_of_ble_eq_true rfl) ?_
  intro p e s m below meth c S hr hlocks ls hl
  obtain ⟨hx, hb, hml, hown, hts⟩ := id S
  have hl : lv_has ls 3 [(0, .long (lN (be8 v))), (2, .int (nI (i)))] := hl
  refine lv_iload_n hx hb dX3_letterAt_0 rfl (lv_at hl 1 rfl) ?_
  refine z_lt (tgt := 10) hx hb dX3_letterAt_1 (by decide) (by omega) ?_
  refine lv_iload_n hx hb dX3_letterAt_4 rfl (lv_at hl 1 rfl) ?_
  refine lv_bipush (v := nI (7)) hx hb dX3_letterAt_5 (by decide) ?_
  refine n_lt (tgt := 12) hx hb dX3_letterAt_7 (by decide) (by omega) (by omega) (fun c_7 => ?_) (fun c_7 => ?_)
  · refine lv_lload_n hx hb dX3_letterAt_12 rfl (lv_at hl 0 rfl) ?_
    refine lv_iload_n hx hb dX3_letterAt_13 rfl (lv_at hl 1 rfl) ?_
    refine c_Si (As := [.int (nI (i))]) (rest := [.long (lN (be8 v))]) S (c_X3_shiftOf l (i) (by omega)) (va_cwS 1 hts gX3_letterAt_X3_shiftOf rfl rfl rfl (by decide +kernel) ⟨Nat.le_of_ble_eq_true rfl, Nat.le_of_ble_eq_true rfl⟩) rfl hl.1 rfl (Nat.le_of_ble_eq_true rfl) dX3_letterAt_14 ⟨Nat.le_of_ble_eq_true rfl, Nat.le_of_ble_eq_true rfl⟩ ?_
    refine lv_lushr (v := lN ((be8 v) / 2 ^ (8 * (6 - i)))) hx hb dX3_letterAt_17 (wb_shr (be8_64 _) (by omega)) ?_
    refine lv_l2i (v := nI ((be8 v) / 2 ^ (8 * (6 - i)))) hx hb dX3_letterAt_18 (lN_i _) ?_
    refine lv_sipush (v := nI (255)) hx hb dX3_letterAt_19 (by decide) ?_
    refine lv_iand hx hb dX3_letterAt_22 ?_
    refine tpi (fa_mask _ 8) ?_
    exact r_i hx hb hr hlocks (congrArg nI (be8_dig v i hi)) dX3_letterAt_23
  · exact absurd hi (by omega)
abbrev rm_X3_lengthOf : Room := { frames := 2, cells := 0, slots := 0, locals := 42 }
set_option maxHeartbeats 4000000 in
set_option maxRecDepth 100000 in
theorem c_X3_lengthOf (l : Launch) (v : Nat) : Met l yX3_lengthOf wsX3_lengthOf rm_X3_lengthOf (sPc [.long (lN (be8 v))]) (Ri (nI (bln v))) 0 0 (fun _ => False) := by
  refine met_s (cc := cX3_lengthOf) (maxL := 3) (ret := (some .int)) (own := RX3) (by decide) rfl rfl (Nat.le_of_ble_eq_true rfl) ?_
  intro p e s m below meth c S hr hlocks ls hl
  obtain ⟨hx, hb, hml, hown, hts⟩ := id S
  have hl : lv_has ls 3 [(0, .long (lN (be8 v)))] := hl
  refine lv_iconst (v := nI (0)) hx hb dX3_lengthOf_0 (by decide) ?_
  refine lv_istore_n (lv' := [(2, .int (nI (0))), (0, .long (lN (be8 v)))]) hx hb dX3_lengthOf_1 rfl hl (by decide) rfl (fun ls hl => ?_)
  have lp_2 : ∀ (j_2 : Nat) (i : Nat), (i ≤ 7) → (∀ k, k < i → bsg v k ≠ 0) → (7 - i) < j_2 → ∀ ls : Array Slot, lv_has ls 3 [(0, .long (lN (be8 v))), (2, .int (nI (i)))] → W p l e rm_X3_lengthOf s m ([.long (lN (be8 v))] : List Value).toArray below meth c s.heap [] 0 0 (MQ below (Ri (nI (bln v))) ([.long (lN (be8 v))] : List Value).toArray s 0 0 (fun _ => False)) (F0 m 2 ls []) := by
    intro j_2
    induction j_2 with
    | zero => intro i _ _ h0; exact absurd h0 (Nat.not_lt_zero _)
    | succ j_2 ih_2 =>
      intro i hi hz hf_2 ls hl
      refine lv_iload_n hx hb dX3_lengthOf_2 rfl (lv_at hl 1 rfl) ?_
      refine lv_bipush (v := nI (7)) hx hb dX3_lengthOf_3 (by decide) ?_
      refine n_ge (tgt := 22) hx hb dX3_lengthOf_5 (by decide) (by omega) (by omega) (fun c_5 => ?_) (fun c_5 => ?_)
      · refine lv_iload_n hx hb dX3_lengthOf_22 rfl (lv_at hl 1 rfl) ?_
        exact r_i hx hb hr hlocks (congrArg nI (bfs_eq hi (fun k h => by simpa using hz k h) (fun h => absurd h (by omega))).symm) dX3_lengthOf_23
      · refine lv_lload_n hx hb dX3_lengthOf_8 rfl (lv_at hl 0 rfl) ?_
        refine lv_iload_n hx hb dX3_lengthOf_9 rfl (lv_at hl 1 rfl) ?_
        refine c_Si (As := [.long (lN (be8 v)), .int (nI (i))]) (rest := []) S (c_X3_letterAt l v i (by omega)) (va_cwS 2 hts gX3_lengthOf_X3_letterAt rfl rfl rfl (by decide +kernel) ⟨Nat.le_of_ble_eq_true rfl, Nat.le_of_ble_eq_true rfl⟩) rfl hl.1 rfl (Nat.le_of_ble_eq_true rfl) dX3_lengthOf_10 ⟨Nat.le_of_ble_eq_true rfl, Nat.le_of_ble_eq_true rfl⟩ ?_
        refine z_eq (tgt := 22) hx hb dX3_lengthOf_13 (by decide) (Nat.lt_trans (bch_sg _ _) (by decide)) (fun c_13 => ?_) (fun c_13 => ?_)
        · refine lv_iload_n hx hb dX3_lengthOf_22 rfl (lv_at hl 1 rfl) ?_
          exact r_i hx hb hr hlocks (congrArg nI (bfs_eq hi (fun k h => by simpa using hz k h) (fun h => by simpa using bch_0.mp c_13)).symm) dX3_lengthOf_23
        · refine lv_iinc (v := nI (i + 1)) (lv' := [(2, .int (nI (i + 1))), (0, .long (lN (be8 v)))]) hx hb dX3_lengthOf_16 hl (k := 1) rfl (inc1 _) (by decide) rfl (fun ls hl => ?_)
          refine lv_goto (tgt := 2) hx hb dX3_lengthOf_19 (by decide) ?_
          exact ih_2 (i + 1) (by omega) (lt_s hz (fun q => by rw [bch_0.mpr q] at c_13; exact absurd c_13 (by decide))) (by omega) ls (lv_sub hl [1, 0] rfl)
  exact lp_2 _ (0) (by omega) (fun k h => absurd h (Nat.not_lt_zero k)) (Nat.lt_succ_self _) ls (lv_sub hl [1, 0] rfl)
abbrev rm_X3_extended : Room := { frames := 1, cells := 0, slots := 0, locals := 20 }
set_option maxHeartbeats 4000000 in
set_option maxRecDepth 100000 in
theorem c_X3_extended (l : Launch) (v : Nat) (a : Nat) (hv : bwf v) (hl7 : bln v < 7) (h1 : 97 ≤ a) (h2 : a ≤ 122) : Met l yX3_extended wsX3_extended rm_X3_extended (sPc [.long (lN (be8 v)), .int (nI (bln v)), .int (nI (a))]) (Rl (lN (be8 (bxt v (a - 96))))) 0 0 (fun _ => False) := by
  refine met_s (cc := cX3_extended) (maxL := 4) (ret := (some .long)) (own := RX3) (by decide) rfl rfl (Nat.le_of_ble_eq_true rfl) ?_
  intro p e s m below meth c S hr hlocks ls hl
  obtain ⟨hx, hb, hml, hown, hts⟩ := id S
  have hl : lv_has ls 4 [(0, .long (lN (be8 v))), (2, .int (nI (bln v))), (3, .int (nI (a)))] := hl
  refine lv_iload_n hx hb dX3_extended_0 rfl (lv_at hl 1 rfl) ?_
  refine z_lt (tgt := 10) hx hb dX3_extended_1 (by decide) (by omega) ?_
  refine lv_iload_n hx hb dX3_extended_4 rfl (lv_at hl 1 rfl) ?_
  refine lv_bipush (v := nI (7)) hx hb dX3_extended_5 (by decide) ?_
  refine n_lt (tgt := 12) hx hb dX3_extended_7 (by decide) (by omega) (by omega) (fun c_7 => ?_) (fun c_7 => ?_)
  · refine lv_lload_n hx hb dX3_extended_12 rfl (lv_at hl 0 rfl) ?_
    refine lv_iload_n hx hb dX3_extended_13 rfl (lv_at hl 2 rfl) ?_
    refine lv_i2l (v := lN (a)) hx hb dX3_extended_14 (nI_l (by omega)) ?_
    refine lv_iload_n hx hb dX3_extended_15 rfl (lv_at hl 1 rfl) ?_
    refine c_Si (As := [.int (nI (bln v))]) (rest := [.long (lN (a)), .long (lN (be8 v))]) S (c_X3_shiftOf l (bln v) (by omega)) (va_cwS 1 hts gX3_extended_X3_shiftOf rfl rfl rfl (by decide +kernel) ⟨Nat.le_of_ble_eq_true rfl, Nat.le_of_ble_eq_true rfl⟩) rfl hl.1 rfl (Nat.le_of_ble_eq_true rfl) dX3_extended_16 ⟨Nat.le_of_ble_eq_true rfl, Nat.le_of_ble_eq_true rfl⟩ ?_
    refine lv_lshl (v := lN (a * 2 ^ (8 * (6 - (bln v))))) hx hb dX3_extended_19 (wb_shl _ (by omega)) ?_
    refine lv_lor hx hb dX3_extended_20 ?_
    refine tpl (bxt_or hv hl7 h1 h2) ?_
    exact r_l hx hb hr hlocks rfl dX3_extended_21
  · exact absurd hl7 (by omega)
abbrev rm_X3_sharedBy : Room := { frames := 2, cells := 0, slots := 0, locals := 42 }
set_option maxHeartbeats 4000000 in
set_option maxRecDepth 100000 in
theorem c_X3_sharedBy (l : Launch) (u : Nat) (v : Nat) : Met l yX3_sharedBy wsX3_sharedBy rm_X3_sharedBy (sPc [.long (lN (be8 u)), .long (lN (be8 v))]) (Ri (nI (bsh u v))) 0 0 (fun _ => False) := by
  refine met_s (cc := cX3_sharedBy) (maxL := 5) (ret := (some .int)) (own := RX3) (by decide) rfl rfl (Nat.le_of_ble_eq_true rfl) ?_
  intro p e s m below meth c S hr hlocks ls hl
  obtain ⟨hx, hb, hml, hown, hts⟩ := id S
  have hl : lv_has ls 5 [(0, .long (lN (be8 u))), (2, .long (lN (be8 v)))] := hl
  refine lv_iconst (v := nI (0)) hx hb dX3_sharedBy_0 (by decide) ?_
  refine lv_istore (lv' := [(4, .int (nI (0))), (0, .long (lN (be8 u))), (2, .long (lN (be8 v)))]) hx hb dX3_sharedBy_1 hl (by decide) rfl (fun ls hl => ?_)
  have lp_3 : ∀ (j_3 : Nat) (i : Nat), (i ≤ 7) → (∀ k, k < i → bsg u k ≠ 0 ∧ bsg u k = bsg v k) → (7 - i) < j_3 → ∀ ls : Array Slot, lv_has ls 5 [(0, .long (lN (be8 u))), (2, .long (lN (be8 v))), (4, .int (nI (i)))] → W p l e rm_X3_sharedBy s m ([.long (lN (be8 u)), .long (lN (be8 v))] : List Value).toArray below meth c s.heap [] 0 0 (MQ below (Ri (nI (bsh u v))) ([.long (lN (be8 u)), .long (lN (be8 v))] : List Value).toArray s 0 0 (fun _ => False)) (F0 m 3 ls []) := by
    intro j_3
    induction j_3 with
    | zero => intro i _ _ h0; exact absurd h0 (Nat.not_lt_zero _)
    | succ j_3 ih_3 =>
      intro i hi hz hf_3 ls hl
      refine lv_iload hx hb dX3_sharedBy_3 (lv_at hl 2 rfl) ?_
      refine lv_bipush (v := nI (7)) hx hb dX3_sharedBy_5 (by decide) ?_
      refine n_ge (tgt := 40) hx hb dX3_sharedBy_7 (by decide) (by omega) (by omega) (fun c_7 => ?_) (fun c_7 => ?_)
      · refine lv_iload hx hb dX3_sharedBy_40 (lv_at hl 2 rfl) ?_
        exact r_i hx hb hr hlocks (congrArg nI (bfs_eq hi (fun k h => by simp [hz k h]; exact (hz k h).2 ▸ (hz k h).1) (fun h => absurd h (by omega))).symm) dX3_sharedBy_42
      · refine lv_lload_n hx hb dX3_sharedBy_10 rfl (lv_at hl 0 rfl) ?_
        refine lv_iload hx hb dX3_sharedBy_11 (lv_at hl 2 rfl) ?_
        refine c_Si (As := [.long (lN (be8 u)), .int (nI (i))]) (rest := []) S (c_X3_letterAt l u i (by omega)) (va_cwS 2 hts gX3_sharedBy_X3_letterAt rfl rfl rfl (by decide +kernel) ⟨Nat.le_of_ble_eq_true rfl, Nat.le_of_ble_eq_true rfl⟩) rfl hl.1 rfl (Nat.le_of_ble_eq_true rfl) dX3_sharedBy_13 ⟨Nat.le_of_ble_eq_true rfl, Nat.le_of_ble_eq_true rfl⟩ ?_
        refine z_eq (tgt := 40) hx hb dX3_sharedBy_16 (by decide) (Nat.lt_trans (bch_sg _ _) (by decide)) (fun c_16 => ?_) (fun c_16 => ?_)
        · refine lv_iload hx hb dX3_sharedBy_40 (lv_at hl 2 rfl) ?_
          exact r_i hx hb hr hlocks (congrArg nI (bfs_eq hi (fun k h => by simp [hz k h]; exact (hz k h).2 ▸ (hz k h).1) (fun h => by simp [bch_0.mp c_16])).symm) dX3_sharedBy_42
        · refine lv_lload_n hx hb dX3_sharedBy_19 rfl (lv_at hl 0 rfl) ?_
          refine lv_iload hx hb dX3_sharedBy_20 (lv_at hl 2 rfl) ?_
          refine c_Si (As := [.long (lN (be8 u)), .int (nI (i))]) (rest := []) S (c_X3_letterAt l u i (by omega)) (va_cwS 2 hts gX3_sharedBy_X3_letterAt rfl rfl rfl (by decide +kernel) ⟨Nat.le_of_ble_eq_true rfl, Nat.le_of_ble_eq_true rfl⟩) rfl hl.1 rfl (Nat.le_of_ble_eq_true rfl) dX3_sharedBy_22 ⟨Nat.le_of_ble_eq_true rfl, Nat.le_of_ble_eq_true rfl⟩ ?_
          refine lv_lload_n hx hb dX3_sharedBy_25 rfl (lv_at hl 1 rfl) ?_
          refine lv_iload hx hb dX3_sharedBy_26 (lv_at hl 2 rfl) ?_
          refine c_Si (As := [.long (lN (be8 v)), .int (nI (i))]) (rest := [.int (nI (bch (bsg u i)))]) S (c_X3_letterAt l v i (by omega)) (va_cwS 2 hts gX3_sharedBy_X3_letterAt rfl rfl rfl (by decide +kernel) ⟨Nat.le_of_ble_eq_true rfl, Nat.le_of_ble_eq_true rfl⟩) rfl hl.1 rfl (Nat.le_of_ble_eq_true rfl) dX3_sharedBy_28 ⟨Nat.le_of_ble_eq_true rfl, Nat.le_of_ble_eq_true rfl⟩ ?_
          refine n_ne (tgt := 40) hx hb dX3_sharedBy_31 (by decide) (Nat.lt_trans (bch_sg _ _) (by decide)) (Nat.lt_trans (bch_sg _ _) (by decide)) (fun c_31 => ?_) (fun c_31 => ?_)
          · refine lv_iload hx hb dX3_sharedBy_40 (lv_at hl 2 rfl) ?_
            exact r_i hx hb hr hlocks (congrArg nI (bfs_eq hi (fun k h => by simp [hz k h]; exact (hz k h).2 ▸ (hz k h).1) (fun h => by simp [bch_ne c_31])).symm) dX3_sharedBy_42
          · refine lv_iinc (v := nI (i + 1)) (lv' := [(4, .int (nI (i + 1))), (0, .long (lN (be8 u))), (2, .long (lN (be8 v)))]) hx hb dX3_sharedBy_34 hl (k := 2) rfl (inc1 _) (by decide) rfl (fun ls hl => ?_)
            refine lv_goto (tgt := 3) hx hb dX3_sharedBy_37 (by decide) ?_
            exact ih_3 (i + 1) (by omega) (lt_s hz ⟨fun q => by rw [bch_0.mpr q] at c_16; exact absurd c_16 (by decide), bch_inj.mp c_31⟩) (by omega) ls (lv_sub hl [1, 2, 0] rfl)
  exact lp_3 _ (0) (by omega) (fun k h => absurd h (Nat.not_lt_zero k)) (Nat.lt_succ_self _) ls (lv_sub hl [1, 2, 0] rfl)
abbrev rm_X3_begins : Room := { frames := 3, cells := 0, slots := 0, locals := 66 }
set_option maxHeartbeats 4000000 in
set_option maxRecDepth 100000 in
theorem c_X3_begins (l : Launch) (u : Nat) (v : Nat) : Met l yX3_begins wsX3_begins rm_X3_begins (sPc [.long (lN (be8 u)), .long (lN (be8 v))]) (Ri (bI (bsh u v == bln u))) 0 0 (fun _ => False) := by
  refine met_s (cc := cX3_begins) (maxL := 4) (ret := (some .boolean)) (own := RX3) (by decide) rfl rfl (Nat.le_of_ble_eq_true rfl) ?_
  intro p e s m below meth c S hr hlocks ls hl
  obtain ⟨hx, hb, hml, hown, hts⟩ := id S
  have hl : lv_has ls 4 [(0, .long (lN (be8 u))), (2, .long (lN (be8 v)))] := hl
  refine lv_lload_n hx hb dX3_begins_0 rfl (lv_at hl 0 rfl) ?_
  refine lv_lload_n hx hb dX3_begins_1 rfl (lv_at hl 1 rfl) ?_
  refine c_Si (As := [.long (lN (be8 u)), .long (lN (be8 v))]) (rest := []) S (c_X3_sharedBy l u v) (va_cwS 2 hts gX3_begins_X3_sharedBy rfl rfl rfl (by decide +kernel) ⟨Nat.le_of_ble_eq_true rfl, Nat.le_of_ble_eq_true rfl⟩) rfl hl.1 rfl (Nat.le_of_ble_eq_true rfl) dX3_begins_2 ⟨Nat.le_of_ble_eq_true rfl, Nat.le_of_ble_eq_true rfl⟩ ?_
  refine lv_lload_n hx hb dX3_begins_5 rfl (lv_at hl 0 rfl) ?_
  refine c_Si (As := [.long (lN (be8 u))]) (rest := [.int (nI (bsh u v))]) S (c_X3_lengthOf l u) (va_cwS 1 hts gX3_begins_X3_lengthOf rfl rfl rfl (by decide +kernel) ⟨Nat.le_of_ble_eq_true rfl, Nat.le_of_ble_eq_true rfl⟩) rfl hl.1 rfl (Nat.le_of_ble_eq_true rfl) dX3_begins_6 ⟨Nat.le_of_ble_eq_true rfl, Nat.le_of_ble_eq_true rfl⟩ ?_
  refine n_ne (tgt := 16) hx hb dX3_begins_9 (by decide) (Nat.lt_of_le_of_lt (bsh_le _ _) (by decide)) (Nat.lt_of_le_of_lt (bln_le _) (by decide)) (fun c_9 => ?_) (fun c_9 => ?_)
  · refine lv_iconst (v := nI (0)) hx hb dX3_begins_16 (by decide) ?_
    exact r_z (x := false) hx hb hr hlocks rfl (by simp [c_9]) dX3_begins_17
  · refine lv_iconst (v := nI (1)) hx hb dX3_begins_12 (by decide) ?_
    refine lv_goto (tgt := 17) hx hb dX3_begins_13 (by decide) ?_
    exact r_z (x := true) hx hb hr hlocks rfl (by simp [c_9]) dX3_begins_17
abbrev rm_X3_differences : Room := { frames := 2, cells := 0, slots := 0, locals := 42 }
set_option maxHeartbeats 4000000 in
set_option maxRecDepth 100000 in
theorem c_X3_differences (l : Launch) (u : Nat) (v : Nat) : Met l yX3_differences wsX3_differences rm_X3_differences (sPc [.long (lN (be8 u)), .long (lN (be8 v))]) (Ri (nI (fb_ct (fun k => bsg u k != bsg v k) 7))) 0 0 (fun _ => False) := by
  refine met_s (cc := cX3_differences) (maxL := 6) (ret := (some .int)) (own := RX3) (by decide) rfl rfl (Nat.le_of_ble_eq_true rfl) ?_
  intro p e s m below meth c S hr hlocks ls hl
  obtain ⟨hx, hb, hml, hown, hts⟩ := id S
  have hl : lv_has ls 6 [(0, .long (lN (be8 u))), (2, .long (lN (be8 v)))] := hl
  refine lv_iconst (v := nI (0)) hx hb dX3_differences_0 (by decide) ?_
  refine lv_istore (lv' := [(4, .int (nI (0))), (0, .long (lN (be8 u))), (2, .long (lN (be8 v)))]) hx hb dX3_differences_1 hl (by decide) rfl (fun ls hl => ?_)
  refine lv_iconst (v := nI (0)) hx hb dX3_differences_3 (by decide) ?_
  refine lv_istore (lv' := [(5, .int (nI (0))), (4, .int (nI (0))), (0, .long (lN (be8 u))), (2, .long (lN (be8 v)))]) hx hb dX3_differences_4 hl (by decide) rfl (fun ls hl => ?_)
  have lp_6 : ∀ (j_6 : Nat) (i : Nat), (i ≤ 7) → (7 - i) < j_6 → ∀ ls : Array Slot, lv_has ls 6 [(0, .long (lN (be8 u))), (2, .long (lN (be8 v))), (4, .int (nI (fb_ct (fun k => bsg u k != bsg v k) i))), (5, .int (nI (i)))] → W p l e rm_X3_differences s m ([.long (lN (be8 u)), .long (lN (be8 v))] : List Value).toArray below meth c s.heap [] 0 0 (MQ below (Ri (nI (fb_ct (fun k => bsg u k != bsg v k) 7))) ([.long (lN (be8 u)), .long (lN (be8 v))] : List Value).toArray s 0 0 (fun _ => False)) (F0 m 6 ls []) := by
    intro j_6
    induction j_6 with
    | zero => intro i _ h0; exact absurd h0 (Nat.not_lt_zero _)
    | succ j_6 ih_6 =>
      intro i hi hf_6 ls hl
      refine lv_iload hx hb dX3_differences_6 (lv_at hl 3 rfl) ?_
      refine lv_bipush (v := nI (7)) hx hb dX3_differences_8 (by decide) ?_
      refine n_ge (tgt := 37) hx hb dX3_differences_10 (by decide) (by omega) (by omega) (fun c_10 => ?_) (fun c_10 => ?_)
      · refine lv_iload hx hb dX3_differences_37 (lv_at hl 2 rfl) ?_
        exact r_i hx hb hr hlocks (by rw [show i = 7 by omega]) dX3_differences_39
      · refine lv_lload_n hx hb dX3_differences_13 rfl (lv_at hl 0 rfl) ?_
        refine lv_iload hx hb dX3_differences_14 (lv_at hl 3 rfl) ?_
        refine c_Si (As := [.long (lN (be8 u)), .int (nI (i))]) (rest := []) S (c_X3_letterAt l u i (by omega)) (va_cwS 2 hts gX3_differences_X3_letterAt rfl rfl rfl (by decide +kernel) ⟨Nat.le_of_ble_eq_true rfl, Nat.le_of_ble_eq_true rfl⟩) rfl hl.1 rfl (Nat.le_of_ble_eq_true rfl) dX3_differences_16 ⟨Nat.le_of_ble_eq_true rfl, Nat.le_of_ble_eq_true rfl⟩ ?_
        refine lv_lload_n hx hb dX3_differences_19 rfl (lv_at hl 1 rfl) ?_
        refine lv_iload hx hb dX3_differences_20 (lv_at hl 3 rfl) ?_
        refine c_Si (As := [.long (lN (be8 v)), .int (nI (i))]) (rest := [.int (nI (bch (bsg u i)))]) S (c_X3_letterAt l v i (by omega)) (va_cwS 2 hts gX3_differences_X3_letterAt rfl rfl rfl (by decide +kernel) ⟨Nat.le_of_ble_eq_true rfl, Nat.le_of_ble_eq_true rfl⟩) rfl hl.1 rfl (Nat.le_of_ble_eq_true rfl) dX3_differences_22 ⟨Nat.le_of_ble_eq_true rfl, Nat.le_of_ble_eq_true rfl⟩ ?_
        refine n_eq (tgt := 31) hx hb dX3_differences_25 (by decide) (Nat.lt_trans (bch_sg _ _) (by decide)) (Nat.lt_trans (bch_sg _ _) (by decide)) (fun c_25 => ?_) (fun c_25 => ?_)
        · refine lv_iinc (v := nI (i + 1)) (lv' := [(5, .int (nI (i + 1))), (0, .long (lN (be8 u))), (2, .long (lN (be8 v))), (4, .int (nI (fb_ct (fun k => bsg u k != bsg v k) i)))]) hx hb dX3_differences_31 hl (k := 3) rfl (inc1 _) (by decide) rfl (fun ls hl => ?_)
          refine lv_goto (tgt := 6) hx hb dX3_differences_34 (by decide) ?_
          exact ih_6 (i + 1) (by omega) (by omega) ls (lv_cg (l := [(0, .long (lN (be8 u))), (2, .long (lN (be8 v))), (4, .int (nI (fb_ct (fun k => bsg u k != bsg v k) i))), (5, .int (nI (i + 1)))]) (lv_sub hl [1, 2, 3, 0] rfl) (by rw [ct_n (p := (fun k => bsg u k != bsg v k)) (n := i) (by simp [bch_inj.mp c_25])]))
        · refine lv_iinc (v := nI ((fb_ct (fun k => bsg u k != bsg v k) i) + 1)) (lv' := [(4, .int (nI ((fb_ct (fun k => bsg u k != bsg v k) i) + 1))), (0, .long (lN (be8 u))), (2, .long (lN (be8 v))), (5, .int (nI (i)))]) hx hb dX3_differences_28 hl (k := 2) rfl (inc1 _) (by decide) rfl (fun ls hl => ?_)
          refine lv_iinc (v := nI (i + 1)) (lv' := [(5, .int (nI (i + 1))), (4, .int (nI ((fb_ct (fun k => bsg u k != bsg v k) i) + 1))), (0, .long (lN (be8 u))), (2, .long (lN (be8 v)))]) hx hb dX3_differences_31 hl (k := 3) rfl (inc1 _) (by decide) rfl (fun ls hl => ?_)
          refine lv_goto (tgt := 6) hx hb dX3_differences_34 (by decide) ?_
          exact ih_6 (i + 1) (by omega) (by omega) ls (lv_cg (l := [(0, .long (lN (be8 u))), (2, .long (lN (be8 v))), (4, .int (nI ((fb_ct (fun k => bsg u k != bsg v k) i) + 1))), (5, .int (nI (i + 1)))]) (lv_sub hl [2, 3, 1, 0] rfl) (by rw [ct_y (p := (fun k => bsg u k != bsg v k)) (n := i) (by simp [bch_ne c_25])]))
  exact lp_6 _ (0) (by omega) (Nat.lt_succ_self _) ls (lv_sub hl [2, 3, 1, 0] rfl)
