theorem rng_28 {x : Int32} (h1 : ¬ x < nI 2) (h2 : x ≤ nI 8) : ∃ k, 2 ≤ k ∧ k ≤ 8 ∧ x = nI k := by
  refine bin_R (by decide) (by decide) ?_
  simp only [Bool.and_eq_true, Bool.not_eq_true', decide_eq_false_iff_not]
  refine ⟨h1, fun q => ?_⟩
  rw [Int32.lt_iff_toInt_lt] at q
  rw [Int32.le_iff_toInt_le] at h2
  omega
theorem rng_06 {x : Int32} (h1 : ¬ x < 0) (h2 : ¬ nI 7 ≤ x) : ∃ k, k ≤ 6 ∧ x = nI k := by
  obtain ⟨k, hk, rfl⟩ := nI_of h1
  exact ⟨k, by
    rcases Nat.lt_or_ge k 7 with q | q
    · omega
    · exact absurd ((nI_leI (by decide) hk).mpr q) h2, rfl⟩
theorem bhf_N {x : Int32} (h : bhf x = true) : ∃ k, k ≤ 1 ∧ x = nI k := by
  simp only [Bool.or_eq_true, decide_eq_true_eq] at h
  rcases h with h | h
  · exact ⟨0, by decide, h⟩
  · exact ⟨1, by decide, h⟩
theorem bHH_dn {hw : Nat → Int64} {ho hd : Nat → Int32} {hn : Nat} {HW HO HE : Nat → Nat} (h : bHH hw ho hd hn HW HO HE) : bHH hw ho hd (hn - 1) HW HO HE := ⟨by have := h.1; omega, fun k hk => h.2 k (by omega)⟩
theorem be8_n0 {v : Nat} (h : be8 v ≠ 0) : v ≠ 0 := fun q => h (by rw [q]; rfl)
theorem be8_y0 {v : Nat} (hv : v < 27 ^ 7) (h : be8 v = 0) : v = 0 := (be8_eqI hv (by decide)).mp (h.trans be8_0.symm)
theorem hpa_ad {V O : Nat → Nat} {n v : Nat} (hbz : bof V O n v = 0 → n < 40) (h : ¬ bTh V n v) : 0 < bof V O n v + 1 ∧ n < 40 := ⟨Nat.succ_pos _, hbz (by unfold bof; exact if_neg h)⟩
theorem bof_99 {w : Nat → Int64} {o d : Nat → Int32} {n : Nat} {V O E : Nat → Nat} {v : Nat} (h : bDD w o d n V O E) : bof V O n v ≤ 99 := by
  unfold bof
  split
  · next q => exact (h.2 _ q.1).2.2.2.2.1
  · decide
theorem bof_v0 {w : Nat → Int64} {o d : Nat → Int32} {n : Nat} {V O E : Nat → Nat} {v : Nat} (h : bDD w o d n V O E) (h2 : 0 < bof V O n v) : 0 < v := by
  have q := bof_th h2
  rw [← q.2]
  exact (h.2 _ q.1).2.2.1
theorem dJ7_fill_53178_0 : decode cJ7_fill_53178 0 = .ok (.iconst 0, 1) := by decide +kernel
theorem dJ7_fill_53178_1 : decode cJ7_fill_53178 1 = .ok (.istore_n 2, 1) := by decide +kernel
theorem dJ7_fill_53178_2 : decode cJ7_fill_53178 2 = .ok (.aload_n 0, 1) := by decide +kernel
theorem dJ7_fill_53178_3 : decode cJ7_fill_53178 3 = .ok (.arraylength, 1) := by decide +kernel
theorem dJ7_fill_53178_4 : decode cJ7_fill_53178 4 = .ok (.istore_n 3, 1) := by decide +kernel
theorem dJ7_fill_53178_5 : decode cJ7_fill_53178 5 = .ok (.iload_n 2, 1) := by decide +kernel
theorem dJ7_fill_53178_6 : decode cJ7_fill_53178 6 = .ok (.iload_n 3, 1) := by decide +kernel
theorem dJ7_fill_53178_7 : decode cJ7_fill_53178 7 = .ok (.if_icmp .ge 13, 3) := by decide +kernel
theorem dJ7_fill_53178_10 : decode cJ7_fill_53178 10 = .ok (.aload_n 0, 1) := by decide +kernel
theorem dJ7_fill_53178_11 : decode cJ7_fill_53178 11 = .ok (.iload_n 2, 1) := by decide +kernel
theorem dJ7_fill_53178_12 : decode cJ7_fill_53178 12 = .ok (.iload_n 1, 1) := by decide +kernel
theorem dJ7_fill_53178_13 : decode cJ7_fill_53178 13 = .ok (.iastore, 1) := by decide +kernel
theorem dJ7_fill_53178_14 : decode cJ7_fill_53178 14 = .ok (.iinc 2 1, 3) := by decide +kernel
theorem dJ7_fill_53178_17 : decode cJ7_fill_53178 17 = .ok (.goto (-12), 3) := by decide +kernel
theorem dJ7_fill_53178_20 : decode cJ7_fill_53178 20 = .ok (.return_, 1) := by decide +kernel
abbrev rm_J7_fill_53178 : Room := { frames := 0, cells := 0, slots := 0, locals := 0 }
set_option maxHeartbeats 4000000 in
set_option maxRecDepth 100000 in
theorem c_J7_fill_53178 (l : Launch) (dC : Nat → ClassId) (dI : Nat → Nat → Nat) (cI cJ cZ : ClassId) (q : Nat) (f : Nat → Int32) (sz : Nat) (x : Int32) : Met l yJ7_fill_53178 wsJ7_fill_53178 rm_J7_fill_53178 (mPc (dC, dI) (tysA cI cJ cZ) ([(q, .inl (cI, 182, .inl f))]) sz [.ref (q), .int (x)]) (mQv (dC, dI) (fun (u : Nat → Int32) => ∀ k, k < 182 → u k = x) (fun u => [(q, .inl (cI, 182, .inl u))]) (va_A ([(q, .inl (cI, 182, .inl f))]) sz)) 0 0 (va_A ([(q, .inl (cI, 182, .inl f))]) sz) := by
  refine met_m (cc := cJ7_fill_53178) (maxL := 4) (ret := none) (own := RJ7) (Qc := fun A => mQv (dC, dI) (fun (u : Nat → Int32) => ∀ k, k < 182 → u k = x) (fun u => [(q, .inl (cI, 182, .inl u))]) A) (by decide) rfl rfl (Nat.le_of_ble_eq_true rfl) ?_
  intro p e s m below meth c S hr hlocks hname hK A hA hP hD hS ls hl
  obtain ⟨hx, hb, hml, hown, hts⟩ := id S
  generalize hQQ : MQ below (mQv (dC, dI) (fun (u : Nat → Int32) => ∀ k, k < 182 → u k = x) (fun u => [(q, .inl (cI, 182, .inl u))]) A) ([.ref (q), .int (x)] : List Value).toArray s 0 0 A = QQ
  have hl : lv_has ls 4 [(0, .ref (q)), (1, .int (x))] := hl
  refine lv_iconst (v := nI (0)) hx hb dJ7_fill_53178_0 (by decide) ?_
  refine lv_istore_n (lv' := [(2, .int (nI (0))), (0, .ref (q)), (1, .int (x))]) hx hb dJ7_fill_53178_1 rfl hl (by decide) rfl (fun ls hl => ?_)
  refine lv_aload_n hx hb dJ7_fill_53178_2 rfl (lv_at hl 1 rfl) ?_
  refine va_alen hx hb hK hP 0 0 rfl rfl (v := nI (182)) rfl dJ7_fill_53178_3 ?_
  refine lv_istore_n (lv' := [(3, .int (nI (182))), (2, .int (nI (0))), (0, .ref (q)), (1, .int (x))]) hx hb dJ7_fill_53178_4 rfl hl (by decide) rfl (fun ls hl => ?_)
  have lp_5 : ∀ (j_5 : Nat) (i : Nat) (f1 : Nat → Int32), (i ≤ 182) → (∀ k, k < i → f1 k = x) → (182 - i) < j_5 → ∀ (H : Heap) (locs : List Loc), va_P (dC, dI) vwCl ([(q, .inl (cI, 182, .inl f1))]) H → va_D A ([(q, .inl (cI, 182, .inl f1))]) → va_S A s.heap H locs → ∀ ls : Array Slot, lv_has ls 4 [(0, .ref (q)), (1, .int (x)), (2, .int (nI (i))), (3, .int (nI (182)))] → W p l e rm_J7_fill_53178 s m ([.ref (q), .int (x)] : List Value).toArray below meth c H locs 0 0 QQ (F0 m 5 ls []) := by
    intro j_5
    induction j_5 with
    | zero => intro i f1 _ _ h0; exact absurd h0 (Nat.not_lt_zero _)
    | succ j_5 ih_5 =>
      intro i f1 hi h1 hf_5 H locs hP hD hS ls hl
      refine lv_iload_n hx hb dJ7_fill_53178_5 rfl (lv_at hl 2 rfl) ?_
      refine lv_iload_n hx hb dJ7_fill_53178_6 rfl (lv_at hl 3 rfl) ?_
      refine n_ge (tgt := 20) hx hb dJ7_fill_53178_7 (by decide) (by omega) (by omega) (fun c_7 => ?_) (fun c_7 => ?_)
      · rw [← hQQ]
        exact m_v (f1) hx hb hr hlocks (fun k h => h1 k (by omega)) hP hD hS dJ7_fill_53178_20
      · refine lv_aload_n hx hb dJ7_fill_53178_10 rfl (lv_at hl 0 rfl) ?_
        refine lv_iload_n hx hb dJ7_fill_53178_11 rfl (lv_at hl 2 rfl) ?_
        refine lv_iload_n hx hb dJ7_fill_53178_12 rfl (lv_at hl 1 rfl) ?_
        refine s_i (k := i) hx hb hK hP hD hS 0 0 rfl rfl (hin := (by omega)) (hn := by decide) (hdg := dJ7_fill_53178_13) (fun H locs hP hD hS => ?_)
        have hP : va_P (dC, dI) vwCl ([(q, .inl (cI, 182, .inl (upd f1 i (x))))]) H := hP
        have hD : va_D A ([(q, .inl (cI, 182, .inl (upd f1 i (x))))]) := hD
        refine lv_iinc (v := nI (i + 1)) (lv' := [(2, .int (nI (i + 1))), (0, .ref (q)), (1, .int (x)), (3, .int (nI (182)))]) hx hb dJ7_fill_53178_14 hl (k := 2) rfl (inc1 _) (by decide) rfl (fun ls hl => ?_)
        refine lv_goto (tgt := 5) hx hb dJ7_fill_53178_17 (by decide) ?_
        exact ih_5 (i + 1) (upd f1 i (x)) (by omega) (lt_s (fun k h => by rw [pk_un (by omega)]; exact h1 k h) pk_us) (by omega) _ _ hP hD hS ls (lv_sub hl [1, 2, 0, 3] rfl)
  exact lp_5 _ (0) (f) (by omega) lt_0 (Nat.lt_succ_self _) _ _ hP hD hS ls (lv_sub hl [2, 3, 1, 0] rfl)
abbrev rm_X4_tallyLetters : Room := { frames := 2, cells := 0, slots := 0, locals := 42 }
set_option maxHeartbeats 4000000 in
set_option maxRecDepth 100000 in
theorem c_X4_tallyLetters (l : Launch) (dC : Nat → ClassId) (dI : Nat → Nat → Nat) (cI cJ cZ : ClassId) (a : Nat → Nat) (w : Nat → Int64) (o d : Nat → Int32) (n : Nat) (hw : Nat → Int64) (ho hd : Nat → Int32) (hn : Nat) (pl le so : Nat → Int32) (sn : Nat) (ta : Nat → Int32) (v bd : Nat) (V O E HW HO HE SA SL SI : Nat → Nat) (hDD : bDD w o d n V O E) (hHH : bHH hw ho hd hn HW HO HE) (hSS : bSS pl le so sn SA SL SI) (hv : bwf v) (hbd : 2 ≤ bd ∧ bd ≤ 8) (sz : Nat) (x : Nat) : Met l yX4_tallyLetters wsX4_tallyLetters rm_X4_tallyLetters (mPc (dC, dI) (tysA cI cJ cZ) (wb a cI cJ cZ w o d n hw ho hd hn pl le so sn ta v bd) sz [.ref (a 0), .long (lN (be8 x))]) (mQv (dC, dI) (fun (u : Nat → Int32) => ∀ q, q < 182 → u q = btw x ta 7 q) (fun u => wb a cI cJ cZ w o d n hw ho hd hn pl le so sn u v bd) (va_A (wb a cI cJ cZ w o d n hw ho hd hn pl le so sn ta v bd) sz)) 0 0 (va_A (wb a cI cJ cZ w o d n hw ho hd hn pl le so sn ta v bd) sz) := by
  refine met_m (cc := cX4_tallyLetters) (maxL := 5) (ret := none) (own := RX4) (Qc := fun A => mQv (dC, dI) (fun (u : Nat → Int32) => ∀ q, q < 182 → u q = btw x ta 7 q) (fun u => wb a cI cJ cZ w o d n hw ho hd hn pl le so sn u v bd) A) (by decide) rfl rfl (Nat.le_of_ble_eq_true rfl) ?_
  intro p e s m below meth c S hr hlocks hname hK A hA hP hD hS ls hl
  obtain ⟨hx, hb, hml, hown, hts⟩ := id S
  generalize hQQ : MQ below (mQv (dC, dI) (fun (u : Nat → Int32) => ∀ q, q < 182 → u q = btw x ta 7 q) (fun u => wb a cI cJ cZ w o d n hw ho hd hn pl le so sn u v bd) A) ([.ref (a 0), .long (lN (be8 x))] : List Value).toArray s 0 0 A = QQ
  have hl : lv_has ls 5 [(0, .ref (a 0)), (1, .long (lN (be8 x)))] := hl
  have hi4 : ∀ w ∈ wsX40, w ∈ wsX4_tallyLetters := fun _ h => List.mem_cons_of_mem _ (List.mem_append_right _ h)
  obtain ⟨hn40, hk⟩ := id hDD; obtain ⟨hh12, hkh⟩ := id hHH; obtain ⟨hs8, hks⟩ := id hSS
  refine lv_iconst (v := nI (0)) hx hb dX4_tallyLetters_0 (by decide) ?_
  refine lv_istore_n (lv' := [(3, .int (nI (0))), (0, .ref (a 0)), (1, .long (lN (be8 x)))]) hx hb dX4_tallyLetters_1 rfl hl (by decide) rfl (fun ls hl => ?_)
  have lp_2 : ∀ (j_2 : Nat) (i : Nat) (ta1 : Nat → Int32), (i ≤ 7) → (∀ q, q < 182 → ta1 q = btw x ta i q) → (7 - i) < j_2 → ∀ (H : Heap) (locs : List Loc), va_P (dC, dI) vwCl (wb a cI cJ cZ w o d n hw ho hd hn pl le so sn ta1 v bd) H → va_D A (wb a cI cJ cZ w o d n hw ho hd hn pl le so sn ta1 v bd) → va_S A s.heap H locs → ∀ ls : Array Slot, lv_has ls 5 [(0, .ref (a 0)), (1, .long (lN (be8 x))), (3, .int (nI (i)))] → W p l e rm_X4_tallyLetters s m ([.ref (a 0), .long (lN (be8 x))] : List Value).toArray below meth c H locs 0 0 QQ (F0 m 2 ls []) := by
    intro j_2
    induction j_2 with
    | zero => intro i ta1 _ _ h0; exact absurd h0 (Nat.not_lt_zero _)
    | succ j_2 ih_2 =>
      intro i ta1 hi h1 hf_2 H locs hP hD hS ls hl
      refine lv_iload_n hx hb dX4_tallyLetters_2 rfl (lv_at hl 2 rfl) ?_
      refine lv_bipush (v := nI (7)) hx hb dX4_tallyLetters_3 (by decide) ?_
      refine n_ge (tgt := 48) hx hb dX4_tallyLetters_5 (by decide) (by omega) (by omega) (fun c_5 => ?_) (fun c_5 => ?_)
      · rw [← hQQ]
        exact m_v (ta1) hx hb hr hlocks (fun q hq => by rw [h1 q hq, show i = 7 by omega]) hP hD hS dX4_tallyLetters_48
      · refine lv_lload_n hx hb dX4_tallyLetters_8 rfl (lv_at hl 1 rfl) ?_
        refine lv_iload_n hx hb dX4_tallyLetters_9 rfl (lv_at hl 2 rfl) ?_
        refine c_Si (As := [.long (lN (be8 x)), .int (nI (i))]) (rest := []) S (c_X3_letterAt l x i (by omega)) (va_cwS 2 hts gX4_tallyLetters_X3_letterAt rfl rfl rfl (by decide +kernel) ⟨Nat.le_of_ble_eq_true rfl, Nat.le_of_ble_eq_true rfl⟩) rfl hl.1 rfl (Nat.le_of_ble_eq_true rfl) dX4_tallyLetters_10 ⟨Nat.le_of_ble_eq_true rfl, Nat.le_of_ble_eq_true rfl⟩ ?_
        refine lv_istore (lv' := [(4, .int (nI (bch (bsg x i)))), (0, .ref (a 0)), (1, .long (lN (be8 x))), (3, .int (nI (i)))]) hx hb dX4_tallyLetters_13 hl (by decide) rfl (fun ls hl => ?_)
        refine lv_iload hx hb dX4_tallyLetters_15 (lv_at hl 0 rfl) ?_
        refine c_Si (As := [.int (nI (bch (bsg x i)))]) (rest := []) S (c_X3_isLetter l (nI (bch (bsg x i)))) (va_cwS 1 hts gX4_tallyLetters_X3_isLetter rfl rfl rfl (by decide +kernel) ⟨Nat.le_of_ble_eq_true rfl, Nat.le_of_ble_eq_true rfl⟩) rfl hl.1 rfl (Nat.le_of_ble_eq_true rfl) dX4_tallyLetters_17 ⟨Nat.le_of_ble_eq_true rfl, Nat.le_of_ble_eq_true rfl⟩ ?_
        refine tpi (y := bI (decide (0 < bsg x i))) (congrArg bI (isl_y (bsg_lt _ _))) ?_
        refine b_eq (tgt := 42) hx hb dX4_tallyLetters_20 (by decide) (fun c_20 => ?_) (fun c_20 => ?_)
        · refine lv_iinc (v := nI (i + 1)) (lv' := [(3, .int (nI (i + 1))), (4, .int (nI (bch (bsg x i)))), (0, .ref (a 0)), (1, .long (lN (be8 x)))]) hx hb dX4_tallyLetters_42 hl (k := 3) rfl (inc1 _) (by decide) rfl (fun ls hl => ?_)
          refine lv_goto (tgt := 2) hx hb dX4_tallyLetters_45 (by decide) ?_
          exact ih_2 (i + 1) (ta1) (by omega) (fun q hq => (h1 q hq).trans (btw_skip (Nat.eq_zero_of_not_pos (of_decide_eq_false c_20))).symm) (by omega) _ _ hP hD hS ls (lv_sub hl [2, 3, 0] rfl)
        · refine lv_aload_n hx hb dX4_tallyLetters_23 rfl (lv_at hl 1 rfl) ?_
          refine va_get (D := (dC, dI)) (ci := 3) (v := .ref (a 13)) (C := RX4) (T := TX4) (N := 6) hx hb hts hi4 hown hK hP 0 rfl rfl 3 (by decide) (hts (.fieldLink RX4 30 "BurstWords" "tally" "[I") (by decide +kernel)) (fun _ h9 => h9) rfl dX4_tallyLetters_24 ?_
          refine lv_iload_n hx hb dX4_tallyLetters_27 rfl (lv_at hl 3 rfl) ?_
          refine lv_bipush (v := nI (26)) hx hb dX4_tallyLetters_28 (by decide) ?_
          refine lv_imul hx hb dX4_tallyLetters_30 ?_
          refine tpi (pk_mul _ _) ?_
          refine lv_iload hx hb dX4_tallyLetters_31 (lv_at hl 0 rfl) ?_
          refine lv_iadd hx hb dX4_tallyLetters_33 ?_
          refine tpi (nI_add _ _) ?_
          refine lv_bipush (v := nI (97)) hx hb dX4_tallyLetters_34 (by decide) ?_
          refine lv_isub hx hb dX4_tallyLetters_36 ?_
          refine tpi (pk_sub (by have := of_decide_eq_true c_20; have := bch_v (of_decide_eq_true c_20); have := bsg_lt x i; omega)) ?_
          refine lv_dup2_11 hx hb dX4_tallyLetters_37 rfl rfl ?_
          refine g_i hx hb hK hP 13 0 rfl rfl (k := ((i * 26) + (bch (bsg x i))) - 97) (by have := of_decide_eq_true c_20; have := bch_v (of_decide_eq_true c_20); have := bsg_lt x i; omega) (by decide) dX4_tallyLetters_38 (v := ta1 (((i * 26) + (bch (bsg x i))) - 97)) rfl ?_
          refine lv_iconst (v := nI (1)) hx hb dX4_tallyLetters_39 (by decide) ?_
          refine lv_iadd hx hb dX4_tallyLetters_40 ?_
          refine s_i (k := ((i * 26) + (bch (bsg x i))) - 97) hx hb hK hP hD hS 13 0 rfl rfl (hin := (by have := of_decide_eq_true c_20; have := bch_v (of_decide_eq_true c_20); have := bsg_lt x i; omega)) (hn := by decide) (hdg := dX4_tallyLetters_41) (fun H locs hP hD hS => ?_)
          have hP : va_P (dC, dI) vwCl (wb a cI cJ cZ w o d n hw ho hd hn pl le so sn (upd ta1 (((i * 26) + (bch (bsg x i))) - 97) ((ta1 (((i * 26) + (bch (bsg x i))) - 97)) + (nI (1)))) v bd) H := hP
          have hD : va_D A (wb a cI cJ cZ w o d n hw ho hd hn pl le so sn (upd ta1 (((i * 26) + (bch (bsg x i))) - 97) ((ta1 (((i * 26) + (bch (bsg x i))) - 97)) + (nI (1)))) v bd) := hD
          refine lv_iinc (v := nI (i + 1)) (lv' := [(3, .int (nI (i + 1))), (4, .int (nI (bch (bsg x i)))), (0, .ref (a 0)), (1, .long (lN (be8 x)))]) hx hb dX4_tallyLetters_42 hl (k := 3) rfl (inc1 _) (by decide) rfl (fun ls hl => ?_)
          refine lv_goto (tgt := 2) hx hb dX4_tallyLetters_45 (by decide) ?_
          exact ih_2 (i + 1) (upd ta1 (((i * 26) + (bch (bsg x i))) - 97) ((ta1 (((i * 26) + (bch (bsg x i))) - 97)) + (nI (1)))) (by omega) (btw_step c_5 (of_decide_eq_true c_20) h1) (by omega) _ _ hP hD hS ls (lv_sub hl [2, 3, 0] rfl)
  exact lp_2 _ (0) (ta) (by omega) (fun q _ => (if_neg (fun z => by omega)).symm) (Nat.lt_succ_self _) _ _ hP hD hS ls (lv_sub hl [1, 2, 0] rfl)
abbrev rm_X4_tallyFitting : Room := { frames := 3, cells := 0, slots := 0, locals := 66 }
set_option maxHeartbeats 4000000 in
set_option maxRecDepth 100000 in
theorem c_X4_tallyFitting (l : Launch) (dC : Nat → ClassId) (dI : Nat → Nat → Nat) (cI cJ cZ : ClassId) (a : Nat → Nat) (w : Nat → Int64) (o d : Nat → Int32) (n : Nat) (hw : Nat → Int64) (ho hd : Nat → Int32) (hn : Nat) (pl le so : Nat → Int32) (sn : Nat) (ta : Nat → Int32) (v bd : Nat) (V O E HW HO HE SA SL SI : Nat → Nat) (hDD : bDD w o d n V O E) (hHH : bHH hw ho hd hn HW HO HE) (hSS : bSS pl le so sn SA SL SI) (hv : bwf v) (hbd : 2 ≤ bd ∧ bd ≤ 8) (sz : Nat) : Met l yX4_tallyFitting wsX4_tallyFitting rm_X4_tallyFitting (mPc (dC, dI) (tysA cI cJ cZ) (wb a cI cJ cZ w o d n hw ho hd hn pl le so sn ta v bd) sz [.ref (a 0)]) (mQi (dC, dI) (fun (r : Int32) (u : Nat → Int32) => r = nI (fb_ct (fun k => bft (V k) SA SL SI sn) n) ∧ ∀ q, q < 182 → u q = nI (btT V n SA SL SI sn q)) (fun u => wb a cI cJ cZ w o d n hw ho hd hn pl le so sn u v bd) (va_A (wb a cI cJ cZ w o d n hw ho hd hn pl le so sn ta v bd) sz)) 0 0 (va_A (wb a cI cJ cZ w o d n hw ho hd hn pl le so sn ta v bd) sz) := by
  refine met_m (cc := cX4_tallyFitting) (maxL := 5) (ret := (some .int)) (own := RX4) (Qc := fun A => mQi (dC, dI) (fun (r : Int32) (u : Nat → Int32) => r = nI (fb_ct (fun k => bft (V k) SA SL SI sn) n) ∧ ∀ q, q < 182 → u q = nI (btT V n SA SL SI sn q)) (fun u => wb a cI cJ cZ w o d n hw ho hd hn pl le so sn u v bd) A) (by decide) rfl rfl (Nat.le_of_ble_eq_true rfl) ?_
  intro p e s m below meth c S hr hlocks hname hK A hA hP hD hS ls hl
  obtain ⟨hx, hb, hml, hown, hts⟩ := id S
  generalize hQQ : MQ below (mQi (dC, dI) (fun (r : Int32) (u : Nat → Int32) => r = nI (fb_ct (fun k => bft (V k) SA SL SI sn) n) ∧ ∀ q, q < 182 → u q = nI (btT V n SA SL SI sn q)) (fun u => wb a cI cJ cZ w o d n hw ho hd hn pl le so sn u v bd) A) ([.ref (a 0)] : List Value).toArray s 0 0 A = QQ
  have hl : lv_has ls 5 [(0, .ref (a 0))] := hl
  have hi4 : ∀ w ∈ wsX40, w ∈ wsX4_tallyFitting := fun _ h => List.mem_cons_of_mem _ (List.mem_append_left _ (List.mem_append_left _ (List.mem_append_right _ h)))
  have hi0 : ∀ w ∈ wsX00, w ∈ wsX4_tallyFitting := fun _ h => List.mem_cons_of_mem _ (List.mem_append_left _ (List.mem_append_right _ h))
  have hi2 : ∀ w ∈ wsX20, w ∈ wsX4_tallyFitting := fun _ h => List.mem_cons_of_mem _ (List.mem_append_right _ h)
  obtain ⟨hn40, hk⟩ := id hDD; obtain ⟨hh12, hkh⟩ := id hHH; obtain ⟨hs8, hks⟩ := id hSS
  refine lv_aload_n hx hb dX4_tallyFitting_0 rfl (lv_at hl 0 rfl) ?_
  refine va_get (D := (dC, dI)) (ci := 3) (v := .ref (a 13)) (C := RX4) (T := TX4) (N := 6) hx hb hts hi4 hown hK hP 0 rfl rfl 3 (by decide) (hts (.fieldLink RX4 30 "BurstWords" "tally" "[I") (by decide +kernel)) (fun _ h9 => h9) rfl dX4_tallyFitting_1 ?_
  refine lv_iconst (v := nI (0)) hx hb dX4_tallyFitting_4 (by decide) ?_
  refine m_Sv (As := [.ref (a 13), .int (nI (0))]) (rest := []) (wr := [(a 0, .inr (3, [.ref (a 1), .ref (a 5), .ref (a 9), .ref (a 13), .long (lN (be8 v)), .int (nI (bd))])), (a 1, .inr (0, [.ref (a 2), .ref (a 3), .ref (a 4), .int (nI (n))])), (a 2, .inl (cJ, 40, .inr (.inl w))), (a 3, .inl (cI, 40, .inl o)), (a 4, .inl (cI, 40, .inl d)), (a 5, .inr (1, [.ref (a 6), .ref (a 7), .ref (a 8), .int (nI (hn))])), (a 6, .inl (cJ, 12, .inr (.inl hw))), (a 7, .inl (cI, 12, .inl ho)), (a 8, .inl (cI, 12, .inl hd)), (a 9, .inr (2, [.ref (a 10), .ref (a 11), .ref (a 12), .int (nI (sn))])), (a 10, .inl (cI, 8, .inl pl)), (a 11, .inl (cI, 8, .inl le)), (a 12, .inl (cZ, 8, .inl so))]) S (c_J7_fill_53178 l dC dI cI cJ cZ (a 13) ta s.heap.size (nI (0))) (va_cwS 2 hts gX4_tallyFitting_J7_fill_53178 rfl rfl rfl (by decide +kernel) ⟨Nat.le_of_ble_eq_true rfl, Nat.le_of_ble_eq_true rfl⟩) hK hP hD hS hA [13] [0, 1, 2, 3, 4, 5, 6, 7, 8, 9, 10, 11, 12] (hP.sub [13] rfl) (hD.sub [13] (by decide) rfl) rfl rfl (by decide) (by decide) rfl hl.1 rfl (Nat.le_of_ble_eq_true rfl) dX4_tallyFitting_5 ⟨Nat.le_of_ble_eq_true rfl, Nat.le_of_ble_eq_true rfl⟩ (fun u_5 H locs hu_5 hP hD hS => ?_)
  obtain ⟨ta9, rfl⟩ : ∃ z, z = u_5 := ⟨_, rfl⟩
  have hP := hP.sub (ws' := wb a cI cJ cZ w o d n hw ho hd hn pl le so sn ta9 v bd) [0, 1, 2, 3, 4, 5, 6, 7, 8, 9, 10, 11, 12, 13] rfl
  have hD := hD.sub (ws' := wb a cI cJ cZ w o d n hw ho hd hn pl le so sn ta9 v bd) [0, 1, 2, 3, 4, 5, 6, 7, 8, 9, 10, 11, 12, 13] (by decide) rfl
  have hP : va_P (dC, dI) vwCl (wb a cI cJ cZ w o d n hw ho hd hn pl le so sn ta9 v bd) H := hP
  have hD : va_D A (wb a cI cJ cZ w o d n hw ho hd hn pl le so sn ta9 v bd) := hD
  refine lv_iconst (v := nI (0)) hx hb dX4_tallyFitting_8 (by decide) ?_
  refine lv_istore_n (lv' := [(1, .int (nI (0))), (0, .ref (a 0))]) hx hb dX4_tallyFitting_9 rfl hl (by decide) rfl (fun ls hl => ?_)
  refine lv_iconst (v := nI (0)) hx hb dX4_tallyFitting_10 (by decide) ?_
  refine lv_istore_n (lv' := [(2, .int (nI (0))), (1, .int (nI (0))), (0, .ref (a 0))]) hx hb dX4_tallyFitting_11 rfl hl (by decide) rfl (fun ls hl => ?_)
  have lp_12 : ∀ (j_12 : Nat) (i : Nat) (ta1 : Nat → Int32), (i ≤ n) → (∀ q, q < 182 → ta1 q = nI (fb_ct (fun k => bft (V k) SA SL SI sn && (bsg (V k) (q / 26) == q % 26 + 1)) i)) → (n - i) < j_12 → ∀ (H : Heap) (locs : List Loc), va_P (dC, dI) vwCl (wb a cI cJ cZ w o d n hw ho hd hn pl le so sn ta1 v bd) H → va_D A (wb a cI cJ cZ w o d n hw ho hd hn pl le so sn ta1 v bd) → va_S A s.heap H locs → ∀ ls : Array Slot, lv_has ls 5 [(0, .ref (a 0)), (1, .int (nI (fb_ct (fun k => bft (V k) SA SL SI sn) i))), (2, .int (nI (i)))] → W p l e rm_X4_tallyFitting s m ([.ref (a 0)] : List Value).toArray below meth c H locs 0 0 QQ (F0 m 12 ls []) := by
    intro j_12
    induction j_12 with
    | zero => intro i ta1 _ _ h0; exact absurd h0 (Nat.not_lt_zero _)
    | succ j_12 ih_12 =>
      intro i ta1 hi h1 hf_12 H locs hP hD hS ls hl
      refine lv_iload_n hx hb dX4_tallyFitting_12 rfl (lv_at hl 2 rfl) ?_
      refine lv_aload_n hx hb dX4_tallyFitting_13 rfl (lv_at hl 0 rfl) ?_
      refine va_get (D := (dC, dI)) (ci := 3) (v := .ref (a 1)) (C := RX4) (T := TX4) (N := 6) hx hb hts hi4 hown hK hP 0 rfl rfl 0 (by decide) (hts (.fieldLink RX4 10 "BurstWords" "dictionary" "LBurstWords$Dictionary;") (by decide +kernel)) (fun _ h9 => h9) rfl dX4_tallyFitting_14 ?_
      refine c_Vi (As := []) (rest := [.int (nI (i))]) (ci := 0) (q0 := 0) S (c_X0_size l dC dI cI cJ cZ (a 1) (a 2) (a 3) (a 4) w o d n V O E hDD ) (cwV 0 hts gX4_tallyFitting_X0_size rfl rfl rfl (by decide +kernel) ⟨Nat.le_of_ble_eq_true rfl, Nat.le_of_ble_eq_true rfl⟩) hK (hP.sub [1, 2, 3, 4] rfl) rfl rfl rfl hl.1 rfl (Nat.le_of_ble_eq_true rfl) dX4_tallyFitting_17 ⟨Nat.le_of_ble_eq_true rfl, Nat.le_of_ble_eq_true rfl⟩ ?_
      refine n_ge (tgt := 57) hx hb dX4_tallyFitting_20 (by decide) (by omega) (by omega) (fun c_20 => ?_) (fun c_20 => ?_)
      · refine lv_iload_n hx hb dX4_tallyFitting_57 rfl (lv_at hl 1 rfl) ?_
        rw [← hQQ]
        exact m_i (ta1) hx hb hr hlocks ⟨by rw [show i = n by omega], fun q hq => by rw [h1 q hq, show i = n by omega]; rfl⟩ hP hD hS dX4_tallyFitting_58
      · refine lv_aload_n hx hb dX4_tallyFitting_23 rfl (lv_at hl 0 rfl) ?_
        refine va_get (D := (dC, dI)) (ci := 3) (v := .ref (a 1)) (C := RX4) (T := TX4) (N := 6) hx hb hts hi4 hown hK hP 0 rfl rfl 0 (by decide) (hts (.fieldLink RX4 10 "BurstWords" "dictionary" "LBurstWords$Dictionary;") (by decide +kernel)) (fun _ h9 => h9) rfl dX4_tallyFitting_24 ?_
        refine lv_iload_n hx hb dX4_tallyFitting_27 rfl (lv_at hl 2 rfl) ?_
        refine c_Vl (As := [.int (nI (i))]) (rest := []) (ci := 0) (q0 := 0) S (c_X0_wordAt_in l dC dI cI cJ cZ (a 1) (a 2) (a 3) (a 4) w o d n V O E hDD i (by omega)) (cwV 1 hts gX4_tallyFitting_X0_wordAt rfl rfl rfl (by decide +kernel) ⟨Nat.le_of_ble_eq_true rfl, Nat.le_of_ble_eq_true rfl⟩) hK (hP.sub [1, 2, 3, 4] rfl) rfl rfl rfl hl.1 rfl (Nat.le_of_ble_eq_true rfl) dX4_tallyFitting_28 ⟨Nat.le_of_ble_eq_true rfl, Nat.le_of_ble_eq_true rfl⟩ ?_
        refine lv_lstore_n (lv' := [(3, .long (lN (be8 (V i)))), (0, .ref (a 0)), (1, .int (nI (fb_ct (fun k => bft (V k) SA SL SI sn) i))), (2, .int (nI (i)))]) hx hb dX4_tallyFitting_31 rfl hl (by decide) rfl (fun ls hl => ?_)
        refine lv_aload_n hx hb dX4_tallyFitting_32 rfl (lv_at hl 1 rfl) ?_
        refine va_get (D := (dC, dI)) (ci := 3) (v := .ref (a 9)) (C := RX4) (T := TX4) (N := 6) hx hb hts hi4 hown hK hP 0 rfl rfl 2 (by decide) (hts (.fieldLink RX4 26 "BurstWords" "sightings" "LBurstWords$Sightings;") (by decide +kernel)) (fun _ h9 => h9) rfl dX4_tallyFitting_33 ?_
        refine lv_lload_n hx hb dX4_tallyFitting_36 rfl (lv_at hl 0 rfl) ?_
        refine c_Vi (As := [.long (lN (be8 (V i)))]) (rest := []) (ci := 2) (q0 := 0) S (c_X2_allow l dC dI cI cJ cZ (a 9) (a 10) (a 11) (a 12) pl le so sn SA SL SI hSS (V i)) (cwV 1 hts gX4_tallyFitting_X2_allow rfl rfl rfl (by decide +kernel) ⟨Nat.le_of_ble_eq_true rfl, Nat.le_of_ble_eq_true rfl⟩) hK (hP.sub [9, 10, 11, 12] rfl) rfl rfl rfl hl.1 rfl (Nat.le_of_ble_eq_true rfl) dX4_tallyFitting_37 ⟨Nat.le_of_ble_eq_true rfl, Nat.le_of_ble_eq_true rfl⟩ ?_
        refine b_eq (tgt := 51) hx hb dX4_tallyFitting_40 (by decide) (fun c_40 => ?_) (fun c_40 => ?_)
        · refine lv_iinc (v := nI (i + 1)) (lv' := [(2, .int (nI (i + 1))), (3, .long (lN (be8 (V i)))), (0, .ref (a 0)), (1, .int (nI (fb_ct (fun k => bft (V k) SA SL SI sn) i)))]) hx hb dX4_tallyFitting_51 hl (k := 3) rfl (inc1 _) (by decide) rfl (fun ls hl => ?_)
          refine lv_goto (tgt := 12) hx hb dX4_tallyFitting_54 (by decide) ?_
          exact ih_12 (i + 1) (ta1) (by omega) (fun q hq => by rw [← ct_n (p := (fun k => bft (V k) SA SL SI sn && (bsg (V k) (q / 26) == q % 26 + 1))) (n := i) (by simp [c_40])]; exact h1 q hq) (by omega) _ _ hP hD hS ls (lv_cg (l := [(0, .ref (a 0)), (1, .int (nI (fb_ct (fun k => bft (V k) SA SL SI sn) i))), (2, .int (nI (i + 1)))]) (lv_sub hl [2, 3, 0] rfl) (by rw [ct_n (p := (fun k => bft (V k) SA SL SI sn)) (n := i) c_40]))
        · refine lv_iinc (v := nI ((fb_ct (fun k => bft (V k) SA SL SI sn) i) + 1)) (lv' := [(1, .int (nI ((fb_ct (fun k => bft (V k) SA SL SI sn) i) + 1))), (3, .long (lN (be8 (V i)))), (0, .ref (a 0)), (2, .int (nI (i)))]) hx hb dX4_tallyFitting_43 hl (k := 2) rfl (inc1 _) (by decide) rfl (fun ls hl => ?_)
          refine lv_aload_n hx hb dX4_tallyFitting_46 rfl (lv_at hl 2 rfl) ?_
          refine lv_lload_n hx hb dX4_tallyFitting_47 rfl (lv_at hl 1 rfl) ?_
          refine m_Vv (As := [.long (lN (be8 (V i)))]) (rest := []) (ci := 3) (q0 := 0) (wr := []) S (c_X4_tallyLetters l dC dI cI cJ cZ a w o d n hw ho hd hn pl le so sn ta1 v bd V O E HW HO HE SA SL SI hDD hHH hSS hv hbd H.size (V i)) (cwV 1 hts gX4_tallyFitting_X4_tallyLetters rfl rfl rfl (by decide +kernel) ⟨Nat.le_of_ble_eq_true rfl, Nat.le_of_ble_eq_true rfl⟩) hK hP hD hS hA [0, 1, 2, 3, 4, 5, 6, 7, 8, 9, 10, 11, 12, 13] [] hP hD rfl rfl (by decide) (by decide) rfl rfl rfl hl.1 rfl (Nat.le_of_ble_eq_true rfl) dX4_tallyFitting_48 ⟨Nat.le_of_ble_eq_true rfl, Nat.le_of_ble_eq_true rfl⟩ (fun u_48 H locs hu_48 hP hD hS => ?_)
          obtain ⟨ta8, rfl⟩ : ∃ z, z = u_48 := ⟨_, rfl⟩
          have hP : va_P (dC, dI) vwCl (wb a cI cJ cZ w o d n hw ho hd hn pl le so sn ta8 v bd) H := hP
          have hD : va_D A (wb a cI cJ cZ w o d n hw ho hd hn pl le so sn ta8 v bd) := hD
          refine lv_iinc (v := nI (i + 1)) (lv' := [(2, .int (nI (i + 1))), (1, .int (nI ((fb_ct (fun k => bft (V k) SA SL SI sn) i) + 1))), (3, .long (lN (be8 (V i)))), (0, .ref (a 0))]) hx hb dX4_tallyFitting_51 hl (k := 3) rfl (inc1 _) (by decide) rfl (fun ls hl => ?_)
          refine lv_goto (tgt := 12) hx hb dX4_tallyFitting_54 (by decide) ?_
          exact ih_12 (i + 1) (ta8) (by omega) (fun q hq => by rw [hu_48 q hq, btw, h1 q hq]; by_cases e : bsg (V i) (q / 26) = q % 26 + 1; rw [if_pos ⟨by omega, e⟩, ← ct_y (p := (fun k => bft (V k) SA SL SI sn && (bsg (V k) (q / 26) == q % 26 + 1))) (n := i) (by simp [c_40, e])]; exact nI_1 _; rw [if_neg (fun z => e z.2), ← ct_n (p := (fun k => bft (V k) SA SL SI sn && (bsg (V k) (q / 26) == q % 26 + 1))) (n := i) (by simp [e])]) (by omega) _ _ hP hD hS ls (lv_cg (l := [(0, .ref (a 0)), (1, .int (nI ((fb_ct (fun k => bft (V k) SA SL SI sn) i) + 1))), (2, .int (nI (i + 1)))]) (lv_sub hl [3, 1, 0] rfl) (by rw [ct_y (p := (fun k => bft (V k) SA SL SI sn)) (n := i) c_40]))
  exact lp_12 _ (0) (ta9) (by omega) hu_5 (Nat.lt_succ_self _) _ _ hP hD hS ls (lv_sub hl [2, 1, 0] rfl)
abbrev rm_X4_ask : Room := { frames := 4, cells := 0, slots := 0, locals := 90 }
set_option maxHeartbeats 4000000 in
set_option maxRecDepth 100000 in
theorem c_X4_ask (l : Launch) (dC : Nat → ClassId) (dI : Nat → Nat → Nat) (cI cJ cZ : ClassId) (a : Nat → Nat) (w : Nat → Int64) (o d : Nat → Int32) (n : Nat) (hw : Nat → Int64) (ho hd : Nat → Int32) (hn : Nat) (pl le so : Nat → Int32) (sn : Nat) (ta : Nat → Int32) (v bd : Nat) (V O E HW HO HE SA SL SI : Nat → Nat) (hDD : bDD w o d n V O E) (hHH : bHH hw ho hd hn HW HO HE) (hSS : bSS pl le so sn SA SL SI) (hv : bwf v) (hbd : 2 ≤ bd ∧ bd ≤ 8) (sz : Nat) : Met l yX4_ask wsX4_ask rm_X4_ask (mPc (dC, dI) (tysA cI cJ cZ) (wb a cI cJ cZ w o d n hw ho hd hn pl le so sn ta v bd) sz [.ref (a 0)]) (mQi (dC, dI) (fun (r : Int32) (u : Nat → Int32) => r = (if fb_ct (fun k => bft (V k) SA SL SI sn) n < 2 then -9 else (bca (btT V n SA SL SI sn) (fb_ct (fun k => bft (V k) SA SL SI sn) n) 182).1)) (fun u => wb a cI cJ cZ w o d n hw ho hd hn pl le so sn u v bd) (va_A (wb a cI cJ cZ w o d n hw ho hd hn pl le so sn ta v bd) sz)) 0 0 (va_A (wb a cI cJ cZ w o d n hw ho hd hn pl le so sn ta v bd) sz) := by
  refine met_m (cc := cX4_ask) (maxL := 6) (ret := (some .int)) (own := RX4) (Qc := fun A => mQi (dC, dI) (fun (r : Int32) (u : Nat → Int32) => r = (if fb_ct (fun k => bft (V k) SA SL SI sn) n < 2 then -9 else (bca (btT V n SA SL SI sn) (fb_ct (fun k => bft (V k) SA SL SI sn) n) 182).1)) (fun u => wb a cI cJ cZ w o d n hw ho hd hn pl le so sn u v bd) A) (by decide) rfl rfl (Nat.le_of_ble_eq_true rfl) ?_
  intro p e s m below meth c S hr hlocks hname hK A hA hP hD hS ls hl
  obtain ⟨hx, hb, hml, hown, hts⟩ := id S
  generalize hQQ : MQ below (mQi (dC, dI) (fun (r : Int32) (u : Nat → Int32) => r = (if fb_ct (fun k => bft (V k) SA SL SI sn) n < 2 then -9 else (bca (btT V n SA SL SI sn) (fb_ct (fun k => bft (V k) SA SL SI sn) n) 182).1)) (fun u => wb a cI cJ cZ w o d n hw ho hd hn pl le so sn u v bd) A) ([.ref (a 0)] : List Value).toArray s 0 0 A = QQ
  have hl : lv_has ls 6 [(0, .ref (a 0))] := hl
  have hi4 : ∀ w ∈ wsX40, w ∈ wsX4_ask := fun _ h => List.mem_cons_of_mem _ (List.mem_append_left _ (List.mem_append_left _ (List.mem_append_right _ h)))
  have hi0 : ∀ w ∈ wsX00, w ∈ wsX4_ask := fun _ h => List.mem_cons_of_mem _ (List.mem_append_left _ (List.mem_append_right _ h))
  have hi2 : ∀ w ∈ wsX20, w ∈ wsX4_ask := fun _ h => List.mem_cons_of_mem _ (List.mem_append_right _ h)
  obtain ⟨hn40, hk⟩ := id hDD; obtain ⟨hh12, hkh⟩ := id hHH; obtain ⟨hs8, hks⟩ := id hSS
  have hFN : fb_ct (fun k => bft (V k) SA SL SI sn) n ≤ n := fb_ct_le _ n
  refine lv_aload_n hx hb dX4_ask_0 rfl (lv_at hl 0 rfl) ?_
  refine m_Vi (As := []) (rest := []) (ci := 3) (q0 := 0) (wr := []) S (c_X4_tallyFitting l dC dI cI cJ cZ a w o d n hw ho hd hn pl le so sn ta v bd V O E HW HO HE SA SL SI hDD hHH hSS hv hbd s.heap.size ) (cwV 0 hts gX4_ask_X4_tallyFitting rfl rfl rfl (by decide +kernel) ⟨Nat.le_of_ble_eq_true rfl, Nat.le_of_ble_eq_true rfl⟩) hK hP hD hS hA [0, 1, 2, 3, 4, 5, 6, 7, 8, 9, 10, 11, 12, 13] [] hP hD rfl rfl (by decide) (by decide) rfl rfl rfl hl.1 rfl (Nat.le_of_ble_eq_true rfl) dX4_ask_1 ⟨Nat.le_of_ble_eq_true rfl, Nat.le_of_ble_eq_true rfl⟩ (fun r_1 u_1 H locs hu_1 hP hD hS => ?_)
  obtain ⟨ta9, rfl⟩ : ∃ z, z = u_1 := ⟨_, rfl⟩
  have hP : va_P (dC, dI) vwCl (wb a cI cJ cZ w o d n hw ho hd hn pl le so sn ta9 v bd) H := hP
  have hD : va_D A (wb a cI cJ cZ w o d n hw ho hd hn pl le so sn ta9 v bd) := hD
  obtain ⟨hr9, hta⟩ := hu_1
  subst hr9
  refine lv_istore_n (lv' := [(1, .int (nI (fb_ct (fun k => bft (V k) SA SL SI sn) n))), (0, .ref (a 0))]) hx hb dX4_ask_4 rfl hl (by decide) rfl (fun ls hl => ?_)
  refine lv_iload_n hx hb dX4_ask_5 rfl (lv_at hl 0 rfl) ?_
  refine lv_iconst (v := nI (2)) hx hb dX4_ask_6 (by decide) ?_
  refine n_ge (tgt := 13) hx hb dX4_ask_7 (by decide) (by omega) (by omega) (fun c_7 => ?_) (fun c_7 => ?_)
  · refine lv_iload_n hx hb dX4_ask_13 rfl (lv_at hl 0 rfl) ?_
    refine lv_iconst (v := nI (1)) hx hb dX4_ask_14 (by decide) ?_
    refine lv_iadd hx hb dX4_ask_15 ?_
    refine tpi (nI_add _ _) ?_
    refine lv_istore_n (lv' := [(2, .int (nI ((fb_ct (fun k => bft (V k) SA SL SI sn) n) + 1))), (1, .int (nI (fb_ct (fun k => bft (V k) SA SL SI sn) n))), (0, .ref (a 0))]) hx hb dX4_ask_16 rfl hl (by decide) rfl (fun ls hl => ?_)
    refine lv_bipush (v := (-9 : Int32)) hx hb dX4_ask_17 (by decide) ?_
    refine lv_istore_n (lv' := [(3, .int ((-9 : Int32))), (2, .int (nI ((fb_ct (fun k => bft (V k) SA SL SI sn) n) + 1))), (1, .int (nI (fb_ct (fun k => bft (V k) SA SL SI sn) n))), (0, .ref (a 0))]) hx hb dX4_ask_19 rfl hl (by decide) rfl (fun ls hl => ?_)
    refine lv_iconst (v := nI (0)) hx hb dX4_ask_20 (by decide) ?_
    refine lv_istore (lv' := [(4, .int (nI (0))), (3, .int ((-9 : Int32))), (2, .int (nI ((fb_ct (fun k => bft (V k) SA SL SI sn) n) + 1))), (1, .int (nI (fb_ct (fun k => bft (V k) SA SL SI sn) n))), (0, .ref (a 0))]) hx hb dX4_ask_21 hl (by decide) rfl (fun ls hl => ?_)
    have lp_23 : ∀ (j_23 : Nat) (q : Nat), (q ≤ 182) → (182 - q) < j_23 → ∀ ls : Array Slot, lv_has ls 6 [(0, .ref (a 0)), (1, .int (nI (fb_ct (fun k => bft (V k) SA SL SI sn) n))), (2, .int (nI ((bca (btT V n SA SL SI sn) (fb_ct (fun k => bft (V k) SA SL SI sn) n) q).2))), (3, .int ((bca (btT V n SA SL SI sn) (fb_ct (fun k => bft (V k) SA SL SI sn) n) q).1)), (4, .int (nI (q)))] → W p l e rm_X4_ask s m ([.ref (a 0)] : List Value).toArray below meth c H locs 0 0 QQ (F0 m 23 ls []) := by
      intro j_23
      induction j_23 with
      | zero => intro q _ h0; exact absurd h0 (Nat.not_lt_zero _)
      | succ j_23 ih_23 =>
        intro q hq hf_23 ls hl
        refine lv_iload hx hb dX4_ask_23 (lv_at hl 4 rfl) ?_
        refine lv_sipush (v := nI (182)) hx hb dX4_ask_25 (by decide) ?_
        refine n_ge (tgt := 82) hx hb dX4_ask_28 (by decide) (by omega) (by omega) (fun c_28 => ?_) (fun c_28 => ?_)
        · refine lv_iload_n hx hb dX4_ask_82 rfl (lv_at hl 3 rfl) ?_
          rw [← hQQ]
          exact m_i (ta9) hx hb hr hlocks (by rw [if_neg (by omega), show q = 182 by omega]) hP hD hS dX4_ask_83
        · refine lv_aload_n hx hb dX4_ask_31 rfl (lv_at hl 0 rfl) ?_
          refine va_get (D := (dC, dI)) (ci := 3) (v := .ref (a 13)) (C := RX4) (T := TX4) (N := 6) hx hb hts hi4 hown hK hP 0 rfl rfl 3 (by decide) (hts (.fieldLink RX4 30 "BurstWords" "tally" "[I") (by decide +kernel)) (fun _ h9 => h9) rfl dX4_ask_32 ?_
          refine lv_iload hx hb dX4_ask_35 (lv_at hl 4 rfl) ?_
          refine g_i hx hb hK hP 13 0 rfl rfl (k := q) (by omega) (by decide) dX4_ask_37 (v := nI (btT V n SA SL SI sn q)) (hta _ (by omega)) ?_
          refine lv_iload_n hx hb dX4_ask_38 rfl (lv_at hl 1 rfl) ?_
          refine lv_aload_n hx hb dX4_ask_39 rfl (lv_at hl 0 rfl) ?_
          refine va_get (D := (dC, dI)) (ci := 3) (v := .ref (a 13)) (C := RX4) (T := TX4) (N := 6) hx hb hts hi4 hown hK hP 0 rfl rfl 3 (by decide) (hts (.fieldLink RX4 30 "BurstWords" "tally" "[I") (by decide +kernel)) (fun _ h9 => h9) rfl dX4_ask_40 ?_
          refine lv_iload hx hb dX4_ask_43 (lv_at hl 4 rfl) ?_
          refine g_i hx hb hK hP 13 0 rfl rfl (k := q) (by omega) (by decide) dX4_ask_45 (v := nI (btT V n SA SL SI sn q)) (hta _ (by omega)) ?_
          refine lv_isub hx hb dX4_ask_46 ?_
          refine tpi (pk_sub btT_le) ?_
          refine va_mmax hx hb (hml.trans hl.1.symm) hown (hts (.methodLink RX4 159 Lib.Math.max.name) (by decide +kernel)) (hts (.static Lib.Math.max.name) (by decide +kernel)) (hts (.initialized "java/lang/Math") (by decide +kernel)) (hts (.code Lib.Math.max.name Lib.Math.max.code 2 (some .int)) (by decide +kernel)) (Nat.le_of_ble_eq_true rfl) (Nat.le_of_ble_eq_true rfl) (Nat.le_of_ble_eq_true rfl) (Nat.le_of_ble_eq_true rfl) dX4_ask_47 ?_
          refine tpi (nmax (Nat.lt_of_le_of_lt btT_le (by omega)) (by omega)) ?_
          refine lv_istore (lv' := [(5, .int (nI (max (btT V n SA SL SI sn q) ((fb_ct (fun k => bft (V k) SA SL SI sn) n) - (btT V n SA SL SI sn q))))), (0, .ref (a 0)), (1, .int (nI (fb_ct (fun k => bft (V k) SA SL SI sn) n))), (2, .int (nI ((bca (btT V n SA SL SI sn) (fb_ct (fun k => bft (V k) SA SL SI sn) n) q).2))), (3, .int ((bca (btT V n SA SL SI sn) (fb_ct (fun k => bft (V k) SA SL SI sn) n) q).1)), (4, .int (nI (q)))]) hx hb dX4_ask_50 hl (by decide) rfl (fun ls hl => ?_)
          refine lv_iload hx hb dX4_ask_52 (lv_at hl 0 rfl) ?_
          refine lv_iload_n hx hb dX4_ask_54 rfl (lv_at hl 3 rfl) ?_
          refine n_ge (tgt := 76) hx hb dX4_ask_55 (by decide) (by have := btT_le (V := V) (n := n) (SA := SA) (SL := SL) (SI := SI) (sn := sn) (q := q); omega) (Nat.lt_of_le_of_lt bca_le (by omega)) (fun c_55 => ?_) (fun c_55 => ?_)
          · refine lv_iinc (v := nI (q + 1)) (lv' := [(4, .int (nI (q + 1))), (5, .int (nI (max (btT V n SA SL SI sn q) ((fb_ct (fun k => bft (V k) SA SL SI sn) n) - (btT V n SA SL SI sn q))))), (0, .ref (a 0)), (1, .int (nI (fb_ct (fun k => bft (V k) SA SL SI sn) n))), (2, .int (nI ((bca (btT V n SA SL SI sn) (fb_ct (fun k => bft (V k) SA SL SI sn) n) q).2))), (3, .int ((bca (btT V n SA SL SI sn) (fb_ct (fun k => bft (V k) SA SL SI sn) n) q).1))]) hx hb dX4_ask_76 hl (k := 5) rfl (inc1 _) (by decide) rfl (fun ls hl => ?_)
            refine lv_goto (tgt := 23) hx hb dX4_ask_79 (by decide) ?_
            exact ih_23 (q + 1) (by omega) (by omega) ls (lv_cg (l := [(0, .ref (a 0)), (1, .int (nI (fb_ct (fun k => bft (V k) SA SL SI sn) n))), (2, .int (nI ((bca (btT V n SA SL SI sn) (fb_ct (fun k => bft (V k) SA SL SI sn) n) q).2))), (3, .int ((bca (btT V n SA SL SI sn) (fb_ct (fun k => bft (V k) SA SL SI sn) n) q).1)), (4, .int (nI (q + 1)))]) (lv_sub hl [2, 3, 4, 5, 0] rfl) (by rw [bca, if_neg (Nat.not_lt.mpr c_55)]))
          · refine lv_iload hx hb dX4_ask_58 (lv_at hl 0 rfl) ?_
            refine lv_istore_n (lv' := [(2, .int (nI (max (btT V n SA SL SI sn q) ((fb_ct (fun k => bft (V k) SA SL SI sn) n) - (btT V n SA SL SI sn q))))), (5, .int (nI (max (btT V n SA SL SI sn q) ((fb_ct (fun k => bft (V k) SA SL SI sn) n) - (btT V n SA SL SI sn q))))), (0, .ref (a 0)), (1, .int (nI (fb_ct (fun k => bft (V k) SA SL SI sn) n))), (3, .int ((bca (btT V n SA SL SI sn) (fb_ct (fun k => bft (V k) SA SL SI sn) n) q).1)), (4, .int (nI (q)))]) hx hb dX4_ask_60 rfl hl (by decide) rfl (fun ls hl => ?_)
            refine lv_bipush (v := nI (32)) hx hb dX4_ask_61 (by decide) ?_
            refine lv_iload hx hb dX4_ask_63 (lv_at hl 5 rfl) ?_
            refine lv_bipush (v := nI (26)) hx hb dX4_ask_65 (by decide) ?_
            refine lv_idiv hx hb dX4_ask_67 (by decide) ?_
            refine tpi (pk_div (by omega) (by decide) (by decide)) ?_
            refine lv_imul hx hb dX4_ask_68 ?_
            refine tpi (pk_mul _ _) ?_
            refine lv_iload hx hb dX4_ask_69 (lv_at hl 5 rfl) ?_
            refine lv_bipush (v := nI (26)) hx hb dX4_ask_71 (by decide) ?_
            refine lv_irem hx hb dX4_ask_73 (by decide) ?_
            refine tpi (pk_rem (by omega) (by decide) (by decide)) ?_
            refine lv_iadd hx hb dX4_ask_74 ?_
            refine tpi (nI_add _ _) ?_
            refine lv_istore_n (lv' := [(3, .int (nI ((32 * (q / 26)) + (q % 26)))), (2, .int (nI (max (btT V n SA SL SI sn q) ((fb_ct (fun k => bft (V k) SA SL SI sn) n) - (btT V n SA SL SI sn q))))), (5, .int (nI (max (btT V n SA SL SI sn q) ((fb_ct (fun k => bft (V k) SA SL SI sn) n) - (btT V n SA SL SI sn q))))), (0, .ref (a 0)), (1, .int (nI (fb_ct (fun k => bft (V k) SA SL SI sn) n))), (4, .int (nI (q)))]) hx hb dX4_ask_75 rfl hl (by decide) rfl (fun ls hl => ?_)
            refine lv_iinc (v := nI (q + 1)) (lv' := [(4, .int (nI (q + 1))), (3, .int (nI ((32 * (q / 26)) + (q % 26)))), (2, .int (nI (max (btT V n SA SL SI sn q) ((fb_ct (fun k => bft (V k) SA SL SI sn) n) - (btT V n SA SL SI sn q))))), (5, .int (nI (max (btT V n SA SL SI sn q) ((fb_ct (fun k => bft (V k) SA SL SI sn) n) - (btT V n SA SL SI sn q))))), (0, .ref (a 0)), (1, .int (nI (fb_ct (fun k => bft (V k) SA SL SI sn) n)))]) hx hb dX4_ask_76 hl (k := 5) rfl (inc1 _) (by decide) rfl (fun ls hl => ?_)
            refine lv_goto (tgt := 23) hx hb dX4_ask_79 (by decide) ?_
            exact ih_23 (q + 1) (by omega) (by omega) ls (lv_cg (l := [(0, .ref (a 0)), (1, .int (nI (fb_ct (fun k => bft (V k) SA SL SI sn) n))), (2, .int (nI (max (btT V n SA SL SI sn q) ((fb_ct (fun k => bft (V k) SA SL SI sn) n) - (btT V n SA SL SI sn q))))), (3, .int (nI ((32 * (q / 26)) + (q % 26)))), (4, .int (nI (q + 1)))]) (lv_sub hl [4, 5, 2, 1, 0] rfl) (by rw [bca, if_pos c_55]))
    exact lp_23 _ (0) (by omega) (Nat.lt_succ_self _) ls (lv_sub hl [4, 3, 2, 1, 0] rfl)
  · refine lv_bipush (v := (-9 : Int32)) hx hb dX4_ask_10 (by decide) ?_
    rw [← hQQ]
    exact m_i (ta9) hx hb hr hlocks (if_pos c_7).symm hP hD hS dX4_ask_12
abbrev rm_X4_type : Room := { frames := 3, cells := 0, slots := 0, locals := 64 }
set_option maxHeartbeats 4000000 in
set_option maxRecDepth 100000 in
theorem c_X4_type (l : Launch) (dC : Nat → ClassId) (dI : Nat → Nat → Nat) (cI cJ cZ : ClassId) (a : Nat → Nat) (w : Nat → Int64) (o d : Nat → Int32) (n : Nat) (hw : Nat → Int64) (ho hd : Nat → Int32) (hn : Nat) (pl le so : Nat → Int32) (sn : Nat) (ta : Nat → Int32) (v bd : Nat) (V O E HW HO HE SA SL SI : Nat → Nat) (hDD : bDD w o d n V O E) (hHH : bHH hw ho hd hn HW HO HE) (hSS : bSS pl le so sn SA SL SI) (hv : bwf v) (hbd : 2 ≤ bd ∧ bd ≤ 8) (sz : Nat) (x : Int32) : Met l yX4_type wsX4_type rm_X4_type (mPc (dC, dI) (tysA cI cJ cZ) (wb a cI cJ cZ w o d n hw ho hd hn pl le so sn ta v bd) sz [.ref (a 0), .int (x)]) (mQi (dC, dI) (fun (r : Int32) (u : Nat) => (bin x (nI 97) (nI 122) = false ∧ r = -1 ∧ u = v) ∨ (bin x (nI 97) (nI 122) = true ∧ bln v = 7 ∧ r = -3 ∧ u = v) ∨ (∃ k, 97 ≤ k ∧ k ≤ 122 ∧ x = nI k ∧ bln v < 7 ∧ r = nI (bln v + 1) ∧ u = bxt v (k - 96))) (fun u => wb a cI cJ cZ w o d n hw ho hd hn pl le so sn ta u bd) (va_A (wb a cI cJ cZ w o d n hw ho hd hn pl le so sn ta v bd) sz)) 0 0 (va_A (wb a cI cJ cZ w o d n hw ho hd hn pl le so sn ta v bd) sz) := by
  refine met_m (cc := cX4_type) (maxL := 3) (ret := (some .int)) (own := RX4) (Qc := fun A => mQi (dC, dI) (fun (r : Int32) (u : Nat) => (bin x (nI 97) (nI 122) = false ∧ r = -1 ∧ u = v) ∨ (bin x (nI 97) (nI 122) = true ∧ bln v = 7 ∧ r = -3 ∧ u = v) ∨ (∃ k, 97 ≤ k ∧ k ≤ 122 ∧ x = nI k ∧ bln v < 7 ∧ r = nI (bln v + 1) ∧ u = bxt v (k - 96))) (fun u => wb a cI cJ cZ w o d n hw ho hd hn pl le so sn ta u bd) A) (by decide) rfl rfl (Nat.le_of_ble_eq_true rfl) ?_
  intro p e s m below meth c S hr hlocks hname hK A hA hP hD hS ls hl
  obtain ⟨hx, hb, hml, hown, hts⟩ := id S
  generalize hQQ : MQ below (mQi (dC, dI) (fun (r : Int32) (u : Nat) => (bin x (nI 97) (nI 122) = false ∧ r = -1 ∧ u = v) ∨ (bin x (nI 97) (nI 122) = true ∧ bln v = 7 ∧ r = -3 ∧ u = v) ∨ (∃ k, 97 ≤ k ∧ k ≤ 122 ∧ x = nI k ∧ bln v < 7 ∧ r = nI (bln v + 1) ∧ u = bxt v (k - 96))) (fun u => wb a cI cJ cZ w o d n hw ho hd hn pl le so sn ta u bd) A) ([.ref (a 0), .int (x)] : List Value).toArray s 0 0 A = QQ
  have hl : lv_has ls 3 [(0, .ref (a 0)), (1, .int (x))] := hl
  have hi4 : ∀ w ∈ wsX40, w ∈ wsX4_type := fun _ h => List.mem_cons_of_mem _ (List.mem_append_right _ h)
  obtain ⟨hn40, hk⟩ := id hDD; obtain ⟨hh12, hkh⟩ := id hHH; obtain ⟨hs8, hks⟩ := id hSS
  have hlv := bln_le v
  refine lv_iload_n hx hb dX4_type_0 rfl (lv_at hl 1 rfl) ?_
  refine c_Si (As := [.int (x)]) (rest := []) S (c_X3_isLetter l (x)) (va_cwS 1 hts gX4_type_X3_isLetter rfl rfl rfl (by decide +kernel) ⟨Nat.le_of_ble_eq_true rfl, Nat.le_of_ble_eq_true rfl⟩) rfl hl.1 rfl (Nat.le_of_ble_eq_true rfl) dX4_type_1 ⟨Nat.le_of_ble_eq_true rfl, Nat.le_of_ble_eq_true rfl⟩ ?_
  refine b_ne (tgt := 9) hx hb dX4_type_4 (by decide) (fun c_4 => ?_) (fun c_4 => ?_)
  · obtain ⟨k, hk1, hk2, hxk⟩ := bin_L c_4
    have hl := lv_cg (l' := [(0, .ref (a 0)), (1, .int (nI (k)))]) hl (by rw [hxk])
    refine lv_aload_n hx hb dX4_type_9 rfl (lv_at hl 0 rfl) ?_
    refine va_get (D := (dC, dI)) (ci := 3) (v := .long (lN (be8 v))) (C := RX4) (T := TX4) (N := 6) hx hb hts hi4 hown hK hP 0 rfl rfl 4 (by decide) (hts (.fieldLink RX4 36 "BurstWords" "word" "J") (by decide +kernel)) (fun _ h9 => h9) rfl dX4_type_10 ?_
    refine c_Si (As := [.long (lN (be8 v))]) (rest := []) S (c_X3_lengthOf l v) (va_cwS 1 hts gX4_type_X3_lengthOf rfl rfl rfl (by decide +kernel) ⟨Nat.le_of_ble_eq_true rfl, Nat.le_of_ble_eq_true rfl⟩) rfl hl.1 rfl (Nat.le_of_ble_eq_true rfl) dX4_type_13 ⟨Nat.le_of_ble_eq_true rfl, Nat.le_of_ble_eq_true rfl⟩ ?_
    refine lv_istore_n (lv' := [(2, .int (nI (bln v))), (0, .ref (a 0)), (1, .int (nI (k)))]) hx hb dX4_type_16 rfl hl (by decide) rfl (fun ls hl => ?_)
    refine lv_iload_n hx hb dX4_type_17 rfl (lv_at hl 0 rfl) ?_
    refine lv_bipush (v := nI (7)) hx hb dX4_type_18 (by decide) ?_
    refine n_lt (tgt := 26) hx hb dX4_type_20 (by decide) (by omega) (by omega) (fun c_20 => ?_) (fun c_20 => ?_)
    · refine lv_aload_n hx hb dX4_type_26 rfl (lv_at hl 1 rfl) ?_
      refine lv_aload_n hx hb dX4_type_27 rfl (lv_at hl 1 rfl) ?_
      refine va_get (D := (dC, dI)) (ci := 3) (v := .long (lN (be8 v))) (C := RX4) (T := TX4) (N := 6) hx hb hts hi4 hown hK hP 0 rfl rfl 4 (by decide) (hts (.fieldLink RX4 36 "BurstWords" "word" "J") (by decide +kernel)) (fun _ h9 => h9) rfl dX4_type_28 ?_
      refine lv_iload_n hx hb dX4_type_31 rfl (lv_at hl 0 rfl) ?_
      refine lv_iload_n hx hb dX4_type_32 rfl (lv_at hl 2 rfl) ?_
      refine c_Sl (As := [.long (lN (be8 v)), .int (nI (bln v)), .int (nI (k))]) (rest := [.ref (a 0)]) S (c_X3_extended l v k hv c_20 hk1 hk2) (va_cwS 3 hts gX4_type_X3_extended rfl rfl rfl (by decide +kernel) ⟨Nat.le_of_ble_eq_true rfl, Nat.le_of_ble_eq_true rfl⟩) rfl hl.1 rfl (Nat.le_of_ble_eq_true rfl) dX4_type_33 ⟨Nat.le_of_ble_eq_true rfl, Nat.le_of_ble_eq_true rfl⟩ ?_
      refine va_put (D := (dC, dI)) (ci := 3) (v := .long (lN (be8 (bxt v (k - 96))))) (ty := .long) (C := RX4) (T := TX4) (N := 6) hx hb hts hi4 tyX4 tyX4_ok nmX4 hown hK hP hD hS 0 rfl rfl 4 (by decide) (hts (.fieldLink RX4 36 "BurstWords" "word" "J") (by decide +kernel)) (fun _ h9 => h9) rfl (by decide +kernel) rfl rfl (Nat.le_of_ble_eq_true rfl) dX4_type_36 (fun H locs hP hD hS => ?_)
      have hP : va_P (dC, dI) vwCl (wb a cI cJ cZ w o d n hw ho hd hn pl le so sn ta ((bxt v (k - 96))) bd) H := hP
      have hD : va_D A (wb a cI cJ cZ w o d n hw ho hd hn pl le so sn ta ((bxt v (k - 96))) bd) := hD
      refine lv_iload_n hx hb dX4_type_39 rfl (lv_at hl 0 rfl) ?_
      refine lv_iconst (v := nI (1)) hx hb dX4_type_40 (by decide) ?_
      refine lv_iadd hx hb dX4_type_41 ?_
      refine tpi (nI_add _ _) ?_
      rw [← hQQ]
      exact m_i ((bxt v (k - 96))) hx hb hr hlocks (Or.inr (Or.inr ⟨k, hk1, hk2, hxk, c_20, rfl, rfl⟩)) hP hD hS dX4_type_42
    · refine lv_bipush (v := (-3 : Int32)) hx hb dX4_type_23 (by decide) ?_
      rw [← hQQ]
      exact m_i (v) hx hb hr hlocks (Or.inr (Or.inl ⟨c_4, by omega, rfl, rfl⟩)) hP hD hS dX4_type_25
  · refine lv_iconst (v := (-1 : Int32)) hx hb dX4_type_7 (by decide) ?_
    rw [← hQQ]
    exact m_i (v) hx hb hr hlocks (Or.inl ⟨c_4, rfl, rfl⟩) hP hD hS dX4_type_8
abbrev rm_X4_clear : Room := { frames := 3, cells := 0, slots := 0, locals := 64 }
set_option maxHeartbeats 4000000 in
set_option maxRecDepth 100000 in
theorem c_X4_clear (l : Launch) (dC : Nat → ClassId) (dI : Nat → Nat → Nat) (cI cJ cZ : ClassId) (a : Nat → Nat) (w : Nat → Int64) (o d : Nat → Int32) (n : Nat) (hw : Nat → Int64) (ho hd : Nat → Int32) (hn : Nat) (pl le so : Nat → Int32) (sn : Nat) (ta : Nat → Int32) (v bd : Nat) (V O E HW HO HE SA SL SI : Nat → Nat) (hDD : bDD w o d n V O E) (hHH : bHH hw ho hd hn HW HO HE) (hSS : bSS pl le so sn SA SL SI) (hv : bwf v) (hbd : 2 ≤ bd ∧ bd ≤ 8) (sz : Nat) : Met l yX4_clear wsX4_clear rm_X4_clear (mPc (dC, dI) (tysA cI cJ cZ) (wb a cI cJ cZ w o d n hw ho hd hn pl le so sn ta v bd) sz [.ref (a 0)]) (mQi (dC, dI) (fun (r : Int32) (u : Nat) => r = nI (bln v) ∧ u = 0) (fun u => wb a cI cJ cZ w o d n hw ho hd hn pl le so sn ta u bd) (va_A (wb a cI cJ cZ w o d n hw ho hd hn pl le so sn ta v bd) sz)) 0 0 (va_A (wb a cI cJ cZ w o d n hw ho hd hn pl le so sn ta v bd) sz) := by
  refine met_m (cc := cX4_clear) (maxL := 2) (ret := (some .int)) (own := RX4) (Qc := fun A => mQi (dC, dI) (fun (r : Int32) (u : Nat) => r = nI (bln v) ∧ u = 0) (fun u => wb a cI cJ cZ w o d n hw ho hd hn pl le so sn ta u bd) A) (by decide) rfl rfl (Nat.le_of_ble_eq_true rfl) ?_
  intro p e s m below meth c S hr hlocks hname hK A hA hP hD hS ls hl
  obtain ⟨hx, hb, hml, hown, hts⟩ := id S
  generalize hQQ : MQ below (mQi (dC, dI) (fun (r : Int32) (u : Nat) => r = nI (bln v) ∧ u = 0) (fun u => wb a cI cJ cZ w o d n hw ho hd hn pl le so sn ta u bd) A) ([.ref (a 0)] : List Value).toArray s 0 0 A = QQ
  have hl : lv_has ls 2 [(0, .ref (a 0))] := hl
  have hi4 : ∀ w ∈ wsX40, w ∈ wsX4_clear := fun _ h => List.mem_cons_of_mem _ (List.mem_append_right _ h)
  obtain ⟨hn40, hk⟩ := id hDD; obtain ⟨hh12, hkh⟩ := id hHH; obtain ⟨hs8, hks⟩ := id hSS
  refine lv_aload_n hx hb dX4_clear_0 rfl (lv_at hl 0 rfl) ?_
  refine va_get (D := (dC, dI)) (ci := 3) (v := .long (lN (be8 v))) (C := RX4) (T := TX4) (N := 6) hx hb hts hi4 hown hK hP 0 rfl rfl 4 (by decide) (hts (.fieldLink RX4 36 "BurstWords" "word" "J") (by decide +kernel)) (fun _ h9 => h9) rfl dX4_clear_1 ?_
  refine c_Si (As := [.long (lN (be8 v))]) (rest := []) S (c_X3_lengthOf l v) (va_cwS 1 hts gX4_clear_X3_lengthOf rfl rfl rfl (by decide +kernel) ⟨Nat.le_of_ble_eq_true rfl, Nat.le_of_ble_eq_true rfl⟩) rfl hl.1 rfl (Nat.le_of_ble_eq_true rfl) dX4_clear_4 ⟨Nat.le_of_ble_eq_true rfl, Nat.le_of_ble_eq_true rfl⟩ ?_
  refine lv_istore_n (lv' := [(1, .int (nI (bln v))), (0, .ref (a 0))]) hx hb dX4_clear_7 rfl hl (by decide) rfl (fun ls hl => ?_)
  refine lv_aload_n hx hb dX4_clear_8 rfl (lv_at hl 1 rfl) ?_
  refine lv_lconst (v := lN (0)) hx hb dX4_clear_9 rfl ?_
  refine tpl (y := lN (be8 0)) (congrArg lN be8_0.symm) ?_
  refine va_put (D := (dC, dI)) (ci := 3) (v := .long (lN (be8 0))) (ty := .long) (C := RX4) (T := TX4) (N := 6) hx hb hts hi4 tyX4 tyX4_ok nmX4 hown hK hP hD hS 0 rfl rfl 4 (by decide) (hts (.fieldLink RX4 36 "BurstWords" "word" "J") (by decide +kernel)) (fun _ h9 => h9) rfl (by decide +kernel) rfl rfl (Nat.le_of_ble_eq_true rfl) dX4_clear_10 (fun H locs hP hD hS => ?_)
  have hP : va_P (dC, dI) vwCl (wb a cI cJ cZ w o d n hw ho hd hn pl le so sn ta 0 bd) H := hP
  have hD : va_D A (wb a cI cJ cZ w o d n hw ho hd hn pl le so sn ta 0 bd) := hD
  refine lv_iload_n hx hb dX4_clear_13 rfl (lv_at hl 0 rfl) ?_
  rw [← hQQ]
  exact m_i (0) hx hb hr hlocks ⟨rfl, rfl⟩ hP hD hS dX4_clear_14
abbrev rm_X4_bounds : Room := { frames := 1, cells := 0, slots := 0, locals := 20 }
set_option maxHeartbeats 4000000 in
set_option maxRecDepth 100000 in
theorem c_X4_bounds (l : Launch) (dC : Nat → ClassId) (dI : Nat → Nat → Nat) (cI cJ cZ : ClassId) (a : Nat → Nat) (w : Nat → Int64) (o d : Nat → Int32) (n : Nat) (hw : Nat → Int64) (ho hd : Nat → Int32) (hn : Nat) (pl le so : Nat → Int32) (sn : Nat) (ta : Nat → Int32) (v bd : Nat) (V O E HW HO HE SA SL SI : Nat → Nat) (hDD : bDD w o d n V O E) (hHH : bHH hw ho hd hn HW HO HE) (hSS : bSS pl le so sn SA SL SI) (hv : bwf v) (hbd : 2 ≤ bd ∧ bd ≤ 8) (sz : Nat) (x : Int32) : Met l yX4_bounds wsX4_bounds rm_X4_bounds (mPc (dC, dI) (tysA cI cJ cZ) (wb a cI cJ cZ w o d n hw ho hd hn pl le so sn ta v bd) sz [.ref (a 0), .int (x)]) (mQi (dC, dI) (fun (r : Int32) (u : (Nat) × (Nat)) => ((x < nI 2 ∨ ¬ x ≤ nI 8) ∧ r = -1 ∧ u = (bd, hn)) ∨ (¬ x < nI 2 ∧ x ≤ nI 8 ∧ 0 < n ∧ r = -2 ∧ u = (bd, hn)) ∨ (∃ k, 2 ≤ k ∧ k ≤ 8 ∧ x = nI k ∧ n = 0 ∧ r = nI bd ∧ u = (k, 0))) (fun u => wb a cI cJ cZ w o d n hw ho hd u.2 pl le so sn ta v u.1) (va_A (wb a cI cJ cZ w o d n hw ho hd hn pl le so sn ta v bd) sz)) 0 0 (va_A (wb a cI cJ cZ w o d n hw ho hd hn pl le so sn ta v bd) sz) := by
  refine met_m (cc := cX4_bounds) (maxL := 3) (ret := (some .int)) (own := RX4) (Qc := fun A => mQi (dC, dI) (fun (r : Int32) (u : (Nat) × (Nat)) => ((x < nI 2 ∨ ¬ x ≤ nI 8) ∧ r = -1 ∧ u = (bd, hn)) ∨ (¬ x < nI 2 ∧ x ≤ nI 8 ∧ 0 < n ∧ r = -2 ∧ u = (bd, hn)) ∨ (∃ k, 2 ≤ k ∧ k ≤ 8 ∧ x = nI k ∧ n = 0 ∧ r = nI bd ∧ u = (k, 0))) (fun u => wb a cI cJ cZ w o d n hw ho hd u.2 pl le so sn ta v u.1) A) (by decide) rfl rfl (Nat.le_of_ble_eq_true rfl) ?_
  intro p e s m below meth c S hr hlocks hname hK A hA hP hD hS ls hl
  obtain ⟨hx, hb, hml, hown, hts⟩ := id S
  generalize hQQ : MQ below (mQi (dC, dI) (fun (r : Int32) (u : (Nat) × (Nat)) => ((x < nI 2 ∨ ¬ x ≤ nI 8) ∧ r = -1 ∧ u = (bd, hn)) ∨ (¬ x < nI 2 ∧ x ≤ nI 8 ∧ 0 < n ∧ r = -2 ∧ u = (bd, hn)) ∨ (∃ k, 2 ≤ k ∧ k ≤ 8 ∧ x = nI k ∧ n = 0 ∧ r = nI bd ∧ u = (k, 0))) (fun u => wb a cI cJ cZ w o d n hw ho hd u.2 pl le so sn ta v u.1) A) ([.ref (a 0), .int (x)] : List Value).toArray s 0 0 A = QQ
  have hl : lv_has ls 3 [(0, .ref (a 0)), (1, .int (x))] := hl
  have hi4 : ∀ w ∈ wsX40, w ∈ wsX4_bounds := fun _ h => List.mem_cons_of_mem _ (List.mem_append_left _ (List.mem_append_left _ (List.mem_append_right _ h)))
  have hi0 : ∀ w ∈ wsX00, w ∈ wsX4_bounds := fun _ h => List.mem_cons_of_mem _ (List.mem_append_left _ (List.mem_append_right _ h))
  have hi1 : ∀ w ∈ wsX10, w ∈ wsX4_bounds := fun _ h => List.mem_cons_of_mem _ (List.mem_append_right _ h)
  obtain ⟨hn40, hk⟩ := id hDD; obtain ⟨hh12, hkh⟩ := id hHH; obtain ⟨hs8, hks⟩ := id hSS
  refine lv_iload_n hx hb dX4_bounds_0 rfl (lv_at hl 1 rfl) ?_
  refine lv_iconst (v := nI (2)) hx hb dX4_bounds_1 (by decide) ?_
  refine lv_icmp_lt (tgt := 11) hx hb dX4_bounds_2 (by decide) (fun c_2 => ?_) (fun c_2 => ?_)
  · refine lv_iconst (v := (-1 : Int32)) hx hb dX4_bounds_11 (by decide) ?_
    rw [← hQQ]
    exact m_i (bd, hn) hx hb hr hlocks (Or.inl ⟨Or.inl c_2, rfl, rfl⟩) hP hD hS dX4_bounds_12
  · refine lv_iload_n hx hb dX4_bounds_5 rfl (lv_at hl 1 rfl) ?_
    refine lv_bipush (v := nI (8)) hx hb dX4_bounds_6 (by decide) ?_
    refine lv_icmp_le (tgt := 13) hx hb dX4_bounds_8 (by decide) (fun c_8 => ?_) (fun c_8 => ?_)
    · refine lv_aload_n hx hb dX4_bounds_13 rfl (lv_at hl 0 rfl) ?_
      refine va_get (D := (dC, dI)) (ci := 3) (v := .ref (a 1)) (C := RX4) (T := TX4) (N := 6) hx hb hts hi4 hown hK hP 0 rfl rfl 0 (by decide) (hts (.fieldLink RX4 10 "BurstWords" "dictionary" "LBurstWords$Dictionary;") (by decide +kernel)) (fun _ h9 => h9) rfl dX4_bounds_14 ?_
      refine c_Vi (As := []) (rest := []) (ci := 0) (q0 := 0) S (c_X0_size l dC dI cI cJ cZ (a 1) (a 2) (a 3) (a 4) w o d n V O E hDD ) (cwV 0 hts gX4_bounds_X0_size rfl rfl rfl (by decide +kernel) ⟨Nat.le_of_ble_eq_true rfl, Nat.le_of_ble_eq_true rfl⟩) hK (hP.sub [1, 2, 3, 4] rfl) rfl rfl rfl hl.1 rfl (Nat.le_of_ble_eq_true rfl) dX4_bounds_17 ⟨Nat.le_of_ble_eq_true rfl, Nat.le_of_ble_eq_true rfl⟩ ?_
      refine z_le (tgt := 26) hx hb dX4_bounds_20 (by decide) (by omega) (fun c_20 => ?_) (fun c_20 => ?_)
      · obtain ⟨k, hk1, hk2, hxk⟩ := rng_28 c_2 c_8
        have hl := lv_cg (l' := [(0, .ref (a 0)), (1, .int (nI (k)))]) hl (by rw [hxk])
        refine lv_aload_n hx hb dX4_bounds_26 rfl (lv_at hl 0 rfl) ?_
        refine va_get (D := (dC, dI)) (ci := 3) (v := .int (nI (bd))) (C := RX4) (T := TX4) (N := 6) hx hb hts hi4 hown hK hP 0 rfl rfl 5 (by decide) (hts (.fieldLink RX4 40 "BurstWords" "bound" "I") (by decide +kernel)) (fun _ h9 => h9) rfl dX4_bounds_27 ?_
        refine lv_istore_n (lv' := [(2, .int (nI (bd))), (0, .ref (a 0)), (1, .int (nI (k)))]) hx hb dX4_bounds_30 rfl hl (by decide) rfl (fun ls hl => ?_)
        refine lv_aload_n hx hb dX4_bounds_31 rfl (lv_at hl 1 rfl) ?_
        refine lv_iload_n hx hb dX4_bounds_32 rfl (lv_at hl 2 rfl) ?_
        refine va_put (D := (dC, dI)) (ci := 3) (v := .int (nI (k))) (ty := .int) (C := RX4) (T := TX4) (N := 6) hx hb hts hi4 tyX4 tyX4_ok nmX4 hown hK hP hD hS 0 rfl rfl 5 (by decide) (hts (.fieldLink RX4 40 "BurstWords" "bound" "I") (by decide +kernel)) (fun _ h9 => h9) rfl (by decide +kernel) rfl rfl (Nat.le_of_ble_eq_true rfl) dX4_bounds_33 (fun H locs hP hD hS => ?_)
        have hP : va_P (dC, dI) vwCl (wb a cI cJ cZ w o d n hw ho hd hn pl le so sn ta v k) H := hP
        have hD : va_D A (wb a cI cJ cZ w o d n hw ho hd hn pl le so sn ta v k) := hD
        refine lv_aload_n hx hb dX4_bounds_36 rfl (lv_at hl 1 rfl) ?_
        refine va_get (D := (dC, dI)) (ci := 3) (v := .ref (a 5)) (C := RX4) (T := TX4) (N := 6) hx hb hts hi4 hown hK hP 0 rfl rfl 1 (by decide) (hts (.fieldLink RX4 19 "BurstWords" "history" "LBurstWords$History;") (by decide +kernel)) (fun _ h9 => h9) rfl dX4_bounds_37 ?_
        refine m_Vv (As := []) (rest := []) (ci := 1) (q0 := 0) (wr := [(a 0, .inr (3, [.ref (a 1), .ref (a 5), .ref (a 9), .ref (a 13), .long (lN (be8 v)), .int (nI (k))])), (a 1, .inr (0, [.ref (a 2), .ref (a 3), .ref (a 4), .int (nI (n))])), (a 2, .inl (cJ, 40, .inr (.inl w))), (a 3, .inl (cI, 40, .inl o)), (a 4, .inl (cI, 40, .inl d)), (a 9, .inr (2, [.ref (a 10), .ref (a 11), .ref (a 12), .int (nI (sn))])), (a 10, .inl (cI, 8, .inl pl)), (a 11, .inl (cI, 8, .inl le)), (a 12, .inl (cZ, 8, .inl so)), (a 13, .inl (cI, 182, .inl ta))]) S (c_X1_empty l dC dI cI cJ cZ (a 5) (a 6) (a 7) (a 8) hw ho hd hn HW HO HE hHH H.size ) (cwV 0 hts gX4_bounds_X1_empty rfl rfl rfl (by decide +kernel) ⟨Nat.le_of_ble_eq_true rfl, Nat.le_of_ble_eq_true rfl⟩) hK hP hD hS hA [5, 6, 7, 8] [0, 1, 2, 3, 4, 9, 10, 11, 12, 13] (hP.sub [5, 6, 7, 8] rfl) (hD.sub [5, 6, 7, 8] (by decide) rfl) rfl rfl (by decide) (by decide) rfl rfl rfl hl.1 rfl (Nat.le_of_ble_eq_true rfl) dX4_bounds_40 ⟨Nat.le_of_ble_eq_true rfl, Nat.le_of_ble_eq_true rfl⟩ (fun u_40 H locs hu_40 hP hD hS => ?_)
        obtain ⟨hn9, rfl⟩ : ∃ z, z = u_40 := ⟨_, rfl⟩
        have hP := hP.sub (ws' := wb a cI cJ cZ w o d n hw ho hd hn9 pl le so sn ta v k) [0, 1, 2, 3, 4, 10, 11, 12, 13, 5, 6, 7, 8, 9] rfl
        have hD := hD.sub (ws' := wb a cI cJ cZ w o d n hw ho hd hn9 pl le so sn ta v k) [0, 1, 2, 3, 4, 10, 11, 12, 13, 5, 6, 7, 8, 9] (by decide) rfl
        have hP : va_P (dC, dI) vwCl (wb a cI cJ cZ w o d n hw ho hd hn9 pl le so sn ta v k) H := hP
        have hD : va_D A (wb a cI cJ cZ w o d n hw ho hd hn9 pl le so sn ta v k) := hD
        subst hu_40
        have hP : va_P (dC, dI) vwCl (wb a cI cJ cZ w o d n hw ho hd 0 pl le so sn ta v k) H := hP
        have hD : va_D A (wb a cI cJ cZ w o d n hw ho hd 0 pl le so sn ta v k) := hD
        refine lv_iload_n hx hb dX4_bounds_43 rfl (lv_at hl 0 rfl) ?_
        rw [← hQQ]
        exact m_i (k, 0) hx hb hr hlocks (Or.inr (Or.inr ⟨k, hk1, hk2, hxk, c_20, rfl, rfl⟩)) hP hD hS dX4_bounds_44
      · refine lv_bipush (v := (-2 : Int32)) hx hb dX4_bounds_23 (by decide) ?_
        rw [← hQQ]
        exact m_i (bd, hn) hx hb hr hlocks (Or.inr (Or.inl ⟨c_2, c_8, c_20, rfl, rfl⟩)) hP hD hS dX4_bounds_25
    · refine lv_iconst (v := (-1 : Int32)) hx hb dX4_bounds_11 (by decide) ?_
      rw [← hQQ]
      exact m_i (bd, hn) hx hb hr hlocks (Or.inl ⟨Or.inr c_8, rfl, rfl⟩) hP hD hS dX4_bounds_12
abbrev rm_X4_sees : Room := { frames := 1, cells := 0, slots := 0, locals := 23 }
set_option maxHeartbeats 4000000 in
set_option maxRecDepth 100000 in
theorem c_X4_sees (l : Launch) (dC : Nat → ClassId) (dI : Nat → Nat → Nat) (cI cJ cZ : ClassId) (a : Nat → Nat) (w : Nat → Int64) (o d : Nat → Int32) (n : Nat) (hw : Nat → Int64) (ho hd : Nat → Int32) (hn : Nat) (pl le so : Nat → Int32) (sn : Nat) (ta : Nat → Int32) (v bd : Nat) (V O E HW HO HE SA SL SI : Nat → Nat) (hDD : bDD w o d n V O E) (hHH : bHH hw ho hd hn HW HO HE) (hSS : bSS pl le so sn SA SL SI) (hv : bwf v) (hbd : 2 ≤ bd ∧ bd ≤ 8) (sz : Nat) (x : Int32) (y : Int32) (z : Int32) : Met l yX4_sees wsX4_sees rm_X4_sees (mPc (dC, dI) (tysA cI cJ cZ) (wb a cI cJ cZ w o d n hw ho hd hn pl le so sn ta v bd) sz [.ref (a 0), .int (x), .int (y), .int (z)]) (mQi (dC, dI) (fun (r : Int32) (u : (Nat → Int32) × (Nat → Int32) × (Nat → Int32) × (Nat)) => ((x < 0 ∨ nI 7 ≤ x ∨ bin y (nI 97) (nI 122) = false ∨ bhf z = false) ∧ r = -1 ∧ u = (pl, le, so, sn)) ∨ ((¬ x < 0 ∧ ¬ nI 7 ≤ x ∧ bin y (nI 97) (nI 122) = true ∧ bhf z = true) ∧ sn = 8 ∧ r = -3 ∧ u = (pl, le, so, sn)) ∨ (∃ i k t, i ≤ 6 ∧ x = nI i ∧ 97 ≤ k ∧ k ≤ 122 ∧ y = nI k ∧ t ≤ 1 ∧ z = nI t ∧ sn < 8 ∧ r = nI (sn + 1) ∧ u.2.2.2 = sn + 1 ∧ bSS u.1 u.2.1 u.2.2.1 (sn + 1) (va_up SA sn i) (va_up SL sn (k - 96)) (va_up SI sn t))) (fun u => wb a cI cJ cZ w o d n hw ho hd hn u.1 u.2.1 u.2.2.1 u.2.2.2 ta v bd) (va_A (wb a cI cJ cZ w o d n hw ho hd hn pl le so sn ta v bd) sz)) 0 0 (va_A (wb a cI cJ cZ w o d n hw ho hd hn pl le so sn ta v bd) sz) := by
  refine met_m (cc := cX4_sees) (maxL := 4) (ret := (some .int)) (own := RX4) (Qc := fun A => mQi (dC, dI) (fun (r : Int32) (u : (Nat → Int32) × (Nat → Int32) × (Nat → Int32) × (Nat)) => ((x < 0 ∨ nI 7 ≤ x ∨ bin y (nI 97) (nI 122) = false ∨ bhf z = false) ∧ r = -1 ∧ u = (pl, le, so, sn)) ∨ ((¬ x < 0 ∧ ¬ nI 7 ≤ x ∧ bin y (nI 97) (nI 122) = true ∧ bhf z = true) ∧ sn = 8 ∧ r = -3 ∧ u = (pl, le, so, sn)) ∨ (∃ i k t, i ≤ 6 ∧ x = nI i ∧ 97 ≤ k ∧ k ≤ 122 ∧ y = nI k ∧ t ≤ 1 ∧ z = nI t ∧ sn < 8 ∧ r = nI (sn + 1) ∧ u.2.2.2 = sn + 1 ∧ bSS u.1 u.2.1 u.2.2.1 (sn + 1) (va_up SA sn i) (va_up SL sn (k - 96)) (va_up SI sn t))) (fun u => wb a cI cJ cZ w o d n hw ho hd hn u.1 u.2.1 u.2.2.1 u.2.2.2 ta v bd) A) (by decide) rfl rfl (Nat.le_of_ble_eq_true rfl) ?_
  intro p e s m below meth c S hr hlocks hname hK A hA hP hD hS ls hl
  obtain ⟨hx, hb, hml, hown, hts⟩ := id S
  generalize hQQ : MQ below (mQi (dC, dI) (fun (r : Int32) (u : (Nat → Int32) × (Nat → Int32) × (Nat → Int32) × (Nat)) => ((x < 0 ∨ nI 7 ≤ x ∨ bin y (nI 97) (nI 122) = false ∨ bhf z = false) ∧ r = -1 ∧ u = (pl, le, so, sn)) ∨ ((¬ x < 0 ∧ ¬ nI 7 ≤ x ∧ bin y (nI 97) (nI 122) = true ∧ bhf z = true) ∧ sn = 8 ∧ r = -3 ∧ u = (pl, le, so, sn)) ∨ (∃ i k t, i ≤ 6 ∧ x = nI i ∧ 97 ≤ k ∧ k ≤ 122 ∧ y = nI k ∧ t ≤ 1 ∧ z = nI t ∧ sn < 8 ∧ r = nI (sn + 1) ∧ u.2.2.2 = sn + 1 ∧ bSS u.1 u.2.1 u.2.2.1 (sn + 1) (va_up SA sn i) (va_up SL sn (k - 96)) (va_up SI sn t))) (fun u => wb a cI cJ cZ w o d n hw ho hd hn u.1 u.2.1 u.2.2.1 u.2.2.2 ta v bd) A) ([.ref (a 0), .int (x), .int (y), .int (z)] : List Value).toArray s 0 0 A = QQ
  have hl : lv_has ls 4 [(0, .ref (a 0)), (1, .int (x)), (2, .int (y)), (3, .int (z))] := hl
  have hi4 : ∀ w ∈ wsX40, w ∈ wsX4_sees := fun _ h => List.mem_cons_of_mem _ (List.mem_append_left _ (List.mem_append_right _ h))
  have hi2 : ∀ w ∈ wsX20, w ∈ wsX4_sees := fun _ h => List.mem_cons_of_mem _ (List.mem_append_right _ h)
  obtain ⟨hn40, hk⟩ := id hDD; obtain ⟨hh12, hkh⟩ := id hHH; obtain ⟨hs8, hks⟩ := id hSS
  refine lv_iload_n hx hb dX4_sees_0 rfl (lv_at hl 1 rfl) ?_
  refine lv_if_lt (tgt := 24) hx hb dX4_sees_1 (by decide) (fun c_1 => ?_) (fun c_1 => ?_)
  · refine lv_iconst (v := (-1 : Int32)) hx hb dX4_sees_24 (by decide) ?_
    rw [← hQQ]
    exact m_i (pl, le, so, sn) hx hb hr hlocks (Or.inl ⟨Or.inl c_1, rfl, rfl⟩) hP hD hS dX4_sees_25
  · refine lv_iload_n hx hb dX4_sees_4 rfl (lv_at hl 1 rfl) ?_
    refine lv_bipush (v := nI (7)) hx hb dX4_sees_5 (by decide) ?_
    refine lv_icmp_ge (tgt := 24) hx hb dX4_sees_7 (by decide) (fun c_7 => ?_) (fun c_7 => ?_)
    · refine lv_iconst (v := (-1 : Int32)) hx hb dX4_sees_24 (by decide) ?_
      rw [← hQQ]
      exact m_i (pl, le, so, sn) hx hb hr hlocks (Or.inl ⟨Or.inr (Or.inl c_7), rfl, rfl⟩) hP hD hS dX4_sees_25
    · refine lv_iload_n hx hb dX4_sees_10 rfl (lv_at hl 2 rfl) ?_
      refine c_Si (As := [.int (y)]) (rest := []) S (c_X3_isLetter l (y)) (va_cwS 1 hts gX4_sees_X3_isLetter rfl rfl rfl (by decide +kernel) ⟨Nat.le_of_ble_eq_true rfl, Nat.le_of_ble_eq_true rfl⟩) rfl hl.1 rfl (Nat.le_of_ble_eq_true rfl) dX4_sees_11 ⟨Nat.le_of_ble_eq_true rfl, Nat.le_of_ble_eq_true rfl⟩ ?_
      refine b_eq (tgt := 24) hx hb dX4_sees_14 (by decide) (fun c_14 => ?_) (fun c_14 => ?_)
      · refine lv_iconst (v := (-1 : Int32)) hx hb dX4_sees_24 (by decide) ?_
        rw [← hQQ]
        exact m_i (pl, le, so, sn) hx hb hr hlocks (Or.inl ⟨Or.inr (Or.inr (Or.inl c_14)), rfl, rfl⟩) hP hD hS dX4_sees_25
      · refine lv_iload_n hx hb dX4_sees_17 rfl (lv_at hl 3 rfl) ?_
        refine c_Si (As := [.int (z)]) (rest := []) S (c_X4_isHalf l (z)) (va_cwS 1 hts gX4_sees_X4_isHalf rfl rfl rfl (by decide +kernel) ⟨Nat.le_of_ble_eq_true rfl, Nat.le_of_ble_eq_true rfl⟩) rfl hl.1 rfl (Nat.le_of_ble_eq_true rfl) dX4_sees_18 ⟨Nat.le_of_ble_eq_true rfl, Nat.le_of_ble_eq_true rfl⟩ ?_
        refine b_ne (tgt := 26) hx hb dX4_sees_21 (by decide) (fun c_21 => ?_) (fun c_21 => ?_)
        · refine lv_aload_n hx hb dX4_sees_26 rfl (lv_at hl 0 rfl) ?_
          refine va_get (D := (dC, dI)) (ci := 3) (v := .ref (a 9)) (C := RX4) (T := TX4) (N := 6) hx hb hts hi4 hown hK hP 0 rfl rfl 2 (by decide) (hts (.fieldLink RX4 26 "BurstWords" "sightings" "LBurstWords$Sightings;") (by decide +kernel)) (fun _ h9 => h9) rfl dX4_sees_27 ?_
          refine c_Vi (As := []) (rest := []) (ci := 2) (q0 := 0) S (c_X2_size l dC dI cI cJ cZ (a 9) (a 10) (a 11) (a 12) pl le so sn SA SL SI hSS ) (cwV 0 hts gX4_sees_X2_size rfl rfl rfl (by decide +kernel) ⟨Nat.le_of_ble_eq_true rfl, Nat.le_of_ble_eq_true rfl⟩) hK (hP.sub [9, 10, 11, 12] rfl) rfl rfl rfl hl.1 rfl (Nat.le_of_ble_eq_true rfl) dX4_sees_30 ⟨Nat.le_of_ble_eq_true rfl, Nat.le_of_ble_eq_true rfl⟩ ?_
          refine lv_bipush (v := nI (8)) hx hb dX4_sees_33 (by decide) ?_
          refine n_lt (tgt := 41) hx hb dX4_sees_35 (by decide) (by omega) (by omega) (fun c_35 => ?_) (fun c_35 => ?_)
          · obtain ⟨i, hi6, hxi⟩ := rng_06 c_1 c_7
            have hl := lv_cg (l' := [(0, .ref (a 0)), (1, .int (nI (i))), (2, .int (y)), (3, .int (z))]) hl (by rw [hxi])
            obtain ⟨k, hk1, hk2, hyk⟩ := bin_L c_14
            have hl := lv_cg (l' := [(0, .ref (a 0)), (1, .int (nI (i))), (2, .int (nI (k))), (3, .int (z))]) hl (by rw [hyk])
            obtain ⟨t, ht1, hzt⟩ := bhf_N c_21
            have hl := lv_cg (l' := [(0, .ref (a 0)), (1, .int (nI (i))), (2, .int (nI (k))), (3, .int (nI (t)))]) hl (by rw [hzt])
            refine lv_aload_n hx hb dX4_sees_41 rfl (lv_at hl 0 rfl) ?_
            refine va_get (D := (dC, dI)) (ci := 3) (v := .ref (a 9)) (C := RX4) (T := TX4) (N := 6) hx hb hts hi4 hown hK hP 0 rfl rfl 2 (by decide) (hts (.fieldLink RX4 26 "BurstWords" "sightings" "LBurstWords$Sightings;") (by decide +kernel)) (fun _ h9 => h9) rfl dX4_sees_42 ?_
            refine lv_iload_n hx hb dX4_sees_45 rfl (lv_at hl 1 rfl) ?_
            refine lv_iload_n hx hb dX4_sees_46 rfl (lv_at hl 2 rfl) ?_
            refine lv_iload_n hx hb dX4_sees_47 rfl (lv_at hl 3 rfl) ?_
            refine lv_iconst (v := nI (1)) hx hb dX4_sees_48 (by decide) ?_
            refine n_ne (tgt := 56) hx hb dX4_sees_49 (by decide) (by omega) (by omega) (fun c_49 => ?_) (fun c_49 => ?_)
            · refine lv_iconst (v := nI (0)) hx hb dX4_sees_56 (by decide) ?_
              refine tpi (y := bI (t == 1)) (by rw [beq_false_of_ne c_49]; rfl) ?_
              refine m_Vv (As := [.int (nI (i)), .int (nI (k)), .int (bI (t == 1))]) (rest := []) (ci := 2) (q0 := 0) (wr := [(a 0, .inr (3, [.ref (a 1), .ref (a 5), .ref (a 9), .ref (a 13), .long (lN (be8 v)), .int (nI (bd))])), (a 1, .inr (0, [.ref (a 2), .ref (a 3), .ref (a 4), .int (nI (n))])), (a 2, .inl (cJ, 40, .inr (.inl w))), (a 3, .inl (cI, 40, .inl o)), (a 4, .inl (cI, 40, .inl d)), (a 5, .inr (1, [.ref (a 6), .ref (a 7), .ref (a 8), .int (nI (hn))])), (a 6, .inl (cJ, 12, .inr (.inl hw))), (a 7, .inl (cI, 12, .inl ho)), (a 8, .inl (cI, 12, .inl hd)), (a 13, .inl (cI, 182, .inl ta))]) S (c_X2_push l dC dI cI cJ cZ (a 9) (a 10) (a 11) (a 12) pl le so sn SA SL SI hSS s.heap.size i k t c_35 hi6 hk1 hk2) (cwV 3 hts gX4_sees_X2_push rfl rfl rfl (by decide +kernel) ⟨Nat.le_of_ble_eq_true rfl, Nat.le_of_ble_eq_true rfl⟩) hK hP hD hS hA [9, 10, 11, 12] [0, 1, 2, 3, 4, 5, 6, 7, 8, 13] (hP.sub [9, 10, 11, 12] rfl) (hD.sub [9, 10, 11, 12] (by decide) rfl) rfl rfl (by decide) (by decide) rfl rfl rfl hl.1 rfl (Nat.le_of_ble_eq_true rfl) dX4_sees_57 ⟨Nat.le_of_ble_eq_true rfl, Nat.le_of_ble_eq_true rfl⟩ (fun u_57 H locs hu_57 hP hD hS => ?_)
              obtain ⟨pl9, le9, so9, sn9⟩ := u_57
              have hP := hP.sub (ws' := wb a cI cJ cZ w o d n hw ho hd hn pl9 le9 so9 sn9 ta v bd) [0, 1, 2, 3, 4, 5, 6, 7, 8, 10, 11, 12, 13, 9] rfl
              have hD := hD.sub (ws' := wb a cI cJ cZ w o d n hw ho hd hn pl9 le9 so9 sn9 ta v bd) [0, 1, 2, 3, 4, 5, 6, 7, 8, 10, 11, 12, 13, 9] (by decide) rfl
              have hP : va_P (dC, dI) vwCl (wb a cI cJ cZ w o d n hw ho hd hn pl9 le9 so9 sn9 ta v bd) H := hP
              have hD : va_D A (wb a cI cJ cZ w o d n hw ho hd hn pl9 le9 so9 sn9 ta v bd) := hD
              obtain ⟨hsn9, hSS9⟩ := hu_57
              have hsn9 : sn9 = sn + 1 := hsn9
              subst hsn9
              have hP : va_P (dC, dI) vwCl (wb a cI cJ cZ w o d n hw ho hd hn pl9 le9 so9 (sn + 1) ta v bd) H := hP
              have hD : va_D A (wb a cI cJ cZ w o d n hw ho hd hn pl9 le9 so9 (sn + 1) ta v bd) := hD
              refine lv_aload_n hx hb dX4_sees_60 rfl (lv_at hl 0 rfl) ?_
              refine va_get (D := (dC, dI)) (ci := 3) (v := .ref (a 9)) (C := RX4) (T := TX4) (N := 6) hx hb hts hi4 hown hK hP 0 rfl rfl 2 (by decide) (hts (.fieldLink RX4 26 "BurstWords" "sightings" "LBurstWords$Sightings;") (by decide +kernel)) (fun _ h9 => h9) rfl dX4_sees_61 ?_
              refine c_Vi (As := []) (rest := []) (ci := 2) (q0 := 0) S (c_X2_size l dC dI cI cJ cZ (a 9) (a 10) (a 11) (a 12) pl9 le9 so9 (sn + 1) (va_up SA sn i) (va_up SL sn (k - 96)) (va_up SI sn t) hSS9 ) (cwV 0 hts gX4_sees_X2_size rfl rfl rfl (by decide +kernel) ⟨Nat.le_of_ble_eq_true rfl, Nat.le_of_ble_eq_true rfl⟩) hK (hP.sub [9, 10, 11, 12] rfl) rfl rfl rfl hl.1 rfl (Nat.le_of_ble_eq_true rfl) dX4_sees_64 ⟨Nat.le_of_ble_eq_true rfl, Nat.le_of_ble_eq_true rfl⟩ ?_
              rw [← hQQ]
              exact m_i (pl9, le9, so9, sn + 1) hx hb hr hlocks (Or.inr (Or.inr ⟨i, k, t, hi6, hxi, hk1, hk2, hyk, ht1, hzt, c_35, rfl, rfl, hSS9⟩)) hP hD hS dX4_sees_67
            · refine lv_iconst (v := nI (1)) hx hb dX4_sees_52 (by decide) ?_
              refine lv_goto (tgt := 57) hx hb dX4_sees_53 (by decide) ?_
              refine tpi (y := bI (t == 1)) (by rw [c_49]; rfl) ?_
              refine m_Vv (As := [.int (nI (i)), .int (nI (k)), .int (bI (t == 1))]) (rest := []) (ci := 2) (q0 := 0) (wr := [(a 0, .inr (3, [.ref (a 1), .ref (a 5), .ref (a 9), .ref (a 13), .long (lN (be8 v)), .int (nI (bd))])), (a 1, .inr (0, [.ref (a 2), .ref (a 3), .ref (a 4), .int (nI (n))])), (a 2, .inl (cJ, 40, .inr (.inl w))), (a 3, .inl (cI, 40, .inl o)), (a 4, .inl (cI, 40, .inl d)), (a 5, .inr (1, [.ref (a 6), .ref (a 7), .ref (a 8), .int (nI (hn))])), (a 6, .inl (cJ, 12, .inr (.inl hw))), (a 7, .inl (cI, 12, .inl ho)), (a 8, .inl (cI, 12, .inl hd)), (a 13, .inl (cI, 182, .inl ta))]) S (c_X2_push l dC dI cI cJ cZ (a 9) (a 10) (a 11) (a 12) pl le so sn SA SL SI hSS s.heap.size i k t c_35 hi6 hk1 hk2) (cwV 3 hts gX4_sees_X2_push rfl rfl rfl (by decide +kernel) ⟨Nat.le_of_ble_eq_true rfl, Nat.le_of_ble_eq_true rfl⟩) hK hP hD hS hA [9, 10, 11, 12] [0, 1, 2, 3, 4, 5, 6, 7, 8, 13] (hP.sub [9, 10, 11, 12] rfl) (hD.sub [9, 10, 11, 12] (by decide) rfl) rfl rfl (by decide) (by decide) rfl rfl rfl hl.1 rfl (Nat.le_of_ble_eq_true rfl) dX4_sees_57 ⟨Nat.le_of_ble_eq_true rfl, Nat.le_of_ble_eq_true rfl⟩ (fun u_57 H locs hu_57 hP hD hS => ?_)
              obtain ⟨pl9, le9, so9, sn9⟩ := u_57
              have hP := hP.sub (ws' := wb a cI cJ cZ w o d n hw ho hd hn pl9 le9 so9 sn9 ta v bd) [0, 1, 2, 3, 4, 5, 6, 7, 8, 10, 11, 12, 13, 9] rfl
              have hD := hD.sub (ws' := wb a cI cJ cZ w o d n hw ho hd hn pl9 le9 so9 sn9 ta v bd) [0, 1, 2, 3, 4, 5, 6, 7, 8, 10, 11, 12, 13, 9] (by decide) rfl
              have hP : va_P (dC, dI) vwCl (wb a cI cJ cZ w o d n hw ho hd hn pl9 le9 so9 sn9 ta v bd) H := hP
              have hD : va_D A (wb a cI cJ cZ w o d n hw ho hd hn pl9 le9 so9 sn9 ta v bd) := hD
              obtain ⟨hsn9, hSS9⟩ := hu_57
              have hsn9 : sn9 = sn + 1 := hsn9
              subst hsn9
              have hP : va_P (dC, dI) vwCl (wb a cI cJ cZ w o d n hw ho hd hn pl9 le9 so9 (sn + 1) ta v bd) H := hP
              have hD : va_D A (wb a cI cJ cZ w o d n hw ho hd hn pl9 le9 so9 (sn + 1) ta v bd) := hD
              refine lv_aload_n hx hb dX4_sees_60 rfl (lv_at hl 0 rfl) ?_
              refine va_get (D := (dC, dI)) (ci := 3) (v := .ref (a 9)) (C := RX4) (T := TX4) (N := 6) hx hb hts hi4 hown hK hP 0 rfl rfl 2 (by decide) (hts (.fieldLink RX4 26 "BurstWords" "sightings" "LBurstWords$Sightings;") (by decide +kernel)) (fun _ h9 => h9) rfl dX4_sees_61 ?_
              refine c_Vi (As := []) (rest := []) (ci := 2) (q0 := 0) S (c_X2_size l dC dI cI cJ cZ (a 9) (a 10) (a 11) (a 12) pl9 le9 so9 (sn + 1) (va_up SA sn i) (va_up SL sn (k - 96)) (va_up SI sn t) hSS9 ) (cwV 0 hts gX4_sees_X2_size rfl rfl rfl (by decide +kernel) ⟨Nat.le_of_ble_eq_true rfl, Nat.le_of_ble_eq_true rfl⟩) hK (hP.sub [9, 10, 11, 12] rfl) rfl rfl rfl hl.1 rfl (Nat.le_of_ble_eq_true rfl) dX4_sees_64 ⟨Nat.le_of_ble_eq_true rfl, Nat.le_of_ble_eq_true rfl⟩ ?_
              rw [← hQQ]
              exact m_i (pl9, le9, so9, sn + 1) hx hb hr hlocks (Or.inr (Or.inr ⟨i, k, t, hi6, hxi, hk1, hk2, hyk, ht1, hzt, c_35, rfl, rfl, hSS9⟩)) hP hD hS dX4_sees_67
          · refine lv_bipush (v := (-3 : Int32)) hx hb dX4_sees_38 (by decide) ?_
            rw [← hQQ]
            exact m_i (pl, le, so, sn) hx hb hr hlocks (Or.inr (Or.inl ⟨⟨c_1, c_7, c_14, c_21⟩, by omega, rfl, rfl⟩)) hP hD hS dX4_sees_40
        · refine lv_iconst (v := (-1 : Int32)) hx hb dX4_sees_24 (by decide) ?_
          rw [← hQQ]
          exact m_i (pl, le, so, sn) hx hb hr hlocks (Or.inl ⟨Or.inr (Or.inr (Or.inr c_21)), rfl, rfl⟩) hP hD hS dX4_sees_25
abbrev rm_X4_forget : Room := { frames := 1, cells := 0, slots := 0, locals := 20 }
set_option maxHeartbeats 4000000 in
set_option maxRecDepth 100000 in
theorem c_X4_forget (l : Launch) (dC : Nat → ClassId) (dI : Nat → Nat → Nat) (cI cJ cZ : ClassId) (a : Nat → Nat) (w : Nat → Int64) (o d : Nat → Int32) (n : Nat) (hw : Nat → Int64) (ho hd : Nat → Int32) (hn : Nat) (pl le so : Nat → Int32) (sn : Nat) (ta : Nat → Int32) (v bd : Nat) (V O E HW HO HE SA SL SI : Nat → Nat) (hDD : bDD w o d n V O E) (hHH : bHH hw ho hd hn HW HO HE) (hSS : bSS pl le so sn SA SL SI) (hv : bwf v) (hbd : 2 ≤ bd ∧ bd ≤ 8) (sz : Nat) : Met l yX4_forget wsX4_forget rm_X4_forget (mPc (dC, dI) (tysA cI cJ cZ) (wb a cI cJ cZ w o d n hw ho hd hn pl le so sn ta v bd) sz [.ref (a 0)]) (mQi (dC, dI) (fun (r : Int32) (u : Nat) => r = nI sn ∧ u = 0) (fun u => wb a cI cJ cZ w o d n hw ho hd hn pl le so u ta v bd) (va_A (wb a cI cJ cZ w o d n hw ho hd hn pl le so sn ta v bd) sz)) 0 0 (va_A (wb a cI cJ cZ w o d n hw ho hd hn pl le so sn ta v bd) sz) := by
  refine met_m (cc := cX4_forget) (maxL := 2) (ret := (some .int)) (own := RX4) (Qc := fun A => mQi (dC, dI) (fun (r : Int32) (u : Nat) => r = nI sn ∧ u = 0) (fun u => wb a cI cJ cZ w o d n hw ho hd hn pl le so u ta v bd) A) (by decide) rfl rfl (Nat.le_of_ble_eq_true rfl) ?_
  intro p e s m below meth c S hr hlocks hname hK A hA hP hD hS ls hl
  obtain ⟨hx, hb, hml, hown, hts⟩ := id S
  generalize hQQ : MQ below (mQi (dC, dI) (fun (r : Int32) (u : Nat) => r = nI sn ∧ u = 0) (fun u => wb a cI cJ cZ w o d n hw ho hd hn pl le so u ta v bd) A) ([.ref (a 0)] : List Value).toArray s 0 0 A = QQ
  have hl : lv_has ls 2 [(0, .ref (a 0))] := hl
  have hi4 : ∀ w ∈ wsX40, w ∈ wsX4_forget := fun _ h => List.mem_cons_of_mem _ (List.mem_append_left _ (List.mem_append_right _ h))
  have hi2 : ∀ w ∈ wsX20, w ∈ wsX4_forget := fun _ h => List.mem_cons_of_mem _ (List.mem_append_right _ h)
  obtain ⟨hn40, hk⟩ := id hDD; obtain ⟨hh12, hkh⟩ := id hHH; obtain ⟨hs8, hks⟩ := id hSS
  refine lv_aload_n hx hb dX4_forget_0 rfl (lv_at hl 0 rfl) ?_
  refine va_get (D := (dC, dI)) (ci := 3) (v := .ref (a 9)) (C := RX4) (T := TX4) (N := 6) hx hb hts hi4 hown hK hP 0 rfl rfl 2 (by decide) (hts (.fieldLink RX4 26 "BurstWords" "sightings" "LBurstWords$Sightings;") (by decide +kernel)) (fun _ h9 => h9) rfl dX4_forget_1 ?_
  refine c_Vi (As := []) (rest := []) (ci := 2) (q0 := 0) S (c_X2_size l dC dI cI cJ cZ (a 9) (a 10) (a 11) (a 12) pl le so sn SA SL SI hSS ) (cwV 0 hts gX4_forget_X2_size rfl rfl rfl (by decide +kernel) ⟨Nat.le_of_ble_eq_true rfl, Nat.le_of_ble_eq_true rfl⟩) hK (hP.sub [9, 10, 11, 12] rfl) rfl rfl rfl hl.1 rfl (Nat.le_of_ble_eq_true rfl) dX4_forget_4 ⟨Nat.le_of_ble_eq_true rfl, Nat.le_of_ble_eq_true rfl⟩ ?_
  refine lv_istore_n (lv' := [(1, .int (nI (sn))), (0, .ref (a 0))]) hx hb dX4_forget_7 rfl hl (by decide) rfl (fun ls hl => ?_)
  refine lv_aload_n hx hb dX4_forget_8 rfl (lv_at hl 1 rfl) ?_
  refine va_get (D := (dC, dI)) (ci := 3) (v := .ref (a 9)) (C := RX4) (T := TX4) (N := 6) hx hb hts hi4 hown hK hP 0 rfl rfl 2 (by decide) (hts (.fieldLink RX4 26 "BurstWords" "sightings" "LBurstWords$Sightings;") (by decide +kernel)) (fun _ h9 => h9) rfl dX4_forget_9 ?_
  refine m_Vv (As := []) (rest := []) (ci := 2) (q0 := 0) (wr := [(a 0, .inr (3, [.ref (a 1), .ref (a 5), .ref (a 9), .ref (a 13), .long (lN (be8 v)), .int (nI (bd))])), (a 1, .inr (0, [.ref (a 2), .ref (a 3), .ref (a 4), .int (nI (n))])), (a 2, .inl (cJ, 40, .inr (.inl w))), (a 3, .inl (cI, 40, .inl o)), (a 4, .inl (cI, 40, .inl d)), (a 5, .inr (1, [.ref (a 6), .ref (a 7), .ref (a 8), .int (nI (hn))])), (a 6, .inl (cJ, 12, .inr (.inl hw))), (a 7, .inl (cI, 12, .inl ho)), (a 8, .inl (cI, 12, .inl hd)), (a 13, .inl (cI, 182, .inl ta))]) S (c_X2_empty l dC dI cI cJ cZ (a 9) (a 10) (a 11) (a 12) pl le so sn SA SL SI hSS s.heap.size ) (cwV 0 hts gX4_forget_X2_empty rfl rfl rfl (by decide +kernel) ⟨Nat.le_of_ble_eq_true rfl, Nat.le_of_ble_eq_true rfl⟩) hK hP hD hS hA [9, 10, 11, 12] [0, 1, 2, 3, 4, 5, 6, 7, 8, 13] (hP.sub [9, 10, 11, 12] rfl) (hD.sub [9, 10, 11, 12] (by decide) rfl) rfl rfl (by decide) (by decide) rfl rfl rfl hl.1 rfl (Nat.le_of_ble_eq_true rfl) dX4_forget_12 ⟨Nat.le_of_ble_eq_true rfl, Nat.le_of_ble_eq_true rfl⟩ (fun u_12 H locs hu_12 hP hD hS => ?_)
  obtain ⟨sn9, rfl⟩ : ∃ z, z = u_12 := ⟨_, rfl⟩
  have hP := hP.sub (ws' := wb a cI cJ cZ w o d n hw ho hd hn pl le so sn9 ta v bd) [0, 1, 2, 3, 4, 5, 6, 7, 8, 10, 11, 12, 13, 9] rfl
  have hD := hD.sub (ws' := wb a cI cJ cZ w o d n hw ho hd hn pl le so sn9 ta v bd) [0, 1, 2, 3, 4, 5, 6, 7, 8, 10, 11, 12, 13, 9] (by decide) rfl
  have hP : va_P (dC, dI) vwCl (wb a cI cJ cZ w o d n hw ho hd hn pl le so sn9 ta v bd) H := hP
  have hD : va_D A (wb a cI cJ cZ w o d n hw ho hd hn pl le so sn9 ta v bd) := hD
  subst hu_12
  have hP : va_P (dC, dI) vwCl (wb a cI cJ cZ w o d n hw ho hd hn pl le so 0 ta v bd) H := hP
  have hD : va_D A (wb a cI cJ cZ w o d n hw ho hd hn pl le so 0 ta v bd) := hD
  refine lv_iload_n hx hb dX4_forget_15 rfl (lv_at hl 0 rfl) ?_
  rw [← hQQ]
  exact m_i (0) hx hb hr hlocks ⟨rfl, rfl⟩ hP hD hS dX4_forget_16
abbrev rm_X4_adds : Room := { frames := 6, cells := 0, slots := 0, locals := 142 }
set_option maxHeartbeats 4000000 in
set_option maxRecDepth 100000 in
theorem c_X4_adds (l : Launch) (dC : Nat → ClassId) (dI : Nat → Nat → Nat) (cI cJ cZ : ClassId) (a : Nat → Nat) (w : Nat → Int64) (o d : Nat → Int32) (n : Nat) (hw : Nat → Int64) (ho hd : Nat → Int32) (hn : Nat) (pl le so : Nat → Int32) (sn : Nat) (ta : Nat → Int32) (v bd : Nat) (V O E HW HO HE SA SL SI : Nat → Nat) (hDD : bDD w o d n V O E) (hHH : bHH hw ho hd hn HW HO HE) (hSS : bSS pl le so sn SA SL SI) (hv : bwf v) (hbd : 2 ≤ bd ∧ bd ≤ 8) (sz : Nat) : Met l yX4_adds wsX4_adds rm_X4_adds (mPc (dC, dI) (tysA cI cJ cZ) (wb a cI cJ cZ w o d n hw ho hd hn pl le so sn ta v bd) sz [.ref (a 0)]) (mQi (dC, dI) (fun (r : Int32) (u : (Nat → Int64) × (Nat → Int32) × (Nat → Int32) × (Nat) × (Nat → Int64) × (Nat → Int32) × (Nat → Int32) × (Nat)) => (v = 0 ∧ r = -1 ∧ u = (w, o, d, n, hw, ho, hd, hn)) ∨ (v ≠ 0 ∧ (99 ≤ bof V O n v ∨ (bof V O n v = 0 ∧ 40 ≤ n)) ∧ r = -3 ∧ u = (w, o, d, n, hw, ho, hd, hn)) ∨ (v ≠ 0 ∧ bof V O n v < 99 ∧ (bof V O n v = 0 → n < 40) ∧ r = nI (bof V O n v + 1) ∧ (∃ V9 O9 E9, bPut V O E n v (bof V O n v + 1) V9 O9 E9 u.2.2.2.1 ∧ bDD u.1 u.2.1 u.2.2.1 u.2.2.2.1 V9 O9 (brs V9 E9 v (bdp V E n v) (bbd V9 u.2.2.2.1 v (bdp V E n v) bd))) ∧ u.2.2.2.2.2.2.2 = bhn hn ∧ bHH u.2.2.2.2.1 u.2.2.2.2.2.1 u.2.2.2.2.2.2.1 u.2.2.2.2.2.2.2 (bhp HW hn v) (bhp HO hn (bof V O n v)) (bhp HE hn (bdp V E n v)))) (fun u => wb a cI cJ cZ u.1 u.2.1 u.2.2.1 u.2.2.2.1 u.2.2.2.2.1 u.2.2.2.2.2.1 u.2.2.2.2.2.2.1 u.2.2.2.2.2.2.2 pl le so sn ta v bd) (va_A (wb a cI cJ cZ w o d n hw ho hd hn pl le so sn ta v bd) sz)) 0 0 (va_A (wb a cI cJ cZ w o d n hw ho hd hn pl le so sn ta v bd) sz) := by
  refine met_m (cc := cX4_adds) (maxL := 3) (ret := (some .int)) (own := RX4) (Qc := fun A => mQi (dC, dI) (fun (r : Int32) (u : (Nat → Int64) × (Nat → Int32) × (Nat → Int32) × (Nat) × (Nat → Int64) × (Nat → Int32) × (Nat → Int32) × (Nat)) => (v = 0 ∧ r = -1 ∧ u = (w, o, d, n, hw, ho, hd, hn)) ∨ (v ≠ 0 ∧ (99 ≤ bof V O n v ∨ (bof V O n v = 0 ∧ 40 ≤ n)) ∧ r = -3 ∧ u = (w, o, d, n, hw, ho, hd, hn)) ∨ (v ≠ 0 ∧ bof V O n v < 99 ∧ (bof V O n v = 0 → n < 40) ∧ r = nI (bof V O n v + 1) ∧ (∃ V9 O9 E9, bPut V O E n v (bof V O n v + 1) V9 O9 E9 u.2.2.2.1 ∧ bDD u.1 u.2.1 u.2.2.1 u.2.2.2.1 V9 O9 (brs V9 E9 v (bdp V E n v) (bbd V9 u.2.2.2.1 v (bdp V E n v) bd))) ∧ u.2.2.2.2.2.2.2 = bhn hn ∧ bHH u.2.2.2.2.1 u.2.2.2.2.2.1 u.2.2.2.2.2.2.1 u.2.2.2.2.2.2.2 (bhp HW hn v) (bhp HO hn (bof V O n v)) (bhp HE hn (bdp V E n v)))) (fun u => wb a cI cJ cZ u.1 u.2.1 u.2.2.1 u.2.2.2.1 u.2.2.2.2.1 u.2.2.2.2.2.1 u.2.2.2.2.2.2.1 u.2.2.2.2.2.2.2 pl le so sn ta v bd) A) (by decide) rfl rfl (Nat.le_of_ble_eq_true rfl) ?_
  intro p e s m below meth c S hr hlocks hname hK A hA hP hD hS ls hl
  obtain ⟨hx, hb, hml, hown, hts⟩ := id S
  generalize hQQ : MQ below (mQi (dC, dI) (fun (r : Int32) (u : (Nat → Int64) × (Nat → Int32) × (Nat → Int32) × (Nat) × (Nat → Int64) × (Nat → Int32) × (Nat → Int32) × (Nat)) => (v = 0 ∧ r = -1 ∧ u = (w, o, d, n, hw, ho, hd, hn)) ∨ (v ≠ 0 ∧ (99 ≤ bof V O n v ∨ (bof V O n v = 0 ∧ 40 ≤ n)) ∧ r = -3 ∧ u = (w, o, d, n, hw, ho, hd, hn)) ∨ (v ≠ 0 ∧ bof V O n v < 99 ∧ (bof V O n v = 0 → n < 40) ∧ r = nI (bof V O n v + 1) ∧ (∃ V9 O9 E9, bPut V O E n v (bof V O n v + 1) V9 O9 E9 u.2.2.2.1 ∧ bDD u.1 u.2.1 u.2.2.1 u.2.2.2.1 V9 O9 (brs V9 E9 v (bdp V E n v) (bbd V9 u.2.2.2.1 v (bdp V E n v) bd))) ∧ u.2.2.2.2.2.2.2 = bhn hn ∧ bHH u.2.2.2.2.1 u.2.2.2.2.2.1 u.2.2.2.2.2.2.1 u.2.2.2.2.2.2.2 (bhp HW hn v) (bhp HO hn (bof V O n v)) (bhp HE hn (bdp V E n v)))) (fun u => wb a cI cJ cZ u.1 u.2.1 u.2.2.1 u.2.2.2.1 u.2.2.2.2.1 u.2.2.2.2.2.1 u.2.2.2.2.2.2.1 u.2.2.2.2.2.2.2 pl le so sn ta v bd) A) ([.ref (a 0)] : List Value).toArray s 0 0 A = QQ
  have hl : lv_has ls 3 [(0, .ref (a 0))] := hl
  have hi4 : ∀ w ∈ wsX40, w ∈ wsX4_adds := fun _ h => List.mem_cons_of_mem _ (List.mem_append_left _ (List.mem_append_left _ (List.mem_append_right _ h)))
  have hi0 : ∀ w ∈ wsX00, w ∈ wsX4_adds := fun _ h => List.mem_cons_of_mem _ (List.mem_append_left _ (List.mem_append_right _ h))
  have hi1 : ∀ w ∈ wsX10, w ∈ wsX4_adds := fun _ h => List.mem_cons_of_mem _ (List.mem_append_right _ h)
  obtain ⟨hn40, hk⟩ := id hDD; obtain ⟨hh12, hkh⟩ := id hHH; obtain ⟨hs8, hks⟩ := id hSS
  have hlv := bln_le v
  have hbo31 := bof_31 (v := v) hDD
  refine lv_aload_n hx hb dX4_adds_0 rfl (lv_at hl 0 rfl) ?_
  refine va_get (D := (dC, dI)) (ci := 3) (v := .long (lN (be8 v))) (C := RX4) (T := TX4) (N := 6) hx hb hts hi4 hown hK hP 0 rfl rfl 4 (by decide) (hts (.fieldLink RX4 36 "BurstWords" "word" "J") (by decide +kernel)) (fun _ h9 => h9) rfl dX4_adds_1 ?_
  refine lv_lconst (v := lN (0)) hx hb dX4_adds_4 rfl ?_
  refine q_ne (tgt := 11) hx hb dX4_adds_5 dX4_adds_6 (by decide) (be8_63 _) (by decide) (fun c_5 => ?_) (fun c_5 => ?_)
  · refine lv_aload_n hx hb dX4_adds_11 rfl (lv_at hl 0 rfl) ?_
    refine va_get (D := (dC, dI)) (ci := 3) (v := .ref (a 1)) (C := RX4) (T := TX4) (N := 6) hx hb hts hi4 hown hK hP 0 rfl rfl 0 (by decide) (hts (.fieldLink RX4 10 "BurstWords" "dictionary" "LBurstWords$Dictionary;") (by decide +kernel)) (fun _ h9 => h9) rfl dX4_adds_12 ?_
    refine lv_aload_n hx hb dX4_adds_15 rfl (lv_at hl 0 rfl) ?_
    refine va_get (D := (dC, dI)) (ci := 3) (v := .long (lN (be8 v))) (C := RX4) (T := TX4) (N := 6) hx hb hts hi4 hown hK hP 0 rfl rfl 4 (by decide) (hts (.fieldLink RX4 36 "BurstWords" "word" "J") (by decide +kernel)) (fun _ h9 => h9) rfl dX4_adds_16 ?_
    refine c_Vi (As := [.long (lN (be8 v))]) (rest := []) (ci := 0) (q0 := 0) S (c_X0_oftenOf l dC dI cI cJ cZ (a 1) (a 2) (a 3) (a 4) w o d n V O E hDD v hv.1) (cwV 1 hts gX4_adds_X0_oftenOf rfl rfl rfl (by decide +kernel) ⟨Nat.le_of_ble_eq_true rfl, Nat.le_of_ble_eq_true rfl⟩) hK (hP.sub [1, 2, 3, 4] rfl) rfl rfl rfl hl.1 rfl (Nat.le_of_ble_eq_true rfl) dX4_adds_19 ⟨Nat.le_of_ble_eq_true rfl, Nat.le_of_ble_eq_true rfl⟩ ?_
    refine lv_istore_n (lv' := [(1, .int (nI (bof V O n v))), (0, .ref (a 0))]) hx hb dX4_adds_22 rfl hl (by decide) rfl (fun ls hl => ?_)
    refine lv_iload_n hx hb dX4_adds_23 rfl (lv_at hl 0 rfl) ?_
    refine lv_bipush (v := nI (99)) hx hb dX4_adds_24 (by decide) ?_
    refine n_ge (tgt := 45) hx hb dX4_adds_26 (by decide) hbo31 (by omega) (fun c_26 => ?_) (fun c_26 => ?_)
    · refine lv_bipush (v := (-3 : Int32)) hx hb dX4_adds_45 (by decide) ?_
      rw [← hQQ]
      exact m_i (w, o, d, n, hw, ho, hd, hn) hx hb hr hlocks (Or.inr (Or.inl ⟨be8_n0 c_5, Or.inl c_26, rfl, rfl⟩)) hP hD hS dX4_adds_47
    · refine lv_iload_n hx hb dX4_adds_29 rfl (lv_at hl 0 rfl) ?_
      refine z_ne (tgt := 48) hx hb dX4_adds_30 (by decide) hbo31 (fun c_30 => ?_) (fun c_30 => ?_)
      · have hbz : bof V O n v = 0 → n < 40 := fun e => absurd e (by omega)
        refine lv_aload_n hx hb dX4_adds_48 rfl (lv_at hl 1 rfl) ?_
        refine va_get (D := (dC, dI)) (ci := 3) (v := .ref (a 1)) (C := RX4) (T := TX4) (N := 6) hx hb hts hi4 hown hK hP 0 rfl rfl 0 (by decide) (hts (.fieldLink RX4 10 "BurstWords" "dictionary" "LBurstWords$Dictionary;") (by decide +kernel)) (fun _ h9 => h9) rfl dX4_adds_49 ?_
        refine lv_aload_n hx hb dX4_adds_52 rfl (lv_at hl 1 rfl) ?_
        refine va_get (D := (dC, dI)) (ci := 3) (v := .long (lN (be8 v))) (C := RX4) (T := TX4) (N := 6) hx hb hts hi4 hown hK hP 0 rfl rfl 4 (by decide) (hts (.fieldLink RX4 36 "BurstWords" "word" "J") (by decide +kernel)) (fun _ h9 => h9) rfl dX4_adds_53 ?_
        refine c_Vi (As := [.long (lN (be8 v))]) (rest := []) (ci := 0) (q0 := 0) S (c_X0_depthOf l dC dI cI cJ cZ (a 1) (a 2) (a 3) (a 4) w o d n V O E hDD v) (cwV 1 hts gX4_adds_X0_depthOf rfl rfl rfl (by decide +kernel) ⟨Nat.le_of_ble_eq_true rfl, Nat.le_of_ble_eq_true rfl⟩) hK (hP.sub [1, 2, 3, 4] rfl) rfl rfl rfl hl.1 rfl (Nat.le_of_ble_eq_true rfl) dX4_adds_56 ⟨Nat.le_of_ble_eq_true rfl, Nat.le_of_ble_eq_true rfl⟩ ?_
        refine lv_istore_n (lv' := [(2, .int (nI (bdp V E n v))), (1, .int (nI (bof V O n v))), (0, .ref (a 0))]) hx hb dX4_adds_59 rfl hl (by decide) rfl (fun ls hl => ?_)
        refine lv_aload_n hx hb dX4_adds_60 rfl (lv_at hl 2 rfl) ?_
        refine va_get (D := (dC, dI)) (ci := 3) (v := .ref (a 5)) (C := RX4) (T := TX4) (N := 6) hx hb hts hi4 hown hK hP 0 rfl rfl 1 (by decide) (hts (.fieldLink RX4 19 "BurstWords" "history" "LBurstWords$History;") (by decide +kernel)) (fun _ h9 => h9) rfl dX4_adds_61 ?_
        refine lv_aload_n hx hb dX4_adds_64 rfl (lv_at hl 2 rfl) ?_
        refine va_get (D := (dC, dI)) (ci := 3) (v := .long (lN (be8 v))) (C := RX4) (T := TX4) (N := 6) hx hb hts hi4 hown hK hP 0 rfl rfl 4 (by decide) (hts (.fieldLink RX4 36 "BurstWords" "word" "J") (by decide +kernel)) (fun _ h9 => h9) rfl dX4_adds_65 ?_
        refine lv_iload_n hx hb dX4_adds_68 rfl (lv_at hl 1 rfl) ?_
        refine lv_iload_n hx hb dX4_adds_69 rfl (lv_at hl 0 rfl) ?_
        refine m_Vv (As := [.long (lN (be8 v)), .int (nI (bof V O n v)), .int (nI (bdp V E n v))]) (rest := []) (ci := 1) (q0 := 0) (wr := [(a 0, .inr (3, [.ref (a 1), .ref (a 5), .ref (a 9), .ref (a 13), .long (lN (be8 v)), .int (nI (bd))])), (a 1, .inr (0, [.ref (a 2), .ref (a 3), .ref (a 4), .int (nI (n))])), (a 2, .inl (cJ, 40, .inr (.inl w))), (a 3, .inl (cI, 40, .inl o)), (a 4, .inl (cI, 40, .inl d)), (a 9, .inr (2, [.ref (a 10), .ref (a 11), .ref (a 12), .int (nI (sn))])), (a 10, .inl (cI, 8, .inl pl)), (a 11, .inl (cI, 8, .inl le)), (a 12, .inl (cZ, 8, .inl so)), (a 13, .inl (cI, 182, .inl ta))]) S (c_X1_push l dC dI cI cJ cZ (a 5) (a 6) (a 7) (a 8) hw ho hd hn HW HO HE hHH s.heap.size v (bof V O n v) (bdp V E n v) hv (by omega) bdp_le) (cwV 3 hts gX4_adds_X1_push rfl rfl rfl (by decide +kernel) ⟨Nat.le_of_ble_eq_true rfl, Nat.le_of_ble_eq_true rfl⟩) hK hP hD hS hA [5, 6, 7, 8] [0, 1, 2, 3, 4, 9, 10, 11, 12, 13] (hP.sub [5, 6, 7, 8] rfl) (hD.sub [5, 6, 7, 8] (by decide) rfl) rfl rfl (by decide) (by decide) rfl rfl rfl hl.1 rfl (Nat.le_of_ble_eq_true rfl) dX4_adds_70 ⟨Nat.le_of_ble_eq_true rfl, Nat.le_of_ble_eq_true rfl⟩ (fun u_70 H locs hu_70 hP hD hS => ?_)
        obtain ⟨hw9, ho9, hd9, hn9⟩ := u_70
        have hP := hP.sub (ws' := wb a cI cJ cZ w o d n hw9 ho9 hd9 hn9 pl le so sn ta v bd) [0, 1, 2, 3, 4, 10, 11, 12, 13, 5, 6, 7, 8, 9] rfl
        have hD := hD.sub (ws' := wb a cI cJ cZ w o d n hw9 ho9 hd9 hn9 pl le so sn ta v bd) [0, 1, 2, 3, 4, 10, 11, 12, 13, 5, 6, 7, 8, 9] (by decide) rfl
        have hP : va_P (dC, dI) vwCl (wb a cI cJ cZ w o d n hw9 ho9 hd9 hn9 pl le so sn ta v bd) H := hP
        have hD : va_D A (wb a cI cJ cZ w o d n hw9 ho9 hd9 hn9 pl le so sn ta v bd) := hD
        obtain ⟨hq1, hq2⟩ := hu_70
        refine lv_aload_n hx hb dX4_adds_73 rfl (lv_at hl 2 rfl) ?_
        refine va_get (D := (dC, dI)) (ci := 3) (v := .ref (a 1)) (C := RX4) (T := TX4) (N := 6) hx hb hts hi4 hown hK hP 0 rfl rfl 0 (by decide) (hts (.fieldLink RX4 10 "BurstWords" "dictionary" "LBurstWords$Dictionary;") (by decide +kernel)) (fun _ h9 => h9) rfl dX4_adds_74 ?_
        refine lv_aload_n hx hb dX4_adds_77 rfl (lv_at hl 2 rfl) ?_
        refine va_get (D := (dC, dI)) (ci := 3) (v := .long (lN (be8 v))) (C := RX4) (T := TX4) (N := 6) hx hb hts hi4 hown hK hP 0 rfl rfl 4 (by decide) (hts (.fieldLink RX4 36 "BurstWords" "word" "J") (by decide +kernel)) (fun _ h9 => h9) rfl dX4_adds_78 ?_
        refine lv_iload_n hx hb dX4_adds_81 rfl (lv_at hl 1 rfl) ?_
        refine lv_iconst (v := nI (1)) hx hb dX4_adds_82 (by decide) ?_
        refine lv_iadd hx hb dX4_adds_83 ?_
        refine tpi (nI_add _ _) ?_
        refine m_Vv (As := [.long (lN (be8 v)), .int (nI ((bof V O n v) + 1))]) (rest := []) (ci := 0) (q0 := 0) (wr := [(a 0, .inr (3, [.ref (a 1), .ref (a 5), .ref (a 9), .ref (a 13), .long (lN (be8 v)), .int (nI (bd))])), (a 5, .inr (1, [.ref (a 6), .ref (a 7), .ref (a 8), .int (nI (hn9))])), (a 6, .inl (cJ, 12, .inr (.inl hw9))), (a 7, .inl (cI, 12, .inl ho9)), (a 8, .inl (cI, 12, .inl hd9)), (a 9, .inr (2, [.ref (a 10), .ref (a 11), .ref (a 12), .int (nI (sn))])), (a 10, .inl (cI, 8, .inl pl)), (a 11, .inl (cI, 8, .inl le)), (a 12, .inl (cZ, 8, .inl so)), (a 13, .inl (cI, 182, .inl ta))]) S (c_X0_put l dC dI cI cJ cZ (a 1) (a 2) (a 3) (a 4) w o d n V O E hDD H.size v ((bof V O n v) + 1) hv (Nat.pos_of_ne_zero (be8_n0 c_5)) (by omega) (hpa_ad hbz)) (cwV 2 hts gX4_adds_X0_put rfl rfl rfl (by decide +kernel) ⟨Nat.le_of_ble_eq_true rfl, Nat.le_of_ble_eq_true rfl⟩) hK hP hD hS hA [1, 2, 3, 4] [0, 5, 6, 7, 8, 9, 10, 11, 12, 13] (hP.sub [1, 2, 3, 4] rfl) (hD.sub [1, 2, 3, 4] (by decide) rfl) rfl rfl (by decide) (by decide) rfl rfl rfl hl.1 rfl (Nat.le_of_ble_eq_true rfl) dX4_adds_84 ⟨Nat.le_of_ble_eq_true rfl, Nat.le_of_ble_eq_true rfl⟩ (fun u_84 H locs hu_84 hP hD hS => ?_)
        obtain ⟨w9, o9, d9, n9⟩ := u_84
        have hP := hP.sub (ws' := wb a cI cJ cZ w9 o9 d9 n9 hw9 ho9 hd9 hn9 pl le so sn ta v bd) [0, 10, 11, 12, 13, 1, 2, 3, 4, 5, 6, 7, 8, 9] rfl
        have hD := hD.sub (ws' := wb a cI cJ cZ w9 o9 d9 n9 hw9 ho9 hd9 hn9 pl le so sn ta v bd) [0, 10, 11, 12, 13, 1, 2, 3, 4, 5, 6, 7, 8, 9] (by decide) rfl
        have hP : va_P (dC, dI) vwCl (wb a cI cJ cZ w9 o9 d9 n9 hw9 ho9 hd9 hn9 pl le so sn ta v bd) H := hP
        have hD : va_D A (wb a cI cJ cZ w9 o9 d9 n9 hw9 ho9 hd9 hn9 pl le so sn ta v bd) := hD
        obtain ⟨V9, O9, E9, hD9, hrel9⟩ := put_ex hu_84
        obtain ⟨hn40b, hkb⟩ := id hD9
        refine lv_aload_n hx hb dX4_adds_87 rfl (lv_at hl 2 rfl) ?_
        refine va_get (D := (dC, dI)) (ci := 3) (v := .ref (a 1)) (C := RX4) (T := TX4) (N := 6) hx hb hts hi4 hown hK hP 0 rfl rfl 0 (by decide) (hts (.fieldLink RX4 10 "BurstWords" "dictionary" "LBurstWords$Dictionary;") (by decide +kernel)) (fun _ h9 => h9) rfl dX4_adds_88 ?_
        refine lv_aload_n hx hb dX4_adds_91 rfl (lv_at hl 2 rfl) ?_
        refine va_get (D := (dC, dI)) (ci := 3) (v := .long (lN (be8 v))) (C := RX4) (T := TX4) (N := 6) hx hb hts hi4 hown hK hP 0 rfl rfl 4 (by decide) (hts (.fieldLink RX4 36 "BurstWords" "word" "J") (by decide +kernel)) (fun _ h9 => h9) rfl dX4_adds_92 ?_
        refine lv_iload_n hx hb dX4_adds_95 rfl (lv_at hl 0 rfl) ?_
        refine lv_aload_n hx hb dX4_adds_96 rfl (lv_at hl 2 rfl) ?_
        refine va_get (D := (dC, dI)) (ci := 3) (v := .ref (a 1)) (C := RX4) (T := TX4) (N := 6) hx hb hts hi4 hown hK hP 0 rfl rfl 0 (by decide) (hts (.fieldLink RX4 10 "BurstWords" "dictionary" "LBurstWords$Dictionary;") (by decide +kernel)) (fun _ h9 => h9) rfl dX4_adds_97 ?_
        refine lv_aload_n hx hb dX4_adds_100 rfl (lv_at hl 2 rfl) ?_
        refine va_get (D := (dC, dI)) (ci := 3) (v := .long (lN (be8 v))) (C := RX4) (T := TX4) (N := 6) hx hb hts hi4 hown hK hP 0 rfl rfl 4 (by decide) (hts (.fieldLink RX4 36 "BurstWords" "word" "J") (by decide +kernel)) (fun _ h9 => h9) rfl dX4_adds_101 ?_
        refine lv_iload_n hx hb dX4_adds_104 rfl (lv_at hl 0 rfl) ?_
        refine lv_aload_n hx hb dX4_adds_105 rfl (lv_at hl 2 rfl) ?_
        refine va_get (D := (dC, dI)) (ci := 3) (v := .int (nI (bd))) (C := RX4) (T := TX4) (N := 6) hx hb hts hi4 hown hK hP 0 rfl rfl 5 (by decide) (hts (.fieldLink RX4 40 "BurstWords" "bound" "I") (by decide +kernel)) (fun _ h9 => h9) rfl dX4_adds_106 ?_
        refine c_Vi (As := [.long (lN (be8 v)), .int (nI (bdp V E n v)), .int (nI (bd))]) (rest := [.int (nI (bdp V E n v)), .long (lN (be8 v)), .ref (a 1)]) (ci := 0) (q0 := 0) S (c_X0_burstDepth l dC dI cI cJ cZ (a 1) (a 2) (a 3) (a 4) w9 o9 d9 n9 V9 O9 E9 hD9 v (bdp V E n v) bd bdp_len (by omega)) (cwV 3 hts gX4_adds_X0_burstDepth rfl rfl rfl (by decide +kernel) ⟨Nat.le_of_ble_eq_true rfl, Nat.le_of_ble_eq_true rfl⟩) hK (hP.sub [1, 2, 3, 4] rfl) rfl rfl rfl hl.1 rfl (Nat.le_of_ble_eq_true rfl) dX4_adds_109 ⟨Nat.le_of_ble_eq_true rfl, Nat.le_of_ble_eq_true rfl⟩ ?_
        refine m_Vv (As := [.long (lN (be8 v)), .int (nI (bdp V E n v)), .int (nI (bbd V9 n9 v (bdp V E n v) bd))]) (rest := []) (ci := 0) (q0 := 0) (wr := [(a 0, .inr (3, [.ref (a 1), .ref (a 5), .ref (a 9), .ref (a 13), .long (lN (be8 v)), .int (nI (bd))])), (a 5, .inr (1, [.ref (a 6), .ref (a 7), .ref (a 8), .int (nI (hn9))])), (a 6, .inl (cJ, 12, .inr (.inl hw9))), (a 7, .inl (cI, 12, .inl ho9)), (a 8, .inl (cI, 12, .inl hd9)), (a 9, .inr (2, [.ref (a 10), .ref (a 11), .ref (a 12), .int (nI (sn))])), (a 10, .inl (cI, 8, .inl pl)), (a 11, .inl (cI, 8, .inl le)), (a 12, .inl (cZ, 8, .inl so)), (a 13, .inl (cI, 182, .inl ta))]) S (c_X0_reshape l dC dI cI cJ cZ (a 1) (a 2) (a 3) (a 4) w9 o9 d9 n9 V9 O9 E9 hD9 H.size v (bdp V E n v) (bbd V9 n9 v (bdp V E n v) bd) bdp_le (Nat.le_trans (bbd_le bdp_len) (by omega))) (cwV 3 hts gX4_adds_X0_reshape rfl rfl rfl (by decide +kernel) ⟨Nat.le_of_ble_eq_true rfl, Nat.le_of_ble_eq_true rfl⟩) hK hP hD hS hA [1, 2, 3, 4] [0, 5, 6, 7, 8, 9, 10, 11, 12, 13] (hP.sub [1, 2, 3, 4] rfl) (hD.sub [1, 2, 3, 4] (by decide) rfl) rfl rfl (by decide) (by decide) rfl rfl rfl hl.1 rfl (Nat.le_of_ble_eq_true rfl) dX4_adds_112 ⟨Nat.le_of_ble_eq_true rfl, Nat.le_of_ble_eq_true rfl⟩ (fun u_112 H locs hu_112 hP hD hS => ?_)
        obtain ⟨d8, rfl⟩ : ∃ z, z = u_112 := ⟨_, rfl⟩
        have hP := hP.sub (ws' := wb a cI cJ cZ w9 o9 d8 n9 hw9 ho9 hd9 hn9 pl le so sn ta v bd) [0, 10, 11, 12, 13, 1, 2, 3, 4, 5, 6, 7, 8, 9] rfl
        have hD := hD.sub (ws' := wb a cI cJ cZ w9 o9 d8 n9 hw9 ho9 hd9 hn9 pl le so sn ta v bd) [0, 10, 11, 12, 13, 1, 2, 3, 4, 5, 6, 7, 8, 9] (by decide) rfl
        have hP : va_P (dC, dI) vwCl (wb a cI cJ cZ w9 o9 d8 n9 hw9 ho9 hd9 hn9 pl le so sn ta v bd) H := hP
        have hD : va_D A (wb a cI cJ cZ w9 o9 d8 n9 hw9 ho9 hd9 hn9 pl le so sn ta v bd) := hD
        refine lv_iload_n hx hb dX4_adds_115 rfl (lv_at hl 1 rfl) ?_
        refine lv_iconst (v := nI (1)) hx hb dX4_adds_116 (by decide) ?_
        refine lv_iadd hx hb dX4_adds_117 ?_
        refine tpi (nI_add _ _) ?_
        rw [← hQQ]
        exact m_i (w9, o9, d8, n9, hw9, ho9, hd9, hn9) hx hb hr hlocks (Or.inr (Or.inr ⟨be8_n0 c_5, by omega, fun e => absurd e (by omega), rfl, ⟨V9, O9, E9, hrel9, hu_112⟩, hq1, hq2⟩)) hP hD hS dX4_adds_118
      · refine lv_aload_n hx hb dX4_adds_33 rfl (lv_at hl 1 rfl) ?_
        refine va_get (D := (dC, dI)) (ci := 3) (v := .ref (a 1)) (C := RX4) (T := TX4) (N := 6) hx hb hts hi4 hown hK hP 0 rfl rfl 0 (by decide) (hts (.fieldLink RX4 10 "BurstWords" "dictionary" "LBurstWords$Dictionary;") (by decide +kernel)) (fun _ h9 => h9) rfl dX4_adds_34 ?_
        refine c_Vi (As := []) (rest := []) (ci := 0) (q0 := 0) S (c_X0_size l dC dI cI cJ cZ (a 1) (a 2) (a 3) (a 4) w o d n V O E hDD ) (cwV 0 hts gX4_adds_X0_size rfl rfl rfl (by decide +kernel) ⟨Nat.le_of_ble_eq_true rfl, Nat.le_of_ble_eq_true rfl⟩) hK (hP.sub [1, 2, 3, 4] rfl) rfl rfl rfl hl.1 rfl (Nat.le_of_ble_eq_true rfl) dX4_adds_37 ⟨Nat.le_of_ble_eq_true rfl, Nat.le_of_ble_eq_true rfl⟩ ?_
        refine lv_bipush (v := nI (40)) hx hb dX4_adds_40 (by decide) ?_
        refine n_lt (tgt := 48) hx hb dX4_adds_42 (by decide) (by omega) (by omega) (fun c_42 => ?_) (fun c_42 => ?_)
        · have hbz : bof V O n v = 0 → n < 40 := fun _ => c_42
          refine lv_aload_n hx hb dX4_adds_48 rfl (lv_at hl 1 rfl) ?_
          refine va_get (D := (dC, dI)) (ci := 3) (v := .ref (a 1)) (C := RX4) (T := TX4) (N := 6) hx hb hts hi4 hown hK hP 0 rfl rfl 0 (by decide) (hts (.fieldLink RX4 10 "BurstWords" "dictionary" "LBurstWords$Dictionary;") (by decide +kernel)) (fun _ h9 => h9) rfl dX4_adds_49 ?_
          refine lv_aload_n hx hb dX4_adds_52 rfl (lv_at hl 1 rfl) ?_
          refine va_get (D := (dC, dI)) (ci := 3) (v := .long (lN (be8 v))) (C := RX4) (T := TX4) (N := 6) hx hb hts hi4 hown hK hP 0 rfl rfl 4 (by decide) (hts (.fieldLink RX4 36 "BurstWords" "word" "J") (by decide +kernel)) (fun _ h9 => h9) rfl dX4_adds_53 ?_
          refine c_Vi (As := [.long (lN (be8 v))]) (rest := []) (ci := 0) (q0 := 0) S (c_X0_depthOf l dC dI cI cJ cZ (a 1) (a 2) (a 3) (a 4) w o d n V O E hDD v) (cwV 1 hts gX4_adds_X0_depthOf rfl rfl rfl (by decide +kernel) ⟨Nat.le_of_ble_eq_true rfl, Nat.le_of_ble_eq_true rfl⟩) hK (hP.sub [1, 2, 3, 4] rfl) rfl rfl rfl hl.1 rfl (Nat.le_of_ble_eq_true rfl) dX4_adds_56 ⟨Nat.le_of_ble_eq_true rfl, Nat.le_of_ble_eq_true rfl⟩ ?_
          refine lv_istore_n (lv' := [(2, .int (nI (bdp V E n v))), (1, .int (nI (bof V O n v))), (0, .ref (a 0))]) hx hb dX4_adds_59 rfl hl (by decide) rfl (fun ls hl => ?_)
          refine lv_aload_n hx hb dX4_adds_60 rfl (lv_at hl 2 rfl) ?_
          refine va_get (D := (dC, dI)) (ci := 3) (v := .ref (a 5)) (C := RX4) (T := TX4) (N := 6) hx hb hts hi4 hown hK hP 0 rfl rfl 1 (by decide) (hts (.fieldLink RX4 19 "BurstWords" "history" "LBurstWords$History;") (by decide +kernel)) (fun _ h9 => h9) rfl dX4_adds_61 ?_
          refine lv_aload_n hx hb dX4_adds_64 rfl (lv_at hl 2 rfl) ?_
          refine va_get (D := (dC, dI)) (ci := 3) (v := .long (lN (be8 v))) (C := RX4) (T := TX4) (N := 6) hx hb hts hi4 hown hK hP 0 rfl rfl 4 (by decide) (hts (.fieldLink RX4 36 "BurstWords" "word" "J") (by decide +kernel)) (fun _ h9 => h9) rfl dX4_adds_65 ?_
          refine lv_iload_n hx hb dX4_adds_68 rfl (lv_at hl 1 rfl) ?_
          refine lv_iload_n hx hb dX4_adds_69 rfl (lv_at hl 0 rfl) ?_
          refine m_Vv (As := [.long (lN (be8 v)), .int (nI (bof V O n v)), .int (nI (bdp V E n v))]) (rest := []) (ci := 1) (q0 := 0) (wr := [(a 0, .inr (3, [.ref (a 1), .ref (a 5), .ref (a 9), .ref (a 13), .long (lN (be8 v)), .int (nI (bd))])), (a 1, .inr (0, [.ref (a 2), .ref (a 3), .ref (a 4), .int (nI (n))])), (a 2, .inl (cJ, 40, .inr (.inl w))), (a 3, .inl (cI, 40, .inl o)), (a 4, .inl (cI, 40, .inl d)), (a 9, .inr (2, [.ref (a 10), .ref (a 11), .ref (a 12), .int (nI (sn))])), (a 10, .inl (cI, 8, .inl pl)), (a 11, .inl (cI, 8, .inl le)), (a 12, .inl (cZ, 8, .inl so)), (a 13, .inl (cI, 182, .inl ta))]) S (c_X1_push l dC dI cI cJ cZ (a 5) (a 6) (a 7) (a 8) hw ho hd hn HW HO HE hHH s.heap.size v (bof V O n v) (bdp V E n v) hv (by omega) bdp_le) (cwV 3 hts gX4_adds_X1_push rfl rfl rfl (by decide +kernel) ⟨Nat.le_of_ble_eq_true rfl, Nat.le_of_ble_eq_true rfl⟩) hK hP hD hS hA [5, 6, 7, 8] [0, 1, 2, 3, 4, 9, 10, 11, 12, 13] (hP.sub [5, 6, 7, 8] rfl) (hD.sub [5, 6, 7, 8] (by decide) rfl) rfl rfl (by decide) (by decide) rfl rfl rfl hl.1 rfl (Nat.le_of_ble_eq_true rfl) dX4_adds_70 ⟨Nat.le_of_ble_eq_true rfl, Nat.le_of_ble_eq_true rfl⟩ (fun u_70 H locs hu_70 hP hD hS => ?_)
          obtain ⟨hw9, ho9, hd9, hn9⟩ := u_70
          have hP := hP.sub (ws' := wb a cI cJ cZ w o d n hw9 ho9 hd9 hn9 pl le so sn ta v bd) [0, 1, 2, 3, 4, 10, 11, 12, 13, 5, 6, 7, 8, 9] rfl
          have hD := hD.sub (ws' := wb a cI cJ cZ w o d n hw9 ho9 hd9 hn9 pl le so sn ta v bd) [0, 1, 2, 3, 4, 10, 11, 12, 13, 5, 6, 7, 8, 9] (by decide) rfl
          have hP : va_P (dC, dI) vwCl (wb a cI cJ cZ w o d n hw9 ho9 hd9 hn9 pl le so sn ta v bd) H := hP
          have hD : va_D A (wb a cI cJ cZ w o d n hw9 ho9 hd9 hn9 pl le so sn ta v bd) := hD
          obtain ⟨hq1, hq2⟩ := hu_70
          refine lv_aload_n hx hb dX4_adds_73 rfl (lv_at hl 2 rfl) ?_
          refine va_get (D := (dC, dI)) (ci := 3) (v := .ref (a 1)) (C := RX4) (T := TX4) (N := 6) hx hb hts hi4 hown hK hP 0 rfl rfl 0 (by decide) (hts (.fieldLink RX4 10 "BurstWords" "dictionary" "LBurstWords$Dictionary;") (by decide +kernel)) (fun _ h9 => h9) rfl dX4_adds_74 ?_
          refine lv_aload_n hx hb dX4_adds_77 rfl (lv_at hl 2 rfl) ?_
          refine va_get (D := (dC, dI)) (ci := 3) (v := .long (lN (be8 v))) (C := RX4) (T := TX4) (N := 6) hx hb hts hi4 hown hK hP 0 rfl rfl 4 (by decide) (hts (.fieldLink RX4 36 "BurstWords" "word" "J") (by decide +kernel)) (fun _ h9 => h9) rfl dX4_adds_78 ?_
          refine lv_iload_n hx hb dX4_adds_81 rfl (lv_at hl 1 rfl) ?_
          refine lv_iconst (v := nI (1)) hx hb dX4_adds_82 (by decide) ?_
          refine lv_iadd hx hb dX4_adds_83 ?_
          refine tpi (nI_add _ _) ?_
          refine m_Vv (As := [.long (lN (be8 v)), .int (nI ((bof V O n v) + 1))]) (rest := []) (ci := 0) (q0 := 0) (wr := [(a 0, .inr (3, [.ref (a 1), .ref (a 5), .ref (a 9), .ref (a 13), .long (lN (be8 v)), .int (nI (bd))])), (a 5, .inr (1, [.ref (a 6), .ref (a 7), .ref (a 8), .int (nI (hn9))])), (a 6, .inl (cJ, 12, .inr (.inl hw9))), (a 7, .inl (cI, 12, .inl ho9)), (a 8, .inl (cI, 12, .inl hd9)), (a 9, .inr (2, [.ref (a 10), .ref (a 11), .ref (a 12), .int (nI (sn))])), (a 10, .inl (cI, 8, .inl pl)), (a 11, .inl (cI, 8, .inl le)), (a 12, .inl (cZ, 8, .inl so)), (a 13, .inl (cI, 182, .inl ta))]) S (c_X0_put l dC dI cI cJ cZ (a 1) (a 2) (a 3) (a 4) w o d n V O E hDD H.size v ((bof V O n v) + 1) hv (Nat.pos_of_ne_zero (be8_n0 c_5)) (by omega) (hpa_ad hbz)) (cwV 2 hts gX4_adds_X0_put rfl rfl rfl (by decide +kernel) ⟨Nat.le_of_ble_eq_true rfl, Nat.le_of_ble_eq_true rfl⟩) hK hP hD hS hA [1, 2, 3, 4] [0, 5, 6, 7, 8, 9, 10, 11, 12, 13] (hP.sub [1, 2, 3, 4] rfl) (hD.sub [1, 2, 3, 4] (by decide) rfl) rfl rfl (by decide) (by decide) rfl rfl rfl hl.1 rfl (Nat.le_of_ble_eq_true rfl) dX4_adds_84 ⟨Nat.le_of_ble_eq_true rfl, Nat.le_of_ble_eq_true rfl⟩ (fun u_84 H locs hu_84 hP hD hS => ?_)
          obtain ⟨w9, o9, d9, n9⟩ := u_84
          have hP := hP.sub (ws' := wb a cI cJ cZ w9 o9 d9 n9 hw9 ho9 hd9 hn9 pl le so sn ta v bd) [0, 10, 11, 12, 13, 1, 2, 3, 4, 5, 6, 7, 8, 9] rfl
          have hD := hD.sub (ws' := wb a cI cJ cZ w9 o9 d9 n9 hw9 ho9 hd9 hn9 pl le so sn ta v bd) [0, 10, 11, 12, 13, 1, 2, 3, 4, 5, 6, 7, 8, 9] (by decide) rfl
          have hP : va_P (dC, dI) vwCl (wb a cI cJ cZ w9 o9 d9 n9 hw9 ho9 hd9 hn9 pl le so sn ta v bd) H := hP
          have hD : va_D A (wb a cI cJ cZ w9 o9 d9 n9 hw9 ho9 hd9 hn9 pl le so sn ta v bd) := hD
          obtain ⟨V9, O9, E9, hD9, hrel9⟩ := put_ex hu_84
          obtain ⟨hn40b, hkb⟩ := id hD9
          refine lv_aload_n hx hb dX4_adds_87 rfl (lv_at hl 2 rfl) ?_
          refine va_get (D := (dC, dI)) (ci := 3) (v := .ref (a 1)) (C := RX4) (T := TX4) (N := 6) hx hb hts hi4 hown hK hP 0 rfl rfl 0 (by decide) (hts (.fieldLink RX4 10 "BurstWords" "dictionary" "LBurstWords$Dictionary;") (by decide +kernel)) (fun _ h9 => h9) rfl dX4_adds_88 ?_
          refine lv_aload_n hx hb dX4_adds_91 rfl (lv_at hl 2 rfl) ?_
          refine va_get (D := (dC, dI)) (ci := 3) (v := .long (lN (be8 v))) (C := RX4) (T := TX4) (N := 6) hx hb hts hi4 hown hK hP 0 rfl rfl 4 (by decide) (hts (.fieldLink RX4 36 "BurstWords" "word" "J") (by decide +kernel)) (fun _ h9 => h9) rfl dX4_adds_92 ?_
          refine lv_iload_n hx hb dX4_adds_95 rfl (lv_at hl 0 rfl) ?_
          refine lv_aload_n hx hb dX4_adds_96 rfl (lv_at hl 2 rfl) ?_
          refine va_get (D := (dC, dI)) (ci := 3) (v := .ref (a 1)) (C := RX4) (T := TX4) (N := 6) hx hb hts hi4 hown hK hP 0 rfl rfl 0 (by decide) (hts (.fieldLink RX4 10 "BurstWords" "dictionary" "LBurstWords$Dictionary;") (by decide +kernel)) (fun _ h9 => h9) rfl dX4_adds_97 ?_
          refine lv_aload_n hx hb dX4_adds_100 rfl (lv_at hl 2 rfl) ?_
          refine va_get (D := (dC, dI)) (ci := 3) (v := .long (lN (be8 v))) (C := RX4) (T := TX4) (N := 6) hx hb hts hi4 hown hK hP 0 rfl rfl 4 (by decide) (hts (.fieldLink RX4 36 "BurstWords" "word" "J") (by decide +kernel)) (fun _ h9 => h9) rfl dX4_adds_101 ?_
          refine lv_iload_n hx hb dX4_adds_104 rfl (lv_at hl 0 rfl) ?_
          refine lv_aload_n hx hb dX4_adds_105 rfl (lv_at hl 2 rfl) ?_
          refine va_get (D := (dC, dI)) (ci := 3) (v := .int (nI (bd))) (C := RX4) (T := TX4) (N := 6) hx hb hts hi4 hown hK hP 0 rfl rfl 5 (by decide) (hts (.fieldLink RX4 40 "BurstWords" "bound" "I") (by decide +kernel)) (fun _ h9 => h9) rfl dX4_adds_106 ?_
          refine c_Vi (As := [.long (lN (be8 v)), .int (nI (bdp V E n v)), .int (nI (bd))]) (rest := [.int (nI (bdp V E n v)), .long (lN (be8 v)), .ref (a 1)]) (ci := 0) (q0 := 0) S (c_X0_burstDepth l dC dI cI cJ cZ (a 1) (a 2) (a 3) (a 4) w9 o9 d9 n9 V9 O9 E9 hD9 v (bdp V E n v) bd bdp_len (by omega)) (cwV 3 hts gX4_adds_X0_burstDepth rfl rfl rfl (by decide +kernel) ⟨Nat.le_of_ble_eq_true rfl, Nat.le_of_ble_eq_true rfl⟩) hK (hP.sub [1, 2, 3, 4] rfl) rfl rfl rfl hl.1 rfl (Nat.le_of_ble_eq_true rfl) dX4_adds_109 ⟨Nat.le_of_ble_eq_true rfl, Nat.le_of_ble_eq_true rfl⟩ ?_
          refine m_Vv (As := [.long (lN (be8 v)), .int (nI (bdp V E n v)), .int (nI (bbd V9 n9 v (bdp V E n v) bd))]) (rest := []) (ci := 0) (q0 := 0) (wr := [(a 0, .inr (3, [.ref (a 1), .ref (a 5), .ref (a 9), .ref (a 13), .long (lN (be8 v)), .int (nI (bd))])), (a 5, .inr (1, [.ref (a 6), .ref (a 7), .ref (a 8), .int (nI (hn9))])), (a 6, .inl (cJ, 12, .inr (.inl hw9))), (a 7, .inl (cI, 12, .inl ho9)), (a 8, .inl (cI, 12, .inl hd9)), (a 9, .inr (2, [.ref (a 10), .ref (a 11), .ref (a 12), .int (nI (sn))])), (a 10, .inl (cI, 8, .inl pl)), (a 11, .inl (cI, 8, .inl le)), (a 12, .inl (cZ, 8, .inl so)), (a 13, .inl (cI, 182, .inl ta))]) S (c_X0_reshape l dC dI cI cJ cZ (a 1) (a 2) (a 3) (a 4) w9 o9 d9 n9 V9 O9 E9 hD9 H.size v (bdp V E n v) (bbd V9 n9 v (bdp V E n v) bd) bdp_le (Nat.le_trans (bbd_le bdp_len) (by omega))) (cwV 3 hts gX4_adds_X0_reshape rfl rfl rfl (by decide +kernel) ⟨Nat.le_of_ble_eq_true rfl, Nat.le_of_ble_eq_true rfl⟩) hK hP hD hS hA [1, 2, 3, 4] [0, 5, 6, 7, 8, 9, 10, 11, 12, 13] (hP.sub [1, 2, 3, 4] rfl) (hD.sub [1, 2, 3, 4] (by decide) rfl) rfl rfl (by decide) (by decide) rfl rfl rfl hl.1 rfl (Nat.le_of_ble_eq_true rfl) dX4_adds_112 ⟨Nat.le_of_ble_eq_true rfl, Nat.le_of_ble_eq_true rfl⟩ (fun u_112 H locs hu_112 hP hD hS => ?_)
          obtain ⟨d8, rfl⟩ : ∃ z, z = u_112 := ⟨_, rfl⟩
          have hP := hP.sub (ws' := wb a cI cJ cZ w9 o9 d8 n9 hw9 ho9 hd9 hn9 pl le so sn ta v bd) [0, 10, 11, 12, 13, 1, 2, 3, 4, 5, 6, 7, 8, 9] rfl
          have hD := hD.sub (ws' := wb a cI cJ cZ w9 o9 d8 n9 hw9 ho9 hd9 hn9 pl le so sn ta v bd) [0, 10, 11, 12, 13, 1, 2, 3, 4, 5, 6, 7, 8, 9] (by decide) rfl
          have hP : va_P (dC, dI) vwCl (wb a cI cJ cZ w9 o9 d8 n9 hw9 ho9 hd9 hn9 pl le so sn ta v bd) H := hP
          have hD : va_D A (wb a cI cJ cZ w9 o9 d8 n9 hw9 ho9 hd9 hn9 pl le so sn ta v bd) := hD
          refine lv_iload_n hx hb dX4_adds_115 rfl (lv_at hl 1 rfl) ?_
          refine lv_iconst (v := nI (1)) hx hb dX4_adds_116 (by decide) ?_
          refine lv_iadd hx hb dX4_adds_117 ?_
          refine tpi (nI_add _ _) ?_
          rw [← hQQ]
          exact m_i (w9, o9, d8, n9, hw9, ho9, hd9, hn9) hx hb hr hlocks (Or.inr (Or.inr ⟨be8_n0 c_5, by omega, fun _ => c_42, rfl, ⟨V9, O9, E9, hrel9, hu_112⟩, hq1, hq2⟩)) hP hD hS dX4_adds_118
        · refine lv_bipush (v := (-3 : Int32)) hx hb dX4_adds_45 (by decide) ?_
          rw [← hQQ]
          exact m_i (w, o, d, n, hw, ho, hd, hn) hx hb hr hlocks (Or.inr (Or.inl ⟨be8_n0 c_5, Or.inr ⟨c_30, c_42⟩, rfl, rfl⟩)) hP hD hS dX4_adds_47
  · refine lv_iconst (v := (-1 : Int32)) hx hb dX4_adds_9 (by decide) ?_
    rw [← hQQ]
    exact m_i (w, o, d, n, hw, ho, hd, hn) hx hb hr hlocks (Or.inl ⟨be8_y0 hv.1 c_5, rfl, rfl⟩) hP hD hS dX4_adds_10
abbrev rm_X4_takes : Room := { frames := 6, cells := 0, slots := 0, locals := 142 }
set_option maxHeartbeats 4000000 in
set_option maxRecDepth 100000 in
theorem c_X4_takes (l : Launch) (dC : Nat → ClassId) (dI : Nat → Nat → Nat) (cI cJ cZ : ClassId) (a : Nat → Nat) (w : Nat → Int64) (o d : Nat → Int32) (n : Nat) (hw : Nat → Int64) (ho hd : Nat → Int32) (hn : Nat) (pl le so : Nat → Int32) (sn : Nat) (ta : Nat → Int32) (v bd : Nat) (V O E HW HO HE SA SL SI : Nat → Nat) (hDD : bDD w o d n V O E) (hHH : bHH hw ho hd hn HW HO HE) (hSS : bSS pl le so sn SA SL SI) (hv : bwf v) (hbd : 2 ≤ bd ∧ bd ≤ 8) (sz : Nat) : Met l yX4_takes wsX4_takes rm_X4_takes (mPc (dC, dI) (tysA cI cJ cZ) (wb a cI cJ cZ w o d n hw ho hd hn pl le so sn ta v bd) sz [.ref (a 0)]) (mQi (dC, dI) (fun (r : Int32) (u : (Nat → Int64) × (Nat → Int32) × (Nat → Int32) × (Nat) × (Nat → Int64) × (Nat → Int32) × (Nat → Int32) × (Nat)) => (bof V O n v = 0 ∧ r = -2 ∧ u = (w, o, d, n, hw, ho, hd, hn)) ∨ (0 < bof V O n v ∧ r = nI (bof V O n v - 1) ∧ (∃ V9 O9 E9, bPut V O E n v (bof V O n v - 1) V9 O9 E9 u.2.2.2.1 ∧ bDD u.1 u.2.1 u.2.2.1 u.2.2.2.1 V9 O9 (brs V9 E9 v (bdp V E n v) (bmd V9 u.2.2.2.1 v (bd / 2) (bdp V E n v)))) ∧ u.2.2.2.2.2.2.2 = bhn hn ∧ bHH u.2.2.2.2.1 u.2.2.2.2.2.1 u.2.2.2.2.2.2.1 u.2.2.2.2.2.2.2 (bhp HW hn v) (bhp HO hn (bof V O n v)) (bhp HE hn (bdp V E n v)))) (fun u => wb a cI cJ cZ u.1 u.2.1 u.2.2.1 u.2.2.2.1 u.2.2.2.2.1 u.2.2.2.2.2.1 u.2.2.2.2.2.2.1 u.2.2.2.2.2.2.2 pl le so sn ta v bd) (va_A (wb a cI cJ cZ w o d n hw ho hd hn pl le so sn ta v bd) sz)) 0 0 (va_A (wb a cI cJ cZ w o d n hw ho hd hn pl le so sn ta v bd) sz) := by
  refine met_m (cc := cX4_takes) (maxL := 3) (ret := (some .int)) (own := RX4) (Qc := fun A => mQi (dC, dI) (fun (r : Int32) (u : (Nat → Int64) × (Nat → Int32) × (Nat → Int32) × (Nat) × (Nat → Int64) × (Nat → Int32) × (Nat → Int32) × (Nat)) => (bof V O n v = 0 ∧ r = -2 ∧ u = (w, o, d, n, hw, ho, hd, hn)) ∨ (0 < bof V O n v ∧ r = nI (bof V O n v - 1) ∧ (∃ V9 O9 E9, bPut V O E n v (bof V O n v - 1) V9 O9 E9 u.2.2.2.1 ∧ bDD u.1 u.2.1 u.2.2.1 u.2.2.2.1 V9 O9 (brs V9 E9 v (bdp V E n v) (bmd V9 u.2.2.2.1 v (bd / 2) (bdp V E n v)))) ∧ u.2.2.2.2.2.2.2 = bhn hn ∧ bHH u.2.2.2.2.1 u.2.2.2.2.2.1 u.2.2.2.2.2.2.1 u.2.2.2.2.2.2.2 (bhp HW hn v) (bhp HO hn (bof V O n v)) (bhp HE hn (bdp V E n v)))) (fun u => wb a cI cJ cZ u.1 u.2.1 u.2.2.1 u.2.2.2.1 u.2.2.2.2.1 u.2.2.2.2.2.1 u.2.2.2.2.2.2.1 u.2.2.2.2.2.2.2 pl le so sn ta v bd) A) (by decide) rfl rfl (Nat.le_of_ble_eq_true rfl) ?_
  intro p e s m below meth c S hr hlocks hname hK A hA hP hD hS ls hl
  obtain ⟨hx, hb, hml, hown, hts⟩ := id S
  generalize hQQ : MQ below (mQi (dC, dI) (fun (r : Int32) (u : (Nat → Int64) × (Nat → Int32) × (Nat → Int32) × (Nat) × (Nat → Int64) × (Nat → Int32) × (Nat → Int32) × (Nat)) => (bof V O n v = 0 ∧ r = -2 ∧ u = (w, o, d, n, hw, ho, hd, hn)) ∨ (0 < bof V O n v ∧ r = nI (bof V O n v - 1) ∧ (∃ V9 O9 E9, bPut V O E n v (bof V O n v - 1) V9 O9 E9 u.2.2.2.1 ∧ bDD u.1 u.2.1 u.2.2.1 u.2.2.2.1 V9 O9 (brs V9 E9 v (bdp V E n v) (bmd V9 u.2.2.2.1 v (bd / 2) (bdp V E n v)))) ∧ u.2.2.2.2.2.2.2 = bhn hn ∧ bHH u.2.2.2.2.1 u.2.2.2.2.2.1 u.2.2.2.2.2.2.1 u.2.2.2.2.2.2.2 (bhp HW hn v) (bhp HO hn (bof V O n v)) (bhp HE hn (bdp V E n v)))) (fun u => wb a cI cJ cZ u.1 u.2.1 u.2.2.1 u.2.2.2.1 u.2.2.2.2.1 u.2.2.2.2.2.1 u.2.2.2.2.2.2.1 u.2.2.2.2.2.2.2 pl le so sn ta v bd) A) ([.ref (a 0)] : List Value).toArray s 0 0 A = QQ
  have hl : lv_has ls 3 [(0, .ref (a 0))] := hl
  have hi4 : ∀ w ∈ wsX40, w ∈ wsX4_takes := fun _ h => List.mem_cons_of_mem _ (List.mem_append_left _ (List.mem_append_left _ (List.mem_append_right _ h)))
  have hi0 : ∀ w ∈ wsX00, w ∈ wsX4_takes := fun _ h => List.mem_cons_of_mem _ (List.mem_append_left _ (List.mem_append_right _ h))
  have hi1 : ∀ w ∈ wsX10, w ∈ wsX4_takes := fun _ h => List.mem_cons_of_mem _ (List.mem_append_right _ h)
  obtain ⟨hn40, hk⟩ := id hDD; obtain ⟨hh12, hkh⟩ := id hHH; obtain ⟨hs8, hks⟩ := id hSS
  have hlv := bln_le v
  have hbo31 := bof_31 (v := v) hDD
  have hbo99 := bof_99 (v := v) hDD
  refine lv_aload_n hx hb dX4_takes_0 rfl (lv_at hl 0 rfl) ?_
  refine va_get (D := (dC, dI)) (ci := 3) (v := .ref (a 1)) (C := RX4) (T := TX4) (N := 6) hx hb hts hi4 hown hK hP 0 rfl rfl 0 (by decide) (hts (.fieldLink RX4 10 "BurstWords" "dictionary" "LBurstWords$Dictionary;") (by decide +kernel)) (fun _ h9 => h9) rfl dX4_takes_1 ?_
  refine lv_aload_n hx hb dX4_takes_4 rfl (lv_at hl 0 rfl) ?_
  refine va_get (D := (dC, dI)) (ci := 3) (v := .long (lN (be8 v))) (C := RX4) (T := TX4) (N := 6) hx hb hts hi4 hown hK hP 0 rfl rfl 4 (by decide) (hts (.fieldLink RX4 36 "BurstWords" "word" "J") (by decide +kernel)) (fun _ h9 => h9) rfl dX4_takes_5 ?_
  refine c_Vi (As := [.long (lN (be8 v))]) (rest := []) (ci := 0) (q0 := 0) S (c_X0_oftenOf l dC dI cI cJ cZ (a 1) (a 2) (a 3) (a 4) w o d n V O E hDD v hv.1) (cwV 1 hts gX4_takes_X0_oftenOf rfl rfl rfl (by decide +kernel) ⟨Nat.le_of_ble_eq_true rfl, Nat.le_of_ble_eq_true rfl⟩) hK (hP.sub [1, 2, 3, 4] rfl) rfl rfl rfl hl.1 rfl (Nat.le_of_ble_eq_true rfl) dX4_takes_8 ⟨Nat.le_of_ble_eq_true rfl, Nat.le_of_ble_eq_true rfl⟩ ?_
  refine lv_istore_n (lv' := [(1, .int (nI (bof V O n v))), (0, .ref (a 0))]) hx hb dX4_takes_11 rfl hl (by decide) rfl (fun ls hl => ?_)
  refine lv_iload_n hx hb dX4_takes_12 rfl (lv_at hl 0 rfl) ?_
  refine z_ne (tgt := 19) hx hb dX4_takes_13 (by decide) hbo31 (fun c_13 => ?_) (fun c_13 => ?_)
  · refine lv_aload_n hx hb dX4_takes_19 rfl (lv_at hl 1 rfl) ?_
    refine va_get (D := (dC, dI)) (ci := 3) (v := .ref (a 1)) (C := RX4) (T := TX4) (N := 6) hx hb hts hi4 hown hK hP 0 rfl rfl 0 (by decide) (hts (.fieldLink RX4 10 "BurstWords" "dictionary" "LBurstWords$Dictionary;") (by decide +kernel)) (fun _ h9 => h9) rfl dX4_takes_20 ?_
    refine lv_aload_n hx hb dX4_takes_23 rfl (lv_at hl 1 rfl) ?_
    refine va_get (D := (dC, dI)) (ci := 3) (v := .long (lN (be8 v))) (C := RX4) (T := TX4) (N := 6) hx hb hts hi4 hown hK hP 0 rfl rfl 4 (by decide) (hts (.fieldLink RX4 36 "BurstWords" "word" "J") (by decide +kernel)) (fun _ h9 => h9) rfl dX4_takes_24 ?_
    refine c_Vi (As := [.long (lN (be8 v))]) (rest := []) (ci := 0) (q0 := 0) S (c_X0_depthOf l dC dI cI cJ cZ (a 1) (a 2) (a 3) (a 4) w o d n V O E hDD v) (cwV 1 hts gX4_takes_X0_depthOf rfl rfl rfl (by decide +kernel) ⟨Nat.le_of_ble_eq_true rfl, Nat.le_of_ble_eq_true rfl⟩) hK (hP.sub [1, 2, 3, 4] rfl) rfl rfl rfl hl.1 rfl (Nat.le_of_ble_eq_true rfl) dX4_takes_27 ⟨Nat.le_of_ble_eq_true rfl, Nat.le_of_ble_eq_true rfl⟩ ?_
    refine lv_istore_n (lv' := [(2, .int (nI (bdp V E n v))), (1, .int (nI (bof V O n v))), (0, .ref (a 0))]) hx hb dX4_takes_30 rfl hl (by decide) rfl (fun ls hl => ?_)
    refine lv_aload_n hx hb dX4_takes_31 rfl (lv_at hl 2 rfl) ?_
    refine va_get (D := (dC, dI)) (ci := 3) (v := .ref (a 5)) (C := RX4) (T := TX4) (N := 6) hx hb hts hi4 hown hK hP 0 rfl rfl 1 (by decide) (hts (.fieldLink RX4 19 "BurstWords" "history" "LBurstWords$History;") (by decide +kernel)) (fun _ h9 => h9) rfl dX4_takes_32 ?_
    refine lv_aload_n hx hb dX4_takes_35 rfl (lv_at hl 2 rfl) ?_
    refine va_get (D := (dC, dI)) (ci := 3) (v := .long (lN (be8 v))) (C := RX4) (T := TX4) (N := 6) hx hb hts hi4 hown hK hP 0 rfl rfl 4 (by decide) (hts (.fieldLink RX4 36 "BurstWords" "word" "J") (by decide +kernel)) (fun _ h9 => h9) rfl dX4_takes_36 ?_
    refine lv_iload_n hx hb dX4_takes_39 rfl (lv_at hl 1 rfl) ?_
    refine lv_iload_n hx hb dX4_takes_40 rfl (lv_at hl 0 rfl) ?_
    refine m_Vv (As := [.long (lN (be8 v)), .int (nI (bof V O n v)), .int (nI (bdp V E n v))]) (rest := []) (ci := 1) (q0 := 0) (wr := [(a 0, .inr (3, [.ref (a 1), .ref (a 5), .ref (a 9), .ref (a 13), .long (lN (be8 v)), .int (nI (bd))])), (a 1, .inr (0, [.ref (a 2), .ref (a 3), .ref (a 4), .int (nI (n))])), (a 2, .inl (cJ, 40, .inr (.inl w))), (a 3, .inl (cI, 40, .inl o)), (a 4, .inl (cI, 40, .inl d)), (a 9, .inr (2, [.ref (a 10), .ref (a 11), .ref (a 12), .int (nI (sn))])), (a 10, .inl (cI, 8, .inl pl)), (a 11, .inl (cI, 8, .inl le)), (a 12, .inl (cZ, 8, .inl so)), (a 13, .inl (cI, 182, .inl ta))]) S (c_X1_push l dC dI cI cJ cZ (a 5) (a 6) (a 7) (a 8) hw ho hd hn HW HO HE hHH s.heap.size v (bof V O n v) (bdp V E n v) hv hbo99 bdp_le) (cwV 3 hts gX4_takes_X1_push rfl rfl rfl (by decide +kernel) ⟨Nat.le_of_ble_eq_true rfl, Nat.le_of_ble_eq_true rfl⟩) hK hP hD hS hA [5, 6, 7, 8] [0, 1, 2, 3, 4, 9, 10, 11, 12, 13] (hP.sub [5, 6, 7, 8] rfl) (hD.sub [5, 6, 7, 8] (by decide) rfl) rfl rfl (by decide) (by decide) rfl rfl rfl hl.1 rfl (Nat.le_of_ble_eq_true rfl) dX4_takes_41 ⟨Nat.le_of_ble_eq_true rfl, Nat.le_of_ble_eq_true rfl⟩ (fun u_41 H locs hu_41 hP hD hS => ?_)
    obtain ⟨hw9, ho9, hd9, hn9⟩ := u_41
    have hP := hP.sub (ws' := wb a cI cJ cZ w o d n hw9 ho9 hd9 hn9 pl le so sn ta v bd) [0, 1, 2, 3, 4, 10, 11, 12, 13, 5, 6, 7, 8, 9] rfl
    have hD := hD.sub (ws' := wb a cI cJ cZ w o d n hw9 ho9 hd9 hn9 pl le so sn ta v bd) [0, 1, 2, 3, 4, 10, 11, 12, 13, 5, 6, 7, 8, 9] (by decide) rfl
    have hP : va_P (dC, dI) vwCl (wb a cI cJ cZ w o d n hw9 ho9 hd9 hn9 pl le so sn ta v bd) H := hP
    have hD : va_D A (wb a cI cJ cZ w o d n hw9 ho9 hd9 hn9 pl le so sn ta v bd) := hD
    obtain ⟨hq1, hq2⟩ := hu_41
    refine lv_aload_n hx hb dX4_takes_44 rfl (lv_at hl 2 rfl) ?_
    refine va_get (D := (dC, dI)) (ci := 3) (v := .ref (a 1)) (C := RX4) (T := TX4) (N := 6) hx hb hts hi4 hown hK hP 0 rfl rfl 0 (by decide) (hts (.fieldLink RX4 10 "BurstWords" "dictionary" "LBurstWords$Dictionary;") (by decide +kernel)) (fun _ h9 => h9) rfl dX4_takes_45 ?_
    refine lv_aload_n hx hb dX4_takes_48 rfl (lv_at hl 2 rfl) ?_
    refine va_get (D := (dC, dI)) (ci := 3) (v := .long (lN (be8 v))) (C := RX4) (T := TX4) (N := 6) hx hb hts hi4 hown hK hP 0 rfl rfl 4 (by decide) (hts (.fieldLink RX4 36 "BurstWords" "word" "J") (by decide +kernel)) (fun _ h9 => h9) rfl dX4_takes_49 ?_
    refine lv_iload_n hx hb dX4_takes_52 rfl (lv_at hl 1 rfl) ?_
    refine lv_iconst (v := nI (1)) hx hb dX4_takes_53 (by decide) ?_
    refine lv_isub hx hb dX4_takes_54 ?_
    refine tpi (pk_sub (by omega)) ?_
    refine m_Vv (As := [.long (lN (be8 v)), .int (nI ((bof V O n v) - 1))]) (rest := []) (ci := 0) (q0 := 0) (wr := [(a 0, .inr (3, [.ref (a 1), .ref (a 5), .ref (a 9), .ref (a 13), .long (lN (be8 v)), .int (nI (bd))])), (a 5, .inr (1, [.ref (a 6), .ref (a 7), .ref (a 8), .int (nI (hn9))])), (a 6, .inl (cJ, 12, .inr (.inl hw9))), (a 7, .inl (cI, 12, .inl ho9)), (a 8, .inl (cI, 12, .inl hd9)), (a 9, .inr (2, [.ref (a 10), .ref (a 11), .ref (a 12), .int (nI (sn))])), (a 10, .inl (cI, 8, .inl pl)), (a 11, .inl (cI, 8, .inl le)), (a 12, .inl (cZ, 8, .inl so)), (a 13, .inl (cI, 182, .inl ta))]) S (c_X0_put l dC dI cI cJ cZ (a 1) (a 2) (a 3) (a 4) w o d n V O E hDD H.size v ((bof V O n v) - 1) hv (bof_v0 hDD c_13) (by omega) (fun h => absurd (bof_th c_13) h)) (cwV 2 hts gX4_takes_X0_put rfl rfl rfl (by decide +kernel) ⟨Nat.le_of_ble_eq_true rfl, Nat.le_of_ble_eq_true rfl⟩) hK hP hD hS hA [1, 2, 3, 4] [0, 5, 6, 7, 8, 9, 10, 11, 12, 13] (hP.sub [1, 2, 3, 4] rfl) (hD.sub [1, 2, 3, 4] (by decide) rfl) rfl rfl (by decide) (by decide) rfl rfl rfl hl.1 rfl (Nat.le_of_ble_eq_true rfl) dX4_takes_55 ⟨Nat.le_of_ble_eq_true rfl, Nat.le_of_ble_eq_true rfl⟩ (fun u_55 H locs hu_55 hP hD hS => ?_)
    obtain ⟨w9, o9, d9, n9⟩ := u_55
    have hP := hP.sub (ws' := wb a cI cJ cZ w9 o9 d9 n9 hw9 ho9 hd9 hn9 pl le so sn ta v bd) [0, 10, 11, 12, 13, 1, 2, 3, 4, 5, 6, 7, 8, 9] rfl
    have hD := hD.sub (ws' := wb a cI cJ cZ w9 o9 d9 n9 hw9 ho9 hd9 hn9 pl le so sn ta v bd) [0, 10, 11, 12, 13, 1, 2, 3, 4, 5, 6, 7, 8, 9] (by decide) rfl
    have hP : va_P (dC, dI) vwCl (wb a cI cJ cZ w9 o9 d9 n9 hw9 ho9 hd9 hn9 pl le so sn ta v bd) H := hP
    have hD : va_D A (wb a cI cJ cZ w9 o9 d9 n9 hw9 ho9 hd9 hn9 pl le so sn ta v bd) := hD
    obtain ⟨V9, O9, E9, hD9, hrel9⟩ := put_ex hu_55
    obtain ⟨hn40b, hkb⟩ := id hD9
    refine lv_aload_n hx hb dX4_takes_58 rfl (lv_at hl 2 rfl) ?_
    refine va_get (D := (dC, dI)) (ci := 3) (v := .ref (a 1)) (C := RX4) (T := TX4) (N := 6) hx hb hts hi4 hown hK hP 0 rfl rfl 0 (by decide) (hts (.fieldLink RX4 10 "BurstWords" "dictionary" "LBurstWords$Dictionary;") (by decide +kernel)) (fun _ h9 => h9) rfl dX4_takes_59 ?_
    refine lv_aload_n hx hb dX4_takes_62 rfl (lv_at hl 2 rfl) ?_
    refine va_get (D := (dC, dI)) (ci := 3) (v := .long (lN (be8 v))) (C := RX4) (T := TX4) (N := 6) hx hb hts hi4 hown hK hP 0 rfl rfl 4 (by decide) (hts (.fieldLink RX4 36 "BurstWords" "word" "J") (by decide +kernel)) (fun _ h9 => h9) rfl dX4_takes_63 ?_
    refine lv_iload_n hx hb dX4_takes_66 rfl (lv_at hl 0 rfl) ?_
    refine lv_aload_n hx hb dX4_takes_67 rfl (lv_at hl 2 rfl) ?_
    refine va_get (D := (dC, dI)) (ci := 3) (v := .ref (a 1)) (C := RX4) (T := TX4) (N := 6) hx hb hts hi4 hown hK hP 0 rfl rfl 0 (by decide) (hts (.fieldLink RX4 10 "BurstWords" "dictionary" "LBurstWords$Dictionary;") (by decide +kernel)) (fun _ h9 => h9) rfl dX4_takes_68 ?_
    refine lv_aload_n hx hb dX4_takes_71 rfl (lv_at hl 2 rfl) ?_
    refine va_get (D := (dC, dI)) (ci := 3) (v := .long (lN (be8 v))) (C := RX4) (T := TX4) (N := 6) hx hb hts hi4 hown hK hP 0 rfl rfl 4 (by decide) (hts (.fieldLink RX4 36 "BurstWords" "word" "J") (by decide +kernel)) (fun _ h9 => h9) rfl dX4_takes_72 ?_
    refine lv_iload_n hx hb dX4_takes_75 rfl (lv_at hl 0 rfl) ?_
    refine lv_aload_n hx hb dX4_takes_76 rfl (lv_at hl 2 rfl) ?_
    refine va_get (D := (dC, dI)) (ci := 3) (v := .int (nI (bd))) (C := RX4) (T := TX4) (N := 6) hx hb hts hi4 hown hK hP 0 rfl rfl 5 (by decide) (hts (.fieldLink RX4 40 "BurstWords" "bound" "I") (by decide +kernel)) (fun _ h9 => h9) rfl dX4_takes_77 ?_
    refine lv_iconst (v := nI (2)) hx hb dX4_takes_80 (by decide) ?_
    refine lv_idiv hx hb dX4_takes_81 (by decide) ?_
    refine tpi (pk_div (by omega) (by decide) (by decide)) ?_
    refine c_Vi (As := [.long (lN (be8 v)), .int (nI (bdp V E n v)), .int (nI (bd / 2))]) (rest := [.int (nI (bdp V E n v)), .long (lN (be8 v)), .ref (a 1)]) (ci := 0) (q0 := 0) S (c_X0_mergedDepth l dC dI cI cJ cZ (a 1) (a 2) (a 3) (a 4) w9 o9 d9 n9 V9 O9 E9 hD9 v (bdp V E n v) (bd / 2) bdp_le (by omega)) (cwV 3 hts gX4_takes_X0_mergedDepth rfl rfl rfl (by decide +kernel) ⟨Nat.le_of_ble_eq_true rfl, Nat.le_of_ble_eq_true rfl⟩) hK (hP.sub [1, 2, 3, 4] rfl) rfl rfl rfl hl.1 rfl (Nat.le_of_ble_eq_true rfl) dX4_takes_82 ⟨Nat.le_of_ble_eq_true rfl, Nat.le_of_ble_eq_true rfl⟩ ?_
    refine m_Vv (As := [.long (lN (be8 v)), .int (nI (bdp V E n v)), .int (nI (bmd V9 n9 v (bd / 2) (bdp V E n v)))]) (rest := []) (ci := 0) (q0 := 0) (wr := [(a 0, .inr (3, [.ref (a 1), .ref (a 5), .ref (a 9), .ref (a 13), .long (lN (be8 v)), .int (nI (bd))])), (a 5, .inr (1, [.ref (a 6), .ref (a 7), .ref (a 8), .int (nI (hn9))])), (a 6, .inl (cJ, 12, .inr (.inl hw9))), (a 7, .inl (cI, 12, .inl ho9)), (a 8, .inl (cI, 12, .inl hd9)), (a 9, .inr (2, [.ref (a 10), .ref (a 11), .ref (a 12), .int (nI (sn))])), (a 10, .inl (cI, 8, .inl pl)), (a 11, .inl (cI, 8, .inl le)), (a 12, .inl (cZ, 8, .inl so)), (a 13, .inl (cI, 182, .inl ta))]) S (c_X0_reshape l dC dI cI cJ cZ (a 1) (a 2) (a 3) (a 4) w9 o9 d9 n9 V9 O9 E9 hD9 H.size v (bdp V E n v) (bmd V9 n9 v (bd / 2) (bdp V E n v)) bdp_le (Nat.le_trans (bmd_le _ _ _ _ _) bdp_le)) (cwV 3 hts gX4_takes_X0_reshape rfl rfl rfl (by decide +kernel) ⟨Nat.le_of_ble_eq_true rfl, Nat.le_of_ble_eq_true rfl⟩) hK hP hD hS hA [1, 2, 3, 4] [0, 5, 6, 7, 8, 9, 10, 11, 12, 13] (hP.sub [1, 2, 3, 4] rfl) (hD.sub [1, 2, 3, 4] (by decide) rfl) rfl rfl (by decide) (by decide) rfl rfl rfl hl.1 rfl (Nat.le_of_ble_eq_true rfl) dX4_takes_85 ⟨Nat.le_of_ble_eq_true rfl, Nat.le_of_ble_eq_true rfl⟩ (fun u_85 H locs hu_85 hP hD hS => ?_)
    obtain ⟨d8, rfl⟩ : ∃ z, z = u_85 := ⟨_, rfl⟩
    have hP := hP.sub (ws' := wb a cI cJ cZ w9 o9 d8 n9 hw9 ho9 hd9 hn9 pl le so sn ta v bd) [0, 10, 11, 12, 13, 1, 2, 3, 4, 5, 6, 7, 8, 9] rfl
    have hD := hD.sub (ws' := wb a cI cJ cZ w9 o9 d8 n9 hw9 ho9 hd9 hn9 pl le so sn ta v bd) [0, 10, 11, 12, 13, 1, 2, 3, 4, 5, 6, 7, 8, 9] (by decide) rfl
    have hP : va_P (dC, dI) vwCl (wb a cI cJ cZ w9 o9 d8 n9 hw9 ho9 hd9 hn9 pl le so sn ta v bd) H := hP
    have hD : va_D A (wb a cI cJ cZ w9 o9 d8 n9 hw9 ho9 hd9 hn9 pl le so sn ta v bd) := hD
    refine lv_iload_n hx hb dX4_takes_88 rfl (lv_at hl 1 rfl) ?_
    refine lv_iconst (v := nI (1)) hx hb dX4_takes_89 (by decide) ?_
    refine lv_isub hx hb dX4_takes_90 ?_
    refine tpi (pk_sub (by omega)) ?_
    rw [← hQQ]
    exact m_i (w9, o9, d8, n9, hw9, ho9, hd9, hn9) hx hb hr hlocks (Or.inr ⟨c_13, rfl, ⟨V9, O9, E9, hrel9, hu_85⟩, hq1, hq2⟩) hP hD hS dX4_takes_91
  · refine lv_bipush (v := (-2 : Int32)) hx hb dX4_takes_16 (by decide) ?_
    rw [← hQQ]
    exact m_i (w, o, d, n, hw, ho, hd, hn) hx hb hr hlocks (Or.inl ⟨c_13, rfl, rfl⟩) hP hD hS dX4_takes_18
abbrev rm_X4_undo : Room := { frames := 6, cells := 0, slots := 0, locals := 142 }
set_option maxHeartbeats 4000000 in
set_option maxRecDepth 100000 in
theorem c_X4_undo (l : Launch) (dC : Nat → ClassId) (dI : Nat → Nat → Nat) (cI cJ cZ : ClassId) (a : Nat → Nat) (w : Nat → Int64) (o d : Nat → Int32) (n : Nat) (hw : Nat → Int64) (ho hd : Nat → Int32) (hn : Nat) (pl le so : Nat → Int32) (sn : Nat) (ta : Nat → Int32) (v bd : Nat) (V O E HW HO HE SA SL SI : Nat → Nat) (hDD : bDD w o d n V O E) (hHH : bHH hw ho hd hn HW HO HE) (hSS : bSS pl le so sn SA SL SI) (hv : bwf v) (hbd : 2 ≤ bd ∧ bd ≤ 8) (sz : Nat) (hu0 : 0 < hn → 0 < (HW (hn - 1))) (hupa : 0 < hn → ¬ bTh V n (HW (hn - 1)) → 0 < HO (hn - 1) ∧ n < 40) : Met l yX4_undo wsX4_undo rm_X4_undo (mPc (dC, dI) (tysA cI cJ cZ) (wb a cI cJ cZ w o d n hw ho hd hn pl le so sn ta v bd) sz [.ref (a 0)]) (mQi (dC, dI) (fun (r : Int32) (u : (Nat → Int64) × (Nat → Int32) × (Nat → Int32) × (Nat) × (Nat)) => (hn = 0 ∧ r = -2 ∧ u = (w, o, d, n, hn)) ∨ (0 < hn ∧ r = nI (hn - 1) ∧ u.2.2.2.2 = hn - 1 ∧ ∃ V9 O9 E9, bPut V O E n (HW (hn - 1)) (HO (hn - 1)) V9 O9 E9 u.2.2.2.1 ∧ bDD u.1 u.2.1 u.2.2.1 u.2.2.2.1 V9 O9 (brs V9 E9 (HW (hn - 1)) (bdp V E n (HW (hn - 1))) (HE (hn - 1))))) (fun u => wb a cI cJ cZ u.1 u.2.1 u.2.2.1 u.2.2.2.1 hw ho hd u.2.2.2.2 pl le so sn ta v bd) (va_A (wb a cI cJ cZ w o d n hw ho hd hn pl le so sn ta v bd) sz)) 0 0 (va_A (wb a cI cJ cZ w o d n hw ho hd hn pl le so sn ta v bd) sz) := by
  refine met_m (cc := cX4_undo) (maxL := 4) (ret := (some .int)) (own := RX4) (Qc := fun A => mQi (dC, dI) (fun (r : Int32) (u : (Nat → Int64) × (Nat → Int32) × (Nat → Int32) × (Nat) × (Nat)) => (hn = 0 ∧ r = -2 ∧ u = (w, o, d, n, hn)) ∨ (0 < hn ∧ r = nI (hn - 1) ∧ u.2.2.2.2 = hn - 1 ∧ ∃ V9 O9 E9, bPut V O E n (HW (hn - 1)) (HO (hn - 1)) V9 O9 E9 u.2.2.2.1 ∧ bDD u.1 u.2.1 u.2.2.1 u.2.2.2.1 V9 O9 (brs V9 E9 (HW (hn - 1)) (bdp V E n (HW (hn - 1))) (HE (hn - 1))))) (fun u => wb a cI cJ cZ u.1 u.2.1 u.2.2.1 u.2.2.2.1 hw ho hd u.2.2.2.2 pl le so sn ta v bd) A) (by decide) rfl rfl (Nat.le_of_ble_eq_true rfl) ?_
  intro p e s m below meth c S hr hlocks hname hK A hA hP hD hS ls hl
  obtain ⟨hx, hb, hml, hown, hts⟩ := id S
  generalize hQQ : MQ below (mQi (dC, dI) (fun (r : Int32) (u : (Nat → Int64) × (Nat → Int32) × (Nat → Int32) × (Nat) × (Nat)) => (hn = 0 ∧ r = -2 ∧ u = (w, o, d, n, hn)) ∨ (0 < hn ∧ r = nI (hn - 1) ∧ u.2.2.2.2 = hn - 1 ∧ ∃ V9 O9 E9, bPut V O E n (HW (hn - 1)) (HO (hn - 1)) V9 O9 E9 u.2.2.2.1 ∧ bDD u.1 u.2.1 u.2.2.1 u.2.2.2.1 V9 O9 (brs V9 E9 (HW (hn - 1)) (bdp V E n (HW (hn - 1))) (HE (hn - 1))))) (fun u => wb a cI cJ cZ u.1 u.2.1 u.2.2.1 u.2.2.2.1 hw ho hd u.2.2.2.2 pl le so sn ta v bd) A) ([.ref (a 0)] : List Value).toArray s 0 0 A = QQ
  have hl : lv_has ls 4 [(0, .ref (a 0))] := hl
  have hi4 : ∀ w ∈ wsX40, w ∈ wsX4_undo := fun _ h => List.mem_cons_of_mem _ (List.mem_append_left _ (List.mem_append_left _ (List.mem_append_right _ h)))
  have hi1 : ∀ w ∈ wsX10, w ∈ wsX4_undo := fun _ h => List.mem_cons_of_mem _ (List.mem_append_left _ (List.mem_append_right _ h))
  have hi0 : ∀ w ∈ wsX00, w ∈ wsX4_undo := fun _ h => List.mem_cons_of_mem _ (List.mem_append_right _ h)
  obtain ⟨hn40, hk⟩ := id hDD; obtain ⟨hh12, hkh⟩ := id hHH; obtain ⟨hs8, hks⟩ := id hSS
  refine lv_aload_n hx hb dX4_undo_0 rfl (lv_at hl 0 rfl) ?_
  refine va_get (D := (dC, dI)) (ci := 3) (v := .ref (a 5)) (C := RX4) (T := TX4) (N := 6) hx hb hts hi4 hown hK hP 0 rfl rfl 1 (by decide) (hts (.fieldLink RX4 19 "BurstWords" "history" "LBurstWords$History;") (by decide +kernel)) (fun _ h9 => h9) rfl dX4_undo_1 ?_
  refine c_Vi (As := []) (rest := []) (ci := 1) (q0 := 0) S (c_X1_size l dC dI cI cJ cZ (a 5) (a 6) (a 7) (a 8) hw ho hd hn HW HO HE hHH ) (cwV 0 hts gX4_undo_X1_size rfl rfl rfl (by decide +kernel) ⟨Nat.le_of_ble_eq_true rfl, Nat.le_of_ble_eq_true rfl⟩) hK (hP.sub [5, 6, 7, 8] rfl) rfl rfl rfl hl.1 rfl (Nat.le_of_ble_eq_true rfl) dX4_undo_4 ⟨Nat.le_of_ble_eq_true rfl, Nat.le_of_ble_eq_true rfl⟩ ?_
  refine z_ne (tgt := 13) hx hb dX4_undo_7 (by decide) (by omega) (fun c_7 => ?_) (fun c_7 => ?_)
  · refine lv_aload_n hx hb dX4_undo_13 rfl (lv_at hl 0 rfl) ?_
    refine va_get (D := (dC, dI)) (ci := 3) (v := .ref (a 5)) (C := RX4) (T := TX4) (N := 6) hx hb hts hi4 hown hK hP 0 rfl rfl 1 (by decide) (hts (.fieldLink RX4 19 "BurstWords" "history" "LBurstWords$History;") (by decide +kernel)) (fun _ h9 => h9) rfl dX4_undo_14 ?_
    refine c_Vl (As := []) (rest := []) (ci := 1) (q0 := 0) S (c_X1_lastWord l dC dI cI cJ cZ (a 5) (a 6) (a 7) (a 8) hw ho hd hn HW HO HE hHH c_7) (cwV 0 hts gX4_undo_X1_lastWord rfl rfl rfl (by decide +kernel) ⟨Nat.le_of_ble_eq_true rfl, Nat.le_of_ble_eq_true rfl⟩) hK (hP.sub [5, 6, 7, 8] rfl) rfl rfl rfl hl.1 rfl (Nat.le_of_ble_eq_true rfl) dX4_undo_17 ⟨Nat.le_of_ble_eq_true rfl, Nat.le_of_ble_eq_true rfl⟩ ?_
    refine lv_lstore_n (lv' := [(1, .long (lN (be8 (HW (hn - 1))))), (0, .ref (a 0))]) hx hb dX4_undo_20 rfl hl (by decide) rfl (fun ls hl => ?_)
    refine lv_aload_n hx hb dX4_undo_21 rfl (lv_at hl 1 rfl) ?_
    refine va_get (D := (dC, dI)) (ci := 3) (v := .ref (a 1)) (C := RX4) (T := TX4) (N := 6) hx hb hts hi4 hown hK hP 0 rfl rfl 0 (by decide) (hts (.fieldLink RX4 10 "BurstWords" "dictionary" "LBurstWords$Dictionary;") (by decide +kernel)) (fun _ h9 => h9) rfl dX4_undo_22 ?_
    refine lv_lload_n hx hb dX4_undo_25 rfl (lv_at hl 0 rfl) ?_
    refine c_Vi (As := [.long (lN (be8 (HW (hn - 1))))]) (rest := []) (ci := 0) (q0 := 0) S (c_X0_depthOf l dC dI cI cJ cZ (a 1) (a 2) (a 3) (a 4) w o d n V O E hDD (HW (hn - 1))) (cwV 1 hts gX4_undo_X0_depthOf rfl rfl rfl (by decide +kernel) ⟨Nat.le_of_ble_eq_true rfl, Nat.le_of_ble_eq_true rfl⟩) hK (hP.sub [1, 2, 3, 4] rfl) rfl rfl rfl hl.1 rfl (Nat.le_of_ble_eq_true rfl) dX4_undo_26 ⟨Nat.le_of_ble_eq_true rfl, Nat.le_of_ble_eq_true rfl⟩ ?_
    refine lv_istore_n (lv' := [(3, .int (nI (bdp V E n (HW (hn - 1))))), (1, .long (lN (be8 (HW (hn - 1))))), (0, .ref (a 0))]) hx hb dX4_undo_29 rfl hl (by decide) rfl (fun ls hl => ?_)
    refine lv_aload_n hx hb dX4_undo_30 rfl (lv_at hl 2 rfl) ?_
    refine va_get (D := (dC, dI)) (ci := 3) (v := .ref (a 1)) (C := RX4) (T := TX4) (N := 6) hx hb hts hi4 hown hK hP 0 rfl rfl 0 (by decide) (hts (.fieldLink RX4 10 "BurstWords" "dictionary" "LBurstWords$Dictionary;") (by decide +kernel)) (fun _ h9 => h9) rfl dX4_undo_31 ?_
    refine lv_lload_n hx hb dX4_undo_34 rfl (lv_at hl 1 rfl) ?_
    refine lv_aload_n hx hb dX4_undo_35 rfl (lv_at hl 2 rfl) ?_
    refine va_get (D := (dC, dI)) (ci := 3) (v := .ref (a 5)) (C := RX4) (T := TX4) (N := 6) hx hb hts hi4 hown hK hP 0 rfl rfl 1 (by decide) (hts (.fieldLink RX4 19 "BurstWords" "history" "LBurstWords$History;") (by decide +kernel)) (fun _ h9 => h9) rfl dX4_undo_36 ?_
    refine c_Vi (As := []) (rest := [.long (lN (be8 (HW (hn - 1)))), .ref (a 1)]) (ci := 1) (q0 := 0) S (c_X1_lastOften l dC dI cI cJ cZ (a 5) (a 6) (a 7) (a 8) hw ho hd hn HW HO HE hHH c_7) (cwV 0 hts gX4_undo_X1_lastOften rfl rfl rfl (by decide +kernel) ⟨Nat.le_of_ble_eq_true rfl, Nat.le_of_ble_eq_true rfl⟩) hK (hP.sub [5, 6, 7, 8] rfl) rfl rfl rfl hl.1 rfl (Nat.le_of_ble_eq_true rfl) dX4_undo_39 ⟨Nat.le_of_ble_eq_true rfl, Nat.le_of_ble_eq_true rfl⟩ ?_
    refine m_Vv (As := [.long (lN (be8 (HW (hn - 1)))), .int (nI (HO (hn - 1)))]) (rest := []) (ci := 0) (q0 := 0) (wr := [(a 0, .inr (3, [.ref (a 1), .ref (a 5), .ref (a 9), .ref (a 13), .long (lN (be8 v)), .int (nI (bd))])), (a 5, .inr (1, [.ref (a 6), .ref (a 7), .ref (a 8), .int (nI (hn))])), (a 6, .inl (cJ, 12, .inr (.inl hw))), (a 7, .inl (cI, 12, .inl ho)), (a 8, .inl (cI, 12, .inl hd)), (a 9, .inr (2, [.ref (a 10), .ref (a 11), .ref (a 12), .int (nI (sn))])), (a 10, .inl (cI, 8, .inl pl)), (a 11, .inl (cI, 8, .inl le)), (a 12, .inl (cZ, 8, .inl so)), (a 13, .inl (cI, 182, .inl ta))]) S (c_X0_put l dC dI cI cJ cZ (a 1) (a 2) (a 3) (a 4) w o d n V O E hDD s.heap.size (HW (hn - 1)) (HO (hn - 1)) (hkh _ (by omega)).2.1 (hu0 c_7) (hkh _ (by omega)).2.2.2.1 (hupa c_7)) (cwV 2 hts gX4_undo_X0_put rfl rfl rfl (by decide +kernel) ⟨Nat.le_of_ble_eq_true rfl, Nat.le_of_ble_eq_true rfl⟩) hK hP hD hS hA [1, 2, 3, 4] [0, 5, 6, 7, 8, 9, 10, 11, 12, 13] (hP.sub [1, 2, 3, 4] rfl) (hD.sub [1, 2, 3, 4] (by decide) rfl) rfl rfl (by decide) (by decide) rfl rfl rfl hl.1 rfl (Nat.le_of_ble_eq_true rfl) dX4_undo_42 ⟨Nat.le_of_ble_eq_true rfl, Nat.le_of_ble_eq_true rfl⟩ (fun u_42 H locs hu_42 hP hD hS => ?_)
    obtain ⟨w9, o9, d9, n9⟩ := u_42
    have hP := hP.sub (ws' := wb a cI cJ cZ w9 o9 d9 n9 hw ho hd hn pl le so sn ta v bd) [0, 10, 11, 12, 13, 1, 2, 3, 4, 5, 6, 7, 8, 9] rfl
    have hD := hD.sub (ws' := wb a cI cJ cZ w9 o9 d9 n9 hw ho hd hn pl le so sn ta v bd) [0, 10, 11, 12, 13, 1, 2, 3, 4, 5, 6, 7, 8, 9] (by decide) rfl
    have hP : va_P (dC, dI) vwCl (wb a cI cJ cZ w9 o9 d9 n9 hw ho hd hn pl le so sn ta v bd) H := hP
    have hD : va_D A (wb a cI cJ cZ w9 o9 d9 n9 hw ho hd hn pl le so sn ta v bd) := hD
    obtain ⟨V9, O9, E9, hD9, hrel9⟩ := put_ex hu_42
    obtain ⟨hn40b, hkb⟩ := id hD9
    refine lv_aload_n hx hb dX4_undo_45 rfl (lv_at hl 2 rfl) ?_
    refine va_get (D := (dC, dI)) (ci := 3) (v := .ref (a 1)) (C := RX4) (T := TX4) (N := 6) hx hb hts hi4 hown hK hP 0 rfl rfl 0 (by decide) (hts (.fieldLink RX4 10 "BurstWords" "dictionary" "LBurstWords$Dictionary;") (by decide +kernel)) (fun _ h9 => h9) rfl dX4_undo_46 ?_
    refine lv_lload_n hx hb dX4_undo_49 rfl (lv_at hl 1 rfl) ?_
    refine lv_iload_n hx hb dX4_undo_50 rfl (lv_at hl 0 rfl) ?_
    refine lv_aload_n hx hb dX4_undo_51 rfl (lv_at hl 2 rfl) ?_
    refine va_get (D := (dC, dI)) (ci := 3) (v := .ref (a 5)) (C := RX4) (T := TX4) (N := 6) hx hb hts hi4 hown hK hP 0 rfl rfl 1 (by decide) (hts (.fieldLink RX4 19 "BurstWords" "history" "LBurstWords$History;") (by decide +kernel)) (fun _ h9 => h9) rfl dX4_undo_52 ?_
    refine c_Vi (As := []) (rest := [.int (nI (bdp V E n (HW (hn - 1)))), .long (lN (be8 (HW (hn - 1)))), .ref (a 1)]) (ci := 1) (q0 := 0) S (c_X1_lastDepth l dC dI cI cJ cZ (a 5) (a 6) (a 7) (a 8) hw ho hd hn HW HO HE hHH c_7) (cwV 0 hts gX4_undo_X1_lastDepth rfl rfl rfl (by decide +kernel) ⟨Nat.le_of_ble_eq_true rfl, Nat.le_of_ble_eq_true rfl⟩) hK (hP.sub [5, 6, 7, 8] rfl) rfl rfl rfl hl.1 rfl (Nat.le_of_ble_eq_true rfl) dX4_undo_55 ⟨Nat.le_of_ble_eq_true rfl, Nat.le_of_ble_eq_true rfl⟩ ?_
    refine m_Vv (As := [.long (lN (be8 (HW (hn - 1)))), .int (nI (bdp V E n (HW (hn - 1)))), .int (nI (HE (hn - 1)))]) (rest := []) (ci := 0) (q0 := 0) (wr := [(a 0, .inr (3, [.ref (a 1), .ref (a 5), .ref (a 9), .ref (a 13), .long (lN (be8 v)), .int (nI (bd))])), (a 5, .inr (1, [.ref (a 6), .ref (a 7), .ref (a 8), .int (nI (hn))])), (a 6, .inl (cJ, 12, .inr (.inl hw))), (a 7, .inl (cI, 12, .inl ho)), (a 8, .inl (cI, 12, .inl hd)), (a 9, .inr (2, [.ref (a 10), .ref (a 11), .ref (a 12), .int (nI (sn))])), (a 10, .inl (cI, 8, .inl pl)), (a 11, .inl (cI, 8, .inl le)), (a 12, .inl (cZ, 8, .inl so)), (a 13, .inl (cI, 182, .inl ta))]) S (c_X0_reshape l dC dI cI cJ cZ (a 1) (a 2) (a 3) (a 4) w9 o9 d9 n9 V9 O9 E9 hD9 H.size (HW (hn - 1)) (bdp V E n (HW (hn - 1))) (HE (hn - 1)) bdp_le (hkh _ (by omega)).2.2.2.2.2) (cwV 3 hts gX4_undo_X0_reshape rfl rfl rfl (by decide +kernel) ⟨Nat.le_of_ble_eq_true rfl, Nat.le_of_ble_eq_true rfl⟩) hK hP hD hS hA [1, 2, 3, 4] [0, 5, 6, 7, 8, 9, 10, 11, 12, 13] (hP.sub [1, 2, 3, 4] rfl) (hD.sub [1, 2, 3, 4] (by decide) rfl) rfl rfl (by decide) (by decide) rfl rfl rfl hl.1 rfl (Nat.le_of_ble_eq_true rfl) dX4_undo_58 ⟨Nat.le_of_ble_eq_true rfl, Nat.le_of_ble_eq_true rfl⟩ (fun u_58 H locs hu_58 hP hD hS => ?_)
    obtain ⟨d8, rfl⟩ : ∃ z, z = u_58 := ⟨_, rfl⟩
    have hP := hP.sub (ws' := wb a cI cJ cZ w9 o9 d8 n9 hw ho hd hn pl le so sn ta v bd) [0, 10, 11, 12, 13, 1, 2, 3, 4, 5, 6, 7, 8, 9] rfl
    have hD := hD.sub (ws' := wb a cI cJ cZ w9 o9 d8 n9 hw ho hd hn pl le so sn ta v bd) [0, 10, 11, 12, 13, 1, 2, 3, 4, 5, 6, 7, 8, 9] (by decide) rfl
    have hP : va_P (dC, dI) vwCl (wb a cI cJ cZ w9 o9 d8 n9 hw ho hd hn pl le so sn ta v bd) H := hP
    have hD : va_D A (wb a cI cJ cZ w9 o9 d8 n9 hw ho hd hn pl le so sn ta v bd) := hD
    refine lv_aload_n hx hb dX4_undo_61 rfl (lv_at hl 2 rfl) ?_
    refine va_get (D := (dC, dI)) (ci := 3) (v := .ref (a 5)) (C := RX4) (T := TX4) (N := 6) hx hb hts hi4 hown hK hP 0 rfl rfl 1 (by decide) (hts (.fieldLink RX4 19 "BurstWords" "history" "LBurstWords$History;") (by decide +kernel)) (fun _ h9 => h9) rfl dX4_undo_62 ?_
    refine m_Vv (As := []) (rest := []) (ci := 1) (q0 := 0) (wr := [(a 0, .inr (3, [.ref (a 1), .ref (a 5), .ref (a 9), .ref (a 13), .long (lN (be8 v)), .int (nI (bd))])), (a 1, .inr (0, [.ref (a 2), .ref (a 3), .ref (a 4), .int (nI (n9))])), (a 2, .inl (cJ, 40, .inr (.inl w9))), (a 3, .inl (cI, 40, .inl o9)), (a 4, .inl (cI, 40, .inl d8)), (a 9, .inr (2, [.ref (a 10), .ref (a 11), .ref (a 12), .int (nI (sn))])), (a 10, .inl (cI, 8, .inl pl)), (a 11, .inl (cI, 8, .inl le)), (a 12, .inl (cZ, 8, .inl so)), (a 13, .inl (cI, 182, .inl ta))]) S (c_X1_drop l dC dI cI cJ cZ (a 5) (a 6) (a 7) (a 8) hw ho hd hn HW HO HE hHH H.size c_7) (cwV 0 hts gX4_undo_X1_drop rfl rfl rfl (by decide +kernel) ⟨Nat.le_of_ble_eq_true rfl, Nat.le_of_ble_eq_true rfl⟩) hK hP hD hS hA [5, 6, 7, 8] [0, 1, 2, 3, 4, 9, 10, 11, 12, 13] (hP.sub [5, 6, 7, 8] rfl) (hD.sub [5, 6, 7, 8] (by decide) rfl) rfl rfl (by decide) (by decide) rfl rfl rfl hl.1 rfl (Nat.le_of_ble_eq_true rfl) dX4_undo_65 ⟨Nat.le_of_ble_eq_true rfl, Nat.le_of_ble_eq_true rfl⟩ (fun u_65 H locs hu_65 hP hD hS => ?_)
    obtain ⟨hn9, rfl⟩ : ∃ z, z = u_65 := ⟨_, rfl⟩
    have hP := hP.sub (ws' := wb a cI cJ cZ w9 o9 d8 n9 hw ho hd hn9 pl le so sn ta v bd) [0, 1, 2, 3, 4, 10, 11, 12, 13, 5, 6, 7, 8, 9] rfl
    have hD := hD.sub (ws' := wb a cI cJ cZ w9 o9 d8 n9 hw ho hd hn9 pl le so sn ta v bd) [0, 1, 2, 3, 4, 10, 11, 12, 13, 5, 6, 7, 8, 9] (by decide) rfl
    have hP : va_P (dC, dI) vwCl (wb a cI cJ cZ w9 o9 d8 n9 hw ho hd hn9 pl le so sn ta v bd) H := hP
    have hD : va_D A (wb a cI cJ cZ w9 o9 d8 n9 hw ho hd hn9 pl le so sn ta v bd) := hD
    subst hu_65
    have hP : va_P (dC, dI) vwCl (wb a cI cJ cZ w9 o9 d8 n9 hw ho hd (hn - 1) pl le so sn ta v bd) H := hP
    have hD : va_D A (wb a cI cJ cZ w9 o9 d8 n9 hw ho hd (hn - 1) pl le so sn ta v bd) := hD
    refine lv_aload_n hx hb dX4_undo_68 rfl (lv_at hl 2 rfl) ?_
    refine va_get (D := (dC, dI)) (ci := 3) (v := .ref (a 5)) (C := RX4) (T := TX4) (N := 6) hx hb hts hi4 hown hK hP 0 rfl rfl 1 (by decide) (hts (.fieldLink RX4 19 "BurstWords" "history" "LBurstWords$History;") (by decide +kernel)) (fun _ h9 => h9) rfl dX4_undo_69 ?_
    refine c_Vi (As := []) (rest := []) (ci := 1) (q0 := 0) S (c_X1_size l dC dI cI cJ cZ (a 5) (a 6) (a 7) (a 8) hw ho hd (hn - 1) HW HO HE (bHH_dn hHH) ) (cwV 0 hts gX4_undo_X1_size rfl rfl rfl (by decide +kernel) ⟨Nat.le_of_ble_eq_true rfl, Nat.le_of_ble_eq_true rfl⟩) hK (hP.sub [5, 6, 7, 8] rfl) rfl rfl rfl hl.1 rfl (Nat.le_of_ble_eq_true rfl) dX4_undo_72 ⟨Nat.le_of_ble_eq_true rfl, Nat.le_of_ble_eq_true rfl⟩ ?_
    rw [← hQQ]
    exact m_i (w9, o9, d8, n9, hn - 1) hx hb hr hlocks (Or.inr ⟨c_7, rfl, rfl, V9, O9, E9, hrel9, hu_58⟩) hP hD hS dX4_undo_75
  · refine lv_bipush (v := (-2 : Int32)) hx hb dX4_undo_10 (by decide) ?_
    rw [← hQQ]
    exact m_i (w, o, d, n, hn) hx hb hr hlocks (Or.inl ⟨c_7, rfl, rfl⟩) hP hD hS dX4_undo_12
