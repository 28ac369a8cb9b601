theorem ink_eq {n k : Nat} (hn : n ≤ 40) (hk : k < 2 ^ 31) : (!decide (nI k < nI 0) && !decide (nI n - nI 1 < nI k)) = decide (k < n) := by
  have h1 : ¬ nI k < nI 0 := nI_pos hk
  have h2 : (nI n - nI 1 < nI k) ↔ n ≤ k := by
    rw [Int32.lt_iff_toInt_lt, pk_sub_toInt (by omega) (by decide), nI_toInt hk]
    omega
  by_cases h : k < n
  · simp [h1, h2, h]
  · simp [h1, h2, h]; omega
def btl (V : Nat → Nat) (n k g : Nat) : Int32 := if k < n then (if g = 0 then nI (bln (V k)) else if bsg (V k) (g - 1) = 0 then -9 else nI (bsg (V k) (g - 1) + 96)) else -9
theorem btl_n {V : Nat → Nat} {n k g : Nat} (h : ¬ k < n) : btl V n k g = -9 := if_neg h
theorem btl_0 {V : Nat → Nat} {n k : Nat} (h : k < n) : btl V n k 0 = nI (bln (V k)) := by unfold btl; rw [if_pos h, if_pos rfl]
theorem btl_y {V : Nat → Nat} {n k g : Nat} (h : k < n) (h2 : 0 < bsg (V k) g) : btl V n k (g + 1) = nI (bsg (V k) g + 96) := by unfold btl; rw [if_pos h, if_neg (Nat.succ_ne_zero g), Nat.add_sub_cancel, if_neg (by omega)]
theorem btl_z {V : Nat → Nat} {n k g : Nat} (h : k < n) (h2 : bsg (V k) g = 0) : btl V n k (g + 1) = -9 := by unfold btl; rw [if_pos h, if_neg (Nat.succ_ne_zero g), Nat.add_sub_cancel, if_pos h2]
abbrev rm_X5_in : Room := { frames := 0, cells := 0, slots := 0, locals := 0 }
set_option maxHeartbeats 4000000 in
set_option maxRecDepth 100000 in
theorem c_X5_in (l : Launch) (x : Int32) (y : Int32) (z : Int32) : Met l yX5_in wsX5_in rm_X5_in (sPc [.int (x), .int (y), .int (z)]) (Ri (bI (!decide (x < y) && !decide (z < x)))) 0 0 (fun _ => False) := by
  refine met_s (cc := cX5_in) (maxL := 3) (ret := (some .boolean)) (own := RX5) (by decide) rfl rfl (Nat.le_of_ble_eq_true rfl) ?_
  intro p e s m below meth c S hr hlocks ls hl
  obtain ⟨hx, hb, hml, hown, hts⟩ := id S
  have hl : lv_has ls 3 [(0, .int (x)), (1, .int (y)), (2, .int (z))] := hl
  refine lv_iload_n hx hb dX5_in_0 rfl (lv_at hl 0 rfl) ?_
  refine lv_iload_n hx hb dX5_in_1 rfl (lv_at hl 1 rfl) ?_
  refine lv_icmp_lt (tgt := 14) hx hb dX5_in_2 (by decide) (fun c_2 => ?_) (fun c_2 => ?_)
  · refine lv_iconst (v := nI (0)) hx hb dX5_in_14 (by decide) ?_
    exact r_z (x := false) hx hb hr hlocks rfl (by simp [c_2]) dX5_in_15
  · refine lv_iload_n hx hb dX5_in_5 rfl (lv_at hl 0 rfl) ?_
    refine lv_iload_n hx hb dX5_in_6 rfl (lv_at hl 2 rfl) ?_
    refine lv_icmp_gt (tgt := 14) hx hb dX5_in_7 (by decide) (fun c_7 => ?_) (fun c_7 => ?_)
    · refine lv_iconst (v := nI (0)) hx hb dX5_in_14 (by decide) ?_
      exact r_z (x := false) hx hb hr hlocks rfl (by simp [c_2, c_7]) dX5_in_15
    · refine lv_iconst (v := nI (1)) hx hb dX5_in_10 (by decide) ?_
      refine lv_goto (tgt := 15) hx hb dX5_in_11 (by decide) ?_
      exact r_z (x := true) hx hb hr hlocks rfl (by simp [c_2, c_7]) dX5_in_15
abbrev rm_X5_unit : Room := { frames := 0, cells := 0, slots := 0, locals := 0 }
set_option maxHeartbeats 4000000 in
set_option maxRecDepth 100000 in
theorem c_X5_unit (l : Launch) (k : Nat) (hk7 : k ≤ 7) : Met l yX5_unit wsX5_unit rm_X5_unit (sPc [.int (nI (k))]) (Rl (lN (27 ^ (7 - k)))) 0 0 (fun _ => False) := by
  refine met_s (cc := cX5_unit) (maxL := 4) (ret := (some .long)) (own := RX5) (by decide) rfl rfl (Nat.le_of_ble_eq_true rfl) ?_
  intro p e s m below meth c S hr hlocks ls hl
  obtain ⟨hx, hb, hml, hown, hts⟩ := id S
  have hl : lv_has ls 4 [(0, .int (nI (k)))] := hl
  refine lv_lconst (v := lN (1)) hx hb dX5_unit_0 rfl ?_
  refine lv_lstore_n (lv' := [(1, .long (lN (1))), (0, .int (nI (k)))]) hx hb dX5_unit_1 rfl hl (by decide) rfl (fun ls hl => ?_)
  refine lv_iload_n hx hb dX5_unit_2 rfl (lv_at hl 1 rfl) ?_
  refine lv_istore_n (lv' := [(3, .int (nI (k))), (1, .long (lN (1))), (0, .int (nI (k)))]) hx hb dX5_unit_3 rfl hl (by decide) rfl (fun ls hl => ?_)
  have lp_4 : ∀ (j_4 : Nat) (i : Nat), (k ≤ i) → (i ≤ 7) → (7 - i) < j_4 → ∀ ls : Array Slot, lv_has ls 4 [(1, .long (lN (27 ^ (i - k)))), (3, .int (nI (i)))] → W p l e rm_X5_unit s m ([.int (nI (k))] : List Value).toArray below meth c s.heap [] 0 0 (MQ below (Rl (lN (27 ^ (7 - k)))) ([.int (nI (k))] : List Value).toArray s 0 0 (fun _ => False)) (F0 m 4 ls []) := by
    intro j_4
    induction j_4 with
    | zero => intro i _ _ h0; exact absurd h0 (Nat.not_lt_zero _)
    | succ j_4 ih_4 =>
      intro i h1 h2 hf_4 ls hl
      refine lv_iload_n hx hb dX5_unit_4 rfl (lv_at hl 1 rfl) ?_
      refine lv_bipush (v := nI (7)) hx hb dX5_unit_5 (by decide) ?_
      refine n_ge (tgt := 22) hx hb dX5_unit_7 (by decide) (by omega) (by omega) (fun c_7 => ?_) (fun c_7 => ?_)
      · refine lv_lload_n hx hb dX5_unit_22 rfl (lv_at hl 0 rfl) ?_
        exact r_l hx hb hr hlocks (by rw [show i = 7 by omega]) dX5_unit_23
      · refine lv_lload_n hx hb dX5_unit_10 rfl (lv_at hl 0 rfl) ?_
        refine lv_ldc2 (v := lN (27)) hx hb hown (hts (.constantLong RX5 46 (27)) (by decide +kernel)) dX5_unit_11 ?_
        refine lv_lmul hx hb dX5_unit_14 ?_
        refine tpl (lN_mul _ _) ?_
        refine lv_lstore_n (lv' := [(1, .long (lN ((27 ^ (i - k)) * 27))), (3, .int (nI (i)))]) hx hb dX5_unit_15 rfl hl (by decide) rfl (fun ls hl => ?_)
        refine lv_iinc (v := nI (i + 1)) (lv' := [(3, .int (nI (i + 1))), (1, .long (lN ((27 ^ (i - k)) * 27)))]) hx hb dX5_unit_16 hl (k := 1) rfl (inc1 _) (by decide) rfl (fun ls hl => ?_)
        refine lv_goto (tgt := 4) hx hb dX5_unit_19 (by decide) ?_
        exact ih_4 (i + 1) (by omega) (by omega) (by omega) ls (lv_cg (l := [(1, .long (lN ((27 ^ (i - k)) * 27))), (3, .int (nI (i + 1)))]) (lv_sub hl [1, 0] rfl) (by rw [show i + 1 - k = (i - k) + 1 by omega, Nat.pow_succ]))
  exact lp_4 _ (k) (Nat.le_refl k) hk7 (Nat.lt_succ_self _) ls (lv_cg (l := [(1, .long (lN (1))), (3, .int (nI (k)))]) (lv_sub hl [1, 0] rfl) (by rw [Nat.sub_self]))
abbrev rm_X5_head : Room := { frames := 1, cells := 0, slots := 0, locals := 23 }
set_option maxHeartbeats 4000000 in
set_option maxRecDepth 100000 in
theorem c_X5_head (l : Launch) (x : Nat) (k : Nat) (h63 : x < 2 ^ 63) (hk7 : k ≤ 7) : Met l yX5_head wsX5_head rm_X5_head (sPc [.long (lN (x)), .int (nI (k))]) (Rl (lN (bhd x k))) 0 0 (fun _ => False) := by
  refine met_s (cc := cX5_head) (maxL := 3) (ret := (some .long)) (own := RX5) (by decide) rfl rfl (Nat.le_of_ble_eq_true rfl) ?_
  intro p e s m below meth c S hr hlocks ls hl
  obtain ⟨hx, hb, hml, hown, hts⟩ := id S
  have hl : lv_has ls 3 [(0, .long (lN (x))), (2, .int (nI (k)))] := hl
  refine lv_lload_n hx hb dX5_head_0 rfl (lv_at hl 0 rfl) ?_
  refine lv_lload_n hx hb dX5_head_1 rfl (lv_at hl 0 rfl) ?_
  refine lv_iload_n hx hb dX5_head_2 rfl (lv_at hl 1 rfl) ?_
  refine c_Sl (As := [.int (nI (k))]) (rest := [.long (lN (x)), .long (lN (x))]) S (c_X5_unit l k (by omega)) (va_cwS 1 hts gX5_head_X5_unit rfl rfl rfl (by decide +kernel) ⟨Nat.le_of_ble_eq_true rfl, Nat.le_of_ble_eq_true rfl⟩) rfl hl.1 rfl (Nat.le_of_ble_eq_true rfl) dX5_head_3 ⟨Nat.le_of_ble_eq_true rfl, Nat.le_of_ble_eq_true rfl⟩ ?_
  refine lv_lrem hx hb dX5_head_6 (lN_ne0 (p27_pos _) (p27_lt _)) ?_
  refine tpl (pk_lRem h63 (p27_pos _) (p27_lt _)) ?_
  refine lv_lsub hx hb dX5_head_7 ?_
  refine tpl (lN_sub (Nat.mod_le _ _)) ?_
  exact r_l hx hb hr hlocks rfl dX5_head_8
abbrev rm_X5_sign : Room := { frames := 1, cells := 0, slots := 0, locals := 23 }
set_option maxHeartbeats 4000000 in
set_option maxRecDepth 100000 in
theorem c_X5_sign (l : Launch) (x : Nat) (i : Nat) (h63 : x < 2 ^ 63) (hi : i < 7) : Met l yX5_sign wsX5_sign rm_X5_sign (sPc [.long (lN (x)), .int (nI (i))]) (Ri (nI (bsg x i))) 0 0 (fun _ => False) := by
  refine met_s (cc := cX5_sign) (maxL := 3) (ret := (some .int)) (own := RX5) (by decide) rfl rfl (Nat.le_of_ble_eq_true rfl) ?_
  intro p e s m below meth c S hr hlocks ls hl
  obtain ⟨hx, hb, hml, hown, hts⟩ := id S
  have hl : lv_has ls 3 [(0, .long (lN (x))), (2, .int (nI (i)))] := hl
  refine lv_lload_n hx hb dX5_sign_0 rfl (lv_at hl 0 rfl) ?_
  refine lv_iload_n hx hb dX5_sign_1 rfl (lv_at hl 1 rfl) ?_
  refine lv_iconst (v := nI (1)) hx hb dX5_sign_2 (by decide) ?_
  refine lv_iadd hx hb dX5_sign_3 ?_
  refine tpi (nI_add _ _) ?_
  refine c_Sl (As := [.int (nI (i + 1))]) (rest := [.long (lN (x))]) S (c_X5_unit l (i + 1) (by omega)) (va_cwS 1 hts gX5_sign_X5_unit rfl rfl rfl (by decide +kernel) ⟨Nat.le_of_ble_eq_true rfl, Nat.le_of_ble_eq_true rfl⟩) rfl hl.1 rfl (Nat.le_of_ble_eq_true rfl) dX5_sign_4 ⟨Nat.le_of_ble_eq_true rfl, Nat.le_of_ble_eq_true rfl⟩ ?_
  refine lv_ldiv hx hb dX5_sign_7 (lN_ne0 (p27_pos _) (p27_lt _)) ?_
  refine tpl (pk_lDiv h63 (p27_pos _) (p27_lt _)) ?_
  refine lv_ldc2 (v := lN (27)) hx hb hown (hts (.constantLong RX5 46 (27)) (by decide +kernel)) dX5_sign_8 ?_
  refine lv_lrem hx hb dX5_sign_11 (lN_ne0 (by decide) (by decide)) ?_
  refine tpl (pk_lRem (Nat.lt_of_le_of_lt (Nat.div_le_self _ _) h63) (by decide) (by decide)) ?_
  refine lv_l2i (v := nI ((x / (27 ^ (7 - (i + 1)))) % 27)) hx hb dX5_sign_12 (lN_i _) ?_
  exact r_i hx hb hr hlocks (by rw [show 7 - (i + 1) = 6 - i by omega]; rfl) dX5_sign_13
abbrev rm_X5_size : Room := { frames := 2, cells := 0, slots := 0, locals := 45 }
set_option maxHeartbeats 4000000 in
set_option maxRecDepth 100000 in
theorem c_X5_size (l : Launch) (x : Nat) (h63 : x < 2 ^ 63) : Met l yX5_size wsX5_size rm_X5_size (sPc [.long (lN (x))]) (Ri (nI (bln x))) 0 0 (fun _ => False) := by
  refine met_s (cc := cX5_size) (maxL := 3) (ret := (some .int)) (own := RX5) (by decide) rfl rfl (Nat.le_of_ble_eq_true rfl) ?_
  intro p e s m below meth c S hr hlocks ls hl
  obtain ⟨hx, hb, hml, hown, hts⟩ := id S
  have hl : lv_has ls 3 [(0, .long (lN (x)))] := hl
  refine lv_iconst (v := nI (0)) hx hb dX5_size_0 (by decide) ?_
  refine lv_istore_n (lv' := [(2, .int (nI (0))), (0, .long (lN (x)))]) hx hb dX5_size_1 rfl hl (by decide) rfl (fun ls hl => ?_)
  have lp_2 : ∀ (j_2 : Nat) (i : Nat), (i ≤ 7) → (∀ k, k < i → bsg x k ≠ 0) → (7 - i) < j_2 → ∀ ls : Array Slot, lv_has ls 3 [(0, .long (lN (x))), (2, .int (nI (i)))] → W p l e rm_X5_size s m ([.long (lN (x))] : List Value).toArray below meth c s.heap [] 0 0 (MQ below (Ri (nI (bln x))) ([.long (lN (x))] : List Value).toArray s 0 0 (fun _ => False)) (F0 m 2 ls []) := by
    intro j_2
    induction j_2 with
    | zero => intro i _ _ h0; exact absurd h0 (Nat.not_lt_zero _)
    | succ j_2 ih_2 =>
      intro i hi hz hf_2 ls hl
      refine lv_iload_n hx hb dX5_size_2 rfl (lv_at hl 1 rfl) ?_
      refine lv_bipush (v := nI (7)) hx hb dX5_size_3 (by decide) ?_
      refine n_ge (tgt := 22) hx hb dX5_size_5 (by decide) (by omega) (by omega) (fun c_5 => ?_) (fun c_5 => ?_)
      · refine lv_iload_n hx hb dX5_size_22 rfl (lv_at hl 1 rfl) ?_
        exact r_i hx hb hr hlocks (congrArg nI (bfs_eq hi (fun k h => by simpa using hz k h) (fun h => absurd h (by omega))).symm) dX5_size_23
      · refine lv_lload_n hx hb dX5_size_8 rfl (lv_at hl 0 rfl) ?_
        refine lv_iload_n hx hb dX5_size_9 rfl (lv_at hl 1 rfl) ?_
        refine c_Si (As := [.long (lN (x)), .int (nI (i))]) (rest := []) S (c_X5_sign l x i h63 (by omega)) (va_cwS 2 hts gX5_size_X5_sign rfl rfl rfl (by decide +kernel) ⟨Nat.le_of_ble_eq_true rfl, Nat.le_of_ble_eq_true rfl⟩) rfl hl.1 rfl (Nat.le_of_ble_eq_true rfl) dX5_size_10 ⟨Nat.le_of_ble_eq_true rfl, Nat.le_of_ble_eq_true rfl⟩ ?_
        refine z_le (tgt := 22) hx hb dX5_size_13 (by decide) (Nat.lt_trans (bsg_lt _ _) (by decide)) (fun c_13 => ?_) (fun c_13 => ?_)
        · refine lv_iload_n hx hb dX5_size_22 rfl (lv_at hl 1 rfl) ?_
          exact r_i hx hb hr hlocks (congrArg nI (bfs_eq hi (fun k h => by simpa using hz k h) (fun h => by simpa using c_13)).symm) dX5_size_23
        · refine lv_iinc (v := nI (i + 1)) (lv' := [(2, .int (nI (i + 1))), (0, .long (lN (x)))]) hx hb dX5_size_16 hl (k := 1) rfl (inc1 _) (by decide) rfl (fun ls hl => ?_)
          refine lv_goto (tgt := 2) hx hb dX5_size_19 (by decide) ?_
          exact ih_2 (i + 1) (by omega) (lt_s hz (Nat.pos_iff_ne_zero.mp c_13)) (by omega) ls (lv_sub hl [1, 0] rfl)
  exact lp_2 _ (0) (by omega) lt_0 (Nat.lt_succ_self _) ls (lv_sub hl [1, 0] rfl)
abbrev rm_X5_own : Room := { frames := 0, cells := 0, slots := 0, locals := 0 }
set_option maxHeartbeats 4000000 in
set_option maxRecDepth 100000 in
theorem c_X5_own (l : Launch) (dC : Nat → ClassId) (dI : Nat → Nat → Nat) (cI cJ cZ : ClassId) (a : Nat → Nat) (ty : Nat → Int32) (tm b : Nat) (wo : Nat → Int64) (of : Nat → Int32) (n : Nat) (no : Nat → Int64) (nm : Nat) (un : Nat → Int64) (um : Nat) (sa sl si : Nat → Int32) (sn : Nat) (tk : Nat → Int32) (v : Nat) (V O K SA SL SI : Nat → Nat) (hmw : bMW ty tm v) (hmd : bMD wo of n V O) (hmn : bMN no nm K) (hms : bMS sa sl si sn SA SL SI) : Met l yX5_own wsX5_own rm_X5_own (rPc (dC, dI) (tysA cI cJ cZ) (wm a cI cJ cZ ty tm b wo of n no nm un um sa sl si sn tk) [.ref (a 0)]) (Rl (lN (v))) 0 0 (fun _ => False) := by
  refine met_r (cc := cX5_own) (maxL := 4) (ret := (some .long)) (own := RX5) (by decide) rfl rfl (Nat.le_of_ble_eq_true rfl) ?_
  intro p e s m below meth c S hr hlocks hP hK ls hl
  obtain ⟨hx, hb, hml, hown, hts⟩ := id S
  have hl : lv_has ls 4 [(0, .ref (a 0))] := hl
  have hi5 : ∀ w ∈ wsX50, w ∈ wsX5_own := fun _ h => List.mem_cons_of_mem _ (List.mem_append_right _ h)
  obtain ⟨hvw, htm, hty⟩ := id hmw; obtain ⟨hn, hk⟩ := id hmd; obtain ⟨hnm, hkn⟩ := id hmn; obtain ⟨hsn, hks⟩ := id hms
  have hl7 := bln_le v
  refine lv_lconst (v := lN (0)) hx hb dX5_own_0 rfl ?_
  refine lv_lstore_n (lv' := [(1, .long (lN (0))), (0, .ref (a 0))]) hx hb dX5_own_1 rfl hl (by decide) rfl (fun ls hl => ?_)
  refine lv_iconst (v := nI (0)) hx hb dX5_own_2 (by decide) ?_
  refine lv_istore_n (lv' := [(3, .int (nI (0))), (1, .long (lN (0))), (0, .ref (a 0))]) hx hb dX5_own_3 rfl hl (by decide) rfl (fun ls hl => ?_)
  have lp_4 : ∀ (j_4 : Nat) (i : Nat), (i ≤ 7) → (7 - i) < j_4 → ∀ ls : Array Slot, lv_has ls 4 [(0, .ref (a 0)), (1, .long (lN (v / 27 ^ (7 - i)))), (3, .int (nI (i)))] → W p l e rm_X5_own s m ([.ref (a 0)] : List Value).toArray below meth c s.heap [] 0 0 (MQ below (Rl (lN (v))) ([.ref (a 0)] : List Value).toArray s 0 0 (fun _ => False)) (F0 m 4 ls []) := by
    intro j_4
    induction j_4 with
    | zero => intro i _ h0; exact absurd h0 (Nat.not_lt_zero _)
    | succ j_4 ih_4 =>
      intro i hi hf_4 ls hl
      refine lv_iload_n hx hb dX5_own_4 rfl (lv_at hl 2 rfl) ?_
      refine lv_bipush (v := nI (7)) hx hb dX5_own_5 (by decide) ?_
      refine n_ge (tgt := 42) hx hb dX5_own_7 (by decide) (by omega) (by omega) (fun c_7 => ?_) (fun c_7 => ?_)
      · refine lv_lload_n hx hb dX5_own_42 rfl (lv_at hl 1 rfl) ?_
        exact r_l hx hb hr hlocks (by rw [show i = 7 by omega]; show lN (v / 1) = lN v; rw [Nat.div_one]) dX5_own_43
      · refine lv_lload_n hx hb dX5_own_10 rfl (lv_at hl 1 rfl) ?_
        refine lv_ldc2 (v := lN (27)) hx hb hown (hts (.constantLong RX5 46 (27)) (by decide +kernel)) dX5_own_11 ?_
        refine lv_lmul hx hb dX5_own_14 ?_
        refine tpl (lN_mul _ _) ?_
        refine lv_iload_n hx hb dX5_own_15 rfl (lv_at hl 2 rfl) ?_
        refine lv_aload_n hx hb dX5_own_16 rfl (lv_at hl 0 rfl) ?_
        refine va_get (D := (dC, dI)) (ci := 4) (v := .int (nI (tm))) (C := RX5) (T := TX5) (N := 16) hx hb hts hi5 hown hK hP 0 rfl rfl 2 (by decide) (hts (.fieldLink RX5 56 "BurstWordsModel" "typedMany" "I") (by decide +kernel)) (fun _ h9 => h9) rfl dX5_own_17 ?_
        refine n_ge (tgt := 32) hx hb dX5_own_20 (by decide) (by omega) (by omega) (fun c_20 => ?_) (fun c_20 => ?_)
        · refine lv_iconst (v := nI (0)) hx hb dX5_own_32 (by decide) ?_
          refine lv_i2l (v := lN (0)) hx hb dX5_own_33 (nI_l (by decide)) ?_
          refine lv_ladd hx hb dX5_own_34 ?_
          refine tpl (lN_add _ _) ?_
          refine lv_lstore_n (lv' := [(1, .long (lN (((v / 27 ^ (7 - i)) * 27) + 0))), (0, .ref (a 0)), (3, .int (nI (i)))]) hx hb dX5_own_35 rfl hl (by decide) rfl (fun ls hl => ?_)
          refine lv_iinc (v := nI (i + 1)) (lv' := [(3, .int (nI (i + 1))), (1, .long (lN (((v / 27 ^ (7 - i)) * 27) + 0))), (0, .ref (a 0))]) hx hb dX5_own_36 hl (k := 2) rfl (inc1 _) (by decide) rfl (fun ls hl => ?_)
          refine lv_goto (tgt := 4) hx hb dX5_own_39 (by decide) ?_
          exact ih_4 (i + 1) (by omega) (by omega) ls (lv_cg (l := [(0, .ref (a 0)), (1, .long (lN (((v / 27 ^ (7 - i)) * 27) + 0))), (3, .int (nI (i + 1)))]) (lv_sub hl [2, 1, 0] rfl) (by rw [← bown (v := v) (i := i) (by omega), bwf_z hvw i (by omega) (by omega)]))
        · refine lv_aload_n hx hb dX5_own_23 rfl (lv_at hl 0 rfl) ?_
          refine va_get (D := (dC, dI)) (ci := 4) (v := .ref (a 1)) (C := RX5) (T := TX5) (N := 16) hx hb hts hi5 hown hK hP 0 rfl rfl 1 (by decide) (hts (.fieldLink RX5 7 "BurstWordsModel" "typed" "[I") (by decide +kernel)) (fun _ h9 => h9) rfl dX5_own_24 ?_
          refine lv_iload_n hx hb dX5_own_27 rfl (lv_at hl 2 rfl) ?_
          refine g_i hx hb hK hP 1 0 rfl rfl (k := i) (by omega) (by decide) dX5_own_28 (v := nI (bsg v i)) (hty _ (by omega)) ?_
          refine lv_goto (tgt := 33) hx hb dX5_own_29 (by decide) ?_
          refine lv_i2l (v := lN (bsg v i)) hx hb dX5_own_33 (nI_l (Nat.lt_trans (bsg_lt _ _) (by decide))) ?_
          refine lv_ladd hx hb dX5_own_34 ?_
          refine tpl (lN_add _ _) ?_
          refine lv_lstore_n (lv' := [(1, .long (lN (((v / 27 ^ (7 - i)) * 27) + (bsg v i)))), (0, .ref (a 0)), (3, .int (nI (i)))]) hx hb dX5_own_35 rfl hl (by decide) rfl (fun ls hl => ?_)
          refine lv_iinc (v := nI (i + 1)) (lv' := [(3, .int (nI (i + 1))), (1, .long (lN (((v / 27 ^ (7 - i)) * 27) + (bsg v i)))), (0, .ref (a 0))]) hx hb dX5_own_36 hl (k := 2) rfl (inc1 _) (by decide) rfl (fun ls hl => ?_)
          refine lv_goto (tgt := 4) hx hb dX5_own_39 (by decide) ?_
          exact ih_4 (i + 1) (by omega) (by omega) ls (lv_cg (l := [(0, .ref (a 0)), (1, .long (lN (((v / 27 ^ (7 - i)) * 27) + (bsg v i)))), (3, .int (nI (i + 1)))]) (lv_sub hl [2, 1, 0] rfl) (by rw [← bown (v := v) (i := i) (by omega)]))
  exact lp_4 _ (0) (by omega) (Nat.lt_succ_self _) ls (lv_cg (l := [(0, .ref (a 0)), (1, .long (lN (0))), (3, .int (nI (0)))]) (lv_sub hl [2, 1, 0] rfl) (by rw [show v / 27 ^ (7 - 0) = 0 from Nat.div_eq_of_lt hvw.1]))
abbrev rm_X5_begins : Room := { frames := 3, cells := 0, slots := 0, locals := 67 }
set_option maxHeartbeats 4000000 in
set_option maxRecDepth 100000 in
theorem c_X5_begins (l : Launch) (x : Nat) (y : Nat) (h63x : x < 2 ^ 63) (h63y : y < 2 ^ 63) : Met l yX5_begins wsX5_begins rm_X5_begins (sPc [.long (lN (x)), .long (lN (y))]) (Ri (bI (bhd x (bln y) == y))) 0 0 (fun _ => False) := by
  refine met_s (cc := cX5_begins) (maxL := 4) (ret := (some .boolean)) (own := RX5) (by decide) rfl rfl (Nat.le_of_ble_eq_true rfl) ?_
  intro p e s m below meth c S hr hlocks ls hl
  obtain ⟨hx, hb, hml, hown, hts⟩ := id S
  have hl : lv_has ls 4 [(0, .long (lN (x))), (2, .long (lN (y)))] := hl
  refine lv_lload_n hx hb dX5_begins_0 rfl (lv_at hl 0 rfl) ?_
  refine lv_lload_n hx hb dX5_begins_1 rfl (lv_at hl 1 rfl) ?_
  refine c_Si (As := [.long (lN (y))]) (rest := [.long (lN (x))]) S (c_X5_size l y h63y) (va_cwS 1 hts gX5_begins_X5_size rfl rfl rfl (by decide +kernel) ⟨Nat.le_of_ble_eq_true rfl, Nat.le_of_ble_eq_true rfl⟩) rfl hl.1 rfl (Nat.le_of_ble_eq_true rfl) dX5_begins_2 ⟨Nat.le_of_ble_eq_true rfl, Nat.le_of_ble_eq_true rfl⟩ ?_
  refine c_Sl (As := [.long (lN (x)), .int (nI (bln y))]) (rest := []) S (c_X5_head l x (bln y) h63x (bln_le _)) (va_cwS 2 hts gX5_begins_X5_head rfl rfl rfl (by decide +kernel) ⟨Nat.le_of_ble_eq_true rfl, Nat.le_of_ble_eq_true rfl⟩) rfl hl.1 rfl (Nat.le_of_ble_eq_true rfl) dX5_begins_5 ⟨Nat.le_of_ble_eq_true rfl, Nat.le_of_ble_eq_true rfl⟩ ?_
  refine lv_lload_n hx hb dX5_begins_8 rfl (lv_at hl 1 rfl) ?_
  refine q_ne (tgt := 17) hx hb dX5_begins_9 dX5_begins_10 (by decide) (Nat.lt_of_le_of_lt (bhd_le _ _) h63x) h63y (fun c_9 => ?_) (fun c_9 => ?_)
  · refine lv_iconst (v := nI (0)) hx hb dX5_begins_17 (by decide) ?_
    exact r_z (x := false) hx hb hr hlocks rfl (by simp [c_9]) dX5_begins_18
  · refine lv_iconst (v := nI (1)) hx hb dX5_begins_13 (by decide) ?_
    refine lv_goto (tgt := 18) hx hb dX5_begins_14 (by decide) ?_
    exact r_z (x := true) hx hb hr hlocks rfl (by simp [c_9]) dX5_begins_18
abbrev rm_X5_placeOf : Room := { frames := 0, cells := 0, slots := 0, locals := 0 }
set_option maxHeartbeats 4000000 in
set_option maxRecDepth 100000 in
theorem c_X5_placeOf (l : Launch) (dC : Nat → ClassId) (dI : Nat → Nat → Nat) (cI cJ cZ : ClassId) (a : Nat → Nat) (ty : Nat → Int32) (tm b : Nat) (wo : Nat → Int64) (of : Nat → Int32) (n : Nat) (no : Nat → Int64) (nm : Nat) (un : Nat → Int64) (um : Nat) (sa sl si : Nat → Int32) (sn : Nat) (tk : Nat → Int32) (v : Nat) (V O K SA SL SI : Nat → Nat) (hmw : bMW ty tm v) (hmd : bMD wo of n V O) (hmn : bMN no nm K) (hms : bMS sa sl si sn SA SL SI) (x : Nat) (h63 : x < 2 ^ 63) : Met l yX5_placeOf wsX5_placeOf rm_X5_placeOf (rPc (dC, dI) (tysA cI cJ cZ) (wm a cI cJ cZ ty tm b wo of n no nm un um sa sl si sn tk) [.ref (a 0), .long (lN (x))]) (Ri (nM (blp V x n))) 0 0 (fun _ => False) := by
  refine met_r (cc := cX5_placeOf) (maxL := 5) (ret := (some .int)) (own := RX5) (by decide) rfl rfl (Nat.le_of_ble_eq_true rfl) ?_
  intro p e s m below meth c S hr hlocks hP hK ls hl
  obtain ⟨hx, hb, hml, hown, hts⟩ := id S
  have hl : lv_has ls 5 [(0, .ref (a 0)), (1, .long (lN (x)))] := hl
  have hi5 : ∀ w ∈ wsX50, w ∈ wsX5_placeOf := fun _ h => List.mem_cons_of_mem _ (List.mem_append_right _ h)
  obtain ⟨hvw, htm, hty⟩ := id hmw; obtain ⟨hn, hk⟩ := id hmd; obtain ⟨hnm, hkn⟩ := id hmn; obtain ⟨hsn, hks⟩ := id hms
  refine lv_iconst (v := nM 0) hx hb dX5_placeOf_0 (by decide) ?_
  refine lv_istore_n (lv' := [(3, .int (nM 0)), (0, .ref (a 0)), (1, .long (lN (x)))]) hx hb dX5_placeOf_1 rfl hl (by decide) rfl (fun ls hl => ?_)
  refine lv_iconst (v := nI (0)) hx hb dX5_placeOf_2 (by decide) ?_
  refine lv_istore (lv' := [(4, .int (nI (0))), (3, .int (nM 0)), (0, .ref (a 0)), (1, .long (lN (x)))]) hx hb dX5_placeOf_3 hl (by decide) rfl (fun ls hl => ?_)
  have lp_5 : ∀ (j_5 : Nat) (i : Nat), (i ≤ n) → (n - i) < j_5 → ∀ ls : Array Slot, lv_has ls 5 [(0, .ref (a 0)), (1, .long (lN (x))), (3, .int (nM (blp V x i))), (4, .int (nI (i)))] → W p l e rm_X5_placeOf s m ([.ref (a 0), .long (lN (x))] : List Value).toArray below meth c s.heap [] 0 0 (MQ below (Ri (nM (blp V x n))) ([.ref (a 0), .long (lN (x))] : List Value).toArray s 0 0 (fun _ => False)) (F0 m 5 ls []) := by
    intro j_5
    induction j_5 with
    | zero => intro i _ h0; exact absurd h0 (Nat.not_lt_zero _)
    | succ j_5 ih_5 =>
      intro i hi hf_5 ls hl
      refine lv_iload hx hb dX5_placeOf_5 (lv_at hl 3 rfl) ?_
      refine lv_aload_n hx hb dX5_placeOf_7 rfl (lv_at hl 0 rfl) ?_
      refine va_get (D := (dC, dI)) (ci := 4) (v := .int (nI (n))) (C := RX5) (T := TX5) (N := 16) hx hb hts hi5 hown hK hP 0 rfl rfl 6 (by decide) (hts (.fieldLink RX5 67 "BurstWordsModel" "many" "I") (by decide +kernel)) (fun _ h9 => h9) rfl dX5_placeOf_8 ?_
      refine n_ge (tgt := 39) hx hb dX5_placeOf_11 (by decide) (by omega) (by omega) (fun c_11 => ?_) (fun c_11 => ?_)
      · refine lv_iload_n hx hb dX5_placeOf_39 rfl (lv_at hl 2 rfl) ?_
        exact r_i hx hb hr hlocks (by rw [show i = n by omega]) dX5_placeOf_40
      · refine lv_aload_n hx hb dX5_placeOf_14 rfl (lv_at hl 0 rfl) ?_
        refine va_get (D := (dC, dI)) (ci := 4) (v := .ref (a 2)) (C := RX5) (T := TX5) (N := 16) hx hb hts hi5 hown hK hP 0 rfl rfl 4 (by decide) (hts (.fieldLink RX5 17 "BurstWordsModel" "word" "[J") (by decide +kernel)) (fun _ h9 => h9) rfl dX5_placeOf_15 ?_
        refine lv_iload hx hb dX5_placeOf_18 (lv_at hl 3 rfl) ?_
        refine g_l hx hb hK hP 2 1 rfl rfl (k := i) (by omega) (by decide) dX5_placeOf_20 (v := lN (V i)) (hk _ (by omega)).1 ?_
        refine lv_lload_n hx hb dX5_placeOf_21 rfl (lv_at hl 1 rfl) ?_
        refine q_ne (tgt := 31) hx hb dX5_placeOf_22 dX5_placeOf_23 (by decide) (w63 (hk _ (by omega)).2.1.1) h63 (fun c_22 => ?_) (fun c_22 => ?_)
        · refine lv_iload_n hx hb dX5_placeOf_31 rfl (lv_at hl 2 rfl) ?_
          refine lv_istore_n (lv' := [(3, .int (nM (blp V x i))), (0, .ref (a 0)), (1, .long (lN (x))), (4, .int (nI (i)))]) hx hb dX5_placeOf_32 rfl hl (by decide) rfl (fun ls hl => ?_)
          refine lv_iinc (v := nI (i + 1)) (lv' := [(4, .int (nI (i + 1))), (3, .int (nM (blp V x i))), (0, .ref (a 0)), (1, .long (lN (x)))]) hx hb dX5_placeOf_33 hl (k := 3) rfl (inc1 _) (by decide) rfl (fun ls hl => ?_)
          refine lv_goto (tgt := 5) hx hb dX5_placeOf_36 (by decide) ?_
          exact ih_5 (i + 1) (by omega) (by omega) ls (lv_cg (l := [(0, .ref (a 0)), (1, .long (lN (x))), (3, .int (nM (blp V x i))), (4, .int (nI (i + 1)))]) (lv_sub hl [2, 3, 1, 0] rfl) (by rw [blp, if_neg c_22]))
        · refine lv_iload hx hb dX5_placeOf_26 (lv_at hl 3 rfl) ?_
          refine lv_goto (tgt := 32) hx hb dX5_placeOf_28 (by decide) ?_
          refine lv_istore_n (lv' := [(3, .int (nI (i))), (0, .ref (a 0)), (1, .long (lN (x))), (4, .int (nI (i)))]) hx hb dX5_placeOf_32 rfl hl (by decide) rfl (fun ls hl => ?_)
          refine lv_iinc (v := nI (i + 1)) (lv' := [(4, .int (nI (i + 1))), (3, .int (nI (i))), (0, .ref (a 0)), (1, .long (lN (x)))]) hx hb dX5_placeOf_33 hl (k := 3) rfl (inc1 _) (by decide) rfl (fun ls hl => ?_)
          refine lv_goto (tgt := 5) hx hb dX5_placeOf_36 (by decide) ?_
          exact ih_5 (i + 1) (by omega) (by omega) ls (lv_cg (l := [(0, .ref (a 0)), (1, .long (lN (x))), (3, .int (nI (i))), (4, .int (nI (i + 1)))]) (lv_sub hl [2, 3, 1, 0] rfl) (by rw [blp, if_pos c_22, nM_s]))
  exact lp_5 _ (0) (by omega) (Nat.lt_succ_self _) ls (lv_sub hl [2, 3, 1, 0] rfl)
abbrev rm_X5_beginning : Room := { frames := 4, cells := 0, slots := 0, locals := 90 }
set_option maxHeartbeats 4000000 in
set_option maxRecDepth 100000 in
theorem c_X5_beginning (l : Launch) (dC : Nat → ClassId) (dI : Nat → Nat → Nat) (cI cJ cZ : ClassId) (a : Nat → Nat) (ty : Nat → Int32) (tm b : Nat) (wo : Nat → Int64) (of : Nat → Int32) (n : Nat) (no : Nat → Int64) (nm : Nat) (un : Nat → Int64) (um : Nat) (sa sl si : Nat → Int32) (sn : Nat) (tk : Nat → Int32) (v : Nat) (V O K SA SL SI : Nat → Nat) (hmw : bMW ty tm v) (hmd : bMD wo of n V O) (hmn : bMN no nm K) (hms : bMS sa sl si sn SA SL SI) (x : Nat) (h63 : x < 2 ^ 63) : Met l yX5_beginning wsX5_beginning rm_X5_beginning (rPc (dC, dI) (tysA cI cJ cZ) (wm a cI cJ cZ ty tm b wo of n no nm un um sa sl si sn tk) [.ref (a 0), .long (lN (x))]) (Ri (nI (bbg V n x))) 0 0 (fun _ => False) := by
  refine met_r (cc := cX5_beginning) (maxL := 5) (ret := (some .int)) (own := RX5) (by decide) rfl rfl (Nat.le_of_ble_eq_true rfl) ?_
  intro p e s m below meth c S hr hlocks hP hK ls hl
  obtain ⟨hx, hb, hml, hown, hts⟩ := id S
  have hl : lv_has ls 5 [(0, .ref (a 0)), (1, .long (lN (x)))] := hl
  have hi5 : ∀ w ∈ wsX50, w ∈ wsX5_beginning := fun _ h => List.mem_cons_of_mem _ (List.mem_append_right _ h)
  obtain ⟨hvw, htm, hty⟩ := id hmw; obtain ⟨hn, hk⟩ := id hmd; obtain ⟨hnm, hkn⟩ := id hmn; obtain ⟨hsn, hks⟩ := id hms
  refine lv_iconst (v := nI (0)) hx hb dX5_beginning_0 (by decide) ?_
  refine lv_istore_n (lv' := [(3, .int (nI (0))), (0, .ref (a 0)), (1, .long (lN (x)))]) hx hb dX5_beginning_1 rfl hl (by decide) rfl (fun ls hl => ?_)
  refine lv_iconst (v := nI (0)) hx hb dX5_beginning_2 (by decide) ?_
  refine lv_istore (lv' := [(4, .int (nI (0))), (3, .int (nI (0))), (0, .ref (a 0)), (1, .long (lN (x)))]) hx hb dX5_beginning_3 hl (by decide) rfl (fun ls hl => ?_)
  have lp_5 : ∀ (j_5 : Nat) (i : Nat), (i ≤ n) → (n - i) < j_5 → ∀ ls : Array Slot, lv_has ls 5 [(0, .ref (a 0)), (1, .long (lN (x))), (3, .int (nI (fb_ct (fun k => bhd (V k) (bln x) == x) i))), (4, .int (nI (i)))] → W p l e rm_X5_beginning s m ([.ref (a 0), .long (lN (x))] : List Value).toArray below meth c s.heap [] 0 0 (MQ below (Ri (nI (bbg V n x))) ([.ref (a 0), .long (lN (x))] : List Value).toArray s 0 0 (fun _ => False)) (F0 m 5 ls []) := by
    intro j_5
    induction j_5 with
    | zero => intro i _ h0; exact absurd h0 (Nat.not_lt_zero _)
    | succ j_5 ih_5 =>
      intro i hi hf_5 ls hl
      refine lv_iload hx hb dX5_beginning_5 (lv_at hl 3 rfl) ?_
      refine lv_aload_n hx hb dX5_beginning_7 rfl (lv_at hl 0 rfl) ?_
      refine va_get (D := (dC, dI)) (ci := 4) (v := .int (nI (n))) (C := RX5) (T := TX5) (N := 16) hx hb hts hi5 hown hK hP 0 rfl rfl 6 (by decide) (hts (.fieldLink RX5 67 "BurstWordsModel" "many" "I") (by decide +kernel)) (fun _ h9 => h9) rfl dX5_beginning_8 ?_
      refine n_ge (tgt := 42) hx hb dX5_beginning_11 (by decide) (by omega) (by omega) (fun c_11 => ?_) (fun c_11 => ?_)
      · refine lv_iload_n hx hb dX5_beginning_42 rfl (lv_at hl 2 rfl) ?_
        exact r_i hx hb hr hlocks (by rw [show i = n by omega]; rfl) dX5_beginning_43
      · refine lv_iload_n hx hb dX5_beginning_14 rfl (lv_at hl 2 rfl) ?_
        refine lv_aload_n hx hb dX5_beginning_15 rfl (lv_at hl 0 rfl) ?_
        refine va_get (D := (dC, dI)) (ci := 4) (v := .ref (a 2)) (C := RX5) (T := TX5) (N := 16) hx hb hts hi5 hown hK hP 0 rfl rfl 4 (by decide) (hts (.fieldLink RX5 17 "BurstWordsModel" "word" "[J") (by decide +kernel)) (fun _ h9 => h9) rfl dX5_beginning_16 ?_
        refine lv_iload hx hb dX5_beginning_19 (lv_at hl 3 rfl) ?_
        refine g_l hx hb hK hP 2 1 rfl rfl (k := i) (by omega) (by decide) dX5_beginning_21 (v := lN (V i)) (hk _ (by omega)).1 ?_
        refine lv_lload_n hx hb dX5_beginning_22 rfl (lv_at hl 1 rfl) ?_
        refine c_Si (As := [.long (lN (V i)), .long (lN (x))]) (rest := [.int (nI (fb_ct (fun k => bhd (V k) (bln x) == x) i))]) S (c_X5_begins l (V i) x (w63 (hk _ (by omega)).2.1.1) h63) (va_cwS 2 hts gX5_beginning_X5_begins rfl rfl rfl (by decide +kernel) ⟨Nat.le_of_ble_eq_true rfl, Nat.le_of_ble_eq_true rfl⟩) rfl hl.1 rfl (Nat.le_of_ble_eq_true rfl) dX5_beginning_23 ⟨Nat.le_of_ble_eq_true rfl, Nat.le_of_ble_eq_true rfl⟩ ?_
        refine b_eq (tgt := 33) hx hb dX5_beginning_26 (by decide) (fun c_26 => ?_) (fun c_26 => ?_)
        · refine lv_iconst (v := nI (0)) hx hb dX5_beginning_33 (by decide) ?_
          refine lv_iadd hx hb dX5_beginning_34 ?_
          refine tpi (nI_add _ _) ?_
          refine lv_istore_n (lv' := [(3, .int (nI ((fb_ct (fun k => bhd (V k) (bln x) == x) i) + 0))), (0, .ref (a 0)), (1, .long (lN (x))), (4, .int (nI (i)))]) hx hb dX5_beginning_35 rfl hl (by decide) rfl (fun ls hl => ?_)
          refine lv_iinc (v := nI (i + 1)) (lv' := [(4, .int (nI (i + 1))), (3, .int (nI ((fb_ct (fun k => bhd (V k) (bln x) == x) i) + 0))), (0, .ref (a 0)), (1, .long (lN (x)))]) hx hb dX5_beginning_36 hl (k := 3) rfl (inc1 _) (by decide) rfl (fun ls hl => ?_)
          refine lv_goto (tgt := 5) hx hb dX5_beginning_39 (by decide) ?_
          exact ih_5 (i + 1) (by omega) (by omega) ls (lv_cg (l := [(0, .ref (a 0)), (1, .long (lN (x))), (3, .int (nI ((fb_ct (fun k => bhd (V k) (bln x) == x) i) + 0))), (4, .int (nI (i + 1)))]) (lv_sub hl [2, 3, 1, 0] rfl) (by rw [ct_n (p := (fun k => bhd (V k) (bln x) == x)) (n := i) c_26]; rfl))
        · refine lv_iconst (v := nI (1)) hx hb dX5_beginning_29 (by decide) ?_
          refine lv_goto (tgt := 34) hx hb dX5_beginning_30 (by decide) ?_
          refine lv_iadd hx hb dX5_beginning_34 ?_
          refine tpi (nI_add _ _) ?_
          refine lv_istore_n (lv' := [(3, .int (nI ((fb_ct (fun k => bhd (V k) (bln x) == x) i) + 1))), (0, .ref (a 0)), (1, .long (lN (x))), (4, .int (nI (i)))]) hx hb dX5_beginning_35 rfl hl (by decide) rfl (fun ls hl => ?_)
          refine lv_iinc (v := nI (i + 1)) (lv' := [(4, .int (nI (i + 1))), (3, .int (nI ((fb_ct (fun k => bhd (V k) (bln x) == x) i) + 1))), (0, .ref (a 0)), (1, .long (lN (x)))]) hx hb dX5_beginning_36 hl (k := 3) rfl (inc1 _) (by decide) rfl (fun ls hl => ?_)
          refine lv_goto (tgt := 5) hx hb dX5_beginning_39 (by decide) ?_
          exact ih_5 (i + 1) (by omega) (by omega) ls (lv_cg (l := [(0, .ref (a 0)), (1, .long (lN (x))), (3, .int (nI ((fb_ct (fun k => bhd (V k) (bln x) == x) i) + 1))), (4, .int (nI (i + 1)))]) (lv_sub hl [2, 3, 1, 0] rfl) (by rw [ct_y (p := (fun k => bhd (V k) (bln x) == x)) (n := i) c_26]))
  exact lp_5 _ (0) (by omega) (Nat.lt_succ_self _) ls (lv_sub hl [2, 3, 1, 0] rfl)
abbrev rm_X5_isNode : Room := { frames := 0, cells := 0, slots := 0, locals := 0 }
set_option maxHeartbeats 4000000 in
set_option maxRecDepth 100000 in
theorem c_X5_isNode (l : Launch) (dC : Nat → ClassId) (dI : Nat → Nat → Nat) (cI cJ cZ : ClassId) (a : Nat → Nat) (ty : Nat → Int32) (tm b : Nat) (wo : Nat → Int64) (of : Nat → Int32) (n : Nat) (no : Nat → Int64) (nm : Nat) (un : Nat → Int64) (um : Nat) (sa sl si : Nat → Int32) (sn : Nat) (tk : Nat → Int32) (v : Nat) (V O K SA SL SI : Nat → Nat) (hmw : bMW ty tm v) (hmd : bMD wo of n V O) (hmn : bMN no nm K) (hms : bMS sa sl si sn SA SL SI) (x : Nat) (h63 : x < 2 ^ 63) : Met l yX5_isNode wsX5_isNode rm_X5_isNode (rPc (dC, dI) (tysA cI cJ cZ) (wm a cI cJ cZ ty tm b wo of n no nm un um sa sl si sn tk) [.ref (a 0), .long (lN (x))]) (Ri (bI (bnd K x nm))) 0 0 (fun _ => False) := by
  refine met_r (cc := cX5_isNode) (maxL := 5) (ret := (some .boolean)) (own := RX5) (by decide) rfl rfl (Nat.le_of_ble_eq_true rfl) ?_
  intro p e s m below meth c S hr hlocks hP hK ls hl
  obtain ⟨hx, hb, hml, hown, hts⟩ := id S
  have hl : lv_has ls 5 [(0, .ref (a 0)), (1, .long (lN (x)))] := hl
  have hi5 : ∀ w ∈ wsX50, w ∈ wsX5_isNode := fun _ h => List.mem_cons_of_mem _ (List.mem_append_right _ h)
  obtain ⟨hvw, htm, hty⟩ := id hmw; obtain ⟨hn, hk⟩ := id hmd; obtain ⟨hnm, hkn⟩ := id hmn; obtain ⟨hsn, hks⟩ := id hms
  refine lv_iconst (v := nI (0)) hx hb dX5_isNode_0 (by decide) ?_
  refine lv_istore_n (lv' := [(3, .int (nI (0))), (0, .ref (a 0)), (1, .long (lN (x)))]) hx hb dX5_isNode_1 rfl hl (by decide) rfl (fun ls hl => ?_)
  refine lv_iconst (v := nI (0)) hx hb dX5_isNode_2 (by decide) ?_
  refine lv_istore (lv' := [(4, .int (nI (0))), (3, .int (nI (0))), (0, .ref (a 0)), (1, .long (lN (x)))]) hx hb dX5_isNode_3 hl (by decide) rfl (fun ls hl => ?_)
  have lp_5 : ∀ (j_5 : Nat) (i : Nat), (i ≤ nm) → (nm - i) < j_5 → ∀ ls : Array Slot, lv_has ls 5 [(0, .ref (a 0)), (1, .long (lN (x))), (3, .int (bI (bnd K x i))), (4, .int (nI (i)))] → W p l e rm_X5_isNode s m ([.ref (a 0), .long (lN (x))] : List Value).toArray below meth c s.heap [] 0 0 (MQ below (Ri (bI (bnd K x nm))) ([.ref (a 0), .long (lN (x))] : List Value).toArray s 0 0 (fun _ => False)) (F0 m 5 ls []) := by
    intro j_5
    induction j_5 with
    | zero => intro i _ h0; exact absurd h0 (Nat.not_lt_zero _)
    | succ j_5 ih_5 =>
      intro i hi hf_5 ls hl
      refine lv_iload hx hb dX5_isNode_5 (lv_at hl 3 rfl) ?_
      refine lv_aload_n hx hb dX5_isNode_7 rfl (lv_at hl 0 rfl) ?_
      refine va_get (D := (dC, dI)) (ci := 4) (v := .int (nI (nm))) (C := RX5) (T := TX5) (N := 16) hx hb hts hi5 hown hK hP 0 rfl rfl 8 (by decide) (hts (.fieldLink RX5 74 "BurstWordsModel" "nodeMany" "I") (by decide +kernel)) (fun _ h9 => h9) rfl dX5_isNode_8 ?_
      refine n_ge (tgt := 42) hx hb dX5_isNode_11 (by decide) (by omega) (by omega) (fun c_11 => ?_) (fun c_11 => ?_)
      · refine lv_iload_n hx hb dX5_isNode_42 rfl (lv_at hl 2 rfl) ?_
        exact r_z (x := bnd K x i) hx hb hr hlocks rfl (by rw [show i = nm by omega]) dX5_isNode_43
      · refine lv_iload_n hx hb dX5_isNode_14 rfl (lv_at hl 2 rfl) ?_
        refine b_ne (tgt := 30) hx hb dX5_isNode_15 (by decide) (fun c_15 => ?_) (fun c_15 => ?_)
        · refine lv_iconst (v := nI (1)) hx hb dX5_isNode_30 (by decide) ?_
          refine lv_goto (tgt := 35) hx hb dX5_isNode_31 (by decide) ?_
          refine lv_istore_n (lv' := [(3, .int (nI (1))), (0, .ref (a 0)), (1, .long (lN (x))), (4, .int (nI (i)))]) hx hb dX5_isNode_35 rfl hl (by decide) rfl (fun ls hl => ?_)
          refine lv_iinc (v := nI (i + 1)) (lv' := [(4, .int (nI (i + 1))), (3, .int (nI (1))), (0, .ref (a 0)), (1, .long (lN (x)))]) hx hb dX5_isNode_36 hl (k := 3) rfl (inc1 _) (by decide) rfl (fun ls hl => ?_)
          refine lv_goto (tgt := 5) hx hb dX5_isNode_39 (by decide) ?_
          exact ih_5 (i + 1) (by omega) (by omega) ls (lv_cg (l := [(0, .ref (a 0)), (1, .long (lN (x))), (3, .int (nI (1))), (4, .int (nI (i + 1)))]) (lv_sub hl [2, 3, 1, 0] rfl) (by rw [show bnd K x (i + 1) = true by simp [bnd, c_15]]; rfl))
        · refine lv_aload_n hx hb dX5_isNode_18 rfl (lv_at hl 0 rfl) ?_
          refine va_get (D := (dC, dI)) (ci := 4) (v := .ref (a 4)) (C := RX5) (T := TX5) (N := 16) hx hb hts hi5 hown hK hP 0 rfl rfl 7 (by decide) (hts (.fieldLink RX5 24 "BurstWordsModel" "node" "[J") (by decide +kernel)) (fun _ h9 => h9) rfl dX5_isNode_19 ?_
          refine lv_iload hx hb dX5_isNode_22 (lv_at hl 3 rfl) ?_
          refine g_l hx hb hK hP 4 1 rfl rfl (k := i) (by omega) (by decide) dX5_isNode_24 (v := lN (K i)) (hkn _ (by omega)).1 ?_
          refine lv_lload_n hx hb dX5_isNode_25 rfl (lv_at hl 1 rfl) ?_
          refine q_ne (tgt := 34) hx hb dX5_isNode_26 dX5_isNode_27 (by decide) (w63 (hkn _ (by omega)).2) h63 (fun c_26 => ?_) (fun c_26 => ?_)
          · refine lv_iconst (v := nI (0)) hx hb dX5_isNode_34 (by decide) ?_
            refine lv_istore_n (lv' := [(3, .int (nI (0))), (0, .ref (a 0)), (1, .long (lN (x))), (4, .int (nI (i)))]) hx hb dX5_isNode_35 rfl hl (by decide) rfl (fun ls hl => ?_)
            refine lv_iinc (v := nI (i + 1)) (lv' := [(4, .int (nI (i + 1))), (3, .int (nI (0))), (0, .ref (a 0)), (1, .long (lN (x)))]) hx hb dX5_isNode_36 hl (k := 3) rfl (inc1 _) (by decide) rfl (fun ls hl => ?_)
            refine lv_goto (tgt := 5) hx hb dX5_isNode_39 (by decide) ?_
            exact ih_5 (i + 1) (by omega) (by omega) ls (lv_cg (l := [(0, .ref (a 0)), (1, .long (lN (x))), (3, .int (nI (0))), (4, .int (nI (i + 1)))]) (lv_sub hl [2, 3, 1, 0] rfl) (by rw [show bnd K x (i + 1) = false by simp [bnd, c_15, c_26]]; rfl))
          · refine lv_iconst (v := nI (1)) hx hb dX5_isNode_30 (by decide) ?_
            refine lv_goto (tgt := 35) hx hb dX5_isNode_31 (by decide) ?_
            refine lv_istore_n (lv' := [(3, .int (nI (1))), (0, .ref (a 0)), (1, .long (lN (x))), (4, .int (nI (i)))]) hx hb dX5_isNode_35 rfl hl (by decide) rfl (fun ls hl => ?_)
            refine lv_iinc (v := nI (i + 1)) (lv' := [(4, .int (nI (i + 1))), (3, .int (nI (1))), (0, .ref (a 0)), (1, .long (lN (x)))]) hx hb dX5_isNode_36 hl (k := 3) rfl (inc1 _) (by decide) rfl (fun ls hl => ?_)
            refine lv_goto (tgt := 5) hx hb dX5_isNode_39 (by decide) ?_
            exact ih_5 (i + 1) (by omega) (by omega) ls (lv_cg (l := [(0, .ref (a 0)), (1, .long (lN (x))), (3, .int (nI (1))), (4, .int (nI (i + 1)))]) (lv_sub hl [2, 3, 1, 0] rfl) (by rw [show bnd K x (i + 1) = true by simp [bnd, c_26]]; rfl))
  exact lp_5 _ (0) (by omega) (Nat.lt_succ_self _) ls (lv_sub hl [2, 3, 1, 0] rfl)
abbrev rm_X5_containerSize : Room := { frames := 3, cells := 0, slots := 0, locals := 67 }
set_option maxHeartbeats 4000000 in
set_option maxRecDepth 100000 in
theorem c_X5_containerSize (l : Launch) (dC : Nat → ClassId) (dI : Nat → Nat → Nat) (cI cJ cZ : ClassId) (a : Nat → Nat) (ty : Nat → Int32) (tm b : Nat) (wo : Nat → Int64) (of : Nat → Int32) (n : Nat) (no : Nat → Int64) (nm : Nat) (un : Nat → Int64) (um : Nat) (sa sl si : Nat → Int32) (sn : Nat) (tk : Nat → Int32) (v : Nat) (V O K SA SL SI : Nat → Nat) (hmw : bMW ty tm v) (hmd : bMD wo of n V O) (hmn : bMN no nm K) (hms : bMS sa sl si sn SA SL SI) (x : Nat) (h63 : x < 2 ^ 63) : Met l yX5_containerSize wsX5_containerSize rm_X5_containerSize (rPc (dC, dI) (tysA cI cJ cZ) (wm a cI cJ cZ ty tm b wo of n no nm un um sa sl si sn tk) [.ref (a 0), .long (lN (x))]) (Ri (bopt (bln x + 1) (bcs K nm x))) 0 0 (fun _ => False) := by
  refine met_r (cc := cX5_containerSize) (maxL := 4) (ret := (some .int)) (own := RX5) (by decide) rfl rfl (Nat.le_of_ble_eq_true rfl) ?_
  intro p e s m below meth c S hr hlocks hP hK ls hl
  obtain ⟨hx, hb, hml, hown, hts⟩ := id S
  have hl : lv_has ls 4 [(0, .ref (a 0)), (1, .long (lN (x)))] := hl
  have hi5 : ∀ w ∈ wsX50, w ∈ wsX5_containerSize := fun _ h => List.mem_cons_of_mem _ (List.mem_append_right _ h)
  obtain ⟨hvw, htm, hty⟩ := id hmw; obtain ⟨hn, hk⟩ := id hmd; obtain ⟨hnm, hkn⟩ := id hmn; obtain ⟨hsn, hks⟩ := id hms
  have hlx := bln_le x
  refine lv_iconst (v := nI (0)) hx hb dX5_containerSize_0 (by decide) ?_
  refine lv_istore_n (lv' := [(3, .int (nI (0))), (0, .ref (a 0)), (1, .long (lN (x)))]) hx hb dX5_containerSize_1 rfl hl (by decide) rfl (fun ls hl => ?_)
  have lp_2 : ∀ (j_2 : Nat) (i : Nat), (i ≤ bln x + 1) → (∀ k, k < i → bnd K (bhd x k) nm = true) → (bln x + 1 - i) < j_2 → ∀ ls : Array Slot, lv_has ls 4 [(0, .ref (a 0)), (1, .long (lN (x))), (3, .int (nI (i)))] → W p l e rm_X5_containerSize s m ([.ref (a 0), .long (lN (x))] : List Value).toArray below meth c s.heap [] 0 0 (MQ below (Ri (bopt (bln x + 1) (bcs K nm x))) ([.ref (a 0), .long (lN (x))] : List Value).toArray s 0 0 (fun _ => False)) (F0 m 2 ls []) := by
    intro j_2
    induction j_2 with
    | zero => intro i _ _ h0; exact absurd h0 (Nat.not_lt_zero _)
    | succ j_2 ih_2 =>
      intro i hi hz hf_2 ls hl
      refine lv_iload_n hx hb dX5_containerSize_2 rfl (lv_at hl 2 rfl) ?_
      refine lv_lload_n hx hb dX5_containerSize_3 rfl (lv_at hl 1 rfl) ?_
      refine c_Si (As := [.long (lN (x))]) (rest := [.int (nI (i))]) S (c_X5_size l x h63) (va_cwS 1 hts gX5_containerSize_X5_size rfl rfl rfl (by decide +kernel) ⟨Nat.le_of_ble_eq_true rfl, Nat.le_of_ble_eq_true rfl⟩) rfl hl.1 rfl (Nat.le_of_ble_eq_true rfl) dX5_containerSize_4 ⟨Nat.le_of_ble_eq_true rfl, Nat.le_of_ble_eq_true rfl⟩ ?_
      refine n_gt (tgt := 30) hx hb dX5_containerSize_7 (by decide) (by omega) (by omega) (fun c_7 => ?_) (fun c_7 => ?_)
      · refine lv_iconst (v := (-1 : Int32)) hx hb dX5_containerSize_30 (by decide) ?_
        exact r_i hx hb hr hlocks (by rw [show bcs K nm x = bln x + 1 from bfs_eq (Nat.le_refl _) (fun k h => by simp [hz k (by omega)]) (fun h => absurd h (Nat.lt_irrefl _))]; exact (bopt_n (Nat.lt_irrefl _)).symm) dX5_containerSize_31
      · refine lv_aload_n hx hb dX5_containerSize_10 rfl (lv_at hl 0 rfl) ?_
        refine lv_lload_n hx hb dX5_containerSize_11 rfl (lv_at hl 1 rfl) ?_
        refine lv_iload_n hx hb dX5_containerSize_12 rfl (lv_at hl 2 rfl) ?_
        refine c_Sl (As := [.long (lN (x)), .int (nI (i))]) (rest := [.ref (a 0)]) S (c_X5_head l x i h63 (by have := bln_le x; omega)) (va_cwS 2 hts gX5_containerSize_X5_head rfl rfl rfl (by decide +kernel) ⟨Nat.le_of_ble_eq_true rfl, Nat.le_of_ble_eq_true rfl⟩) rfl hl.1 rfl (Nat.le_of_ble_eq_true rfl) dX5_containerSize_13 ⟨Nat.le_of_ble_eq_true rfl, Nat.le_of_ble_eq_true rfl⟩ ?_
        refine c_Vi (As := [.long (lN (bhd x i))]) (rest := []) (ci := 4) (q0 := 0) S (c_X5_isNode l dC dI cI cJ cZ a ty tm b wo of n no nm un um sa sl si sn tk v V O K SA SL SI hmw hmd hmn hms (bhd x i) (Nat.lt_of_le_of_lt (bhd_le _ _) h63)) (cwV 1 hts gX5_containerSize_X5_isNode rfl rfl rfl (by decide +kernel) ⟨Nat.le_of_ble_eq_true rfl, Nat.le_of_ble_eq_true rfl⟩) hK hP rfl rfl rfl hl.1 rfl (Nat.le_of_ble_eq_true rfl) dX5_containerSize_16 ⟨Nat.le_of_ble_eq_true rfl, Nat.le_of_ble_eq_true rfl⟩ ?_
        refine b_ne (tgt := 24) hx hb dX5_containerSize_19 (by decide) (fun c_19 => ?_) (fun c_19 => ?_)
        · refine lv_iinc (v := nI (i + 1)) (lv' := [(3, .int (nI (i + 1))), (0, .ref (a 0)), (1, .long (lN (x)))]) hx hb dX5_containerSize_24 hl (k := 2) rfl (inc1 _) (by decide) rfl (fun ls hl => ?_)
          refine lv_goto (tgt := 2) hx hb dX5_containerSize_27 (by decide) ?_
          exact ih_2 (i + 1) (by omega) (lt_s hz c_19) (by omega) ls (lv_sub hl [1, 2, 0] rfl)
        · refine lv_iload_n hx hb dX5_containerSize_22 rfl (lv_at hl 2 rfl) ?_
          exact r_i hx hb hr hlocks (by rw [show bcs K nm x = i from bfs_eq hi (fun k h => by simp [hz k h]) (fun _ => by simp [c_19])]; exact (bopt_y (by omega)).symm) dX5_containerSize_23
  exact lp_2 _ (0) (by omega) lt_0 (Nat.lt_succ_self _) ls (lv_sub hl [1, 2, 0] rfl)
abbrev rm_X5_depthOf : Room := { frames := 3, cells := 0, slots := 0, locals := 67 }
set_option maxHeartbeats 4000000 in
set_option maxRecDepth 100000 in
theorem c_X5_depthOf (l : Launch) (dC : Nat → ClassId) (dI : Nat → Nat → Nat) (cI cJ cZ : ClassId) (a : Nat → Nat) (ty : Nat → Int32) (tm b : Nat) (wo : Nat → Int64) (of : Nat → Int32) (n : Nat) (no : Nat → Int64) (nm : Nat) (un : Nat → Int64) (um : Nat) (sa sl si : Nat → Int32) (sn : Nat) (tk : Nat → Int32) (v : Nat) (V O K SA SL SI : Nat → Nat) (hmw : bMW ty tm v) (hmd : bMD wo of n V O) (hmn : bMN no nm K) (hms : bMS sa sl si sn SA SL SI) (x : Nat) (h63 : x < 2 ^ 63) : Met l yX5_depthOf wsX5_depthOf rm_X5_depthOf (rPc (dC, dI) (tysA cI cJ cZ) (wm a cI cJ cZ ty tm b wo of n no nm un um sa sl si sn tk) [.ref (a 0), .long (lN (x))]) (Ri (nI (bde K nm x))) 0 0 (fun _ => False) := by
  refine met_r (cc := cX5_depthOf) (maxL := 5) (ret := (some .int)) (own := RX5) (by decide) rfl rfl (Nat.le_of_ble_eq_true rfl) ?_
  intro p e s m below meth c S hr hlocks hP hK ls hl
  obtain ⟨hx, hb, hml, hown, hts⟩ := id S
  have hl : lv_has ls 5 [(0, .ref (a 0)), (1, .long (lN (x)))] := hl
  have hi5 : ∀ w ∈ wsX50, w ∈ wsX5_depthOf := fun _ h => List.mem_cons_of_mem _ (List.mem_append_right _ h)
  obtain ⟨hvw, htm, hty⟩ := id hmw; obtain ⟨hn, hk⟩ := id hmd; obtain ⟨hnm, hkn⟩ := id hmn; obtain ⟨hsn, hks⟩ := id hms
  have hlx := bln_le x
  refine lv_iconst (v := nI (0)) hx hb dX5_depthOf_0 (by decide) ?_
  refine lv_istore_n (lv' := [(3, .int (nI (0))), (0, .ref (a 0)), (1, .long (lN (x)))]) hx hb dX5_depthOf_1 rfl hl (by decide) rfl (fun ls hl => ?_)
  refine lv_iconst (v := nI (0)) hx hb dX5_depthOf_2 (by decide) ?_
  refine lv_istore (lv' := [(4, .int (nI (0))), (3, .int (nI (0))), (0, .ref (a 0)), (1, .long (lN (x)))]) hx hb dX5_depthOf_3 hl (by decide) rfl (fun ls hl => ?_)
  have lp_5 : ∀ (j_5 : Nat) (i : Nat), (i ≤ bln x + 1) → (bln x + 1 - i) < j_5 → ∀ ls : Array Slot, lv_has ls 5 [(0, .ref (a 0)), (1, .long (lN (x))), (3, .int (nI (fb_ct (fun g => bnd K (bhd x g) nm) i))), (4, .int (nI (i)))] → W p l e rm_X5_depthOf s m ([.ref (a 0), .long (lN (x))] : List Value).toArray below meth c s.heap [] 0 0 (MQ below (Ri (nI (bde K nm x))) ([.ref (a 0), .long (lN (x))] : List Value).toArray s 0 0 (fun _ => False)) (F0 m 5 ls []) := by
    intro j_5
    induction j_5 with
    | zero => intro i _ h0; exact absurd h0 (Nat.not_lt_zero _)
    | succ j_5 ih_5 =>
      intro i hi hf_5 ls hl
      refine lv_iload hx hb dX5_depthOf_5 (lv_at hl 3 rfl) ?_
      refine lv_lload_n hx hb dX5_depthOf_7 rfl (lv_at hl 1 rfl) ?_
      refine c_Si (As := [.long (lN (x))]) (rest := [.int (nI (i))]) S (c_X5_size l x h63) (va_cwS 1 hts gX5_depthOf_X5_size rfl rfl rfl (by decide +kernel) ⟨Nat.le_of_ble_eq_true rfl, Nat.le_of_ble_eq_true rfl⟩) rfl hl.1 rfl (Nat.le_of_ble_eq_true rfl) dX5_depthOf_8 ⟨Nat.le_of_ble_eq_true rfl, Nat.le_of_ble_eq_true rfl⟩ ?_
      refine n_gt (tgt := 41) hx hb dX5_depthOf_11 (by decide) (by omega) (by omega) (fun c_11 => ?_) (fun c_11 => ?_)
      · refine lv_iload_n hx hb dX5_depthOf_41 rfl (lv_at hl 2 rfl) ?_
        exact r_i hx hb hr hlocks (by rw [show i = bln x + 1 by omega]; rfl) dX5_depthOf_42
      · refine lv_iload_n hx hb dX5_depthOf_14 rfl (lv_at hl 2 rfl) ?_
        refine lv_aload_n hx hb dX5_depthOf_15 rfl (lv_at hl 0 rfl) ?_
        refine lv_lload_n hx hb dX5_depthOf_16 rfl (lv_at hl 1 rfl) ?_
        refine lv_iload hx hb dX5_depthOf_17 (lv_at hl 3 rfl) ?_
        refine c_Sl (As := [.long (lN (x)), .int (nI (i))]) (rest := [.ref (a 0), .int (nI (fb_ct (fun g => bnd K (bhd x g) nm) i))]) S (c_X5_head l x i h63 (by have := bln_le x; omega)) (va_cwS 2 hts gX5_depthOf_X5_head rfl rfl rfl (by decide +kernel) ⟨Nat.le_of_ble_eq_true rfl, Nat.le_of_ble_eq_true rfl⟩) rfl hl.1 rfl (Nat.le_of_ble_eq_true rfl) dX5_depthOf_19 ⟨Nat.le_of_ble_eq_true rfl, Nat.le_of_ble_eq_true rfl⟩ ?_
        refine c_Vi (As := [.long (lN (bhd x i))]) (rest := [.int (nI (fb_ct (fun g => bnd K (bhd x g) nm) i))]) (ci := 4) (q0 := 0) S (c_X5_isNode l dC dI cI cJ cZ a ty tm b wo of n no nm un um sa sl si sn tk v V O K SA SL SI hmw hmd hmn hms (bhd x i) (Nat.lt_of_le_of_lt (bhd_le _ _) h63)) (cwV 1 hts gX5_depthOf_X5_isNode rfl rfl rfl (by decide +kernel) ⟨Nat.le_of_ble_eq_true rfl, Nat.le_of_ble_eq_true rfl⟩) hK hP rfl rfl rfl hl.1 rfl (Nat.le_of_ble_eq_true rfl) dX5_depthOf_22 ⟨Nat.le_of_ble_eq_true rfl, Nat.le_of_ble_eq_true rfl⟩ ?_
        refine b_eq (tgt := 32) hx hb dX5_depthOf_25 (by decide) (fun c_25 => ?_) (fun c_25 => ?_)
        · refine lv_iconst (v := nI (0)) hx hb dX5_depthOf_32 (by decide) ?_
          refine lv_iadd hx hb dX5_depthOf_33 ?_
          refine tpi (nI_add _ _) ?_
          refine lv_istore_n (lv' := [(3, .int (nI ((fb_ct (fun g => bnd K (bhd x g) nm) i) + 0))), (0, .ref (a 0)), (1, .long (lN (x))), (4, .int (nI (i)))]) hx hb dX5_depthOf_34 rfl hl (by decide) rfl (fun ls hl => ?_)
          refine lv_iinc (v := nI (i + 1)) (lv' := [(4, .int (nI (i + 1))), (3, .int (nI ((fb_ct (fun g => bnd K (bhd x g) nm) i) + 0))), (0, .ref (a 0)), (1, .long (lN (x)))]) hx hb dX5_depthOf_35 hl (k := 3) rfl (inc1 _) (by decide) rfl (fun ls hl => ?_)
          refine lv_goto (tgt := 5) hx hb dX5_depthOf_38 (by decide) ?_
          exact ih_5 (i + 1) (by omega) (by omega) ls (lv_cg (l := [(0, .ref (a 0)), (1, .long (lN (x))), (3, .int (nI ((fb_ct (fun g => bnd K (bhd x g) nm) i) + 0))), (4, .int (nI (i + 1)))]) (lv_sub hl [2, 3, 1, 0] rfl) (by rw [ct_n (p := (fun g => bnd K (bhd x g) nm)) (n := i) c_25]; rfl))
        · refine lv_iconst (v := nI (1)) hx hb dX5_depthOf_28 (by decide) ?_
          refine lv_goto (tgt := 33) hx hb dX5_depthOf_29 (by decide) ?_
          refine lv_iadd hx hb dX5_depthOf_33 ?_
          refine tpi (nI_add _ _) ?_
          refine lv_istore_n (lv' := [(3, .int (nI ((fb_ct (fun g => bnd K (bhd x g) nm) i) + 1))), (0, .ref (a 0)), (1, .long (lN (x))), (4, .int (nI (i)))]) hx hb dX5_depthOf_34 rfl hl (by decide) rfl (fun ls hl => ?_)
          refine lv_iinc (v := nI (i + 1)) (lv' := [(4, .int (nI (i + 1))), (3, .int (nI ((fb_ct (fun g => bnd K (bhd x g) nm) i) + 1))), (0, .ref (a 0)), (1, .long (lN (x)))]) hx hb dX5_depthOf_35 hl (k := 3) rfl (inc1 _) (by decide) rfl (fun ls hl => ?_)
          refine lv_goto (tgt := 5) hx hb dX5_depthOf_38 (by decide) ?_
          exact ih_5 (i + 1) (by omega) (by omega) ls (lv_cg (l := [(0, .ref (a 0)), (1, .long (lN (x))), (3, .int (nI ((fb_ct (fun g => bnd K (bhd x g) nm) i) + 1))), (4, .int (nI (i + 1)))]) (lv_sub hl [2, 3, 1, 0] rfl) (by rw [ct_y (p := (fun g => bnd K (bhd x g) nm)) (n := i) c_25]))
  exact lp_5 _ (0) (by omega) (Nat.lt_succ_self _) ls (lv_sub hl [2, 3, 1, 0] rfl)
abbrev rm_X5_beginOf : Room := { frames := 4, cells := 0, slots := 0, locals := 90 }
set_option maxHeartbeats 4000000 in
set_option maxRecDepth 100000 in
theorem c_X5_beginOf (l : Launch) (dC : Nat → ClassId) (dI : Nat → Nat → Nat) (cI cJ cZ : ClassId) (a : Nat → Nat) (ty : Nat → Int32) (tm b : Nat) (wo : Nat → Int64) (of : Nat → Int32) (n : Nat) (no : Nat → Int64) (nm : Nat) (un : Nat → Int64) (um : Nat) (sa sl si : Nat → Int32) (sn : Nat) (tk : Nat → Int32) (v : Nat) (V O K SA SL SI : Nat → Nat) (hmw : bMW ty tm v) (hmd : bMD wo of n V O) (hmn : bMN no nm K) (hms : bMS sa sl si sn SA SL SI) (x : Nat) (h63 : x < 2 ^ 63) : Met l yX5_beginOf wsX5_beginOf rm_X5_beginOf (rPc (dC, dI) (tysA cI cJ cZ) (wm a cI cJ cZ ty tm b wo of n no nm un um sa sl si sn tk) [.ref (a 0), .long (lN (x))]) (Ri (nI (fb_sm (fun k => if bhd (V k) (bln x) == x then O k else 0) n))) 0 0 (fun _ => False) := by
  refine met_r (cc := cX5_beginOf) (maxL := 5) (ret := (some .int)) (own := RX5) (by decide) rfl rfl (Nat.le_of_ble_eq_true rfl) ?_
  intro p e s m below meth c S hr hlocks hP hK ls hl
  obtain ⟨hx, hb, hml, hown, hts⟩ := id S
  have hl : lv_has ls 5 [(0, .ref (a 0)), (1, .long (lN (x)))] := hl
  have hi5 : ∀ w ∈ wsX50, w ∈ wsX5_beginOf := fun _ h => List.mem_cons_of_mem _ (List.mem_append_right _ h)
  obtain ⟨hvw, htm, hty⟩ := id hmw; obtain ⟨hn, hk⟩ := id hmd; obtain ⟨hnm, hkn⟩ := id hmn; obtain ⟨hsn, hks⟩ := id hms
  refine lv_iconst (v := nI (0)) hx hb dX5_beginOf_0 (by decide) ?_
  refine lv_istore_n (lv' := [(3, .int (nI (0))), (0, .ref (a 0)), (1, .long (lN (x)))]) hx hb dX5_beginOf_1 rfl hl (by decide) rfl (fun ls hl => ?_)
  refine lv_iconst (v := nI (0)) hx hb dX5_beginOf_2 (by decide) ?_
  refine lv_istore (lv' := [(4, .int (nI (0))), (3, .int (nI (0))), (0, .ref (a 0)), (1, .long (lN (x)))]) hx hb dX5_beginOf_3 hl (by decide) rfl (fun ls hl => ?_)
  have lp_5 : ∀ (j_5 : Nat) (i : Nat), (i ≤ n) → (n - i) < j_5 → ∀ ls : Array Slot, lv_has ls 5 [(0, .ref (a 0)), (1, .long (lN (x))), (3, .int (nI (fb_sm (fun k => if bhd (V k) (bln x) == x then O k else 0) i))), (4, .int (nI (i)))] → W p l e rm_X5_beginOf s m ([.ref (a 0), .long (lN (x))] : List Value).toArray below meth c s.heap [] 0 0 (MQ below (Ri (nI (fb_sm (fun k => if bhd (V k) (bln x) == x then O k else 0) n))) ([.ref (a 0), .long (lN (x))] : List Value).toArray s 0 0 (fun _ => False)) (F0 m 5 ls []) := by
    intro j_5
    induction j_5 with
    | zero => intro i _ h0; exact absurd h0 (Nat.not_lt_zero _)
    | succ j_5 ih_5 =>
      intro i hi hf_5 ls hl
      refine lv_iload hx hb dX5_beginOf_5 (lv_at hl 3 rfl) ?_
      refine lv_aload_n hx hb dX5_beginOf_7 rfl (lv_at hl 0 rfl) ?_
      refine va_get (D := (dC, dI)) (ci := 4) (v := .int (nI (n))) (C := RX5) (T := TX5) (N := 16) hx hb hts hi5 hown hK hP 0 rfl rfl 6 (by decide) (hts (.fieldLink RX5 67 "BurstWordsModel" "many" "I") (by decide +kernel)) (fun _ h9 => h9) rfl dX5_beginOf_8 ?_
      refine n_ge (tgt := 48) hx hb dX5_beginOf_11 (by decide) (by omega) (by omega) (fun c_11 => ?_) (fun c_11 => ?_)
      · refine lv_iload_n hx hb dX5_beginOf_48 rfl (lv_at hl 2 rfl) ?_
        exact r_i hx hb hr hlocks (by rw [show i = n by omega]) dX5_beginOf_49
      · refine lv_iload_n hx hb dX5_beginOf_14 rfl (lv_at hl 2 rfl) ?_
        refine lv_aload_n hx hb dX5_beginOf_15 rfl (lv_at hl 0 rfl) ?_
        refine va_get (D := (dC, dI)) (ci := 4) (v := .ref (a 2)) (C := RX5) (T := TX5) (N := 16) hx hb hts hi5 hown hK hP 0 rfl rfl 4 (by decide) (hts (.fieldLink RX5 17 "BurstWordsModel" "word" "[J") (by decide +kernel)) (fun _ h9 => h9) rfl dX5_beginOf_16 ?_
        refine lv_iload hx hb dX5_beginOf_19 (lv_at hl 3 rfl) ?_
        refine g_l hx hb hK hP 2 1 rfl rfl (k := i) (by omega) (by decide) dX5_beginOf_21 (v := lN (V i)) (hk _ (by omega)).1 ?_
        refine lv_lload_n hx hb dX5_beginOf_22 rfl (lv_at hl 1 rfl) ?_
        refine c_Si (As := [.long (lN (V i)), .long (lN (x))]) (rest := [.int (nI (fb_sm (fun k => if bhd (V k) (bln x) == x then O k else 0) i))]) S (c_X5_begins l (V i) x (w63 (hk _ (by omega)).2.1.1) h63) (va_cwS 2 hts gX5_beginOf_X5_begins rfl rfl rfl (by decide +kernel) ⟨Nat.le_of_ble_eq_true rfl, Nat.le_of_ble_eq_true rfl⟩) rfl hl.1 rfl (Nat.le_of_ble_eq_true rfl) dX5_beginOf_23 ⟨Nat.le_of_ble_eq_true rfl, Nat.le_of_ble_eq_true rfl⟩ ?_
        refine b_eq (tgt := 39) hx hb dX5_beginOf_26 (by decide) (fun c_26 => ?_) (fun c_26 => ?_)
        · refine lv_iconst (v := nI (0)) hx hb dX5_beginOf_39 (by decide) ?_
          refine lv_iadd hx hb dX5_beginOf_40 ?_
          refine tpi (nI_add _ _) ?_
          refine lv_istore_n (lv' := [(3, .int (nI ((fb_sm (fun k => if bhd (V k) (bln x) == x then O k else 0) i) + 0))), (0, .ref (a 0)), (1, .long (lN (x))), (4, .int (nI (i)))]) hx hb dX5_beginOf_41 rfl hl (by decide) rfl (fun ls hl => ?_)
          refine lv_iinc (v := nI (i + 1)) (lv' := [(4, .int (nI (i + 1))), (3, .int (nI ((fb_sm (fun k => if bhd (V k) (bln x) == x then O k else 0) i) + 0))), (0, .ref (a 0)), (1, .long (lN (x)))]) hx hb dX5_beginOf_42 hl (k := 3) rfl (inc1 _) (by decide) rfl (fun ls hl => ?_)
          refine lv_goto (tgt := 5) hx hb dX5_beginOf_45 (by decide) ?_
          exact ih_5 (i + 1) (by omega) (by omega) ls (lv_cg (l := [(0, .ref (a 0)), (1, .long (lN (x))), (3, .int (nI ((fb_sm (fun k => if bhd (V k) (bln x) == x then O k else 0) i) + 0))), (4, .int (nI (i + 1)))]) (lv_sub hl [2, 3, 1, 0] rfl) (by rw [fb_sm_succ, if_neg (by simpa using c_26)]))
        · refine lv_aload_n hx hb dX5_beginOf_29 rfl (lv_at hl 0 rfl) ?_
          refine va_get (D := (dC, dI)) (ci := 4) (v := .ref (a 3)) (C := RX5) (T := TX5) (N := 16) hx hb hts hi5 hown hK hP 0 rfl rfl 5 (by decide) (hts (.fieldLink RX5 21 "BurstWordsModel" "often" "[I") (by decide +kernel)) (fun _ h9 => h9) rfl dX5_beginOf_30 ?_
          refine lv_iload hx hb dX5_beginOf_33 (lv_at hl 3 rfl) ?_
          refine g_i hx hb hK hP 3 0 rfl rfl (k := i) (by omega) (by decide) dX5_beginOf_35 (v := nI (O i)) (hk _ (by omega)).2.2.2.1 ?_
          refine lv_goto (tgt := 40) hx hb dX5_beginOf_36 (by decide) ?_
          refine lv_iadd hx hb dX5_beginOf_40 ?_
          refine tpi (nI_add _ _) ?_
          refine lv_istore_n (lv' := [(3, .int (nI ((fb_sm (fun k => if bhd (V k) (bln x) == x then O k else 0) i) + (O i)))), (0, .ref (a 0)), (1, .long (lN (x))), (4, .int (nI (i)))]) hx hb dX5_beginOf_41 rfl hl (by decide) rfl (fun ls hl => ?_)
          refine lv_iinc (v := nI (i + 1)) (lv' := [(4, .int (nI (i + 1))), (3, .int (nI ((fb_sm (fun k => if bhd (V k) (bln x) == x then O k else 0) i) + (O i)))), (0, .ref (a 0)), (1, .long (lN (x)))]) hx hb dX5_beginOf_42 hl (k := 3) rfl (inc1 _) (by decide) rfl (fun ls hl => ?_)
          refine lv_goto (tgt := 5) hx hb dX5_beginOf_45 (by decide) ?_
          exact ih_5 (i + 1) (by omega) (by omega) ls (lv_cg (l := [(0, .ref (a 0)), (1, .long (lN (x))), (3, .int (nI ((fb_sm (fun k => if bhd (V k) (bln x) == x then O k else 0) i) + (O i)))), (4, .int (nI (i + 1)))]) (lv_sub hl [2, 3, 1, 0] rfl) (by rw [fb_sm_succ, if_pos c_26]))
  exact lp_5 _ (0) (by omega) (Nat.lt_succ_self _) ls (lv_sub hl [2, 3, 1, 0] rfl)
abbrev rm_X5_gcd : Room := { frames := 0, cells := 0, slots := 0, locals := 0 }
set_option maxHeartbeats 4000000 in
set_option maxRecDepth 100000 in
theorem c_X5_gcd (l : Launch) (k : Nat) (g : Nat) (hk31 : k < 2 ^ 31) (hg31 : g < 2 ^ 31) : Met l yX5_gcd wsX5_gcd rm_X5_gcd (sPc [.int (nI (k)), .int (nI (g))]) (Ri (nI (Nat.gcd g k))) 0 0 (fun _ => False) := by
  refine met_s (cc := cX5_gcd) (maxL := 5) (ret := (some .int)) (own := RX5) (by decide) rfl rfl (Nat.le_of_ble_eq_true rfl) ?_
  intro p e s m below meth c S hr hlocks ls hl
  obtain ⟨hx, hb, hml, hown, hts⟩ := id S
  have hl : lv_has ls 5 [(0, .int (nI (k))), (1, .int (nI (g)))] := hl
  refine lv_iload_n hx hb dX5_gcd_0 rfl (lv_at hl 0 rfl) ?_
  refine lv_istore_n (lv' := [(2, .int (nI (k))), (0, .int (nI (k))), (1, .int (nI (g)))]) hx hb dX5_gcd_1 rfl hl (by decide) rfl (fun ls hl => ?_)
  refine lv_iload_n hx hb dX5_gcd_2 rfl (lv_at hl 2 rfl) ?_
  refine lv_istore_n (lv' := [(3, .int (nI (g))), (2, .int (nI (k))), (0, .int (nI (k))), (1, .int (nI (g)))]) hx hb dX5_gcd_3 rfl hl (by decide) rfl (fun ls hl => ?_)
  have lp_4 : ∀ (j_4 : Nat) (i : Nat) (j : Nat), (i < 2 ^ 31) → (j < 2 ^ 31) → (Nat.gcd j i = Nat.gcd g k) → (j) < j_4 → ∀ ls : Array Slot, lv_has ls 5 [(2, .int (nI (i))), (3, .int (nI (j)))] → W p l e rm_X5_gcd s m ([.int (nI (k)), .int (nI (g))] : List Value).toArray below meth c s.heap [] 0 0 (MQ below (Ri (nI (Nat.gcd g k))) ([.int (nI (k)), .int (nI (g))] : List Value).toArray s 0 0 (fun _ => False)) (F0 m 4 ls []) := by
    intro j_4
    induction j_4 with
    | zero => intro i j _ _ _ h0; exact absurd h0 (Nat.not_lt_zero _)
    | succ j_4 ih_4 =>
      intro i j hi hj hz hf_4 ls hl
      refine lv_iload_n hx hb dX5_gcd_4 rfl (lv_at hl 1 rfl) ?_
      refine z_eq (tgt := 21) hx hb dX5_gcd_5 (by decide) (by omega) (fun c_5 => ?_) (fun c_5 => ?_)
      · refine lv_iload_n hx hb dX5_gcd_21 rfl (lv_at hl 0 rfl) ?_
        exact r_i hx hb hr hlocks (by rw [← hz, c_5, Nat.gcd_zero_left]) dX5_gcd_22
      · refine lv_iload_n hx hb dX5_gcd_8 rfl (lv_at hl 0 rfl) ?_
        refine lv_iload_n hx hb dX5_gcd_9 rfl (lv_at hl 1 rfl) ?_
        refine lv_irem hx hb dX5_gcd_10 (nI_ne0 (by omega) (by omega)) ?_
        refine tpi (pk_rem (by omega) (by omega) (by omega)) ?_
        refine lv_istore (lv' := [(4, .int (nI (i % j))), (2, .int (nI (i))), (3, .int (nI (j)))]) hx hb dX5_gcd_11 hl (by decide) rfl (fun ls hl => ?_)
        refine lv_iload_n hx hb dX5_gcd_13 rfl (lv_at hl 2 rfl) ?_
        refine lv_istore_n (lv' := [(2, .int (nI (j))), (4, .int (nI (i % j))), (3, .int (nI (j)))]) hx hb dX5_gcd_14 rfl hl (by decide) rfl (fun ls hl => ?_)
        refine lv_iload hx hb dX5_gcd_15 (lv_at hl 1 rfl) ?_
        refine lv_istore_n (lv' := [(3, .int (nI (i % j))), (2, .int (nI (j))), (4, .int (nI (i % j)))]) hx hb dX5_gcd_17 rfl hl (by decide) rfl (fun ls hl => ?_)
        refine lv_goto (tgt := 4) hx hb dX5_gcd_18 (by decide) ?_
        exact ih_4 (j) (i % j) hj (Nat.lt_trans (Nat.mod_lt i c_5) hj) (by rw [← hz, Nat.gcd_rec j i]) (by have := Nat.mod_lt i c_5; omega) ls (lv_sub hl [1, 0] rfl)
  exact lp_4 _ (k) (g) hk31 hg31 rfl (Nat.lt_succ_self _) ls (lv_sub hl [1, 0] rfl)
abbrev rm_X5_all : Room := { frames := 0, cells := 0, slots := 0, locals := 0 }
set_option maxHeartbeats 4000000 in
set_option maxRecDepth 100000 in
theorem c_X5_all (l : Launch) (dC : Nat → ClassId) (dI : Nat → Nat → Nat) (cI cJ cZ : ClassId) (a : Nat → Nat) (ty : Nat → Int32) (tm b : Nat) (wo : Nat → Int64) (of : Nat → Int32) (n : Nat) (no : Nat → Int64) (nm : Nat) (un : Nat → Int64) (um : Nat) (sa sl si : Nat → Int32) (sn : Nat) (tk : Nat → Int32) (v : Nat) (V O K SA SL SI : Nat → Nat) (hmw : bMW ty tm v) (hmd : bMD wo of n V O) (hmn : bMN no nm K) (hms : bMS sa sl si sn SA SL SI) : Met l yX5_all wsX5_all rm_X5_all (rPc (dC, dI) (tysA cI cJ cZ) (wm a cI cJ cZ ty tm b wo of n no nm un um sa sl si sn tk) [.ref (a 0)]) (Ri (nI (fb_sm O n))) 0 0 (fun _ => False) := by
  refine met_r (cc := cX5_all) (maxL := 3) (ret := (some .int)) (own := RX5) (by decide) rfl rfl (Nat.le_of_ble_eq_true rfl) ?_
  intro p e s m below meth c S hr hlocks hP hK ls hl
  obtain ⟨hx, hb, hml, hown, hts⟩ := id S
  have hl : lv_has ls 3 [(0, .ref (a 0))] := hl
  have hi5 : ∀ w ∈ wsX50, w ∈ wsX5_all := fun _ h => List.mem_cons_of_mem _ (List.mem_append_right _ h)
  obtain ⟨hvw, htm, hty⟩ := id hmw; obtain ⟨hn, hk⟩ := id hmd; obtain ⟨hnm, hkn⟩ := id hmn; obtain ⟨hsn, hks⟩ := id hms
  refine lv_iconst (v := nI (0)) hx hb dX5_all_0 (by decide) ?_
  refine lv_istore_n (lv' := [(1, .int (nI (0))), (0, .ref (a 0))]) hx hb dX5_all_1 rfl hl (by decide) rfl (fun ls hl => ?_)
  refine lv_iconst (v := nI (0)) hx hb dX5_all_2 (by decide) ?_
  refine lv_istore_n (lv' := [(2, .int (nI (0))), (1, .int (nI (0))), (0, .ref (a 0))]) hx hb dX5_all_3 rfl hl (by decide) rfl (fun ls hl => ?_)
  have lp_4 : ∀ (j_4 : Nat) (i : Nat), (i ≤ n) → (n - i) < j_4 → ∀ ls : Array Slot, lv_has ls 3 [(0, .ref (a 0)), (1, .int (nI (fb_sm O i))), (2, .int (nI (i)))] → W p l e rm_X5_all s m ([.ref (a 0)] : List Value).toArray below meth c s.heap [] 0 0 (MQ below (Ri (nI (fb_sm O n))) ([.ref (a 0)] : List Value).toArray s 0 0 (fun _ => False)) (F0 m 4 ls []) := by
    intro j_4
    induction j_4 with
    | zero => intro i _ h0; exact absurd h0 (Nat.not_lt_zero _)
    | succ j_4 ih_4 =>
      intro i hi hf_4 ls hl
      refine lv_iload_n hx hb dX5_all_4 rfl (lv_at hl 2 rfl) ?_
      refine lv_aload_n hx hb dX5_all_5 rfl (lv_at hl 0 rfl) ?_
      refine va_get (D := (dC, dI)) (ci := 4) (v := .int (nI (n))) (C := RX5) (T := TX5) (N := 16) hx hb hts hi5 hown hK hP 0 rfl rfl 6 (by decide) (hts (.fieldLink RX5 67 "BurstWordsModel" "many" "I") (by decide +kernel)) (fun _ h9 => h9) rfl dX5_all_6 ?_
      refine n_ge (tgt := 27) hx hb dX5_all_9 (by decide) (by omega) (by omega) (fun c_9 => ?_) (fun c_9 => ?_)
      · refine lv_iload_n hx hb dX5_all_27 rfl (lv_at hl 1 rfl) ?_
        exact r_i hx hb hr hlocks (by rw [show i = n by omega]) dX5_all_28
      · refine lv_iload_n hx hb dX5_all_12 rfl (lv_at hl 1 rfl) ?_
        refine lv_aload_n hx hb dX5_all_13 rfl (lv_at hl 0 rfl) ?_
        refine va_get (D := (dC, dI)) (ci := 4) (v := .ref (a 3)) (C := RX5) (T := TX5) (N := 16) hx hb hts hi5 hown hK hP 0 rfl rfl 5 (by decide) (hts (.fieldLink RX5 21 "BurstWordsModel" "often" "[I") (by decide +kernel)) (fun _ h9 => h9) rfl dX5_all_14 ?_
        refine lv_iload_n hx hb dX5_all_17 rfl (lv_at hl 2 rfl) ?_
        refine g_i hx hb hK hP 3 0 rfl rfl (k := i) (by omega) (by decide) dX5_all_18 (v := nI (O i)) (hk _ (by omega)).2.2.2.1 ?_
        refine lv_iadd hx hb dX5_all_19 ?_
        refine tpi (nI_add _ _) ?_
        refine lv_istore_n (lv' := [(1, .int (nI ((fb_sm O i) + (O i)))), (0, .ref (a 0)), (2, .int (nI (i)))]) hx hb dX5_all_20 rfl hl (by decide) rfl (fun ls hl => ?_)
        refine lv_iinc (v := nI (i + 1)) (lv' := [(2, .int (nI (i + 1))), (1, .int (nI ((fb_sm O i) + (O i)))), (0, .ref (a 0))]) hx hb dX5_all_21 hl (k := 2) rfl (inc1 _) (by decide) rfl (fun ls hl => ?_)
        refine lv_goto (tgt := 4) hx hb dX5_all_24 (by decide) ?_
        exact ih_4 (i + 1) (by omega) (by omega) ls (lv_sub hl [2, 1, 0] rfl)
  exact lp_4 _ (0) (by omega) (Nat.lt_succ_self _) ls (lv_sub hl [2, 1, 0] rfl)
abbrev rm_X5_tells : Room := { frames := 3, cells := 0, slots := 0, locals := 67 }
set_option maxHeartbeats 4000000 in
set_option maxRecDepth 100000 in
theorem c_X5_tells_l (l : Launch) (dC : Nat → ClassId) (dI : Nat → Nat → Nat) (cI cJ cZ : ClassId) (a : Nat → Nat) (ty : Nat → Int32) (tm b : Nat) (wo : Nat → Int64) (of : Nat → Int32) (n : Nat) (no : Nat → Int64) (nm : Nat) (un : Nat → Int64) (um : Nat) (sa sl si : Nat → Int32) (sn : Nat) (tk : Nat → Int32) (v : Nat) (V O K SA SL SI : Nat → Nat) (hmw : bMW ty tm v) (hmd : bMD wo of n V O) (hmn : bMN no nm K) (hms : bMS sa sl si sn SA SL SI) (k : Nat) (hk31 : k < 2 ^ 31) : Met l yX5_tells wsX5_tells rm_X5_tells (rPc (dC, dI) (tysA cI cJ cZ) (wm a cI cJ cZ ty tm b wo of n no nm un um sa sl si sn tk) [.ref (a 0), .int (nI (k)), .int ((-1 : Int32))]) (Ri (btl V n k 0)) 0 0 (fun _ => False) := by
  refine met_r (cc := cX5_tells) (maxL := 3) (ret := (some .int)) (own := RX5) (by decide) rfl rfl (Nat.le_of_ble_eq_true rfl) ?_
  intro p e s m below meth c S hr hlocks hP hK ls hl
  obtain ⟨hx, hb, hml, hown, hts⟩ := id S
  have hl : lv_has ls 3 [(0, .ref (a 0)), (1, .int (nI (k))), (2, .int ((-1 : Int32)))] := hl
  have hi5 : ∀ w ∈ wsX50, w ∈ wsX5_tells := fun _ h => List.mem_cons_of_mem _ (List.mem_append_right _ h)
  obtain ⟨hvw, htm, hty⟩ := id hmw; obtain ⟨hn, hk⟩ := id hmd; obtain ⟨hnm, hkn⟩ := id hmn; obtain ⟨hsn, hks⟩ := id hms
  refine lv_iload_n hx hb dX5_tells_0 rfl (lv_at hl 1 rfl) ?_
  refine lv_iconst (v := nI (0)) hx hb dX5_tells_1 (by decide) ?_
  refine lv_aload_n hx hb dX5_tells_2 rfl (lv_at hl 0 rfl) ?_
  refine va_get (D := (dC, dI)) (ci := 4) (v := .int (nI (n))) (C := RX5) (T := TX5) (N := 16) hx hb hts hi5 hown hK hP 0 rfl rfl 6 (by decide) (hts (.fieldLink RX5 67 "BurstWordsModel" "many" "I") (by decide +kernel)) (fun _ h9 => h9) rfl dX5_tells_3 ?_
  refine lv_iconst (v := nI (1)) hx hb dX5_tells_6 (by decide) ?_
  refine lv_isub hx hb dX5_tells_7 ?_
  refine c_Si (As := [.int (nI (k)), .int (nI (0)), .int (nI (n) - nI (1))]) (rest := []) S (c_X5_in l (nI (k)) (nI (0)) (nI (n) - nI (1))) (va_cwS 3 hts gX5_tells_X5_in rfl rfl rfl (by decide +kernel) ⟨Nat.le_of_ble_eq_true rfl, Nat.le_of_ble_eq_true rfl⟩) rfl hl.1 rfl (Nat.le_of_ble_eq_true rfl) dX5_tells_8 ⟨Nat.le_of_ble_eq_true rfl, Nat.le_of_ble_eq_true rfl⟩ ?_
  refine tpi (congrArg bI (ink_eq hn hk31)) ?_
  refine b_ne (tgt := 17) hx hb dX5_tells_11 (by decide) (fun c_11 => ?_) (fun c_11 => ?_)
  · refine lv_iload_n hx hb dX5_tells_17 rfl (lv_at hl 2 rfl) ?_
    refine lv_if_ge (tgt := 31) hx hb dX5_tells_18 (by decide) (fun q => absurd q (by decide)) (fun _ => ?_)
    refine lv_aload_n hx hb dX5_tells_21 rfl (lv_at hl 0 rfl) ?_
    refine va_get (D := (dC, dI)) (ci := 4) (v := .ref (a 2)) (C := RX5) (T := TX5) (N := 16) hx hb hts hi5 hown hK hP 0 rfl rfl 4 (by decide) (hts (.fieldLink RX5 17 "BurstWordsModel" "word" "[J") (by decide +kernel)) (fun _ h9 => h9) rfl dX5_tells_22 ?_
    refine lv_iload_n hx hb dX5_tells_25 rfl (lv_at hl 1 rfl) ?_
    refine g_l hx hb hK hP 2 1 rfl rfl (k := k) (by have := of_decide_eq_true c_11; omega) (by decide) dX5_tells_26 (v := lN (V k)) (hk _ (of_decide_eq_true c_11)).1 ?_
    refine c_Si (As := [.long (lN (V k))]) (rest := []) S (c_X5_size l (V k) (w63 (hk _ (of_decide_eq_true c_11)).2.1.1)) (va_cwS 1 hts gX5_tells_X5_size rfl rfl rfl (by decide +kernel) ⟨Nat.le_of_ble_eq_true rfl, Nat.le_of_ble_eq_true rfl⟩) rfl hl.1 rfl (Nat.le_of_ble_eq_true rfl) dX5_tells_27 ⟨Nat.le_of_ble_eq_true rfl, Nat.le_of_ble_eq_true rfl⟩ ?_
    exact r_i hx hb hr hlocks (btl_0 (of_decide_eq_true c_11)).symm dX5_tells_30
  · refine lv_bipush (v := (-9 : Int32)) hx hb dX5_tells_14 (by decide) ?_
    exact r_i hx hb hr hlocks (btl_n (of_decide_eq_false c_11)).symm dX5_tells_16
set_option maxHeartbeats 4000000 in
set_option maxRecDepth 100000 in
theorem c_X5_tells_n (l : Launch) (dC : Nat → ClassId) (dI : Nat → Nat → Nat) (cI cJ cZ : ClassId) (a : Nat → Nat) (ty : Nat → Int32) (tm b : Nat) (wo : Nat → Int64) (of : Nat → Int32) (n : Nat) (no : Nat → Int64) (nm : Nat) (un : Nat → Int64) (um : Nat) (sa sl si : Nat → Int32) (sn : Nat) (tk : Nat → Int32) (v : Nat) (V O K SA SL SI : Nat → Nat) (hmw : bMW ty tm v) (hmd : bMD wo of n V O) (hmn : bMN no nm K) (hms : bMS sa sl si sn SA SL SI) (k : Nat) (hk31 : k < 2 ^ 31) (g : Nat) (hg : g < 7) : Met l yX5_tells wsX5_tells rm_X5_tells (rPc (dC, dI) (tysA cI cJ cZ) (wm a cI cJ cZ ty tm b wo of n no nm un um sa sl si sn tk) [.ref (a 0), .int (nI (k)), .int (nI (g))]) (Ri (btl V n k (g + 1))) 0 0 (fun _ => False) := by
  refine met_r (cc := cX5_tells) (maxL := 3) (ret := (some .int)) (own := RX5) (by decide) rfl rfl (Nat.le_of_ble_eq_true rfl) ?_
  intro p e s m below meth c S hr hlocks hP hK ls hl
  obtain ⟨hx, hb, hml, hown, hts⟩ := id S
  have hl : lv_has ls 3 [(0, .ref (a 0)), (1, .int (nI (k))), (2, .int (nI (g)))] := hl
  have hi5 : ∀ w ∈ wsX50, w ∈ wsX5_tells := fun _ h => List.mem_cons_of_mem _ (List.mem_append_right _ h)
  obtain ⟨hvw, htm, hty⟩ := id hmw; obtain ⟨hn, hk⟩ := id hmd; obtain ⟨hnm, hkn⟩ := id hmn; obtain ⟨hsn, hks⟩ := id hms
  refine lv_iload_n hx hb dX5_tells_0 rfl (lv_at hl 1 rfl) ?_
  refine lv_iconst (v := nI (0)) hx hb dX5_tells_1 (by decide) ?_
  refine lv_aload_n hx hb dX5_tells_2 rfl (lv_at hl 0 rfl) ?_
  refine va_get (D := (dC, dI)) (ci := 4) (v := .int (nI (n))) (C := RX5) (T := TX5) (N := 16) hx hb hts hi5 hown hK hP 0 rfl rfl 6 (by decide) (hts (.fieldLink RX5 67 "BurstWordsModel" "many" "I") (by decide +kernel)) (fun _ h9 => h9) rfl dX5_tells_3 ?_
  refine lv_iconst (v := nI (1)) hx hb dX5_tells_6 (by decide) ?_
  refine lv_isub hx hb dX5_tells_7 ?_
  refine c_Si (As := [.int (nI (k)), .int (nI (0)), .int (nI (n) - nI (1))]) (rest := []) S (c_X5_in l (nI (k)) (nI (0)) (nI (n) - nI (1))) (va_cwS 3 hts gX5_tells_X5_in rfl rfl rfl (by decide +kernel) ⟨Nat.le_of_ble_eq_true rfl, Nat.le_of_ble_eq_true rfl⟩) rfl hl.1 rfl (Nat.le_of_ble_eq_true rfl) dX5_tells_8 ⟨Nat.le_of_ble_eq_true rfl, Nat.le_of_ble_eq_true rfl⟩ ?_
  refine tpi (congrArg bI (ink_eq hn hk31)) ?_
  refine b_ne (tgt := 17) hx hb dX5_tells_11 (by decide) (fun c_11 => ?_) (fun c_11 => ?_)
  · refine lv_iload_n hx hb dX5_tells_17 rfl (lv_at hl 2 rfl) ?_
    refine z_ge (tgt := 31) hx hb dX5_tells_18 (by decide) (by omega) ?_
    refine lv_aload_n hx hb dX5_tells_31 rfl (lv_at hl 0 rfl) ?_
    refine va_get (D := (dC, dI)) (ci := 4) (v := .ref (a 2)) (C := RX5) (T := TX5) (N := 16) hx hb hts hi5 hown hK hP 0 rfl rfl 4 (by decide) (hts (.fieldLink RX5 17 "BurstWordsModel" "word" "[J") (by decide +kernel)) (fun _ h9 => h9) rfl dX5_tells_32 ?_
    refine lv_iload_n hx hb dX5_tells_35 rfl (lv_at hl 1 rfl) ?_
    refine g_l hx hb hK hP 2 1 rfl rfl (k := k) (by have := of_decide_eq_true c_11; omega) (by decide) dX5_tells_36 (v := lN (V k)) (hk _ (of_decide_eq_true c_11)).1 ?_
    refine lv_iload_n hx hb dX5_tells_37 rfl (lv_at hl 2 rfl) ?_
    refine c_Si (As := [.long (lN (V k)), .int (nI (g))]) (rest := []) S (c_X5_sign l (V k) g (w63 (hk _ (of_decide_eq_true c_11)).2.1.1) (by omega)) (va_cwS 2 hts gX5_tells_X5_sign rfl rfl rfl (by decide +kernel) ⟨Nat.le_of_ble_eq_true rfl, Nat.le_of_ble_eq_true rfl⟩) rfl hl.1 rfl (Nat.le_of_ble_eq_true rfl) dX5_tells_38 ⟨Nat.le_of_ble_eq_true rfl, Nat.le_of_ble_eq_true rfl⟩ ?_
    refine z_ne (tgt := 49) hx hb dX5_tells_41 (by decide) (Nat.lt_trans (bsg_lt _ _) (by decide)) (fun c_41 => ?_) (fun c_41 => ?_)
    · refine lv_aload_n hx hb dX5_tells_49 rfl (lv_at hl 0 rfl) ?_
      refine va_get (D := (dC, dI)) (ci := 4) (v := .ref (a 2)) (C := RX5) (T := TX5) (N := 16) hx hb hts hi5 hown hK hP 0 rfl rfl 4 (by decide) (hts (.fieldLink RX5 17 "BurstWordsModel" "word" "[J") (by decide +kernel)) (fun _ h9 => h9) rfl dX5_tells_50 ?_
      refine lv_iload_n hx hb dX5_tells_53 rfl (lv_at hl 1 rfl) ?_
      refine g_l hx hb hK hP 2 1 rfl rfl (k := k) (by have := of_decide_eq_true c_11; omega) (by decide) dX5_tells_54 (v := lN (V k)) (hk _ (of_decide_eq_true c_11)).1 ?_
      refine lv_iload_n hx hb dX5_tells_55 rfl (lv_at hl 2 rfl) ?_
      refine c_Si (As := [.long (lN (V k)), .int (nI (g))]) (rest := []) S (c_X5_sign l (V k) g (w63 (hk _ (of_decide_eq_true c_11)).2.1.1) (by omega)) (va_cwS 2 hts gX5_tells_X5_sign rfl rfl rfl (by decide +kernel) ⟨Nat.le_of_ble_eq_true rfl, Nat.le_of_ble_eq_true rfl⟩) rfl hl.1 rfl (Nat.le_of_ble_eq_true rfl) dX5_tells_56 ⟨Nat.le_of_ble_eq_true rfl, Nat.le_of_ble_eq_true rfl⟩ ?_
      refine lv_bipush (v := nI (97)) hx hb dX5_tells_59 (by decide) ?_
      refine lv_iadd hx hb dX5_tells_61 ?_
      refine tpi (nI_add _ _) ?_
      refine lv_iconst (v := nI (1)) hx hb dX5_tells_62 (by decide) ?_
      refine lv_isub hx hb dX5_tells_63 ?_
      refine tpi (pk_sub (by omega)) ?_
      exact r_i hx hb hr hlocks ((btl_y (of_decide_eq_true c_11) c_41).symm ▸ rfl) dX5_tells_64
    · refine lv_bipush (v := (-9 : Int32)) hx hb dX5_tells_44 (by decide) ?_
      refine lv_goto (tgt := 64) hx hb dX5_tells_46 (by decide) ?_
      exact r_i hx hb hr hlocks (btl_z (of_decide_eq_true c_11) c_41).symm dX5_tells_64
  · refine lv_bipush (v := (-9 : Int32)) hx hb dX5_tells_14 (by decide) ?_
    exact r_i hx hb hr hlocks (btl_n (of_decide_eq_false c_11)).symm dX5_tells_16
theorem c_X5_tells (l : Launch) (dC : Nat → ClassId) (dI : Nat → Nat → Nat) (cI cJ cZ : ClassId) (a : Nat → Nat) (ty : Nat → Int32) (tm b : Nat) (wo : Nat → Int64) (of : Nat → Int32) (n : Nat) (no : Nat → Int64) (nm : Nat) (un : Nat → Int64) (um : Nat) (sa sl si : Nat → Int32) (sn : Nat) (tk : Nat → Int32) (v : Nat) (V O K SA SL SI : Nat → Nat) (hmw : bMW ty tm v) (hmd : bMD wo of n V O) (hmn : bMN no nm K) (hms : bMS sa sl si sn SA SL SI) (k : Nat) (hk31 : k < 2 ^ 31) (g : Nat) (hg : g ≤ 7) : Met l yX5_tells wsX5_tells rm_X5_tells (rPc (dC, dI) (tysA cI cJ cZ) (wm a cI cJ cZ ty tm b wo of n no nm un um sa sl si sn tk) [.ref (a 0), .int (nI k), .int (nM g)]) (Ri (btl V n k g)) 0 0 (fun _ => False) := by
  cases g with
  | zero => rw [nM_0]; exact c_X5_tells_l l dC dI cI cJ cZ a ty tm b wo of n no nm un um sa sl si sn tk v V O K SA SL SI hmw hmd hmn hms k hk31
  | succ g => rw [nM_s]; exact c_X5_tells_n l dC dI cI cJ cZ a ty tm b wo of n no nm un um sa sl si sn tk v V O K SA SL SI hmw hmd hmn hms k hk31 g (by omega)
abbrev rm_X5_isAt : Room := { frames := 1, cells := 0, slots := 0, locals := 22 }
set_option maxHeartbeats 4000000 in
set_option maxRecDepth 100000 in
theorem c_X5_isAt (l : Launch) (x : Int32) : Met l yX5_isAt wsX5_isAt rm_X5_isAt (sPc [.int (x)]) (Ri (bI (!decide (x < (-1 : Int32)) && !decide (nI 6 < x)))) 0 0 (fun _ => False) := by
  refine met_s (cc := cX5_isAt) (maxL := 1) (ret := (some .boolean)) (own := RX5) (by decide) rfl rfl (Nat.le_of_ble_eq_true rfl) ?_
  intro p e s m below meth c S hr hlocks ls hl
  obtain ⟨hx, hb, hml, hown, hts⟩ := id S
  have hl : lv_has ls 1 [(0, .int (x))] := hl
  refine lv_iload_n hx hb dX5_isAt_0 rfl (lv_at hl 0 rfl) ?_
  refine lv_iconst (v := (-1 : Int32)) hx hb dX5_isAt_1 (by decide) ?_
  refine lv_bipush (v := nI (6)) hx hb dX5_isAt_2 (by decide) ?_
  refine c_Si (As := [.int (x), .int ((-1 : Int32)), .int (nI (6))]) (rest := []) S (c_X5_in l (x) ((-1 : Int32)) (nI (6))) (va_cwS 3 hts gX5_isAt_X5_in rfl rfl rfl (by decide +kernel) ⟨Nat.le_of_ble_eq_true rfl, Nat.le_of_ble_eq_true rfl⟩) rfl hl.1 rfl (Nat.le_of_ble_eq_true rfl) dX5_isAt_4 ⟨Nat.le_of_ble_eq_true rfl, Nat.le_of_ble_eq_true rfl⟩ ?_
  exact r_z (x := !decide (x < (-1 : Int32)) && !decide (nI (6) < x)) hx hb hr hlocks rfl rfl dX5_isAt_7
abbrev rm_X5_fits : Room := { frames := 2, cells := 0, slots := 0, locals := 45 }
set_option maxHeartbeats 4000000 in
set_option maxRecDepth 100000 in
theorem c_X5_fits (l : Launch) (dC : Nat → ClassId) (dI : Nat → Nat → Nat) (cI cJ cZ : ClassId) (a : Nat → Nat) (ty : Nat → Int32) (tm b : Nat) (wo : Nat → Int64) (of : Nat → Int32) (n : Nat) (no : Nat → Int64) (nm : Nat) (un : Nat → Int64) (um : Nat) (sa sl si : Nat → Int32) (sn : Nat) (tk : Nat → Int32) (v : Nat) (V O K SA SL SI : Nat → Nat) (hmw : bMW ty tm v) (hmd : bMD wo of n V O) (hmn : bMN no nm K) (hms : bMS sa sl si sn SA SL SI) (k : Nat) (hkn2 : k < n) : Met l yX5_fits wsX5_fits rm_X5_fits (rPc (dC, dI) (tysA cI cJ cZ) (wm a cI cJ cZ ty tm b wo of n no nm un um sa sl si sn tk) [.ref (a 0), .int (nI (k))]) (Ri (bI (bft (V k) SA SL SI sn))) 0 0 (fun _ => False) := by
  refine met_r (cc := cX5_fits) (maxL := 4) (ret := (some .boolean)) (own := RX5) (by decide) rfl rfl (Nat.le_of_ble_eq_true rfl) ?_
  intro p e s m below meth c S hr hlocks hP hK ls hl
  obtain ⟨hx, hb, hml, hown, hts⟩ := id S
  have hl : lv_has ls 4 [(0, .ref (a 0)), (1, .int (nI (k)))] := hl
  have hi5 : ∀ w ∈ wsX50, w ∈ wsX5_fits := fun _ h => List.mem_cons_of_mem _ (List.mem_append_right _ h)
  obtain ⟨hvw, htm, hty⟩ := id hmw; obtain ⟨hn, hk⟩ := id hmd; obtain ⟨hnm, hkn⟩ := id hmn; obtain ⟨hsn, hks⟩ := id hms
  refine lv_iconst (v := nI (1)) hx hb dX5_fits_0 (by decide) ?_
  refine lv_istore_n (lv' := [(2, .int (nI (1))), (0, .ref (a 0)), (1, .int (nI (k)))]) hx hb dX5_fits_1 rfl hl (by decide) rfl (fun ls hl => ?_)
  refine lv_iconst (v := nI (0)) hx hb dX5_fits_2 (by decide) ?_
  refine lv_istore_n (lv' := [(3, .int (nI (0))), (2, .int (nI (1))), (0, .ref (a 0)), (1, .int (nI (k)))]) hx hb dX5_fits_3 rfl hl (by decide) rfl (fun ls hl => ?_)
  have lp_4 : ∀ (j_4 : Nat) (i : Nat), (i ≤ sn) → (sn - i) < j_4 → ∀ ls : Array Slot, lv_has ls 4 [(0, .ref (a 0)), (1, .int (nI (k))), (2, .int (bI (bft (V k) SA SL SI i))), (3, .int (nI (i)))] → W p l e rm_X5_fits s m ([.ref (a 0), .int (nI (k))] : List Value).toArray below meth c s.heap [] 0 0 (MQ below (Ri (bI (bft (V k) SA SL SI sn))) ([.ref (a 0), .int (nI (k))] : List Value).toArray s 0 0 (fun _ => False)) (F0 m 4 ls []) := by
    intro j_4
    induction j_4 with
    | zero => intro i _ h0; exact absurd h0 (Nat.not_lt_zero _)
    | succ j_4 ih_4 =>
      intro i hi hf_4 ls hl
      refine lv_iload_n hx hb dX5_fits_4 rfl (lv_at hl 3 rfl) ?_
      refine lv_aload_n hx hb dX5_fits_5 rfl (lv_at hl 0 rfl) ?_
      refine va_get (D := (dC, dI)) (ci := 4) (v := .int (nI (sn))) (C := RX5) (T := TX5) (N := 16) hx hb hts hi5 hown hK hP 0 rfl rfl 14 (by decide) (hts (.fieldLink RX5 135 "BurstWordsModel" "seenMany" "I") (by decide +kernel)) (fun _ h9 => h9) rfl dX5_fits_6 ?_
      refine n_ge (tgt := 75) hx hb dX5_fits_9 (by decide) (by omega) (by omega) (fun c_9 => ?_) (fun c_9 => ?_)
      · refine lv_iload_n hx hb dX5_fits_75 rfl (lv_at hl 2 rfl) ?_
        exact r_z (x := bft (V k) SA SL SI i) hx hb hr hlocks rfl (by rw [show i = sn by omega]) dX5_fits_76
      · refine lv_iload_n hx hb dX5_fits_12 rfl (lv_at hl 2 rfl) ?_
        refine b_eq (tgt := 67) hx hb dX5_fits_13 (by decide) (fun c_13 => ?_) (fun c_13 => ?_)
        · refine lv_iconst (v := nI (0)) hx hb dX5_fits_67 (by decide) ?_
          refine lv_istore_n (lv' := [(2, .int (nI (0))), (0, .ref (a 0)), (1, .int (nI (k))), (3, .int (nI (i)))]) hx hb dX5_fits_68 rfl hl (by decide) rfl (fun ls hl => ?_)
          refine lv_iinc (v := nI (i + 1)) (lv' := [(3, .int (nI (i + 1))), (2, .int (nI (0))), (0, .ref (a 0)), (1, .int (nI (k)))]) hx hb dX5_fits_69 hl (k := 3) rfl (inc1 _) (by decide) rfl (fun ls hl => ?_)
          refine lv_goto (tgt := 4) hx hb dX5_fits_72 (by decide) ?_
          exact ih_4 (i + 1) (by omega) (by omega) ls (lv_cg (l := [(0, .ref (a 0)), (1, .int (nI (k))), (2, .int (nI (0))), (3, .int (nI (i + 1)))]) (lv_sub hl [2, 3, 1, 0] rfl) (by rw [show bft (V k) SA SL SI (i + 1) = false by simp [bft, c_13]]; rfl))
        · refine lv_aload_n hx hb dX5_fits_16 rfl (lv_at hl 0 rfl) ?_
          refine va_get (D := (dC, dI)) (ci := 4) (v := .ref (a 2)) (C := RX5) (T := TX5) (N := 16) hx hb hts hi5 hown hK hP 0 rfl rfl 4 (by decide) (hts (.fieldLink RX5 17 "BurstWordsModel" "word" "[J") (by decide +kernel)) (fun _ h9 => h9) rfl dX5_fits_17 ?_
          refine lv_iload_n hx hb dX5_fits_20 rfl (lv_at hl 1 rfl) ?_
          refine g_l hx hb hK hP 2 1 rfl rfl (k := k) (by omega) (by decide) dX5_fits_21 (v := lN (V k)) (hk _ (by omega)).1 ?_
          refine lv_aload_n hx hb dX5_fits_22 rfl (lv_at hl 0 rfl) ?_
          refine va_get (D := (dC, dI)) (ci := 4) (v := .ref (a 6)) (C := RX5) (T := TX5) (N := 16) hx hb hts hi5 hown hK hP 0 rfl rfl 11 (by decide) (hts (.fieldLink RX5 30 "BurstWordsModel" "seenAt" "[I") (by decide +kernel)) (fun _ h9 => h9) rfl dX5_fits_23 ?_
          refine lv_iload_n hx hb dX5_fits_26 rfl (lv_at hl 3 rfl) ?_
          refine g_i hx hb hK hP 6 0 rfl rfl (k := i) (by omega) (by decide) dX5_fits_27 (v := nI (SA i)) (hks _ (by omega)).1 ?_
          refine c_Si (As := [.long (lN (V k)), .int (nI (SA i))]) (rest := []) S (c_X5_sign l (V k) (SA i) (w63 (hk _ (by omega)).2.1.1) (hks _ (by omega)).2.1) (va_cwS 2 hts gX5_fits_X5_sign rfl rfl rfl (by decide +kernel) ⟨Nat.le_of_ble_eq_true rfl, Nat.le_of_ble_eq_true rfl⟩) rfl hl.1 rfl (Nat.le_of_ble_eq_true rfl) dX5_fits_28 ⟨Nat.le_of_ble_eq_true rfl, Nat.le_of_ble_eq_true rfl⟩ ?_
          refine lv_aload_n hx hb dX5_fits_31 rfl (lv_at hl 0 rfl) ?_
          refine va_get (D := (dC, dI)) (ci := 4) (v := .ref (a 7)) (C := RX5) (T := TX5) (N := 16) hx hb hts hi5 hown hK hP 0 rfl rfl 12 (by decide) (hts (.fieldLink RX5 33 "BurstWordsModel" "seenLetter" "[I") (by decide +kernel)) (fun _ h9 => h9) rfl dX5_fits_32 ?_
          refine lv_iload_n hx hb dX5_fits_35 rfl (lv_at hl 3 rfl) ?_
          refine g_i hx hb hK hP 7 0 rfl rfl (k := i) (by omega) (by decide) dX5_fits_36 (v := nI (SL i)) (hks _ (by omega)).2.2.1 ?_
          refine n_ne (tgt := 44) hx hb dX5_fits_37 (by decide) (Nat.lt_trans (bsg_lt _ _) (by decide)) (Nat.lt_of_le_of_lt (hks _ (by omega)).2.2.2.1 (by decide)) (fun c_37 => ?_) (fun c_37 => ?_)
          · refine lv_iconst (v := nI (0)) hx hb dX5_fits_44 (by decide) ?_
            refine lv_aload_n hx hb dX5_fits_45 rfl (lv_at hl 0 rfl) ?_
            refine va_get (D := (dC, dI)) (ci := 4) (v := .ref (a 8)) (C := RX5) (T := TX5) (N := 16) hx hb hts hi5 hown hK hP 0 rfl rfl 13 (by decide) (hts (.fieldLink RX5 36 "BurstWordsModel" "seenIs" "[I") (by decide +kernel)) (fun _ h9 => h9) rfl dX5_fits_46 ?_
            refine lv_iload_n hx hb dX5_fits_49 rfl (lv_at hl 3 rfl) ?_
            refine g_i hx hb hK hP 8 0 rfl rfl (k := i) (by omega) (by decide) dX5_fits_50 (v := nI (SI i)) (hks _ (by omega)).2.2.2.2.1 ?_
            refine lv_iconst (v := nI (1)) hx hb dX5_fits_51 (by decide) ?_
            refine n_ne (tgt := 59) hx hb dX5_fits_52 (by decide) (Nat.lt_of_le_of_lt (hks _ (by omega)).2.2.2.2.2 (by decide)) (by omega) (fun c_52 => ?_) (fun c_52 => ?_)
            · refine lv_iconst (v := nI (0)) hx hb dX5_fits_59 (by decide) ?_
              refine n_ne (tgt := 67) hx hb dX5_fits_60 (by decide) (by omega) (by omega) (fun c_60 => ?_) (fun c_60 => ?_)
              · exact absurd rfl c_60
              · refine lv_iconst (v := nI (1)) hx hb dX5_fits_63 (by decide) ?_
                refine lv_goto (tgt := 68) hx hb dX5_fits_64 (by decide) ?_
                refine lv_istore_n (lv' := [(2, .int (nI (1))), (0, .ref (a 0)), (1, .int (nI (k))), (3, .int (nI (i)))]) hx hb dX5_fits_68 rfl hl (by decide) rfl (fun ls hl => ?_)
                refine lv_iinc (v := nI (i + 1)) (lv' := [(3, .int (nI (i + 1))), (2, .int (nI (1))), (0, .ref (a 0)), (1, .int (nI (k)))]) hx hb dX5_fits_69 hl (k := 3) rfl (inc1 _) (by decide) rfl (fun ls hl => ?_)
                refine lv_goto (tgt := 4) hx hb dX5_fits_72 (by decide) ?_
                exact ih_4 (i + 1) (by omega) (by omega) ls (lv_cg (l := [(0, .ref (a 0)), (1, .int (nI (k))), (2, .int (nI (1))), (3, .int (nI (i + 1)))]) (lv_sub hl [2, 3, 1, 0] rfl) (by rw [show bft (V k) SA SL SI (i + 1) = true by simp [bft, c_13, beq_false_of_ne c_37, beq_false_of_ne c_52]]; rfl))
            · refine lv_iconst (v := nI (1)) hx hb dX5_fits_55 (by decide) ?_
              refine lv_goto (tgt := 60) hx hb dX5_fits_56 (by decide) ?_
              refine n_ne (tgt := 67) hx hb dX5_fits_60 (by decide) (by omega) (by omega) (fun c_60 => ?_) (fun c_60 => ?_)
              · refine lv_iconst (v := nI (0)) hx hb dX5_fits_67 (by decide) ?_
                refine lv_istore_n (lv' := [(2, .int (nI (0))), (0, .ref (a 0)), (1, .int (nI (k))), (3, .int (nI (i)))]) hx hb dX5_fits_68 rfl hl (by decide) rfl (fun ls hl => ?_)
                refine lv_iinc (v := nI (i + 1)) (lv' := [(3, .int (nI (i + 1))), (2, .int (nI (0))), (0, .ref (a 0)), (1, .int (nI (k)))]) hx hb dX5_fits_69 hl (k := 3) rfl (inc1 _) (by decide) rfl (fun ls hl => ?_)
                refine lv_goto (tgt := 4) hx hb dX5_fits_72 (by decide) ?_
                exact ih_4 (i + 1) (by omega) (by omega) ls (lv_cg (l := [(0, .ref (a 0)), (1, .int (nI (k))), (2, .int (nI (0))), (3, .int (nI (i + 1)))]) (lv_sub hl [2, 3, 1, 0] rfl) (by rw [show bft (V k) SA SL SI (i + 1) = false by simp [bft, c_13, beq_false_of_ne c_37, c_52]]; rfl))
              · exact absurd c_60 (by decide)
          · refine lv_iconst (v := nI (1)) hx hb dX5_fits_40 (by decide) ?_
            refine lv_goto (tgt := 45) hx hb dX5_fits_41 (by decide) ?_
            refine lv_aload_n hx hb dX5_fits_45 rfl (lv_at hl 0 rfl) ?_
            refine va_get (D := (dC, dI)) (ci := 4) (v := .ref (a 8)) (C := RX5) (T := TX5) (N := 16) hx hb hts hi5 hown hK hP 0 rfl rfl 13 (by decide) (hts (.fieldLink RX5 36 "BurstWordsModel" "seenIs" "[I") (by decide +kernel)) (fun _ h9 => h9) rfl dX5_fits_46 ?_
            refine lv_iload_n hx hb dX5_fits_49 rfl (lv_at hl 3 rfl) ?_
            refine g_i hx hb hK hP 8 0 rfl rfl (k := i) (by omega) (by decide) dX5_fits_50 (v := nI (SI i)) (hks _ (by omega)).2.2.2.2.1 ?_
            refine lv_iconst (v := nI (1)) hx hb dX5_fits_51 (by decide) ?_
            refine n_ne (tgt := 59) hx hb dX5_fits_52 (by decide) (Nat.lt_of_le_of_lt (hks _ (by omega)).2.2.2.2.2 (by decide)) (by omega) (fun c_52 => ?_) (fun c_52 => ?_)
            · refine lv_iconst (v := nI (0)) hx hb dX5_fits_59 (by decide) ?_
              refine n_ne (tgt := 67) hx hb dX5_fits_60 (by decide) (by omega) (by omega) (fun c_60 => ?_) (fun c_60 => ?_)
              · refine lv_iconst (v := nI (0)) hx hb dX5_fits_67 (by decide) ?_
                refine lv_istore_n (lv' := [(2, .int (nI (0))), (0, .ref (a 0)), (1, .int (nI (k))), (3, .int (nI (i)))]) hx hb dX5_fits_68 rfl hl (by decide) rfl (fun ls hl => ?_)
                refine lv_iinc (v := nI (i + 1)) (lv' := [(3, .int (nI (i + 1))), (2, .int (nI (0))), (0, .ref (a 0)), (1, .int (nI (k)))]) hx hb dX5_fits_69 hl (k := 3) rfl (inc1 _) (by decide) rfl (fun ls hl => ?_)
                refine lv_goto (tgt := 4) hx hb dX5_fits_72 (by decide) ?_
                exact ih_4 (i + 1) (by omega) (by omega) ls (lv_cg (l := [(0, .ref (a 0)), (1, .int (nI (k))), (2, .int (nI (0))), (3, .int (nI (i + 1)))]) (lv_sub hl [2, 3, 1, 0] rfl) (by rw [show bft (V k) SA SL SI (i + 1) = false by simp [bft, c_13, c_37, beq_false_of_ne c_52]]; rfl))
              · exact absurd c_60 (by decide)
            · refine lv_iconst (v := nI (1)) hx hb dX5_fits_55 (by decide) ?_
              refine lv_goto (tgt := 60) hx hb dX5_fits_56 (by decide) ?_
              refine n_ne (tgt := 67) hx hb dX5_fits_60 (by decide) (by omega) (by omega) (fun c_60 => ?_) (fun c_60 => ?_)
              · exact absurd rfl c_60
              · refine lv_iconst (v := nI (1)) hx hb dX5_fits_63 (by decide) ?_
                refine lv_goto (tgt := 68) hx hb dX5_fits_64 (by decide) ?_
                refine lv_istore_n (lv' := [(2, .int (nI (1))), (0, .ref (a 0)), (1, .int (nI (k))), (3, .int (nI (i)))]) hx hb dX5_fits_68 rfl hl (by decide) rfl (fun ls hl => ?_)
                refine lv_iinc (v := nI (i + 1)) (lv' := [(3, .int (nI (i + 1))), (2, .int (nI (1))), (0, .ref (a 0)), (1, .int (nI (k)))]) hx hb dX5_fits_69 hl (k := 3) rfl (inc1 _) (by decide) rfl (fun ls hl => ?_)
                refine lv_goto (tgt := 4) hx hb dX5_fits_72 (by decide) ?_
                exact ih_4 (i + 1) (by omega) (by omega) ls (lv_cg (l := [(0, .ref (a 0)), (1, .int (nI (k))), (2, .int (nI (1))), (3, .int (nI (i + 1)))]) (lv_sub hl [2, 3, 1, 0] rfl) (by rw [show bft (V k) SA SL SI (i + 1) = true by simp [bft, c_13, c_37, c_52]]; rfl))
  exact lp_4 _ (0) (by omega) (Nat.lt_succ_self _) ls (lv_sub hl [2, 3, 1, 0] rfl)
abbrev rm_X5_fitMany : Room := { frames := 3, cells := 0, slots := 0, locals := 68 }
set_option maxHeartbeats 4000000 in
set_option maxRecDepth 100000 in
theorem c_X5_fitMany (l : Launch) (dC : Nat → ClassId) (dI : Nat → Nat → Nat) (cI cJ cZ : ClassId) (a : Nat → Nat) (ty : Nat → Int32) (tm b : Nat) (wo : Nat → Int64) (of : Nat → Int32) (n : Nat) (no : Nat → Int64) (nm : Nat) (un : Nat → Int64) (um : Nat) (sa sl si : Nat → Int32) (sn : Nat) (tk : Nat → Int32) (v : Nat) (V O K SA SL SI : Nat → Nat) (hmw : bMW ty tm v) (hmd : bMD wo of n V O) (hmn : bMN no nm K) (hms : bMS sa sl si sn SA SL SI) : Met l yX5_fitMany wsX5_fitMany rm_X5_fitMany (rPc (dC, dI) (tysA cI cJ cZ) (wm a cI cJ cZ ty tm b wo of n no nm un um sa sl si sn tk) [.ref (a 0)]) (Ri (nI (fb_ct (fun k => bft (V k) SA SL SI sn) n))) 0 0 (fun _ => False) := by
  refine met_r (cc := cX5_fitMany) (maxL := 3) (ret := (some .int)) (own := RX5) (by decide) rfl rfl (Nat.le_of_ble_eq_true rfl) ?_
  intro p e s m below meth c S hr hlocks hP hK ls hl
  obtain ⟨hx, hb, hml, hown, hts⟩ := id S
  have hl : lv_has ls 3 [(0, .ref (a 0))] := hl
  have hi5 : ∀ w ∈ wsX50, w ∈ wsX5_fitMany := fun _ h => List.mem_cons_of_mem _ (List.mem_append_right _ h)
  obtain ⟨hvw, htm, hty⟩ := id hmw; obtain ⟨hn, hk⟩ := id hmd; obtain ⟨hnm, hkn⟩ := id hmn; obtain ⟨hsn, hks⟩ := id hms
  refine lv_iconst (v := nI (0)) hx hb dX5_fitMany_0 (by decide) ?_
  refine lv_istore_n (lv' := [(1, .int (nI (0))), (0, .ref (a 0))]) hx hb dX5_fitMany_1 rfl hl (by decide) rfl (fun ls hl => ?_)
  refine lv_iconst (v := nI (0)) hx hb dX5_fitMany_2 (by decide) ?_
  refine lv_istore_n (lv' := [(2, .int (nI (0))), (1, .int (nI (0))), (0, .ref (a 0))]) hx hb dX5_fitMany_3 rfl hl (by decide) rfl (fun ls hl => ?_)
  have lp_4 : ∀ (j_4 : Nat) (i : Nat), (i ≤ n) → (n - i) < j_4 → ∀ ls : Array Slot, lv_has ls 3 [(0, .ref (a 0)), (1, .int (nI (fb_ct (fun k => bft (V k) SA SL SI sn) i))), (2, .int (nI (i)))] → W p l e rm_X5_fitMany s m ([.ref (a 0)] : List Value).toArray below meth c s.heap [] 0 0 (MQ below (Ri (nI (fb_ct (fun k => bft (V k) SA SL SI sn) n))) ([.ref (a 0)] : List Value).toArray s 0 0 (fun _ => False)) (F0 m 4 ls []) := by
    intro j_4
    induction j_4 with
    | zero => intro i _ h0; exact absurd h0 (Nat.not_lt_zero _)
    | succ j_4 ih_4 =>
      intro i hi hf_4 ls hl
      refine lv_iload_n hx hb dX5_fitMany_4 rfl (lv_at hl 2 rfl) ?_
      refine lv_aload_n hx hb dX5_fitMany_5 rfl (lv_at hl 0 rfl) ?_
      refine va_get (D := (dC, dI)) (ci := 4) (v := .int (nI (n))) (C := RX5) (T := TX5) (N := 16) hx hb hts hi5 hown hK hP 0 rfl rfl 6 (by decide) (hts (.fieldLink RX5 67 "BurstWordsModel" "many" "I") (by decide +kernel)) (fun _ h9 => h9) rfl dX5_fitMany_6 ?_
      refine n_ge (tgt := 34) hx hb dX5_fitMany_9 (by decide) (by omega) (by omega) (fun c_9 => ?_) (fun c_9 => ?_)
      · refine lv_iload_n hx hb dX5_fitMany_34 rfl (lv_at hl 1 rfl) ?_
        exact r_i hx hb hr hlocks (by rw [show i = n by omega]) dX5_fitMany_35
      · refine lv_iload_n hx hb dX5_fitMany_12 rfl (lv_at hl 1 rfl) ?_
        refine lv_aload_n hx hb dX5_fitMany_13 rfl (lv_at hl 0 rfl) ?_
        refine lv_iload_n hx hb dX5_fitMany_14 rfl (lv_at hl 2 rfl) ?_
        refine c_Vi (As := [.int (nI (i))]) (rest := [.int (nI (fb_ct (fun k => bft (V k) SA SL SI sn) i))]) (ci := 4) (q0 := 0) S (c_X5_fits l dC dI cI cJ cZ a ty tm b wo of n no nm un um sa sl si sn tk v V O K SA SL SI hmw hmd hmn hms i (by omega)) (cwV 1 hts gX5_fitMany_X5_fits rfl rfl rfl (by decide +kernel) ⟨Nat.le_of_ble_eq_true rfl, Nat.le_of_ble_eq_true rfl⟩) hK hP rfl rfl rfl hl.1 rfl (Nat.le_of_ble_eq_true rfl) dX5_fitMany_15 ⟨Nat.le_of_ble_eq_true rfl, Nat.le_of_ble_eq_true rfl⟩ ?_
        refine b_eq (tgt := 25) hx hb dX5_fitMany_18 (by decide) (fun c_18 => ?_) (fun c_18 => ?_)
        · refine lv_iconst (v := nI (0)) hx hb dX5_fitMany_25 (by decide) ?_
          refine lv_iadd hx hb dX5_fitMany_26 ?_
          refine tpi (nI_add _ _) ?_
          refine lv_istore_n (lv' := [(1, .int (nI ((fb_ct (fun k => bft (V k) SA SL SI sn) i) + 0))), (0, .ref (a 0)), (2, .int (nI (i)))]) hx hb dX5_fitMany_27 rfl hl (by decide) rfl (fun ls hl => ?_)
          refine lv_iinc (v := nI (i + 1)) (lv' := [(2, .int (nI (i + 1))), (1, .int (nI ((fb_ct (fun k => bft (V k) SA SL SI sn) i) + 0))), (0, .ref (a 0))]) hx hb dX5_fitMany_28 hl (k := 2) rfl (inc1 _) (by decide) rfl (fun ls hl => ?_)
          refine lv_goto (tgt := 4) hx hb dX5_fitMany_31 (by decide) ?_
          exact ih_4 (i + 1) (by omega) (by omega) ls (lv_cg (l := [(0, .ref (a 0)), (1, .int (nI ((fb_ct (fun k => bft (V k) SA SL SI sn) i) + 0))), (2, .int (nI (i + 1)))]) (lv_sub hl [2, 1, 0] rfl) (by rw [ct_n (p := (fun k => bft (V k) SA SL SI sn)) (n := i) c_18]; rfl))
        · refine lv_iconst (v := nI (1)) hx hb dX5_fitMany_21 (by decide) ?_
          refine lv_goto (tgt := 26) hx hb dX5_fitMany_22 (by decide) ?_
          refine lv_iadd hx hb dX5_fitMany_26 ?_
          refine tpi (nI_add _ _) ?_
          refine lv_istore_n (lv' := [(1, .int (nI ((fb_ct (fun k => bft (V k) SA SL SI sn) i) + 1))), (0, .ref (a 0)), (2, .int (nI (i)))]) hx hb dX5_fitMany_27 rfl hl (by decide) rfl (fun ls hl => ?_)
          refine lv_iinc (v := nI (i + 1)) (lv' := [(2, .int (nI (i + 1))), (1, .int (nI ((fb_ct (fun k => bft (V k) SA SL SI sn) i) + 1))), (0, .ref (a 0))]) hx hb dX5_fitMany_28 hl (k := 2) rfl (inc1 _) (by decide) rfl (fun ls hl => ?_)
          refine lv_goto (tgt := 4) hx hb dX5_fitMany_31 (by decide) ?_
          exact ih_4 (i + 1) (by omega) (by omega) ls (lv_cg (l := [(0, .ref (a 0)), (1, .int (nI ((fb_ct (fun k => bft (V k) SA SL SI sn) i) + 1))), (2, .int (nI (i + 1)))]) (lv_sub hl [2, 1, 0] rfl) (by rw [ct_y (p := (fun k => bft (V k) SA SL SI sn)) (n := i) c_18]))
  exact lp_4 _ (0) (by omega) (Nat.lt_succ_self _) ls (lv_sub hl [2, 1, 0] rfl)
