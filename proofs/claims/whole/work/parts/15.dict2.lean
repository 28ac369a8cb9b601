abbrev rm_X0_oftenBelow : Room := { frames := 2, cells := 0, slots := 0, locals := 42 }
set_option maxHeartbeats 4000000 in
set_option maxRecDepth 100000 in
theorem c_X0_oftenBelow (l : Launch) (dC : Nat → ClassId) (dI : Nat → Nat → Nat) (cI cJ cZ : ClassId) (q0 q1 q2 q3 : Nat) (w : Nat → Int64) (o d : Nat → Int32) (n : Nat) (V O E : Nat → Nat) (hD : bDD w o d n V O E) (k : Nat) (hkn : k ≤ n) : Met l yX0_oftenBelow wsX0_oftenBelow rm_X0_oftenBelow (rPc (dC, dI) (tysA cI cJ cZ) (wd q0 q1 q2 q3 cI cJ w o d n) [.ref (q0), .int (nI (k))]) (Ri (nI (fb_sm O k))) 0 0 (fun _ => False) := by
  refine met_r (cc := cX0_oftenBelow) (maxL := 4) (ret := (some .int)) (own := RX0) (by decide) rfl rfl (Nat.le_of_ble_eq_true rfl) ?_
  intro p e s m below meth c S hr hlocks hP hK ls hl
  obtain ⟨hx, hb, hml, hown, hts⟩ := id S
  have hl : lv_has ls 4 [(0, .ref (q0)), (1, .int (nI (k)))] := hl
  have hi0 : ∀ w ∈ wsX00, w ∈ wsX0_oftenBelow := fun _ h => List.mem_cons_of_mem _ (List.mem_append_right _ h)
  obtain ⟨hn, hk⟩ := id hD
  refine lv_iconst (v := nI (0)) hx hb dX0_oftenBelow_0 (by decide) ?_
  refine lv_istore_n (lv' := [(2, .int (nI (0))), (0, .ref (q0)), (1, .int (nI (k)))]) hx hb dX0_oftenBelow_1 rfl hl (by decide) rfl (fun ls hl => ?_)
  refine lv_iconst (v := nI (0)) hx hb dX0_oftenBelow_2 (by decide) ?_
  refine lv_istore_n (lv' := [(3, .int (nI (0))), (2, .int (nI (0))), (0, .ref (q0)), (1, .int (nI (k)))]) hx hb dX0_oftenBelow_3 rfl hl (by decide) rfl (fun ls hl => ?_)
  have lp_4 : ∀ (j_4 : Nat) (i : Nat), (i ≤ k) → (k - i) < j_4 → ∀ ls : Array Slot, lv_has ls 4 [(0, .ref (q0)), (1, .int (nI (k))), (2, .int (nI (fb_sm O i))), (3, .int (nI (i)))] → W p l e rm_X0_oftenBelow s m ([.ref (q0), .int (nI (k))] : List Value).toArray below meth c s.heap [] 0 0 (MQ below (Ri (nI (fb_sm O k))) ([.ref (q0), .int (nI (k))] : List Value).toArray s 0 0 (fun _ => False)) (F0 m 4 ls []) := by
    intro j_4
    induction j_4 with
    | zero => intro i _ h0; exact absurd h0 (Nat.not_lt_zero _)
    | succ j_4 ih_4 =>
      intro i hi hf_4 ls hl
      refine lv_iload_n hx hb dX0_oftenBelow_4 rfl (lv_at hl 3 rfl) ?_
      refine lv_iload_n hx hb dX0_oftenBelow_5 rfl (lv_at hl 1 rfl) ?_
      refine n_ge (tgt := 31) hx hb dX0_oftenBelow_6 (by decide) (by omega) (by omega) (fun c_6 => ?_) (fun c_6 => ?_)
      · refine lv_iload_n hx hb dX0_oftenBelow_31 rfl (lv_at hl 2 rfl) ?_
        exact r_i hx hb hr hlocks (by rw [show i = k by omega]) dX0_oftenBelow_32
      · refine lv_iload_n hx hb dX0_oftenBelow_9 rfl (lv_at hl 3 rfl) ?_
        refine lv_aload_n hx hb dX0_oftenBelow_10 rfl (lv_at hl 0 rfl) ?_
        refine va_get (D := (dC, dI)) (ci := 0) (v := .int (nI (n))) (C := RX0) (T := TX0) (N := 4) hx hb hts hi0 hown hK hP 0 rfl rfl 3 (by decide) (hts (.fieldLink RX0 22 "BurstWords$Dictionary" "size" "I") (by decide +kernel)) (fun _ h9 => h9) rfl dX0_oftenBelow_11 ?_
        refine n_ge (tgt := 31) hx hb dX0_oftenBelow_14 (by decide) (by omega) (by omega) (fun c_14 => ?_) (fun c_14 => ?_)
        · exact absurd c_14 (by omega)
        · refine lv_iload_n hx hb dX0_oftenBelow_17 rfl (lv_at hl 2 rfl) ?_
          refine lv_aload_n hx hb dX0_oftenBelow_18 rfl (lv_at hl 0 rfl) ?_
          refine lv_iload_n hx hb dX0_oftenBelow_19 rfl (lv_at hl 3 rfl) ?_
          refine c_Vi (As := [.int (nI (i))]) (rest := [.int (nI (fb_sm O i))]) (ci := 0) (q0 := 0) S (c_X0_oftenAt_in l dC dI cI cJ cZ q0 q1 q2 q3 w o d n V O E hD i (by omega)) (cwV 1 hts gX0_oftenBelow_X0_oftenAt rfl rfl rfl (by decide +kernel) ⟨Nat.le_of_ble_eq_true rfl, Nat.le_of_ble_eq_true rfl⟩) hK hP rfl rfl rfl hl.1 rfl (Nat.le_of_ble_eq_true rfl) dX0_oftenBelow_20 ⟨Nat.le_of_ble_eq_true rfl, Nat.le_of_ble_eq_true rfl⟩ ?_
          refine lv_iadd hx hb dX0_oftenBelow_23 ?_
          refine tpi (nI_add _ _) ?_
          refine lv_istore_n (lv' := [(2, .int (nI ((fb_sm O i) + (O i)))), (0, .ref (q0)), (1, .int (nI (k))), (3, .int (nI (i)))]) hx hb dX0_oftenBelow_24 rfl hl (by decide) rfl (fun ls hl => ?_)
          refine lv_iinc (v := nI (i + 1)) (lv' := [(3, .int (nI (i + 1))), (2, .int (nI ((fb_sm O i) + (O i)))), (0, .ref (q0)), (1, .int (nI (k)))]) hx hb dX0_oftenBelow_25 hl (k := 3) rfl (inc1 _) (by decide) rfl (fun ls hl => ?_)
          refine lv_goto (tgt := 4) hx hb dX0_oftenBelow_28 (by decide) ?_
          exact ih_4 (i + 1) (by omega) (by omega) ls (lv_sub hl [2, 3, 1, 0] rfl)
  exact lp_4 _ (0) (by omega) (Nat.lt_succ_self _) ls (lv_sub hl [2, 3, 1, 0] rfl)
abbrev rm_X0_oftenBegun : Room := { frames := 4, cells := 0, slots := 0, locals := 89 }
set_option maxHeartbeats 4000000 in
set_option maxRecDepth 100000 in
theorem c_X0_oftenBegun (l : Launch) (dC : Nat → ClassId) (dI : Nat → Nat → Nat) (cI cJ cZ : ClassId) (q0 q1 q2 q3 : Nat) (w : Nat → Int64) (o d : Nat → Int32) (n : Nat) (V O E : Nat → Nat) (hD : bDD w o d n V O E) (u : Nat) : Met l yX0_oftenBegun wsX0_oftenBegun rm_X0_oftenBegun (rPc (dC, dI) (tysA cI cJ cZ) (wd q0 q1 q2 q3 cI cJ w o d n) [.ref (q0), .long (lN (be8 u))]) (Ri (nI (fb_sm (fun k => if bsh u (V k) == bln u then O k else 0) n))) 0 0 (fun _ => False) := by
  refine met_r (cc := cX0_oftenBegun) (maxL := 5) (ret := (some .int)) (own := RX0) (by decide) rfl rfl (Nat.le_of_ble_eq_true rfl) ?_
  intro p e s m below meth c S hr hlocks hP hK ls hl
  obtain ⟨hx, hb, hml, hown, hts⟩ := id S
  have hl : lv_has ls 5 [(0, .ref (q0)), (1, .long (lN (be8 u)))] := hl
  have hi0 : ∀ w ∈ wsX00, w ∈ wsX0_oftenBegun := fun _ h => List.mem_cons_of_mem _ (List.mem_append_right _ h)
  obtain ⟨hn, hk⟩ := id hD
  refine lv_iconst (v := nI (0)) hx hb dX0_oftenBegun_0 (by decide) ?_
  refine lv_istore_n (lv' := [(3, .int (nI (0))), (0, .ref (q0)), (1, .long (lN (be8 u)))]) hx hb dX0_oftenBegun_1 rfl hl (by decide) rfl (fun ls hl => ?_)
  refine lv_iconst (v := nI (0)) hx hb dX0_oftenBegun_2 (by decide) ?_
  refine lv_istore (lv' := [(4, .int (nI (0))), (3, .int (nI (0))), (0, .ref (q0)), (1, .long (lN (be8 u)))]) hx hb dX0_oftenBegun_3 hl (by decide) rfl (fun ls hl => ?_)
  have lp_5 : ∀ (j_5 : Nat) (i : Nat), (i ≤ n) → (n - i) < j_5 → ∀ ls : Array Slot, lv_has ls 5 [(0, .ref (q0)), (1, .long (lN (be8 u))), (3, .int (nI (fb_sm (fun k => if bsh u (V k) == bln u then O k else 0) i))), (4, .int (nI (i)))] → W p l e rm_X0_oftenBegun s m ([.ref (q0), .long (lN (be8 u))] : List Value).toArray below meth c s.heap [] 0 0 (MQ below (Ri (nI (fb_sm (fun k => if bsh u (V k) == bln u then O k else 0) n))) ([.ref (q0), .long (lN (be8 u))] : List Value).toArray s 0 0 (fun _ => False)) (F0 m 5 ls []) := by
    intro j_5
    induction j_5 with
    | zero => intro i _ h0; exact absurd h0 (Nat.not_lt_zero _)
    | succ j_5 ih_5 =>
      intro i hi hf_5 ls hl
      refine lv_iload hx hb dX0_oftenBegun_5 (lv_at hl 3 rfl) ?_
      refine lv_aload_n hx hb dX0_oftenBegun_7 rfl (lv_at hl 0 rfl) ?_
      refine va_get (D := (dC, dI)) (ci := 0) (v := .int (nI (n))) (C := RX0) (T := TX0) (N := 4) hx hb hts hi0 hown hK hP 0 rfl rfl 3 (by decide) (hts (.fieldLink RX0 22 "BurstWords$Dictionary" "size" "I") (by decide +kernel)) (fun _ h9 => h9) rfl dX0_oftenBegun_8 ?_
      refine n_ge (tgt := 42) hx hb dX0_oftenBegun_11 (by decide) (by omega) (by omega) (fun c_11 => ?_) (fun c_11 => ?_)
      · refine lv_iload_n hx hb dX0_oftenBegun_42 rfl (lv_at hl 2 rfl) ?_
        exact r_i hx hb hr hlocks (by rw [show i = n by omega]) dX0_oftenBegun_43
      · refine lv_lload_n hx hb dX0_oftenBegun_14 rfl (lv_at hl 1 rfl) ?_
        refine lv_aload_n hx hb dX0_oftenBegun_15 rfl (lv_at hl 0 rfl) ?_
        refine lv_iload hx hb dX0_oftenBegun_16 (lv_at hl 3 rfl) ?_
        refine c_Vl (As := [.int (nI (i))]) (rest := [.long (lN (be8 u))]) (ci := 0) (q0 := 0) S (c_X0_wordAt_in l dC dI cI cJ cZ q0 q1 q2 q3 w o d n V O E hD i (by omega)) (cwV 1 hts gX0_oftenBegun_X0_wordAt rfl rfl rfl (by decide +kernel) ⟨Nat.le_of_ble_eq_true rfl, Nat.le_of_ble_eq_true rfl⟩) hK hP rfl rfl rfl hl.1 rfl (Nat.le_of_ble_eq_true rfl) dX0_oftenBegun_18 ⟨Nat.le_of_ble_eq_true rfl, Nat.le_of_ble_eq_true rfl⟩ ?_
        refine c_Si (As := [.long (lN (be8 u)), .long (lN (be8 (V i)))]) (rest := []) S (c_X3_begins l u (V i)) (va_cwS 2 hts gX0_oftenBegun_X3_begins rfl rfl rfl (by decide +kernel) ⟨Nat.le_of_ble_eq_true rfl, Nat.le_of_ble_eq_true rfl⟩) rfl hl.1 rfl (Nat.le_of_ble_eq_true rfl) dX0_oftenBegun_21 ⟨Nat.le_of_ble_eq_true rfl, Nat.le_of_ble_eq_true rfl⟩ ?_
        refine b_eq (tgt := 36) hx hb dX0_oftenBegun_24 (by decide) (fun c_24 => ?_) (fun c_24 => ?_)
        · refine lv_iinc (v := nI (i + 1)) (lv' := [(4, .int (nI (i + 1))), (0, .ref (q0)), (1, .long (lN (be8 u))), (3, .int (nI (fb_sm (fun k => if bsh u (V k) == bln u then O k else 0) i)))]) hx hb dX0_oftenBegun_36 hl (k := 3) rfl (inc1 _) (by decide) rfl (fun ls hl => ?_)
          refine lv_goto (tgt := 5) hx hb dX0_oftenBegun_39 (by decide) ?_
          exact ih_5 (i + 1) (by omega) (by omega) ls (lv_cg (l := [(0, .ref (q0)), (1, .long (lN (be8 u))), (3, .int (nI (fb_sm (fun k => if bsh u (V k) == bln u then O k else 0) i))), (4, .int (nI (i + 1)))]) (lv_sub hl [1, 2, 3, 0] rfl) (by rw [fb_sm_succ, if_neg (by simpa using c_24)]; rfl))
        · refine lv_iload_n hx hb dX0_oftenBegun_27 rfl (lv_at hl 2 rfl) ?_
          refine lv_aload_n hx hb dX0_oftenBegun_28 rfl (lv_at hl 0 rfl) ?_
          refine lv_iload hx hb dX0_oftenBegun_29 (lv_at hl 3 rfl) ?_
          refine c_Vi (As := [.int (nI (i))]) (rest := [.int (nI (fb_sm (fun k => if bsh u (V k) == bln u then O k else 0) i))]) (ci := 0) (q0 := 0) S (c_X0_oftenAt_in l dC dI cI cJ cZ q0 q1 q2 q3 w o d n V O E hD i (by omega)) (cwV 1 hts gX0_oftenBegun_X0_oftenAt rfl rfl rfl (by decide +kernel) ⟨Nat.le_of_ble_eq_true rfl, Nat.le_of_ble_eq_true rfl⟩) hK hP rfl rfl rfl hl.1 rfl (Nat.le_of_ble_eq_true rfl) dX0_oftenBegun_31 ⟨Nat.le_of_ble_eq_true rfl, Nat.le_of_ble_eq_true rfl⟩ ?_
          refine lv_iadd hx hb dX0_oftenBegun_34 ?_
          refine tpi (nI_add _ _) ?_
          refine lv_istore_n (lv' := [(3, .int (nI ((fb_sm (fun k => if bsh u (V k) == bln u then O k else 0) i) + (O i)))), (0, .ref (q0)), (1, .long (lN (be8 u))), (4, .int (nI (i)))]) hx hb dX0_oftenBegun_35 rfl hl (by decide) rfl (fun ls hl => ?_)
          refine lv_iinc (v := nI (i + 1)) (lv' := [(4, .int (nI (i + 1))), (3, .int (nI ((fb_sm (fun k => if bsh u (V k) == bln u then O k else 0) i) + (O i)))), (0, .ref (q0)), (1, .long (lN (be8 u)))]) hx hb dX0_oftenBegun_36 hl (k := 3) rfl (inc1 _) (by decide) rfl (fun ls hl => ?_)
          refine lv_goto (tgt := 5) hx hb dX0_oftenBegun_39 (by decide) ?_
          exact ih_5 (i + 1) (by omega) (by omega) ls (lv_cg (l := [(0, .ref (q0)), (1, .long (lN (be8 u))), (3, .int (nI ((fb_sm (fun k => if bsh u (V k) == bln u then O k else 0) i) + (O i)))), (4, .int (nI (i + 1)))]) (lv_sub hl [2, 3, 1, 0] rfl) (by rw [fb_sm_succ, if_pos (by simpa using c_24)]))
  exact lp_5 _ (0) (by omega) (Nat.lt_succ_self _) ls (lv_sub hl [2, 3, 1, 0] rfl)
abbrev rm_X0_mostSharedWithOthers : Room := { frames := 3, cells := 0, slots := 0, locals := 66 }
set_option maxHeartbeats 4000000 in
set_option maxRecDepth 100000 in
theorem c_X0_mostSharedWithOthers (l : Launch) (dC : Nat → ClassId) (dI : Nat → Nat → Nat) (cI cJ cZ : ClassId) (q0 q1 q2 q3 : Nat) (w : Nat → Int64) (o d : Nat → Int32) (n : Nat) (V O E : Nat → Nat) (hD : bDD w o d n V O E) (v : Nat) (hv : v < 27 ^ 7) : Met l yX0_mostSharedWithOthers wsX0_mostSharedWithOthers rm_X0_mostSharedWithOthers (rPc (dC, dI) (tysA cI cJ cZ) (wd q0 q1 q2 q3 cI cJ w o d n) [.ref (q0), .long (lN (be8 v))]) (Ri (nM (bmx (fun k => if V k = v then 0 else bsh (V k) v + 1) n))) 0 0 (fun _ => False) := by
  refine met_r (cc := cX0_mostSharedWithOthers) (maxL := 5) (ret := (some .int)) (own := RX0) (by decide) rfl rfl (Nat.le_of_ble_eq_true rfl) ?_
  intro p e s m below meth c S hr hlocks hP hK ls hl
  obtain ⟨hx, hb, hml, hown, hts⟩ := id S
  have hl : lv_has ls 5 [(0, .ref (q0)), (1, .long (lN (be8 v)))] := hl
  have hi0 : ∀ w ∈ wsX00, w ∈ wsX0_mostSharedWithOthers := fun _ h => List.mem_cons_of_mem _ (List.mem_append_right _ h)
  obtain ⟨hn, hk⟩ := id hD
  refine lv_iconst (v := nM 0) hx hb dX0_mostSharedWithOthers_0 (by decide) ?_
  refine lv_istore_n (lv' := [(3, .int (nM 0)), (0, .ref (q0)), (1, .long (lN (be8 v)))]) hx hb dX0_mostSharedWithOthers_1 rfl hl (by decide) rfl (fun ls hl => ?_)
  refine lv_iconst (v := nI (0)) hx hb dX0_mostSharedWithOthers_2 (by decide) ?_
  refine lv_istore (lv' := [(4, .int (nI (0))), (3, .int (nM 0)), (0, .ref (q0)), (1, .long (lN (be8 v)))]) hx hb dX0_mostSharedWithOthers_3 hl (by decide) rfl (fun ls hl => ?_)
  have lp_5 : ∀ (j_5 : Nat) (i : Nat), (i ≤ n) → (n - i) < j_5 → ∀ ls : Array Slot, lv_has ls 5 [(0, .ref (q0)), (1, .long (lN (be8 v))), (3, .int (nM (bmx (fun k => if V k = v then 0 else bsh (V k) v + 1) i))), (4, .int (nI (i)))] → W p l e rm_X0_mostSharedWithOthers s m ([.ref (q0), .long (lN (be8 v))] : List Value).toArray below meth c s.heap [] 0 0 (MQ below (Ri (nM (bmx (fun k => if V k = v then 0 else bsh (V k) v + 1) n))) ([.ref (q0), .long (lN (be8 v))] : List Value).toArray s 0 0 (fun _ => False)) (F0 m 5 ls []) := by
    intro j_5
    induction j_5 with
    | zero => intro i _ h0; exact absurd h0 (Nat.not_lt_zero _)
    | succ j_5 ih_5 =>
      intro i hi hf_5 ls hl
      refine lv_iload hx hb dX0_mostSharedWithOthers_5 (lv_at hl 3 rfl) ?_
      refine lv_aload_n hx hb dX0_mostSharedWithOthers_7 rfl (lv_at hl 0 rfl) ?_
      refine va_get (D := (dC, dI)) (ci := 0) (v := .int (nI (n))) (C := RX0) (T := TX0) (N := 4) hx hb hts hi0 hown hK hP 0 rfl rfl 3 (by decide) (hts (.fieldLink RX0 22 "BurstWords$Dictionary" "size" "I") (by decide +kernel)) (fun _ h9 => h9) rfl dX0_mostSharedWithOthers_8 ?_
      refine n_ge (tgt := 46) hx hb dX0_mostSharedWithOthers_11 (by decide) (by omega) (by omega) (fun c_11 => ?_) (fun c_11 => ?_)
      · refine lv_iload_n hx hb dX0_mostSharedWithOthers_46 rfl (lv_at hl 2 rfl) ?_
        exact r_i hx hb hr hlocks (by rw [show i = n by omega]) dX0_mostSharedWithOthers_47
      · refine lv_aload_n hx hb dX0_mostSharedWithOthers_14 rfl (lv_at hl 0 rfl) ?_
        refine lv_iload hx hb dX0_mostSharedWithOthers_15 (lv_at hl 3 rfl) ?_
        refine c_Vl (As := [.int (nI (i))]) (rest := []) (ci := 0) (q0 := 0) S (c_X0_wordAt_in l dC dI cI cJ cZ q0 q1 q2 q3 w o d n V O E hD i (by omega)) (cwV 1 hts gX0_mostSharedWithOthers_X0_wordAt rfl rfl rfl (by decide +kernel) ⟨Nat.le_of_ble_eq_true rfl, Nat.le_of_ble_eq_true rfl⟩) hK hP rfl rfl rfl hl.1 rfl (Nat.le_of_ble_eq_true rfl) dX0_mostSharedWithOthers_17 ⟨Nat.le_of_ble_eq_true rfl, Nat.le_of_ble_eq_true rfl⟩ ?_
        refine lv_lload_n hx hb dX0_mostSharedWithOthers_20 rfl (lv_at hl 1 rfl) ?_
        refine q_eq (tgt := 40) hx hb dX0_mostSharedWithOthers_21 dX0_mostSharedWithOthers_22 (by decide) (be8_63 _) (be8_63 _) (fun c_21 => ?_) (fun c_21 => ?_)
        · refine lv_iinc (v := nI (i + 1)) (lv' := [(4, .int (nI (i + 1))), (0, .ref (q0)), (1, .long (lN (be8 v))), (3, .int (nM (bmx (fun k => if V k = v then 0 else bsh (V k) v + 1) i)))]) hx hb dX0_mostSharedWithOthers_40 hl (k := 3) rfl (inc1 _) (by decide) rfl (fun ls hl => ?_)
          refine lv_goto (tgt := 5) hx hb dX0_mostSharedWithOthers_43 (by decide) ?_
          exact ih_5 (i + 1) (by omega) (by omega) ls (lv_cg (l := [(0, .ref (q0)), (1, .long (lN (be8 v))), (3, .int (nM (bmx (fun k => if V k = v then 0 else bsh (V k) v + 1) i))), (4, .int (nI (i + 1)))]) (lv_sub hl [1, 2, 3, 0] rfl) (by rw [bmx, if_pos ((be8_eqI (hk i c_11).2.1.1 hv).mp c_21), Nat.max_zero]))
        · refine lv_iload_n hx hb dX0_mostSharedWithOthers_25 rfl (lv_at hl 2 rfl) ?_
          refine lv_aload_n hx hb dX0_mostSharedWithOthers_26 rfl (lv_at hl 0 rfl) ?_
          refine lv_iload hx hb dX0_mostSharedWithOthers_27 (lv_at hl 3 rfl) ?_
          refine c_Vl (As := [.int (nI (i))]) (rest := [.int (nM (bmx (fun k => if V k = v then 0 else bsh (V k) v + 1) i))]) (ci := 0) (q0 := 0) S (c_X0_wordAt_in l dC dI cI cJ cZ q0 q1 q2 q3 w o d n V O E hD i (by omega)) (cwV 1 hts gX0_mostSharedWithOthers_X0_wordAt rfl rfl rfl (by decide +kernel) ⟨Nat.le_of_ble_eq_true rfl, Nat.le_of_ble_eq_true rfl⟩) hK hP rfl rfl rfl hl.1 rfl (Nat.le_of_ble_eq_true rfl) dX0_mostSharedWithOthers_29 ⟨Nat.le_of_ble_eq_true rfl, Nat.le_of_ble_eq_true rfl⟩ ?_
          refine lv_lload_n hx hb dX0_mostSharedWithOthers_32 rfl (lv_at hl 1 rfl) ?_
          refine c_Si (As := [.long (lN (be8 (V i))), .long (lN (be8 v))]) (rest := [.int (nM (bmx (fun k => if V k = v then 0 else bsh (V k) v + 1) i))]) S (c_X3_sharedBy l (V i) v) (va_cwS 2 hts gX0_mostSharedWithOthers_X3_sharedBy rfl rfl rfl (by decide +kernel) ⟨Nat.le_of_ble_eq_true rfl, Nat.le_of_ble_eq_true rfl⟩) rfl hl.1 rfl (Nat.le_of_ble_eq_true rfl) dX0_mostSharedWithOthers_33 ⟨Nat.le_of_ble_eq_true rfl, Nat.le_of_ble_eq_true rfl⟩ ?_
          refine va_mmax hx hb (hml.trans hl.1.symm) hown (hts (.methodLink RX0 74 Lib.Math.max.name) (by decide +kernel)) (hts (.static Lib.Math.max.name) (by decide +kernel)) (hts (.initialized "java/lang/Math") (by decide +kernel)) (hts (.code Lib.Math.max.name Lib.Math.max.code 2 (some .int)) (by decide +kernel)) (Nat.le_of_ble_eq_true rfl) (Nat.le_of_ble_eq_true rfl) (Nat.le_of_ble_eq_true rfl) (Nat.le_of_ble_eq_true rfl) dX0_mostSharedWithOthers_36 ?_
          refine tpi (nmaxm (Nat.lt_of_le_of_lt (bmx_le (c := 8) (fun k _ => by have := bsh_le (V k) v; split <;> omega)) (by decide)) (Nat.lt_of_le_of_lt (bsh_le _ _) (by decide))) ?_
          refine lv_istore_n (lv' := [(3, .int (nM (max ((bmx (fun k => if V k = v then 0 else bsh (V k) v + 1) i)) (bsh (V i) v + 1)))), (0, .ref (q0)), (1, .long (lN (be8 v))), (4, .int (nI (i)))]) hx hb dX0_mostSharedWithOthers_39 rfl hl (by decide) rfl (fun ls hl => ?_)
          refine lv_iinc (v := nI (i + 1)) (lv' := [(4, .int (nI (i + 1))), (3, .int (nM (max ((bmx (fun k => if V k = v then 0 else bsh (V k) v + 1) i)) (bsh (V i) v + 1)))), (0, .ref (q0)), (1, .long (lN (be8 v)))]) hx hb dX0_mostSharedWithOthers_40 hl (k := 3) rfl (inc1 _) (by decide) rfl (fun ls hl => ?_)
          refine lv_goto (tgt := 5) hx hb dX0_mostSharedWithOthers_43 (by decide) ?_
          exact ih_5 (i + 1) (by omega) (by omega) ls (lv_cg (l := [(0, .ref (q0)), (1, .long (lN (be8 v))), (3, .int (nM (max ((bmx (fun k => if V k = v then 0 else bsh (V k) v + 1) i)) (bsh (V i) v + 1)))), (4, .int (nI (i + 1)))]) (lv_sub hl [2, 3, 1, 0] rfl) (by rw [bmx, if_neg (fun q => c_21 (congrArg be8 q))]))
  exact lp_5 _ (0) (by omega) (Nat.lt_succ_self _) ls (lv_sub hl [2, 3, 1, 0] rfl)
abbrev rm_X0_longestIn : Room := { frames := 4, cells := 0, slots := 0, locals := 89 }
set_option maxHeartbeats 4000000 in
set_option maxRecDepth 100000 in
theorem c_X0_longestIn (l : Launch) (dC : Nat → ClassId) (dI : Nat → Nat → Nat) (cI cJ cZ : ClassId) (q0 q1 q2 q3 : Nat) (w : Nat → Int64) (o d : Nat → Int32) (n : Nat) (V O E : Nat → Nat) (hD : bDD w o d n V O E) (v : Nat) : Met l yX0_longestIn wsX0_longestIn rm_X0_longestIn (rPc (dC, dI) (tysA cI cJ cZ) (wd q0 q1 q2 q3 cI cJ w o d n) [.ref (q0), .long (lN (be8 v))]) (Ri (nI (bmx (fun k => if bsh (V k) v == bln (V k) then bln (V k) else 0) n))) 0 0 (fun _ => False) := by
  refine met_r (cc := cX0_longestIn) (maxL := 5) (ret := (some .int)) (own := RX0) (by decide) rfl rfl (Nat.le_of_ble_eq_true rfl) ?_
  intro p e s m below meth c S hr hlocks hP hK ls hl
  obtain ⟨hx, hb, hml, hown, hts⟩ := id S
  have hl : lv_has ls 5 [(0, .ref (q0)), (1, .long (lN (be8 v)))] := hl
  have hi0 : ∀ w ∈ wsX00, w ∈ wsX0_longestIn := fun _ h => List.mem_cons_of_mem _ (List.mem_append_right _ h)
  obtain ⟨hn, hk⟩ := id hD
  refine lv_iconst (v := nI (0)) hx hb dX0_longestIn_0 (by decide) ?_
  refine lv_istore_n (lv' := [(3, .int (nI (0))), (0, .ref (q0)), (1, .long (lN (be8 v)))]) hx hb dX0_longestIn_1 rfl hl (by decide) rfl (fun ls hl => ?_)
  refine lv_iconst (v := nI (0)) hx hb dX0_longestIn_2 (by decide) ?_
  refine lv_istore (lv' := [(4, .int (nI (0))), (3, .int (nI (0))), (0, .ref (q0)), (1, .long (lN (be8 v)))]) hx hb dX0_longestIn_3 hl (by decide) rfl (fun ls hl => ?_)
  have lp_5 : ∀ (j_5 : Nat) (i : Nat), (i ≤ n) → (n - i) < j_5 → ∀ ls : Array Slot, lv_has ls 5 [(0, .ref (q0)), (1, .long (lN (be8 v))), (3, .int (nI (bmx (fun k => if bsh (V k) v == bln (V k) then bln (V k) else 0) i))), (4, .int (nI (i)))] → W p l e rm_X0_longestIn s m ([.ref (q0), .long (lN (be8 v))] : List Value).toArray below meth c s.heap [] 0 0 (MQ below (Ri (nI (bmx (fun k => if bsh (V k) v == bln (V k) then bln (V k) else 0) n))) ([.ref (q0), .long (lN (be8 v))] : List Value).toArray s 0 0 (fun _ => False)) (F0 m 5 ls []) := by
    intro j_5
    induction j_5 with
    | zero => intro i _ h0; exact absurd h0 (Nat.not_lt_zero _)
    | succ j_5 ih_5 =>
      intro i hi hf_5 ls hl
      refine lv_iload hx hb dX0_longestIn_5 (lv_at hl 3 rfl) ?_
      refine lv_aload_n hx hb dX0_longestIn_7 rfl (lv_at hl 0 rfl) ?_
      refine va_get (D := (dC, dI)) (ci := 0) (v := .int (nI (n))) (C := RX0) (T := TX0) (N := 4) hx hb hts hi0 hown hK hP 0 rfl rfl 3 (by decide) (hts (.fieldLink RX0 22 "BurstWords$Dictionary" "size" "I") (by decide +kernel)) (fun _ h9 => h9) rfl dX0_longestIn_8 ?_
      refine n_ge (tgt := 47) hx hb dX0_longestIn_11 (by decide) (by omega) (by omega) (fun c_11 => ?_) (fun c_11 => ?_)
      · refine lv_iload_n hx hb dX0_longestIn_47 rfl (lv_at hl 2 rfl) ?_
        exact r_i hx hb hr hlocks (by rw [show i = n by omega]) dX0_longestIn_48
      · refine lv_aload_n hx hb dX0_longestIn_14 rfl (lv_at hl 0 rfl) ?_
        refine lv_iload hx hb dX0_longestIn_15 (lv_at hl 3 rfl) ?_
        refine c_Vl (As := [.int (nI (i))]) (rest := []) (ci := 0) (q0 := 0) S (c_X0_wordAt_in l dC dI cI cJ cZ q0 q1 q2 q3 w o d n V O E hD i (by omega)) (cwV 1 hts gX0_longestIn_X0_wordAt rfl rfl rfl (by decide +kernel) ⟨Nat.le_of_ble_eq_true rfl, Nat.le_of_ble_eq_true rfl⟩) hK hP rfl rfl rfl hl.1 rfl (Nat.le_of_ble_eq_true rfl) dX0_longestIn_17 ⟨Nat.le_of_ble_eq_true rfl, Nat.le_of_ble_eq_true rfl⟩ ?_
        refine lv_lload_n hx hb dX0_longestIn_20 rfl (lv_at hl 1 rfl) ?_
        refine c_Si (As := [.long (lN (be8 (V i))), .long (lN (be8 v))]) (rest := []) S (c_X3_begins l (V i) v) (va_cwS 2 hts gX0_longestIn_X3_begins rfl rfl rfl (by decide +kernel) ⟨Nat.le_of_ble_eq_true rfl, Nat.le_of_ble_eq_true rfl⟩) rfl hl.1 rfl (Nat.le_of_ble_eq_true rfl) dX0_longestIn_21 ⟨Nat.le_of_ble_eq_true rfl, Nat.le_of_ble_eq_true rfl⟩ ?_
        refine b_eq (tgt := 41) hx hb dX0_longestIn_24 (by decide) (fun c_24 => ?_) (fun c_24 => ?_)
        · refine lv_iinc (v := nI (i + 1)) (lv' := [(4, .int (nI (i + 1))), (0, .ref (q0)), (1, .long (lN (be8 v))), (3, .int (nI (bmx (fun k => if bsh (V k) v == bln (V k) then bln (V k) else 0) i)))]) hx hb dX0_longestIn_41 hl (k := 3) rfl (inc1 _) (by decide) rfl (fun ls hl => ?_)
          refine lv_goto (tgt := 5) hx hb dX0_longestIn_44 (by decide) ?_
          exact ih_5 (i + 1) (by omega) (by omega) ls (lv_cg (l := [(0, .ref (q0)), (1, .long (lN (be8 v))), (3, .int (nI (bmx (fun k => if bsh (V k) v == bln (V k) then bln (V k) else 0) i))), (4, .int (nI (i + 1)))]) (lv_sub hl [1, 2, 3, 0] rfl) (by rw [bmx, if_neg (by simpa using c_24), Nat.max_zero]))
        · refine lv_iload_n hx hb dX0_longestIn_27 rfl (lv_at hl 2 rfl) ?_
          refine lv_aload_n hx hb dX0_longestIn_28 rfl (lv_at hl 0 rfl) ?_
          refine lv_iload hx hb dX0_longestIn_29 (lv_at hl 3 rfl) ?_
          refine c_Vl (As := [.int (nI (i))]) (rest := [.int (nI (bmx (fun k => if bsh (V k) v == bln (V k) then bln (V k) else 0) i))]) (ci := 0) (q0 := 0) S (c_X0_wordAt_in l dC dI cI cJ cZ q0 q1 q2 q3 w o d n V O E hD i (by omega)) (cwV 1 hts gX0_longestIn_X0_wordAt rfl rfl rfl (by decide +kernel) ⟨Nat.le_of_ble_eq_true rfl, Nat.le_of_ble_eq_true rfl⟩) hK hP rfl rfl rfl hl.1 rfl (Nat.le_of_ble_eq_true rfl) dX0_longestIn_31 ⟨Nat.le_of_ble_eq_true rfl, Nat.le_of_ble_eq_true rfl⟩ ?_
          refine c_Si (As := [.long (lN (be8 (V i)))]) (rest := [.int (nI (bmx (fun k => if bsh (V k) v == bln (V k) then bln (V k) else 0) i))]) S (c_X3_lengthOf l (V i)) (va_cwS 1 hts gX0_longestIn_X3_lengthOf rfl rfl rfl (by decide +kernel) ⟨Nat.le_of_ble_eq_true rfl, Nat.le_of_ble_eq_true rfl⟩) rfl hl.1 rfl (Nat.le_of_ble_eq_true rfl) dX0_longestIn_34 ⟨Nat.le_of_ble_eq_true rfl, Nat.le_of_ble_eq_true rfl⟩ ?_
          refine va_mmax hx hb (hml.trans hl.1.symm) hown (hts (.methodLink RX0 74 Lib.Math.max.name) (by decide +kernel)) (hts (.static Lib.Math.max.name) (by decide +kernel)) (hts (.initialized "java/lang/Math") (by decide +kernel)) (hts (.code Lib.Math.max.name Lib.Math.max.code 2 (some .int)) (by decide +kernel)) (Nat.le_of_ble_eq_true rfl) (Nat.le_of_ble_eq_true rfl) (Nat.le_of_ble_eq_true rfl) (Nat.le_of_ble_eq_true rfl) dX0_longestIn_37 ?_
          refine tpi (nmax (Nat.lt_of_le_of_lt (bmx_le (c := 7) (fun k _ => by have := bln_le (V k); split <;> omega)) (by decide)) (Nat.lt_of_le_of_lt (bln_le _) (by decide))) ?_
          refine lv_istore_n (lv' := [(3, .int (nI (max (bmx (fun k => if bsh (V k) v == bln (V k) then bln (V k) else 0) i) (bln (V i))))), (0, .ref (q0)), (1, .long (lN (be8 v))), (4, .int (nI (i)))]) hx hb dX0_longestIn_40 rfl hl (by decide) rfl (fun ls hl => ?_)
          refine lv_iinc (v := nI (i + 1)) (lv' := [(4, .int (nI (i + 1))), (3, .int (nI (max (bmx (fun k => if bsh (V k) v == bln (V k) then bln (V k) else 0) i) (bln (V i))))), (0, .ref (q0)), (1, .long (lN (be8 v)))]) hx hb dX0_longestIn_41 hl (k := 3) rfl (inc1 _) (by decide) rfl (fun ls hl => ?_)
          refine lv_goto (tgt := 5) hx hb dX0_longestIn_44 (by decide) ?_
          exact ih_5 (i + 1) (by omega) (by omega) ls (lv_cg (l := [(0, .ref (q0)), (1, .long (lN (be8 v))), (3, .int (nI (max (bmx (fun k => if bsh (V k) v == bln (V k) then bln (V k) else 0) i) (bln (V i))))), (4, .int (nI (i + 1)))]) (lv_sub hl [2, 3, 1, 0] rfl) (by rw [bmx, if_pos (by simpa using c_24)]))
  exact lp_5 _ (0) (by omega) (Nat.lt_succ_self _) ls (lv_sub hl [2, 3, 1, 0] rfl)
abbrev rm_X0_alike : Room := { frames := 3, cells := 0, slots := 0, locals := 67 }
set_option maxHeartbeats 4000000 in
set_option maxRecDepth 100000 in
theorem c_X0_alike (l : Launch) (dC : Nat → ClassId) (dI : Nat → Nat → Nat) (cI cJ cZ : ClassId) (q0 q1 q2 q3 : Nat) (w : Nat → Int64) (o d : Nat → Int32) (n : Nat) (V O E : Nat → Nat) (hD : bDD w o d n V O E) (v : Nat) (g : Nat) (hg : g ≤ 7) : Met l yX0_alike wsX0_alike rm_X0_alike (rPc (dC, dI) (tysA cI cJ cZ) (wd q0 q1 q2 q3 cI cJ w o d n) [.ref (q0), .long (lN (be8 v)), .int (nI (g))]) (Ri (nI (fb_ct (fun k => bln (V k) == bln v && decide (fb_ct (fun i => bsg (V k) i != bsg v i) 7 ≤ g)) n))) 0 0 (fun _ => False) := by
  refine met_r (cc := cX0_alike) (maxL := 7) (ret := (some .int)) (own := RX0) (by decide) rfl rfl (Nat.le_of_ble_eq_true rfl) ?_
  intro p e s m below meth c S hr hlocks hP hK ls hl
  obtain ⟨hx, hb, hml, hown, hts⟩ := id S
  have hl : lv_has ls 7 [(0, .ref (q0)), (1, .long (lN (be8 v))), (3, .int (nI (g)))] := hl
  have hi0 : ∀ w ∈ wsX00, w ∈ wsX0_alike := fun _ h => List.mem_cons_of_mem _ (List.mem_append_right _ h)
  obtain ⟨hn, hk⟩ := id hD
  refine lv_lload_n hx hb dX0_alike_0 rfl (lv_at hl 1 rfl) ?_
  refine c_Si (As := [.long (lN (be8 v))]) (rest := []) S (c_X3_lengthOf l v) (va_cwS 1 hts gX0_alike_X3_lengthOf rfl rfl rfl (by decide +kernel) ⟨Nat.le_of_ble_eq_true rfl, Nat.le_of_ble_eq_true rfl⟩) rfl hl.1 rfl (Nat.le_of_ble_eq_true rfl) dX0_alike_1 ⟨Nat.le_of_ble_eq_true rfl, Nat.le_of_ble_eq_true rfl⟩ ?_
  refine lv_istore (lv' := [(4, .int (nI (bln v))), (0, .ref (q0)), (1, .long (lN (be8 v))), (3, .int (nI (g)))]) hx hb dX0_alike_4 hl (by decide) rfl (fun ls hl => ?_)
  refine lv_iconst (v := nI (0)) hx hb dX0_alike_6 (by decide) ?_
  refine lv_istore (lv' := [(5, .int (nI (0))), (4, .int (nI (bln v))), (0, .ref (q0)), (1, .long (lN (be8 v))), (3, .int (nI (g)))]) hx hb dX0_alike_7 hl (by decide) rfl (fun ls hl => ?_)
  refine lv_iconst (v := nI (0)) hx hb dX0_alike_9 (by decide) ?_
  refine lv_istore (lv' := [(6, .int (nI (0))), (5, .int (nI (0))), (4, .int (nI (bln v))), (0, .ref (q0)), (1, .long (lN (be8 v))), (3, .int (nI (g)))]) hx hb dX0_alike_10 hl (by decide) rfl (fun ls hl => ?_)
  have lp_12 : ∀ (j_12 : Nat) (i : Nat), (i ≤ n) → (n - i) < j_12 → ∀ ls : Array Slot, lv_has ls 7 [(0, .ref (q0)), (1, .long (lN (be8 v))), (3, .int (nI (g))), (4, .int (nI (bln v))), (5, .int (nI (fb_ct (fun k => bln (V k) == bln v && decide (fb_ct (fun i => bsg (V k) i != bsg v i) 7 ≤ g)) i))), (6, .int (nI (i)))] → W p l e rm_X0_alike s m ([.ref (q0), .long (lN (be8 v)), .int (nI (g))] : List Value).toArray below meth c s.heap [] 0 0 (MQ below (Ri (nI (fb_ct (fun k => bln (V k) == bln v && decide (fb_ct (fun i => bsg (V k) i != bsg v i) 7 ≤ g)) n))) ([.ref (q0), .long (lN (be8 v)), .int (nI (g))] : List Value).toArray s 0 0 (fun _ => False)) (F0 m 12 ls []) := by
    intro j_12
    induction j_12 with
    | zero => intro i _ h0; exact absurd h0 (Nat.not_lt_zero _)
    | succ j_12 ih_12 =>
      intro i hi hf_12 ls hl
      refine lv_iload hx hb dX0_alike_12 (lv_at hl 5 rfl) ?_
      refine lv_aload_n hx hb dX0_alike_14 rfl (lv_at hl 0 rfl) ?_
      refine va_get (D := (dC, dI)) (ci := 0) (v := .int (nI (n))) (C := RX0) (T := TX0) (N := 4) hx hb hts hi0 hown hK hP 0 rfl rfl 3 (by decide) (hts (.fieldLink RX0 22 "BurstWords$Dictionary" "size" "I") (by decide +kernel)) (fun _ h9 => h9) rfl dX0_alike_15 ?_
      refine n_ge (tgt := 58) hx hb dX0_alike_18 (by decide) (by omega) (by omega) (fun c_18 => ?_) (fun c_18 => ?_)
      · refine lv_iload hx hb dX0_alike_58 (lv_at hl 4 rfl) ?_
        exact r_i hx hb hr hlocks (by rw [show i = n by omega]) dX0_alike_60
      · refine lv_aload_n hx hb dX0_alike_21 rfl (lv_at hl 0 rfl) ?_
        refine lv_iload hx hb dX0_alike_22 (lv_at hl 5 rfl) ?_
        refine c_Vl (As := [.int (nI (i))]) (rest := []) (ci := 0) (q0 := 0) S (c_X0_wordAt_in l dC dI cI cJ cZ q0 q1 q2 q3 w o d n V O E hD i (by omega)) (cwV 1 hts gX0_alike_X0_wordAt rfl rfl rfl (by decide +kernel) ⟨Nat.le_of_ble_eq_true rfl, Nat.le_of_ble_eq_true rfl⟩) hK hP rfl rfl rfl hl.1 rfl (Nat.le_of_ble_eq_true rfl) dX0_alike_24 ⟨Nat.le_of_ble_eq_true rfl, Nat.le_of_ble_eq_true rfl⟩ ?_
        refine c_Si (As := [.long (lN (be8 (V i)))]) (rest := []) S (c_X3_lengthOf l (V i)) (va_cwS 1 hts gX0_alike_X3_lengthOf rfl rfl rfl (by decide +kernel) ⟨Nat.le_of_ble_eq_true rfl, Nat.le_of_ble_eq_true rfl⟩) rfl hl.1 rfl (Nat.le_of_ble_eq_true rfl) dX0_alike_27 ⟨Nat.le_of_ble_eq_true rfl, Nat.le_of_ble_eq_true rfl⟩ ?_
        refine lv_iload hx hb dX0_alike_30 (lv_at hl 3 rfl) ?_
        refine n_ne (tgt := 52) hx hb dX0_alike_32 (by decide) (Nat.lt_of_le_of_lt (bln_le _) (by decide)) (Nat.lt_of_le_of_lt (bln_le _) (by decide)) (fun c_32 => ?_) (fun c_32 => ?_)
        · refine lv_iinc (v := nI (i + 1)) (lv' := [(6, .int (nI (i + 1))), (0, .ref (q0)), (1, .long (lN (be8 v))), (3, .int (nI (g))), (4, .int (nI (bln v))), (5, .int (nI (fb_ct (fun k => bln (V k) == bln v && decide (fb_ct (fun i => bsg (V k) i != bsg v i) 7 ≤ g)) i)))]) hx hb dX0_alike_52 hl (k := 5) rfl (inc1 _) (by decide) rfl (fun ls hl => ?_)
          refine lv_goto (tgt := 12) hx hb dX0_alike_55 (by decide) ?_
          exact ih_12 (i + 1) (by omega) (by omega) ls (lv_cg (l := [(0, .ref (q0)), (1, .long (lN (be8 v))), (3, .int (nI (g))), (4, .int (nI (bln v))), (5, .int (nI (fb_ct (fun k => bln (V k) == bln v && decide (fb_ct (fun i => bsg (V k) i != bsg v i) 7 ≤ g)) i))), (6, .int (nI (i + 1)))]) (lv_sub hl [1, 2, 3, 4, 5, 0] rfl) (by rw [ct_n (p := (fun k => bln (V k) == bln v && decide (fb_ct (fun i => bsg (V k) i != bsg v i) 7 ≤ g))) (n := i) (by simp [c_32])]))
        · refine lv_aload_n hx hb dX0_alike_35 rfl (lv_at hl 0 rfl) ?_
          refine lv_iload hx hb dX0_alike_36 (lv_at hl 5 rfl) ?_
          refine c_Vl (As := [.int (nI (i))]) (rest := []) (ci := 0) (q0 := 0) S (c_X0_wordAt_in l dC dI cI cJ cZ q0 q1 q2 q3 w o d n V O E hD i (by omega)) (cwV 1 hts gX0_alike_X0_wordAt rfl rfl rfl (by decide +kernel) ⟨Nat.le_of_ble_eq_true rfl, Nat.le_of_ble_eq_true rfl⟩) hK hP rfl rfl rfl hl.1 rfl (Nat.le_of_ble_eq_true rfl) dX0_alike_38 ⟨Nat.le_of_ble_eq_true rfl, Nat.le_of_ble_eq_true rfl⟩ ?_
          refine lv_lload_n hx hb dX0_alike_41 rfl (lv_at hl 1 rfl) ?_
          refine c_Si (As := [.long (lN (be8 (V i))), .long (lN (be8 v))]) (rest := []) S (c_X3_differences l (V i) v) (va_cwS 2 hts gX0_alike_X3_differences rfl rfl rfl (by decide +kernel) ⟨Nat.le_of_ble_eq_true rfl, Nat.le_of_ble_eq_true rfl⟩) rfl hl.1 rfl (Nat.le_of_ble_eq_true rfl) dX0_alike_42 ⟨Nat.le_of_ble_eq_true rfl, Nat.le_of_ble_eq_true rfl⟩ ?_
          refine lv_iload_n hx hb dX0_alike_45 rfl (lv_at hl 2 rfl) ?_
          refine n_gt (tgt := 52) hx hb dX0_alike_46 (by decide) (Nat.lt_of_le_of_lt (fb_ct_le _ _) (by decide)) (by omega) (fun c_46 => ?_) (fun c_46 => ?_)
          · refine lv_iinc (v := nI (i + 1)) (lv' := [(6, .int (nI (i + 1))), (0, .ref (q0)), (1, .long (lN (be8 v))), (3, .int (nI (g))), (4, .int (nI (bln v))), (5, .int (nI (fb_ct (fun k => bln (V k) == bln v && decide (fb_ct (fun i => bsg (V k) i != bsg v i) 7 ≤ g)) i)))]) hx hb dX0_alike_52 hl (k := 5) rfl (inc1 _) (by decide) rfl (fun ls hl => ?_)
            refine lv_goto (tgt := 12) hx hb dX0_alike_55 (by decide) ?_
            exact ih_12 (i + 1) (by omega) (by omega) ls (lv_cg (l := [(0, .ref (q0)), (1, .long (lN (be8 v))), (3, .int (nI (g))), (4, .int (nI (bln v))), (5, .int (nI (fb_ct (fun k => bln (V k) == bln v && decide (fb_ct (fun i => bsg (V k) i != bsg v i) 7 ≤ g)) i))), (6, .int (nI (i + 1)))]) (lv_sub hl [1, 2, 3, 4, 5, 0] rfl) (by rw [ct_n (p := (fun k => bln (V k) == bln v && decide (fb_ct (fun i => bsg (V k) i != bsg v i) 7 ≤ g))) (n := i) (by simp [c_32]; omega)]))
          · refine lv_iinc (v := nI ((fb_ct (fun k => bln (V k) == bln v && decide (fb_ct (fun i => bsg (V k) i != bsg v i) 7 ≤ g)) i) + 1)) (lv' := [(5, .int (nI ((fb_ct (fun k => bln (V k) == bln v && decide (fb_ct (fun i => bsg (V k) i != bsg v i) 7 ≤ g)) i) + 1))), (0, .ref (q0)), (1, .long (lN (be8 v))), (3, .int (nI (g))), (4, .int (nI (bln v))), (6, .int (nI (i)))]) hx hb dX0_alike_49 hl (k := 4) rfl (inc1 _) (by decide) rfl (fun ls hl => ?_)
            refine lv_iinc (v := nI (i + 1)) (lv' := [(6, .int (nI (i + 1))), (5, .int (nI ((fb_ct (fun k => bln (V k) == bln v && decide (fb_ct (fun i => bsg (V k) i != bsg v i) 7 ≤ g)) i) + 1))), (0, .ref (q0)), (1, .long (lN (be8 v))), (3, .int (nI (g))), (4, .int (nI (bln v)))]) hx hb dX0_alike_52 hl (k := 5) rfl (inc1 _) (by decide) rfl (fun ls hl => ?_)
            refine lv_goto (tgt := 12) hx hb dX0_alike_55 (by decide) ?_
            exact ih_12 (i + 1) (by omega) (by omega) ls (lv_cg (l := [(0, .ref (q0)), (1, .long (lN (be8 v))), (3, .int (nI (g))), (4, .int (nI (bln v))), (5, .int (nI ((fb_ct (fun k => bln (V k) == bln v && decide (fb_ct (fun i => bsg (V k) i != bsg v i) 7 ≤ g)) i) + 1))), (6, .int (nI (i + 1)))]) (lv_sub hl [2, 3, 4, 5, 1, 0] rfl) (by rw [ct_y (p := (fun k => bln (V k) == bln v && decide (fb_ct (fun i => bsg (V k) i != bsg v i) 7 ≤ g))) (n := i) (by simp [c_32]; omega)]))
  exact lp_12 _ (0) (by omega) (Nat.lt_succ_self _) ls (lv_sub hl [3, 4, 5, 2, 1, 0] rfl)
abbrev rm_X0_holderOf : Room := { frames := 2, cells := 0, slots := 0, locals := 42 }
set_option maxHeartbeats 4000000 in
set_option maxRecDepth 100000 in
theorem c_X0_holderOf (l : Launch) (dC : Nat → ClassId) (dI : Nat → Nat → Nat) (cI cJ cZ : ClassId) (q0 q1 q2 q3 : Nat) (w : Nat → Int64) (o d : Nat → Int32) (n : Nat) (V O E : Nat → Nat) (hD : bDD w o d n V O E) (k : Nat) (hk31 : k < 2 ^ 31) : Met l yX0_holderOf wsX0_holderOf rm_X0_holderOf (rPc (dC, dI) (tysA cI cJ cZ) (wd q0 q1 q2 q3 cI cJ w o d n) [.ref (q0), .int (nI (k))]) (Ri (bopt n (bfs (fun i => decide (k < fb_sm O (i + 1))) n))) 0 0 (fun _ => False) := by
  refine met_r (cc := cX0_holderOf) (maxL := 4) (ret := (some .int)) (own := RX0) (by decide) rfl rfl (Nat.le_of_ble_eq_true rfl) ?_
  intro p e s m below meth c S hr hlocks hP hK ls hl
  obtain ⟨hx, hb, hml, hown, hts⟩ := id S
  have hl : lv_has ls 4 [(0, .ref (q0)), (1, .int (nI (k)))] := hl
  have hi0 : ∀ w ∈ wsX00, w ∈ wsX0_holderOf := fun _ h => List.mem_cons_of_mem _ (List.mem_append_right _ h)
  obtain ⟨hn, hk⟩ := id hD
  refine lv_iload_n hx hb dX0_holderOf_0 rfl (lv_at hl 1 rfl) ?_
  refine lv_istore_n (lv' := [(2, .int (nI (k))), (0, .ref (q0)), (1, .int (nI (k)))]) hx hb dX0_holderOf_1 rfl hl (by decide) rfl (fun ls hl => ?_)
  refine lv_iconst (v := nI (0)) hx hb dX0_holderOf_2 (by decide) ?_
  refine lv_istore_n (lv' := [(3, .int (nI (0))), (2, .int (nI (k))), (0, .ref (q0)), (1, .int (nI (k)))]) hx hb dX0_holderOf_3 rfl hl (by decide) rfl (fun ls hl => ?_)
  have lp_4 : ∀ (j_4 : Nat) (i : Nat), (i ≤ n) → (fb_sm O i ≤ k) → (∀ j, j < i → fb_sm O (j + 1) ≤ k) → (n - i) < j_4 → ∀ ls : Array Slot, lv_has ls 4 [(0, .ref (q0)), (2, .int (nI (k - fb_sm O i))), (3, .int (nI (i)))] → W p l e rm_X0_holderOf s m ([.ref (q0), .int (nI (k))] : List Value).toArray below meth c s.heap [] 0 0 (MQ below (Ri (bopt n (bfs (fun i => decide (k < fb_sm O (i + 1))) n))) ([.ref (q0), .int (nI (k))] : List Value).toArray s 0 0 (fun _ => False)) (F0 m 4 ls []) := by
    intro j_4
    induction j_4 with
    | zero => intro i _ _ _ h0; exact absurd h0 (Nat.not_lt_zero _)
    | succ j_4 ih_4 =>
      intro i hi hs hz hf_4 ls hl
      refine lv_iload_n hx hb dX0_holderOf_4 rfl (lv_at hl 2 rfl) ?_
      refine lv_aload_n hx hb dX0_holderOf_5 rfl (lv_at hl 0 rfl) ?_
      refine va_get (D := (dC, dI)) (ci := 0) (v := .int (nI (n))) (C := RX0) (T := TX0) (N := 4) hx hb hts hi0 hown hK hP 0 rfl rfl 3 (by decide) (hts (.fieldLink RX0 22 "BurstWords$Dictionary" "size" "I") (by decide +kernel)) (fun _ h9 => h9) rfl dX0_holderOf_6 ?_
      refine n_ge (tgt := 37) hx hb dX0_holderOf_9 (by decide) (by omega) (by omega) (fun c_9 => ?_) (fun c_9 => ?_)
      · refine lv_iconst (v := (-1 : Int32)) hx hb dX0_holderOf_37 (by decide) ?_
        exact r_i hx hb hr hlocks (by rw [show bfs (fun i => decide (k < fb_sm O (i + 1))) n = n from bfs_eq (Nat.le_refl n) (fun j h => by simpa using hz j (by omega)) (fun h => absurd h (Nat.lt_irrefl n))]; exact (if_neg (Nat.lt_irrefl n)).symm) dX0_holderOf_38
      · refine lv_iload_n hx hb dX0_holderOf_12 rfl (lv_at hl 1 rfl) ?_
        refine lv_aload_n hx hb dX0_holderOf_13 rfl (lv_at hl 0 rfl) ?_
        refine lv_iload_n hx hb dX0_holderOf_14 rfl (lv_at hl 2 rfl) ?_
        refine c_Vi (As := [.int (nI (i))]) (rest := [.int (nI (k - fb_sm O i))]) (ci := 0) (q0 := 0) S (c_X0_oftenAt_in l dC dI cI cJ cZ q0 q1 q2 q3 w o d n V O E hD i (by omega)) (cwV 1 hts gX0_holderOf_X0_oftenAt rfl rfl rfl (by decide +kernel) ⟨Nat.le_of_ble_eq_true rfl, Nat.le_of_ble_eq_true rfl⟩) hK hP rfl rfl rfl hl.1 rfl (Nat.le_of_ble_eq_true rfl) dX0_holderOf_15 ⟨Nat.le_of_ble_eq_true rfl, Nat.le_of_ble_eq_true rfl⟩ ?_
        refine n_ge (tgt := 23) hx hb dX0_holderOf_18 (by decide) (by omega) (Nat.lt_of_le_of_lt (hk _ c_9).2.2.2.2.1 (by decide)) (fun c_18 => ?_) (fun c_18 => ?_)
        · refine lv_iload_n hx hb dX0_holderOf_23 rfl (lv_at hl 1 rfl) ?_
          refine lv_aload_n hx hb dX0_holderOf_24 rfl (lv_at hl 0 rfl) ?_
          refine lv_iload_n hx hb dX0_holderOf_25 rfl (lv_at hl 2 rfl) ?_
          refine c_Vi (As := [.int (nI (i))]) (rest := [.int (nI (k - fb_sm O i))]) (ci := 0) (q0 := 0) S (c_X0_oftenAt_in l dC dI cI cJ cZ q0 q1 q2 q3 w o d n V O E hD i (by omega)) (cwV 1 hts gX0_holderOf_X0_oftenAt rfl rfl rfl (by decide +kernel) ⟨Nat.le_of_ble_eq_true rfl, Nat.le_of_ble_eq_true rfl⟩) hK hP rfl rfl rfl hl.1 rfl (Nat.le_of_ble_eq_true rfl) dX0_holderOf_26 ⟨Nat.le_of_ble_eq_true rfl, Nat.le_of_ble_eq_true rfl⟩ ?_
          refine lv_isub hx hb dX0_holderOf_29 ?_
          refine tpi (pk_sub (by omega)) ?_
          refine lv_istore_n (lv' := [(2, .int (nI ((k - fb_sm O i) - (O i)))), (0, .ref (q0)), (3, .int (nI (i)))]) hx hb dX0_holderOf_30 rfl hl (by decide) rfl (fun ls hl => ?_)
          refine lv_iinc (v := nI (i + 1)) (lv' := [(3, .int (nI (i + 1))), (2, .int (nI ((k - fb_sm O i) - (O i)))), (0, .ref (q0))]) hx hb dX0_holderOf_31 hl (k := 2) rfl (inc1 _) (by decide) rfl (fun ls hl => ?_)
          refine lv_goto (tgt := 4) hx hb dX0_holderOf_34 (by decide) ?_
          exact ih_4 (i + 1) (by omega) (by rw [fb_sm_succ]; omega) (lt_s hz (by rw [fb_sm_succ]; omega)) (by omega) ls (lv_cg (l := [(0, .ref (q0)), (2, .int (nI ((k - fb_sm O i) - (O i)))), (3, .int (nI (i + 1)))]) (lv_sub hl [2, 1, 0] rfl) (by rw [fb_sm_succ, Nat.sub_sub]))
        · refine lv_iload_n hx hb dX0_holderOf_21 rfl (lv_at hl 2 rfl) ?_
          exact r_i hx hb hr hlocks (by rw [show bfs (fun i => decide (k < fb_sm O (i + 1))) n = i from bfs_eq hi (fun j h => by simpa using hz j h) (fun _ => by rw [fb_sm_succ]; simp; omega)]; exact (if_pos c_9).symm) dX0_holderOf_22
  exact lp_4 _ (0) (by omega) (Nat.zero_le _) lt_0 (Nat.lt_succ_self _) ls (lv_sub hl [2, 1, 0] rfl)
abbrev rm_X0_moreFrequent : Room := { frames := 4, cells := 0, slots := 0, locals := 89 }
set_option maxHeartbeats 4000000 in
set_option maxRecDepth 100000 in
theorem c_X0_moreFrequent (l : Launch) (dC : Nat → ClassId) (dI : Nat → Nat → Nat) (cI cJ cZ : ClassId) (q0 q1 q2 q3 : Nat) (w : Nat → Int64) (o d : Nat → Int32) (n : Nat) (V O E : Nat → Nat) (hD : bDD w o d n V O E) (u : Nat) (j : Nat) (hj : j < n) : Met l yX0_moreFrequent wsX0_moreFrequent rm_X0_moreFrequent (rPc (dC, dI) (tysA cI cJ cZ) (wd q0 q1 q2 q3 cI cJ w o d n) [.ref (q0), .long (lN (be8 u)), .int (nI (j))]) (Ri (nI (bmf V O n u j))) 0 0 (fun _ => False) := by
  refine met_r (cc := cX0_moreFrequent) (maxL := 7) (ret := (some .int)) (own := RX0) (by decide) rfl rfl (Nat.le_of_ble_eq_true rfl) ?_
  intro p e s m below meth c S hr hlocks hP hK ls hl
  obtain ⟨hx, hb, hml, hown, hts⟩ := id S
  have hl : lv_has ls 7 [(0, .ref (q0)), (1, .long (lN (be8 u))), (3, .int (nI (j)))] := hl
  have hi0 : ∀ w ∈ wsX00, w ∈ wsX0_moreFrequent := fun _ h => List.mem_cons_of_mem _ (List.mem_append_right _ h)
  obtain ⟨hn, hk⟩ := id hD
  refine lv_iconst (v := nI (0)) hx hb dX0_moreFrequent_0 (by decide) ?_
  refine lv_istore (lv' := [(4, .int (nI (0))), (0, .ref (q0)), (1, .long (lN (be8 u))), (3, .int (nI (j)))]) hx hb dX0_moreFrequent_1 hl (by decide) rfl (fun ls hl => ?_)
  refine lv_iconst (v := nI (0)) hx hb dX0_moreFrequent_3 (by decide) ?_
  refine lv_istore (lv' := [(5, .int (nI (0))), (4, .int (nI (0))), (0, .ref (q0)), (1, .long (lN (be8 u))), (3, .int (nI (j)))]) hx hb dX0_moreFrequent_4 hl (by decide) rfl (fun ls hl => ?_)
  have lp_6 : ∀ (j_6 : Nat) (i : Nat), (i ≤ n) → (n - i) < j_6 → ∀ ls : Array Slot, lv_has ls 7 [(0, .ref (q0)), (1, .long (lN (be8 u))), (3, .int (nI (j))), (4, .int (nI (fb_ct (fun i => (decide (O j < O i) || (O i == O j && decide (i < j))) && (bsh u (V i) == bln u)) i))), (5, .int (nI (i)))] → W p l e rm_X0_moreFrequent s m ([.ref (q0), .long (lN (be8 u)), .int (nI (j))] : List Value).toArray below meth c s.heap [] 0 0 (MQ below (Ri (nI (bmf V O n u j))) ([.ref (q0), .long (lN (be8 u)), .int (nI (j))] : List Value).toArray s 0 0 (fun _ => False)) (F0 m 6 ls []) := by
    intro j_6
    induction j_6 with
    | zero => intro i _ h0; exact absurd h0 (Nat.not_lt_zero _)
    | succ j_6 ih_6 =>
      intro i hi hf_6 ls hl
      refine lv_iload hx hb dX0_moreFrequent_6 (lv_at hl 4 rfl) ?_
      refine lv_aload_n hx hb dX0_moreFrequent_8 rfl (lv_at hl 0 rfl) ?_
      refine va_get (D := (dC, dI)) (ci := 0) (v := .int (nI (n))) (C := RX0) (T := TX0) (N := 4) hx hb hts hi0 hown hK hP 0 rfl rfl 3 (by decide) (hts (.fieldLink RX0 22 "BurstWords$Dictionary" "size" "I") (by decide +kernel)) (fun _ h9 => h9) rfl dX0_moreFrequent_9 ?_
      refine n_ge (tgt := 83) hx hb dX0_moreFrequent_12 (by decide) (by omega) (by omega) (fun c_12 => ?_) (fun c_12 => ?_)
      · refine lv_iload hx hb dX0_moreFrequent_83 (lv_at hl 3 rfl) ?_
        exact r_i hx hb hr hlocks (by rw [show i = n by omega]; rfl) dX0_moreFrequent_85
      · refine lv_aload_n hx hb dX0_moreFrequent_15 rfl (lv_at hl 0 rfl) ?_
        refine lv_iload hx hb dX0_moreFrequent_16 (lv_at hl 4 rfl) ?_
        refine c_Vi (As := [.int (nI (i))]) (rest := []) (ci := 0) (q0 := 0) S (c_X0_oftenAt_in l dC dI cI cJ cZ q0 q1 q2 q3 w o d n V O E hD i (by omega)) (cwV 1 hts gX0_moreFrequent_X0_oftenAt rfl rfl rfl (by decide +kernel) ⟨Nat.le_of_ble_eq_true rfl, Nat.le_of_ble_eq_true rfl⟩) hK hP rfl rfl rfl hl.1 rfl (Nat.le_of_ble_eq_true rfl) dX0_moreFrequent_18 ⟨Nat.le_of_ble_eq_true rfl, Nat.le_of_ble_eq_true rfl⟩ ?_
        refine lv_aload_n hx hb dX0_moreFrequent_21 rfl (lv_at hl 0 rfl) ?_
        refine lv_iload_n hx hb dX0_moreFrequent_22 rfl (lv_at hl 2 rfl) ?_
        refine c_Vi (As := [.int (nI (j))]) (rest := [.int (nI (O i))]) (ci := 0) (q0 := 0) S (c_X0_oftenAt_in l dC dI cI cJ cZ q0 q1 q2 q3 w o d n V O E hD j (by omega)) (cwV 1 hts gX0_moreFrequent_X0_oftenAt rfl rfl rfl (by decide +kernel) ⟨Nat.le_of_ble_eq_true rfl, Nat.le_of_ble_eq_true rfl⟩) hK hP rfl rfl rfl hl.1 rfl (Nat.le_of_ble_eq_true rfl) dX0_moreFrequent_23 ⟨Nat.le_of_ble_eq_true rfl, Nat.le_of_ble_eq_true rfl⟩ ?_
        refine n_gt (tgt := 49) hx hb dX0_moreFrequent_26 (by decide) (Nat.lt_of_le_of_lt (hk _ c_12).2.2.2.2.1 (by decide)) (Nat.lt_of_le_of_lt (hk _ hj).2.2.2.2.1 (by decide)) (fun c_26 => ?_) (fun c_26 => ?_)
        · refine lv_iconst (v := nI (1)) hx hb dX0_moreFrequent_49 (by decide) ?_
          refine lv_goto (tgt := 54) hx hb dX0_moreFrequent_50 (by decide) ?_
          refine lv_istore (lv' := [(6, .int (nI (1))), (0, .ref (q0)), (1, .long (lN (be8 u))), (3, .int (nI (j))), (4, .int (nI (fb_ct (fun i => (decide (O j < O i) || (O i == O j && decide (i < j))) && (bsh u (V i) == bln u)) i))), (5, .int (nI (i)))]) hx hb dX0_moreFrequent_54 hl (by decide) rfl (fun ls hl => ?_)
          refine lv_iload hx hb dX0_moreFrequent_56 (lv_at hl 0 rfl) ?_
          refine z_eq (tgt := 77) hx hb dX0_moreFrequent_58 (by decide) (by omega) (fun c_58 => ?_) (fun c_58 => ?_)
          · exact absurd c_58 (by decide)
          · refine lv_lload_n hx hb dX0_moreFrequent_61 rfl (lv_at hl 2 rfl) ?_
            refine lv_aload_n hx hb dX0_moreFrequent_62 rfl (lv_at hl 1 rfl) ?_
            refine lv_iload hx hb dX0_moreFrequent_63 (lv_at hl 5 rfl) ?_
            refine c_Vl (As := [.int (nI (i))]) (rest := [.long (lN (be8 u))]) (ci := 0) (q0 := 0) S (c_X0_wordAt_in l dC dI cI cJ cZ q0 q1 q2 q3 w o d n V O E hD i (by omega)) (cwV 1 hts gX0_moreFrequent_X0_wordAt rfl rfl rfl (by decide +kernel) ⟨Nat.le_of_ble_eq_true rfl, Nat.le_of_ble_eq_true rfl⟩) hK hP rfl rfl rfl hl.1 rfl (Nat.le_of_ble_eq_true rfl) dX0_moreFrequent_65 ⟨Nat.le_of_ble_eq_true rfl, Nat.le_of_ble_eq_true rfl⟩ ?_
            refine c_Si (As := [.long (lN (be8 u)), .long (lN (be8 (V i)))]) (rest := []) S (c_X3_begins l u (V i)) (va_cwS 2 hts gX0_moreFrequent_X3_begins rfl rfl rfl (by decide +kernel) ⟨Nat.le_of_ble_eq_true rfl, Nat.le_of_ble_eq_true rfl⟩) rfl hl.1 rfl (Nat.le_of_ble_eq_true rfl) dX0_moreFrequent_68 ⟨Nat.le_of_ble_eq_true rfl, Nat.le_of_ble_eq_true rfl⟩ ?_
            refine b_eq (tgt := 77) hx hb dX0_moreFrequent_71 (by decide) (fun c_71 => ?_) (fun c_71 => ?_)
            · refine lv_iinc (v := nI (i + 1)) (lv' := [(5, .int (nI (i + 1))), (6, .int (nI (1))), (0, .ref (q0)), (1, .long (lN (be8 u))), (3, .int (nI (j))), (4, .int (nI (fb_ct (fun i => (decide (O j < O i) || (O i == O j && decide (i < j))) && (bsh u (V i) == bln u)) i)))]) hx hb dX0_moreFrequent_77 hl (k := 5) rfl (inc1 _) (by decide) rfl (fun ls hl => ?_)
              refine lv_goto (tgt := 6) hx hb dX0_moreFrequent_80 (by decide) ?_
              exact ih_6 (i + 1) (by omega) (by omega) ls (lv_cg (l := [(0, .ref (q0)), (1, .long (lN (be8 u))), (3, .int (nI (j))), (4, .int (nI (fb_ct (fun i => (decide (O j < O i) || (O i == O j && decide (i < j))) && (bsh u (V i) == bln u)) i))), (5, .int (nI (i + 1)))]) (lv_sub hl [2, 3, 4, 5, 0] rfl) (by rw [ct_n (p := (fun i => (decide (O j < O i) || (O i == O j && decide (i < j))) && (bsh u (V i) == bln u))) (n := i) (by rw [c_71]; simp)]))
            · refine lv_iinc (v := nI ((fb_ct (fun i => (decide (O j < O i) || (O i == O j && decide (i < j))) && (bsh u (V i) == bln u)) i) + 1)) (lv' := [(4, .int (nI ((fb_ct (fun i => (decide (O j < O i) || (O i == O j && decide (i < j))) && (bsh u (V i) == bln u)) i) + 1))), (6, .int (nI (1))), (0, .ref (q0)), (1, .long (lN (be8 u))), (3, .int (nI (j))), (5, .int (nI (i)))]) hx hb dX0_moreFrequent_74 hl (k := 4) rfl (inc1 _) (by decide) rfl (fun ls hl => ?_)
              refine lv_iinc (v := nI (i + 1)) (lv' := [(5, .int (nI (i + 1))), (4, .int (nI ((fb_ct (fun i => (decide (O j < O i) || (O i == O j && decide (i < j))) && (bsh u (V i) == bln u)) i) + 1))), (6, .int (nI (1))), (0, .ref (q0)), (1, .long (lN (be8 u))), (3, .int (nI (j)))]) hx hb dX0_moreFrequent_77 hl (k := 5) rfl (inc1 _) (by decide) rfl (fun ls hl => ?_)
              refine lv_goto (tgt := 6) hx hb dX0_moreFrequent_80 (by decide) ?_
              exact ih_6 (i + 1) (by omega) (by omega) ls (lv_cg (l := [(0, .ref (q0)), (1, .long (lN (be8 u))), (3, .int (nI (j))), (4, .int (nI ((fb_ct (fun i => (decide (O j < O i) || (O i == O j && decide (i < j))) && (bsh u (V i) == bln u)) i) + 1))), (5, .int (nI (i + 1)))]) (lv_sub hl [3, 4, 5, 1, 0] rfl) (by rw [ct_y (p := (fun i => (decide (O j < O i) || (O i == O j && decide (i < j))) && (bsh u (V i) == bln u))) (n := i) (by rw [c_71]; simp; omega)]))
        · refine lv_aload_n hx hb dX0_moreFrequent_29 rfl (lv_at hl 0 rfl) ?_
          refine lv_iload hx hb dX0_moreFrequent_30 (lv_at hl 4 rfl) ?_
          refine c_Vi (As := [.int (nI (i))]) (rest := []) (ci := 0) (q0 := 0) S (c_X0_oftenAt_in l dC dI cI cJ cZ q0 q1 q2 q3 w o d n V O E hD i (by omega)) (cwV 1 hts gX0_moreFrequent_X0_oftenAt rfl rfl rfl (by decide +kernel) ⟨Nat.le_of_ble_eq_true rfl, Nat.le_of_ble_eq_true rfl⟩) hK hP rfl rfl rfl hl.1 rfl (Nat.le_of_ble_eq_true rfl) dX0_moreFrequent_32 ⟨Nat.le_of_ble_eq_true rfl, Nat.le_of_ble_eq_true rfl⟩ ?_
          refine lv_aload_n hx hb dX0_moreFrequent_35 rfl (lv_at hl 0 rfl) ?_
          refine lv_iload_n hx hb dX0_moreFrequent_36 rfl (lv_at hl 2 rfl) ?_
          refine c_Vi (As := [.int (nI (j))]) (rest := [.int (nI (O i))]) (ci := 0) (q0 := 0) S (c_X0_oftenAt_in l dC dI cI cJ cZ q0 q1 q2 q3 w o d n V O E hD j (by omega)) (cwV 1 hts gX0_moreFrequent_X0_oftenAt rfl rfl rfl (by decide +kernel) ⟨Nat.le_of_ble_eq_true rfl, Nat.le_of_ble_eq_true rfl⟩) hK hP rfl rfl rfl hl.1 rfl (Nat.le_of_ble_eq_true rfl) dX0_moreFrequent_37 ⟨Nat.le_of_ble_eq_true rfl, Nat.le_of_ble_eq_true rfl⟩ ?_
          refine n_ne (tgt := 53) hx hb dX0_moreFrequent_40 (by decide) (Nat.lt_of_le_of_lt (hk _ c_12).2.2.2.2.1 (by decide)) (Nat.lt_of_le_of_lt (hk _ hj).2.2.2.2.1 (by decide)) (fun c_40 => ?_) (fun c_40 => ?_)
          · refine lv_iconst (v := nI (0)) hx hb dX0_moreFrequent_53 (by decide) ?_
            refine lv_istore (lv' := [(6, .int (nI (0))), (0, .ref (q0)), (1, .long (lN (be8 u))), (3, .int (nI (j))), (4, .int (nI (fb_ct (fun i => (decide (O j < O i) || (O i == O j && decide (i < j))) && (bsh u (V i) == bln u)) i))), (5, .int (nI (i)))]) hx hb dX0_moreFrequent_54 hl (by decide) rfl (fun ls hl => ?_)
            refine lv_iload hx hb dX0_moreFrequent_56 (lv_at hl 0 rfl) ?_
            refine z_eq (tgt := 77) hx hb dX0_moreFrequent_58 (by decide) (by omega) (fun c_58 => ?_) (fun c_58 => ?_)
            · refine lv_iinc (v := nI (i + 1)) (lv' := [(5, .int (nI (i + 1))), (6, .int (nI (0))), (0, .ref (q0)), (1, .long (lN (be8 u))), (3, .int (nI (j))), (4, .int (nI (fb_ct (fun i => (decide (O j < O i) || (O i == O j && decide (i < j))) && (bsh u (V i) == bln u)) i)))]) hx hb dX0_moreFrequent_77 hl (k := 5) rfl (inc1 _) (by decide) rfl (fun ls hl => ?_)
              refine lv_goto (tgt := 6) hx hb dX0_moreFrequent_80 (by decide) ?_
              exact ih_6 (i + 1) (by omega) (by omega) ls (lv_cg (l := [(0, .ref (q0)), (1, .long (lN (be8 u))), (3, .int (nI (j))), (4, .int (nI (fb_ct (fun i => (decide (O j < O i) || (O i == O j && decide (i < j))) && (bsh u (V i) == bln u)) i))), (5, .int (nI (i + 1)))]) (lv_sub hl [2, 3, 4, 5, 0] rfl) (by rw [ct_n (p := (fun i => (decide (O j < O i) || (O i == O j && decide (i < j))) && (bsh u (V i) == bln u))) (n := i) (by simp; omega)]))
            · exact absurd c_58 (by decide)
          · refine lv_iload hx hb dX0_moreFrequent_43 (lv_at hl 4 rfl) ?_
            refine lv_iload_n hx hb dX0_moreFrequent_45 rfl (lv_at hl 2 rfl) ?_
            refine n_ge (tgt := 53) hx hb dX0_moreFrequent_46 (by decide) (by omega) (by omega) (fun c_46 => ?_) (fun c_46 => ?_)
            · refine lv_iconst (v := nI (0)) hx hb dX0_moreFrequent_53 (by decide) ?_
              refine lv_istore (lv' := [(6, .int (nI (0))), (0, .ref (q0)), (1, .long (lN (be8 u))), (3, .int (nI (j))), (4, .int (nI (fb_ct (fun i => (decide (O j < O i) || (O i == O j && decide (i < j))) && (bsh u (V i) == bln u)) i))), (5, .int (nI (i)))]) hx hb dX0_moreFrequent_54 hl (by decide) rfl (fun ls hl => ?_)
              refine lv_iload hx hb dX0_moreFrequent_56 (lv_at hl 0 rfl) ?_
              refine z_eq (tgt := 77) hx hb dX0_moreFrequent_58 (by decide) (by omega) (fun c_58 => ?_) (fun c_58 => ?_)
              · refine lv_iinc (v := nI (i + 1)) (lv' := [(5, .int (nI (i + 1))), (6, .int (nI (0))), (0, .ref (q0)), (1, .long (lN (be8 u))), (3, .int (nI (j))), (4, .int (nI (fb_ct (fun i => (decide (O j < O i) || (O i == O j && decide (i < j))) && (bsh u (V i) == bln u)) i)))]) hx hb dX0_moreFrequent_77 hl (k := 5) rfl (inc1 _) (by decide) rfl (fun ls hl => ?_)
                refine lv_goto (tgt := 6) hx hb dX0_moreFrequent_80 (by decide) ?_
                exact ih_6 (i + 1) (by omega) (by omega) ls (lv_cg (l := [(0, .ref (q0)), (1, .long (lN (be8 u))), (3, .int (nI (j))), (4, .int (nI (fb_ct (fun i => (decide (O j < O i) || (O i == O j && decide (i < j))) && (bsh u (V i) == bln u)) i))), (5, .int (nI (i + 1)))]) (lv_sub hl [2, 3, 4, 5, 0] rfl) (by rw [ct_n (p := (fun i => (decide (O j < O i) || (O i == O j && decide (i < j))) && (bsh u (V i) == bln u))) (n := i) (by simp; omega)]))
              · exact absurd c_58 (by decide)
            · refine lv_iconst (v := nI (1)) hx hb dX0_moreFrequent_49 (by decide) ?_
              refine lv_goto (tgt := 54) hx hb dX0_moreFrequent_50 (by decide) ?_
              refine lv_istore (lv' := [(6, .int (nI (1))), (0, .ref (q0)), (1, .long (lN (be8 u))), (3, .int (nI (j))), (4, .int (nI (fb_ct (fun i => (decide (O j < O i) || (O i == O j && decide (i < j))) && (bsh u (V i) == bln u)) i))), (5, .int (nI (i)))]) hx hb dX0_moreFrequent_54 hl (by decide) rfl (fun ls hl => ?_)
              refine lv_iload hx hb dX0_moreFrequent_56 (lv_at hl 0 rfl) ?_
              refine z_eq (tgt := 77) hx hb dX0_moreFrequent_58 (by decide) (by omega) (fun c_58 => ?_) (fun c_58 => ?_)
              · exact absurd c_58 (by decide)
              · refine lv_lload_n hx hb dX0_moreFrequent_61 rfl (lv_at hl 2 rfl) ?_
                refine lv_aload_n hx hb dX0_moreFrequent_62 rfl (lv_at hl 1 rfl) ?_
                refine lv_iload hx hb dX0_moreFrequent_63 (lv_at hl 5 rfl) ?_
                refine c_Vl (As := [.int (nI (i))]) (rest := [.long (lN (be8 u))]) (ci := 0) (q0 := 0) S (c_X0_wordAt_in l dC dI cI cJ cZ q0 q1 q2 q3 w o d n V O E hD i (by omega)) (cwV 1 hts gX0_moreFrequent_X0_wordAt rfl rfl rfl (by decide +kernel) ⟨Nat.le_of_ble_eq_true rfl, Nat.le_of_ble_eq_true rfl⟩) hK hP rfl rfl rfl hl.1 rfl (Nat.le_of_ble_eq_true rfl) dX0_moreFrequent_65 ⟨Nat.le_of_ble_eq_true rfl, Nat.le_of_ble_eq_true rfl⟩ ?_
                refine c_Si (As := [.long (lN (be8 u)), .long (lN (be8 (V i)))]) (rest := []) S (c_X3_begins l u (V i)) (va_cwS 2 hts gX0_moreFrequent_X3_begins rfl rfl rfl (by decide +kernel) ⟨Nat.le_of_ble_eq_true rfl, Nat.le_of_ble_eq_true rfl⟩) rfl hl.1 rfl (Nat.le_of_ble_eq_true rfl) dX0_moreFrequent_68 ⟨Nat.le_of_ble_eq_true rfl, Nat.le_of_ble_eq_true rfl⟩ ?_
                refine b_eq (tgt := 77) hx hb dX0_moreFrequent_71 (by decide) (fun c_71 => ?_) (fun c_71 => ?_)
                · refine lv_iinc (v := nI (i + 1)) (lv' := [(5, .int (nI (i + 1))), (6, .int (nI (1))), (0, .ref (q0)), (1, .long (lN (be8 u))), (3, .int (nI (j))), (4, .int (nI (fb_ct (fun i => (decide (O j < O i) || (O i == O j && decide (i < j))) && (bsh u (V i) == bln u)) i)))]) hx hb dX0_moreFrequent_77 hl (k := 5) rfl (inc1 _) (by decide) rfl (fun ls hl => ?_)
                  refine lv_goto (tgt := 6) hx hb dX0_moreFrequent_80 (by decide) ?_
                  exact ih_6 (i + 1) (by omega) (by omega) ls (lv_cg (l := [(0, .ref (q0)), (1, .long (lN (be8 u))), (3, .int (nI (j))), (4, .int (nI (fb_ct (fun i => (decide (O j < O i) || (O i == O j && decide (i < j))) && (bsh u (V i) == bln u)) i))), (5, .int (nI (i + 1)))]) (lv_sub hl [2, 3, 4, 5, 0] rfl) (by rw [ct_n (p := (fun i => (decide (O j < O i) || (O i == O j && decide (i < j))) && (bsh u (V i) == bln u))) (n := i) (by rw [c_71]; simp)]))
                · refine lv_iinc (v := nI ((fb_ct (fun i => (decide (O j < O i) || (O i == O j && decide (i < j))) && (bsh u (V i) == bln u)) i) + 1)) (lv' := [(4, .int (nI ((fb_ct (fun i => (decide (O j < O i) || (O i == O j && decide (i < j))) && (bsh u (V i) == bln u)) i) + 1))), (6, .int (nI (1))), (0, .ref (q0)), (1, .long (lN (be8 u))), (3, .int (nI (j))), (5, .int (nI (i)))]) hx hb dX0_moreFrequent_74 hl (k := 4) rfl (inc1 _) (by decide) rfl (fun ls hl => ?_)
                  refine lv_iinc (v := nI (i + 1)) (lv' := [(5, .int (nI (i + 1))), (4, .int (nI ((fb_ct (fun i => (decide (O j < O i) || (O i == O j && decide (i < j))) && (bsh u (V i) == bln u)) i) + 1))), (6, .int (nI (1))), (0, .ref (q0)), (1, .long (lN (be8 u))), (3, .int (nI (j)))]) hx hb dX0_moreFrequent_77 hl (k := 5) rfl (inc1 _) (by decide) rfl (fun ls hl => ?_)
                  refine lv_goto (tgt := 6) hx hb dX0_moreFrequent_80 (by decide) ?_
                  exact ih_6 (i + 1) (by omega) (by omega) ls (lv_cg (l := [(0, .ref (q0)), (1, .long (lN (be8 u))), (3, .int (nI (j))), (4, .int (nI ((fb_ct (fun i => (decide (O j < O i) || (O i == O j && decide (i < j))) && (bsh u (V i) == bln u)) i) + 1))), (5, .int (nI (i + 1)))]) (lv_sub hl [3, 4, 5, 1, 0] rfl) (by rw [ct_y (p := (fun i => (decide (O j < O i) || (O i == O j && decide (i < j))) && (bsh u (V i) == bln u))) (n := i) (by rw [c_71]; simp; omega)]))
  exact lp_6 _ (0) (by omega) (Nat.lt_succ_self _) ls (lv_sub hl [2, 3, 4, 1, 0] rfl)
abbrev rm_X0_frequent : Room := { frames := 5, cells := 0, slots := 0, locals := 115 }
set_option maxHeartbeats 4000000 in
set_option maxRecDepth 100000 in
theorem c_X0_frequent (l : Launch) (dC : Nat → ClassId) (dI : Nat → Nat → Nat) (cI cJ cZ : ClassId) (q0 q1 q2 q3 : Nat) (w : Nat → Int64) (o d : Nat → Int32) (n : Nat) (V O E : Nat → Nat) (hD : bDD w o d n V O E) (u : Nat) (k : Nat) (hk31 : k < 2 ^ 31) : Met l yX0_frequent wsX0_frequent rm_X0_frequent (rPc (dC, dI) (tysA cI cJ cZ) (wd q0 q1 q2 q3 cI cJ w o d n) [.ref (q0), .long (lN (be8 u)), .int (nI (k))]) (Ri (bopt n (bfs (fun j => (bsh u (V j) == bln u) && (bmf V O n u j == k)) n))) 0 0 (fun _ => False) := by
  refine met_r (cc := cX0_frequent) (maxL := 5) (ret := (some .int)) (own := RX0) (by decide) rfl rfl (Nat.le_of_ble_eq_true rfl) ?_
  intro p e s m below meth c S hr hlocks hP hK ls hl
  obtain ⟨hx, hb, hml, hown, hts⟩ := id S
  have hl : lv_has ls 5 [(0, .ref (q0)), (1, .long (lN (be8 u))), (3, .int (nI (k)))] := hl
  have hi0 : ∀ w ∈ wsX00, w ∈ wsX0_frequent := fun _ h => List.mem_cons_of_mem _ (List.mem_append_right _ h)
  obtain ⟨hn, hk⟩ := id hD
  refine lv_iconst (v := nI (0)) hx hb dX0_frequent_0 (by decide) ?_
  refine lv_istore (lv' := [(4, .int (nI (0))), (0, .ref (q0)), (1, .long (lN (be8 u))), (3, .int (nI (k)))]) hx hb dX0_frequent_1 hl (by decide) rfl (fun ls hl => ?_)
  have lp_3 : ∀ (j_3 : Nat) (i : Nat), (i ≤ n) → (∀ j, j < i → (fun j => (bsh u (V j) == bln u) && (bmf V O n u j == k)) j = false) → (n - i) < j_3 → ∀ ls : Array Slot, lv_has ls 5 [(0, .ref (q0)), (1, .long (lN (be8 u))), (3, .int (nI (k))), (4, .int (nI (i)))] → W p l e rm_X0_frequent s m ([.ref (q0), .long (lN (be8 u)), .int (nI (k))] : List Value).toArray below meth c s.heap [] 0 0 (MQ below (Ri (bopt n (bfs (fun j => (bsh u (V j) == bln u) && (bmf V O n u j == k)) n))) ([.ref (q0), .long (lN (be8 u)), .int (nI (k))] : List Value).toArray s 0 0 (fun _ => False)) (F0 m 3 ls []) := by
    intro j_3
    induction j_3 with
    | zero => intro i _ _ h0; exact absurd h0 (Nat.not_lt_zero _)
    | succ j_3 ih_3 =>
      intro i hi hz hf_3 ls hl
      refine lv_iload hx hb dX0_frequent_3 (lv_at hl 3 rfl) ?_
      refine lv_aload_n hx hb dX0_frequent_5 rfl (lv_at hl 0 rfl) ?_
      refine va_get (D := (dC, dI)) (ci := 0) (v := .int (nI (n))) (C := RX0) (T := TX0) (N := 4) hx hb hts hi0 hown hK hP 0 rfl rfl 3 (by decide) (hts (.fieldLink RX0 22 "BurstWords$Dictionary" "size" "I") (by decide +kernel)) (fun _ h9 => h9) rfl dX0_frequent_6 ?_
      refine n_ge (tgt := 45) hx hb dX0_frequent_9 (by decide) (by omega) (by omega) (fun c_9 => ?_) (fun c_9 => ?_)
      · refine lv_iconst (v := (-1 : Int32)) hx hb dX0_frequent_45 (by decide) ?_
        exact r_i hx hb hr hlocks (by rw [show bfs (fun j => (bsh u (V j) == bln u) && (bmf V O n u j == k)) n = n from bfs_eq (Nat.le_refl n) (fun j h => hz j (by omega)) (fun h => absurd h (Nat.lt_irrefl n))]; exact (if_neg (Nat.lt_irrefl n)).symm) dX0_frequent_46
      · refine lv_lload_n hx hb dX0_frequent_12 rfl (lv_at hl 1 rfl) ?_
        refine lv_aload_n hx hb dX0_frequent_13 rfl (lv_at hl 0 rfl) ?_
        refine lv_iload hx hb dX0_frequent_14 (lv_at hl 3 rfl) ?_
        refine c_Vl (As := [.int (nI (i))]) (rest := [.long (lN (be8 u))]) (ci := 0) (q0 := 0) S (c_X0_wordAt_in l dC dI cI cJ cZ q0 q1 q2 q3 w o d n V O E hD i (by omega)) (cwV 1 hts gX0_frequent_X0_wordAt rfl rfl rfl (by decide +kernel) ⟨Nat.le_of_ble_eq_true rfl, Nat.le_of_ble_eq_true rfl⟩) hK hP rfl rfl rfl hl.1 rfl (Nat.le_of_ble_eq_true rfl) dX0_frequent_16 ⟨Nat.le_of_ble_eq_true rfl, Nat.le_of_ble_eq_true rfl⟩ ?_
        refine c_Si (As := [.long (lN (be8 u)), .long (lN (be8 (V i)))]) (rest := []) S (c_X3_begins l u (V i)) (va_cwS 2 hts gX0_frequent_X3_begins rfl rfl rfl (by decide +kernel) ⟨Nat.le_of_ble_eq_true rfl, Nat.le_of_ble_eq_true rfl⟩) rfl hl.1 rfl (Nat.le_of_ble_eq_true rfl) dX0_frequent_19 ⟨Nat.le_of_ble_eq_true rfl, Nat.le_of_ble_eq_true rfl⟩ ?_
        refine b_eq (tgt := 39) hx hb dX0_frequent_22 (by decide) (fun c_22 => ?_) (fun c_22 => ?_)
        · refine lv_iinc (v := nI (i + 1)) (lv' := [(4, .int (nI (i + 1))), (0, .ref (q0)), (1, .long (lN (be8 u))), (3, .int (nI (k)))]) hx hb dX0_frequent_39 hl (k := 3) rfl (inc1 _) (by decide) rfl (fun ls hl => ?_)
          refine lv_goto (tgt := 3) hx hb dX0_frequent_42 (by decide) ?_
          exact ih_3 (i + 1) (by omega) (lt_s hz (by show ((_ == _) && (_ == _)) = false; rw [c_22]; rfl)) (by omega) ls (lv_sub hl [1, 2, 3, 0] rfl)
        · refine lv_aload_n hx hb dX0_frequent_25 rfl (lv_at hl 0 rfl) ?_
          refine lv_lload_n hx hb dX0_frequent_26 rfl (lv_at hl 1 rfl) ?_
          refine lv_iload hx hb dX0_frequent_27 (lv_at hl 3 rfl) ?_
          refine c_Vi (As := [.long (lN (be8 u)), .int (nI (i))]) (rest := []) (ci := 0) (q0 := 0) S (c_X0_moreFrequent l dC dI cI cJ cZ q0 q1 q2 q3 w o d n V O E hD u i (by omega)) (cwV 2 hts gX0_frequent_X0_moreFrequent rfl rfl rfl (by decide +kernel) ⟨Nat.le_of_ble_eq_true rfl, Nat.le_of_ble_eq_true rfl⟩) hK hP rfl rfl rfl hl.1 rfl (Nat.le_of_ble_eq_true rfl) dX0_frequent_29 ⟨Nat.le_of_ble_eq_true rfl, Nat.le_of_ble_eq_true rfl⟩ ?_
          refine lv_iload_n hx hb dX0_frequent_32 rfl (lv_at hl 2 rfl) ?_
          refine n_ne (tgt := 39) hx hb dX0_frequent_33 (by decide) (Nat.lt_of_le_of_lt (fb_ct_le _ _) (by omega)) (by omega) (fun c_33 => ?_) (fun c_33 => ?_)
          · refine lv_iinc (v := nI (i + 1)) (lv' := [(4, .int (nI (i + 1))), (0, .ref (q0)), (1, .long (lN (be8 u))), (3, .int (nI (k)))]) hx hb dX0_frequent_39 hl (k := 3) rfl (inc1 _) (by decide) rfl (fun ls hl => ?_)
            refine lv_goto (tgt := 3) hx hb dX0_frequent_42 (by decide) ?_
            exact ih_3 (i + 1) (by omega) (lt_s hz (by show ((_ == _) && (_ == _)) = false; rw [show (bmf V O n u i == k) = false by simpa using c_33]; simp)) (by omega) ls (lv_sub hl [1, 2, 3, 0] rfl)
          · refine lv_iload hx hb dX0_frequent_36 (lv_at hl 3 rfl) ?_
            exact r_i hx hb hr hlocks (by rw [show bfs (fun j => (bsh u (V j) == bln u) && (bmf V O n u j == k)) n = i from bfs_eq hi hz (fun _ => by show ((_ == _) && (_ == _)) = true; rw [c_22, c_33]; simp)]; exact (if_pos c_9).symm) dX0_frequent_38
  exact lp_3 _ (0) (by omega) lt_0 (Nat.lt_succ_self _) ls (lv_sub hl [1, 2, 3, 0] rfl)
abbrev rm_X0_sharedAhead : Room := { frames := 3, cells := 0, slots := 0, locals := 66 }
set_option maxHeartbeats 4000000 in
set_option maxRecDepth 100000 in
theorem c_X0_sharedAhead_1 (l : Launch) (dC : Nat → ClassId) (dI : Nat → Nat → Nat) (cI cJ cZ : ClassId) (q0 q1 q2 q3 : Nat) (w : Nat → Int64) (o d : Nat → Int32) (n : Nat) (V O E : Nat → Nat) (hD : bDD w o d n V O E) (k : Nat) (hk1 : 0 < k) (hkn : k < n) : Met l yX0_sharedAhead wsX0_sharedAhead rm_X0_sharedAhead (rPc (dC, dI) (tysA cI cJ cZ) (wd q0 q1 q2 q3 cI cJ w o d n) [.ref (q0), .int (nI (k))]) (Ri (nI (bsh (V (k - 1)) (V k)))) 0 0 (fun _ => False) := by
  refine met_r (cc := cX0_sharedAhead) (maxL := 2) (ret := (some .int)) (own := RX0) (by decide) rfl rfl (Nat.le_of_ble_eq_true rfl) ?_
  intro p e s m below meth c S hr hlocks hP hK ls hl
  obtain ⟨hx, hb, hml, hown, hts⟩ := id S
  have hl : lv_has ls 2 [(0, .ref (q0)), (1, .int (nI (k)))] := hl
  have hi0 : ∀ w ∈ wsX00, w ∈ wsX0_sharedAhead := fun _ h => List.mem_cons_of_mem _ (List.mem_append_right _ h)
  obtain ⟨hn, hk⟩ := id hD
  refine lv_iload_n hx hb dX0_sharedAhead_0 rfl (lv_at hl 1 rfl) ?_
  refine z_gt (tgt := 8) hx hb dX0_sharedAhead_1 (by decide) (by omega) (fun c_1 => ?_) (fun c_1 => ?_)
  · refine lv_aload_n hx hb dX0_sharedAhead_8 rfl (lv_at hl 0 rfl) ?_
    refine lv_iload_n hx hb dX0_sharedAhead_9 rfl (lv_at hl 1 rfl) ?_
    refine lv_iconst (v := nI (1)) hx hb dX0_sharedAhead_10 (by decide) ?_
    refine lv_isub hx hb dX0_sharedAhead_11 ?_
    refine tpi (pk_sub (by omega)) ?_
    refine c_Vl (As := [.int (nI (k - 1))]) (rest := []) (ci := 0) (q0 := 0) S (c_X0_wordAt_in l dC dI cI cJ cZ q0 q1 q2 q3 w o d n V O E hD (k - 1) (by omega)) (cwV 1 hts gX0_sharedAhead_X0_wordAt rfl rfl rfl (by decide +kernel) ⟨Nat.le_of_ble_eq_true rfl, Nat.le_of_ble_eq_true rfl⟩) hK hP rfl rfl rfl hl.1 rfl (Nat.le_of_ble_eq_true rfl) dX0_sharedAhead_12 ⟨Nat.le_of_ble_eq_true rfl, Nat.le_of_ble_eq_true rfl⟩ ?_
    refine lv_aload_n hx hb dX0_sharedAhead_15 rfl (lv_at hl 0 rfl) ?_
    refine lv_iload_n hx hb dX0_sharedAhead_16 rfl (lv_at hl 1 rfl) ?_
    refine c_Vl (As := [.int (nI (k))]) (rest := [.long (lN (be8 (V (k - 1))))]) (ci := 0) (q0 := 0) S (c_X0_wordAt_in l dC dI cI cJ cZ q0 q1 q2 q3 w o d n V O E hD k (by omega)) (cwV 1 hts gX0_sharedAhead_X0_wordAt rfl rfl rfl (by decide +kernel) ⟨Nat.le_of_ble_eq_true rfl, Nat.le_of_ble_eq_true rfl⟩) hK hP rfl rfl rfl hl.1 rfl (Nat.le_of_ble_eq_true rfl) dX0_sharedAhead_17 ⟨Nat.le_of_ble_eq_true rfl, Nat.le_of_ble_eq_true rfl⟩ ?_
    refine c_Si (As := [.long (lN (be8 (V (k - 1)))), .long (lN (be8 (V k)))]) (rest := []) S (c_X3_sharedBy l (V (k - 1)) (V k)) (va_cwS 2 hts gX0_sharedAhead_X3_sharedBy rfl rfl rfl (by decide +kernel) ⟨Nat.le_of_ble_eq_true rfl, Nat.le_of_ble_eq_true rfl⟩) rfl hl.1 rfl (Nat.le_of_ble_eq_true rfl) dX0_sharedAhead_20 ⟨Nat.le_of_ble_eq_true rfl, Nat.le_of_ble_eq_true rfl⟩ ?_
    exact r_i hx hb hr hlocks rfl dX0_sharedAhead_23
  · exact absurd hk1 (by omega)
set_option maxHeartbeats 4000000 in
set_option maxRecDepth 100000 in
theorem c_X0_sharedAhead (l : Launch) (dC : Nat → ClassId) (dI : Nat → Nat → Nat) (cI cJ cZ : ClassId) (q0 q1 q2 q3 : Nat) (w : Nat → Int64) (o d : Nat → Int32) (n : Nat) (V O E : Nat → Nat) (hD : bDD w o d n V O E) (k : Nat) (hkn : k < n) : Met l yX0_sharedAhead wsX0_sharedAhead rm_X0_sharedAhead (rPc (dC, dI) (tysA cI cJ cZ) (wd q0 q1 q2 q3 cI cJ w o d n) [.ref (q0), .int (nI (k))]) (Ri (nM (bah V k))) 0 0 (fun _ => False) := by
  refine met_r (cc := cX0_sharedAhead) (maxL := 2) (ret := (some .int)) (own := RX0) (by decide) rfl rfl (Nat.le_of_ble_eq_true rfl) ?_
  intro p e s m below meth c S hr hlocks hP hK ls hl
  obtain ⟨hx, hb, hml, hown, hts⟩ := id S
  have hl : lv_has ls 2 [(0, .ref (q0)), (1, .int (nI (k)))] := hl
  have hi0 : ∀ w ∈ wsX00, w ∈ wsX0_sharedAhead := fun _ h => List.mem_cons_of_mem _ (List.mem_append_right _ h)
  obtain ⟨hn, hk⟩ := id hD
  refine lv_iload_n hx hb dX0_sharedAhead_0 rfl (lv_at hl 1 rfl) ?_
  refine z_gt (tgt := 8) hx hb dX0_sharedAhead_1 (by decide) (by omega) (fun c_1 => ?_) (fun c_1 => ?_)
  · refine lv_aload_n hx hb dX0_sharedAhead_8 rfl (lv_at hl 0 rfl) ?_
    refine lv_iload_n hx hb dX0_sharedAhead_9 rfl (lv_at hl 1 rfl) ?_
    refine lv_iconst (v := nI (1)) hx hb dX0_sharedAhead_10 (by decide) ?_
    refine lv_isub hx hb dX0_sharedAhead_11 ?_
    refine tpi (pk_sub (by omega)) ?_
    refine c_Vl (As := [.int (nI (k - 1))]) (rest := []) (ci := 0) (q0 := 0) S (c_X0_wordAt_in l dC dI cI cJ cZ q0 q1 q2 q3 w o d n V O E hD (k - 1) (by omega)) (cwV 1 hts gX0_sharedAhead_X0_wordAt rfl rfl rfl (by decide +kernel) ⟨Nat.le_of_ble_eq_true rfl, Nat.le_of_ble_eq_true rfl⟩) hK hP rfl rfl rfl hl.1 rfl (Nat.le_of_ble_eq_true rfl) dX0_sharedAhead_12 ⟨Nat.le_of_ble_eq_true rfl, Nat.le_of_ble_eq_true rfl⟩ ?_
    refine lv_aload_n hx hb dX0_sharedAhead_15 rfl (lv_at hl 0 rfl) ?_
    refine lv_iload_n hx hb dX0_sharedAhead_16 rfl (lv_at hl 1 rfl) ?_
    refine c_Vl (As := [.int (nI (k))]) (rest := [.long (lN (be8 (V (k - 1))))]) (ci := 0) (q0 := 0) S (c_X0_wordAt_in l dC dI cI cJ cZ q0 q1 q2 q3 w o d n V O E hD k (by omega)) (cwV 1 hts gX0_sharedAhead_X0_wordAt rfl rfl rfl (by decide +kernel) ⟨Nat.le_of_ble_eq_true rfl, Nat.le_of_ble_eq_true rfl⟩) hK hP rfl rfl rfl hl.1 rfl (Nat.le_of_ble_eq_true rfl) dX0_sharedAhead_17 ⟨Nat.le_of_ble_eq_true rfl, Nat.le_of_ble_eq_true rfl⟩ ?_
    refine c_Si (As := [.long (lN (be8 (V (k - 1)))), .long (lN (be8 (V k)))]) (rest := []) S (c_X3_sharedBy l (V (k - 1)) (V k)) (va_cwS 2 hts gX0_sharedAhead_X3_sharedBy rfl rfl rfl (by decide +kernel) ⟨Nat.le_of_ble_eq_true rfl, Nat.le_of_ble_eq_true rfl⟩) rfl hl.1 rfl (Nat.le_of_ble_eq_true rfl) dX0_sharedAhead_20 ⟨Nat.le_of_ble_eq_true rfl, Nat.le_of_ble_eq_true rfl⟩ ?_
    exact r_i hx hb hr hlocks (by unfold bah; rw [if_neg (by omega)]; exact (nM_s _).symm) dX0_sharedAhead_23
  · refine lv_iconst (v := nM 0) hx hb dX0_sharedAhead_4 (by decide) ?_
    refine lv_goto (tgt := 23) hx hb dX0_sharedAhead_5 (by decide) ?_
    exact r_i hx hb hr hlocks (by unfold bah; rw [if_pos c_1]) dX0_sharedAhead_23
abbrev rm_X0_nodes : Room := { frames := 4, cells := 0, slots := 0, locals := 87 }
set_option maxHeartbeats 4000000 in
set_option maxRecDepth 100000 in
theorem c_X0_nodes (l : Launch) (dC : Nat → ClassId) (dI : Nat → Nat → Nat) (cI cJ cZ : ClassId) (q0 q1 q2 q3 : Nat) (w : Nat → Int64) (o d : Nat → Int32) (n : Nat) (V O E : Nat → Nat) (hD : bDD w o d n V O E) : Met l yX0_nodes wsX0_nodes rm_X0_nodes (rPc (dC, dI) (tysA cI cJ cZ) (wd q0 q1 q2 q3 cI cJ w o d n) [.ref (q0)]) (Ri (nI (fb_sm (fun k => E k - bah V k) n))) 0 0 (fun _ => False) := by
  refine met_r (cc := cX0_nodes) (maxL := 3) (ret := (some .int)) (own := RX0) (by decide) rfl rfl (Nat.le_of_ble_eq_true rfl) ?_
  intro p e s m below meth c S hr hlocks hP hK ls hl
  obtain ⟨hx, hb, hml, hown, hts⟩ := id S
  have hl : lv_has ls 3 [(0, .ref (q0))] := hl
  have hi0 : ∀ w ∈ wsX00, w ∈ wsX0_nodes := fun _ h => List.mem_cons_of_mem _ (List.mem_append_right _ h)
  obtain ⟨hn, hk⟩ := id hD
  refine lv_iconst (v := nI (0)) hx hb dX0_nodes_0 (by decide) ?_
  refine lv_istore_n (lv' := [(1, .int (nI (0))), (0, .ref (q0))]) hx hb dX0_nodes_1 rfl hl (by decide) rfl (fun ls hl => ?_)
  refine lv_iconst (v := nI (0)) hx hb dX0_nodes_2 (by decide) ?_
  refine lv_istore_n (lv' := [(2, .int (nI (0))), (1, .int (nI (0))), (0, .ref (q0))]) hx hb dX0_nodes_3 rfl hl (by decide) rfl (fun ls hl => ?_)
  have lp_4 : ∀ (j_4 : Nat) (i : Nat), (i ≤ n) → (n - i) < j_4 → ∀ ls : Array Slot, lv_has ls 3 [(0, .ref (q0)), (1, .int (nI (fb_sm (fun k => E k - bah V k) i))), (2, .int (nI (i)))] → W p l e rm_X0_nodes s m ([.ref (q0)] : List Value).toArray below meth c s.heap [] 0 0 (MQ below (Ri (nI (fb_sm (fun k => E k - bah V k) n))) ([.ref (q0)] : List Value).toArray s 0 0 (fun _ => False)) (F0 m 4 ls []) := by
    intro j_4
    induction j_4 with
    | zero => intro i _ h0; exact absurd h0 (Nat.not_lt_zero _)
    | succ j_4 ih_4 =>
      intro i hi hf_4 ls hl
      refine lv_iload_n hx hb dX0_nodes_4 rfl (lv_at hl 2 rfl) ?_
      refine lv_aload_n hx hb dX0_nodes_5 rfl (lv_at hl 0 rfl) ?_
      refine va_get (D := (dC, dI)) (ci := 0) (v := .int (nI (n))) (C := RX0) (T := TX0) (N := 4) hx hb hts hi0 hown hK hP 0 rfl rfl 3 (by decide) (hts (.fieldLink RX0 22 "BurstWords$Dictionary" "size" "I") (by decide +kernel)) (fun _ h9 => h9) rfl dX0_nodes_6 ?_
      refine n_ge (tgt := 38) hx hb dX0_nodes_9 (by decide) (by omega) (by omega) (fun c_9 => ?_) (fun c_9 => ?_)
      · refine lv_iload_n hx hb dX0_nodes_38 rfl (lv_at hl 1 rfl) ?_
        exact r_i hx hb hr hlocks (by rw [show i = n by omega]) dX0_nodes_39
      · refine lv_iload_n hx hb dX0_nodes_12 rfl (lv_at hl 1 rfl) ?_
        refine lv_iconst (v := nI (0)) hx hb dX0_nodes_13 (by decide) ?_
        refine lv_aload_n hx hb dX0_nodes_14 rfl (lv_at hl 0 rfl) ?_
        refine lv_iload_n hx hb dX0_nodes_15 rfl (lv_at hl 2 rfl) ?_
        refine c_Vi (As := [.int (nI (i))]) (rest := [.int (nI (0)), .int (nI (fb_sm (fun k => E k - bah V k) i))]) (ci := 0) (q0 := 0) S (c_X0_depthAt_in l dC dI cI cJ cZ q0 q1 q2 q3 w o d n V O E hD i (by omega)) (cwV 1 hts gX0_nodes_X0_depthAt rfl rfl rfl (by decide +kernel) ⟨Nat.le_of_ble_eq_true rfl, Nat.le_of_ble_eq_true rfl⟩) hK hP rfl rfl rfl hl.1 rfl (Nat.le_of_ble_eq_true rfl) dX0_nodes_16 ⟨Nat.le_of_ble_eq_true rfl, Nat.le_of_ble_eq_true rfl⟩ ?_
        refine lv_aload_n hx hb dX0_nodes_19 rfl (lv_at hl 0 rfl) ?_
        refine lv_iload_n hx hb dX0_nodes_20 rfl (lv_at hl 2 rfl) ?_
        refine c_Vi (As := [.int (nI (i))]) (rest := [.int (nI (E i)), .int (nI (0)), .int (nI (fb_sm (fun k => E k - bah V k) i))]) (ci := 0) (q0 := 0) S (c_X0_sharedAhead l dC dI cI cJ cZ q0 q1 q2 q3 w o d n V O E hD i (by omega)) (cwV 1 hts gX0_nodes_X0_sharedAhead rfl rfl rfl (by decide +kernel) ⟨Nat.le_of_ble_eq_true rfl, Nat.le_of_ble_eq_true rfl⟩) hK hP rfl rfl rfl hl.1 rfl (Nat.le_of_ble_eq_true rfl) dX0_nodes_21 ⟨Nat.le_of_ble_eq_true rfl, Nat.le_of_ble_eq_true rfl⟩ ?_
        refine lv_iconst (v := nI (1)) hx hb dX0_nodes_24 (by decide) ?_
        refine lv_iadd hx hb dX0_nodes_25 ?_
        refine tpi (nM_1 _) ?_
        refine lv_isub hx hb dX0_nodes_26 ?_
        refine va_mmax hx hb (hml.trans hl.1.symm) hown (hts (.methodLink RX0 74 Lib.Math.max.name) (by decide +kernel)) (hts (.static Lib.Math.max.name) (by decide +kernel)) (hts (.initialized "java/lang/Math") (by decide +kernel)) (hts (.code Lib.Math.max.name Lib.Math.max.code 2 (some .int)) (by decide +kernel)) (Nat.le_of_ble_eq_true rfl) (Nat.le_of_ble_eq_true rfl) (Nat.le_of_ble_eq_true rfl) (Nat.le_of_ble_eq_true rfl) dX0_nodes_27 ?_
        refine tpi (nmaxs (Nat.lt_of_le_of_lt (hk _ c_9).2.2.2.2.2.2 (by decide)) (Nat.lt_of_le_of_lt (bah_le _ _) (by decide))) ?_
        refine lv_iadd hx hb dX0_nodes_30 ?_
        refine tpi (nI_add _ _) ?_
        refine lv_istore_n (lv' := [(1, .int (nI ((fb_sm (fun k => E k - bah V k) i) + (E i - bah V i)))), (0, .ref (q0)), (2, .int (nI (i)))]) hx hb dX0_nodes_31 rfl hl (by decide) rfl (fun ls hl => ?_)
        refine lv_iinc (v := nI (i + 1)) (lv' := [(2, .int (nI (i + 1))), (1, .int (nI ((fb_sm (fun k => E k - bah V k) i) + (E i - bah V i)))), (0, .ref (q0))]) hx hb dX0_nodes_32 hl (k := 2) rfl (inc1 _) (by decide) rfl (fun ls hl => ?_)
        refine lv_goto (tgt := 4) hx hb dX0_nodes_35 (by decide) ?_
        exact ih_4 (i + 1) (by omega) (by omega) ls (lv_sub hl [2, 1, 0] rfl)
  exact lp_4 _ (0) (by omega) (Nat.lt_succ_self _) ls (lv_sub hl [2, 1, 0] rfl)
abbrev rm_X0_isContained : Room := { frames := 3, cells := 0, slots := 0, locals := 64 }
set_option maxHeartbeats 4000000 in
set_option maxRecDepth 100000 in
theorem c_X0_isContained (l : Launch) (dC : Nat → ClassId) (dI : Nat → Nat → Nat) (cI cJ cZ : ClassId) (q0 q1 q2 q3 : Nat) (w : Nat → Int64) (o d : Nat → Int32) (n : Nat) (V O E : Nat → Nat) (hD : bDD w o d n V O E) (k : Nat) (hkn : k < n) : Met l yX0_isContained wsX0_isContained rm_X0_isContained (rPc (dC, dI) (tysA cI cJ cZ) (wd q0 q1 q2 q3 cI cJ w o d n) [.ref (q0), .int (nI (k))]) (Ri (bI (bct V E k))) 0 0 (fun _ => False) := by
  refine met_r (cc := cX0_isContained) (maxL := 2) (ret := (some .boolean)) (own := RX0) (by decide) rfl rfl (Nat.le_of_ble_eq_true rfl) ?_
  intro p e s m below meth c S hr hlocks hP hK ls hl
  obtain ⟨hx, hb, hml, hown, hts⟩ := id S
  have hl : lv_has ls 2 [(0, .ref (q0)), (1, .int (nI (k)))] := hl
  have hi0 : ∀ w ∈ wsX00, w ∈ wsX0_isContained := fun _ h => List.mem_cons_of_mem _ (List.mem_append_right _ h)
  obtain ⟨hn, hk⟩ := id hD
  refine lv_aload_n hx hb dX0_isContained_0 rfl (lv_at hl 0 rfl) ?_
  refine lv_iload_n hx hb dX0_isContained_1 rfl (lv_at hl 1 rfl) ?_
  refine c_Vi (As := [.int (nI (k))]) (rest := []) (ci := 0) (q0 := 0) S (c_X0_depthAt_in l dC dI cI cJ cZ q0 q1 q2 q3 w o d n V O E hD k (by omega)) (cwV 1 hts gX0_isContained_X0_depthAt rfl rfl rfl (by decide +kernel) ⟨Nat.le_of_ble_eq_true rfl, Nat.le_of_ble_eq_true rfl⟩) hK hP rfl rfl rfl hl.1 rfl (Nat.le_of_ble_eq_true rfl) dX0_isContained_2 ⟨Nat.le_of_ble_eq_true rfl, Nat.le_of_ble_eq_true rfl⟩ ?_
  refine lv_aload_n hx hb dX0_isContained_5 rfl (lv_at hl 0 rfl) ?_
  refine lv_iload_n hx hb dX0_isContained_6 rfl (lv_at hl 1 rfl) ?_
  refine c_Vl (As := [.int (nI (k))]) (rest := [.int (nI (E k))]) (ci := 0) (q0 := 0) S (c_X0_wordAt_in l dC dI cI cJ cZ q0 q1 q2 q3 w o d n V O E hD k (by omega)) (cwV 1 hts gX0_isContained_X0_wordAt rfl rfl rfl (by decide +kernel) ⟨Nat.le_of_ble_eq_true rfl, Nat.le_of_ble_eq_true rfl⟩) hK hP rfl rfl rfl hl.1 rfl (Nat.le_of_ble_eq_true rfl) dX0_isContained_7 ⟨Nat.le_of_ble_eq_true rfl, Nat.le_of_ble_eq_true rfl⟩ ?_
  refine c_Si (As := [.long (lN (be8 (V k)))]) (rest := [.int (nI (E k))]) S (c_X3_lengthOf l (V k)) (va_cwS 1 hts gX0_isContained_X3_lengthOf rfl rfl rfl (by decide +kernel) ⟨Nat.le_of_ble_eq_true rfl, Nat.le_of_ble_eq_true rfl⟩) rfl hl.1 rfl (Nat.le_of_ble_eq_true rfl) dX0_isContained_10 ⟨Nat.le_of_ble_eq_true rfl, Nat.le_of_ble_eq_true rfl⟩ ?_
  refine n_gt (tgt := 20) hx hb dX0_isContained_13 (by decide) (Nat.lt_of_le_of_lt (hk _ (by omega)).2.2.2.2.2.2 (by decide)) (Nat.lt_of_le_of_lt (bln_le _) (by decide)) (fun c_13 => ?_) (fun c_13 => ?_)
  · refine lv_iconst (v := nI (0)) hx hb dX0_isContained_20 (by decide) ?_
    exact r_z (x := false) hx hb hr hlocks rfl (by unfold bct; simp; omega) dX0_isContained_21
  · refine lv_iconst (v := nI (1)) hx hb dX0_isContained_16 (by decide) ?_
    refine lv_goto (tgt := 21) hx hb dX0_isContained_17 (by decide) ?_
    exact r_z (x := true) hx hb hr hlocks rfl (by unfold bct; simp; omega) dX0_isContained_21
abbrev rm_X0_opensContainer : Room := { frames := 4, cells := 0, slots := 0, locals := 87 }
set_option maxHeartbeats 4000000 in
set_option maxRecDepth 100000 in
theorem c_X0_opensContainer (l : Launch) (dC : Nat → ClassId) (dI : Nat → Nat → Nat) (cI cJ cZ : ClassId) (q0 q1 q2 q3 : Nat) (w : Nat → Int64) (o d : Nat → Int32) (n : Nat) (V O E : Nat → Nat) (hD : bDD w o d n V O E) (k : Nat) (hkn : k < n) : Met l yX0_opensContainer wsX0_opensContainer rm_X0_opensContainer (rPc (dC, dI) (tysA cI cJ cZ) (wd q0 q1 q2 q3 cI cJ w o d n) [.ref (q0), .int (nI (k))]) (Ri (bI (bop V E k))) 0 0 (fun _ => False) := by
  refine met_r (cc := cX0_opensContainer) (maxL := 2) (ret := (some .boolean)) (own := RX0) (by decide) rfl rfl (Nat.le_of_ble_eq_true rfl) ?_
  intro p e s m below meth c S hr hlocks hP hK ls hl
  obtain ⟨hx, hb, hml, hown, hts⟩ := id S
  have hl : lv_has ls 2 [(0, .ref (q0)), (1, .int (nI (k)))] := hl
  have hi0 : ∀ w ∈ wsX00, w ∈ wsX0_opensContainer := fun _ h => List.mem_cons_of_mem _ (List.mem_append_right _ h)
  obtain ⟨hn, hk⟩ := id hD
  have hE8 := (hk k hkn).2.2.2.2.2.2
  have hA8 := bah_le V k
  refine lv_aload_n hx hb dX0_opensContainer_0 rfl (lv_at hl 0 rfl) ?_
  refine lv_iload_n hx hb dX0_opensContainer_1 rfl (lv_at hl 1 rfl) ?_
  refine c_Vi (As := [.int (nI (k))]) (rest := []) (ci := 0) (q0 := 0) S (c_X0_isContained l dC dI cI cJ cZ q0 q1 q2 q3 w o d n V O E hD k (by omega)) (cwV 1 hts gX0_opensContainer_X0_isContained rfl rfl rfl (by decide +kernel) ⟨Nat.le_of_ble_eq_true rfl, Nat.le_of_ble_eq_true rfl⟩) hK hP rfl rfl rfl hl.1 rfl (Nat.le_of_ble_eq_true rfl) dX0_opensContainer_2 ⟨Nat.le_of_ble_eq_true rfl, Nat.le_of_ble_eq_true rfl⟩ ?_
  refine b_eq (tgt := 25) hx hb dX0_opensContainer_5 (by decide) (fun c_5 => ?_) (fun c_5 => ?_)
  · refine lv_iconst (v := nI (0)) hx hb dX0_opensContainer_25 (by decide) ?_
    exact r_z (x := false) hx hb hr hlocks rfl (by unfold bop; rw [c_5]; rfl) dX0_opensContainer_26
  · refine lv_aload_n hx hb dX0_opensContainer_8 rfl (lv_at hl 0 rfl) ?_
    refine lv_iload_n hx hb dX0_opensContainer_9 rfl (lv_at hl 1 rfl) ?_
    refine c_Vi (As := [.int (nI (k))]) (rest := []) (ci := 0) (q0 := 0) S (c_X0_sharedAhead l dC dI cI cJ cZ q0 q1 q2 q3 w o d n V O E hD k (by omega)) (cwV 1 hts gX0_opensContainer_X0_sharedAhead rfl rfl rfl (by decide +kernel) ⟨Nat.le_of_ble_eq_true rfl, Nat.le_of_ble_eq_true rfl⟩) hK hP rfl rfl rfl hl.1 rfl (Nat.le_of_ble_eq_true rfl) dX0_opensContainer_10 ⟨Nat.le_of_ble_eq_true rfl, Nat.le_of_ble_eq_true rfl⟩ ?_
    refine lv_aload_n hx hb dX0_opensContainer_13 rfl (lv_at hl 0 rfl) ?_
    refine lv_iload_n hx hb dX0_opensContainer_14 rfl (lv_at hl 1 rfl) ?_
    refine c_Vi (As := [.int (nI (k))]) (rest := [.int (nM (bah V k))]) (ci := 0) (q0 := 0) S (c_X0_depthAt_in l dC dI cI cJ cZ q0 q1 q2 q3 w o d n V O E hD k (by omega)) (cwV 1 hts gX0_opensContainer_X0_depthAt rfl rfl rfl (by decide +kernel) ⟨Nat.le_of_ble_eq_true rfl, Nat.le_of_ble_eq_true rfl⟩) hK hP rfl rfl rfl hl.1 rfl (Nat.le_of_ble_eq_true rfl) dX0_opensContainer_15 ⟨Nat.le_of_ble_eq_true rfl, Nat.le_of_ble_eq_true rfl⟩ ?_
    refine lv_icmp_ge (tgt := 25) hx hb dX0_opensContainer_18 (by decide) (fun c_18 => ?_) (fun c_18 => ?_)
    · refine lv_iconst (v := nI (0)) hx hb dX0_opensContainer_25 (by decide) ?_
      exact r_z (x := false) hx hb hr hlocks rfl (by unfold bop; rw [c_5]; rw [nM_ge (by omega) (by omega)] at c_18; simp; omega) dX0_opensContainer_26
    · refine lv_iconst (v := nI (1)) hx hb dX0_opensContainer_21 (by decide) ?_
      refine lv_goto (tgt := 26) hx hb dX0_opensContainer_22 (by decide) ?_
      exact r_z (x := true) hx hb hr hlocks rfl (by unfold bop; rw [c_5]; rw [nM_ge (by omega) (by omega)] at c_18; simp; omega) dX0_opensContainer_26
abbrev rm_X0_containers : Room := { frames := 5, cells := 0, slots := 0, locals := 108 }
set_option maxHeartbeats 4000000 in
set_option maxRecDepth 100000 in
theorem c_X0_containers (l : Launch) (dC : Nat → ClassId) (dI : Nat → Nat → Nat) (cI cJ cZ : ClassId) (q0 q1 q2 q3 : Nat) (w : Nat → Int64) (o d : Nat → Int32) (n : Nat) (V O E : Nat → Nat) (hD : bDD w o d n V O E) : Met l yX0_containers wsX0_containers rm_X0_containers (rPc (dC, dI) (tysA cI cJ cZ) (wd q0 q1 q2 q3 cI cJ w o d n) [.ref (q0)]) (Ri (nI (fb_ct (bop V E) n))) 0 0 (fun _ => False) := by
  refine met_r (cc := cX0_containers) (maxL := 3) (ret := (some .int)) (own := RX0) (by decide) rfl rfl (Nat.le_of_ble_eq_true rfl) ?_
  intro p e s m below meth c S hr hlocks hP hK ls hl
  obtain ⟨hx, hb, hml, hown, hts⟩ := id S
  have hl : lv_has ls 3 [(0, .ref (q0))] := hl
  have hi0 : ∀ w ∈ wsX00, w ∈ wsX0_containers := fun _ h => List.mem_cons_of_mem _ (List.mem_append_right _ h)
  obtain ⟨hn, hk⟩ := id hD
  refine lv_iconst (v := nI (0)) hx hb dX0_containers_0 (by decide) ?_
  refine lv_istore_n (lv' := [(1, .int (nI (0))), (0, .ref (q0))]) hx hb dX0_containers_1 rfl hl (by decide) rfl (fun ls hl => ?_)
  refine lv_iconst (v := nI (0)) hx hb dX0_containers_2 (by decide) ?_
  refine lv_istore_n (lv' := [(2, .int (nI (0))), (1, .int (nI (0))), (0, .ref (q0))]) hx hb dX0_containers_3 rfl hl (by decide) rfl (fun ls hl => ?_)
  have lp_4 : ∀ (j_4 : Nat) (i : Nat), (i ≤ n) → (n - i) < j_4 → ∀ ls : Array Slot, lv_has ls 3 [(0, .ref (q0)), (1, .int (nI (fb_ct (bop V E) i))), (2, .int (nI (i)))] → W p l e rm_X0_containers s m ([.ref (q0)] : List Value).toArray below meth c s.heap [] 0 0 (MQ below (Ri (nI (fb_ct (bop V E) n))) ([.ref (q0)] : List Value).toArray s 0 0 (fun _ => False)) (F0 m 4 ls []) := by
    intro j_4
    induction j_4 with
    | zero => intro i _ h0; exact absurd h0 (Nat.not_lt_zero _)
    | succ j_4 ih_4 =>
      intro i hi hf_4 ls hl
      refine lv_iload_n hx hb dX0_containers_4 rfl (lv_at hl 2 rfl) ?_
      refine lv_aload_n hx hb dX0_containers_5 rfl (lv_at hl 0 rfl) ?_
      refine va_get (D := (dC, dI)) (ci := 0) (v := .int (nI (n))) (C := RX0) (T := TX0) (N := 4) hx hb hts hi0 hown hK hP 0 rfl rfl 3 (by decide) (hts (.fieldLink RX0 22 "BurstWords$Dictionary" "size" "I") (by decide +kernel)) (fun _ h9 => h9) rfl dX0_containers_6 ?_
      refine n_ge (tgt := 29) hx hb dX0_containers_9 (by decide) (by omega) (by omega) (fun c_9 => ?_) (fun c_9 => ?_)
      · refine lv_iload_n hx hb dX0_containers_29 rfl (lv_at hl 1 rfl) ?_
        exact r_i hx hb hr hlocks (by rw [show i = n by omega]) dX0_containers_30
      · refine lv_aload_n hx hb dX0_containers_12 rfl (lv_at hl 0 rfl) ?_
        refine lv_iload_n hx hb dX0_containers_13 rfl (lv_at hl 2 rfl) ?_
        refine c_Vi (As := [.int (nI (i))]) (rest := []) (ci := 0) (q0 := 0) S (c_X0_opensContainer l dC dI cI cJ cZ q0 q1 q2 q3 w o d n V O E hD i (by omega)) (cwV 1 hts gX0_containers_X0_opensContainer rfl rfl rfl (by decide +kernel) ⟨Nat.le_of_ble_eq_true rfl, Nat.le_of_ble_eq_true rfl⟩) hK hP rfl rfl rfl hl.1 rfl (Nat.le_of_ble_eq_true rfl) dX0_containers_14 ⟨Nat.le_of_ble_eq_true rfl, Nat.le_of_ble_eq_true rfl⟩ ?_
        refine b_eq (tgt := 23) hx hb dX0_containers_17 (by decide) (fun c_17 => ?_) (fun c_17 => ?_)
        · refine lv_iinc (v := nI (i + 1)) (lv' := [(2, .int (nI (i + 1))), (0, .ref (q0)), (1, .int (nI (fb_ct (bop V E) i)))]) hx hb dX0_containers_23 hl (k := 2) rfl (inc1 _) (by decide) rfl (fun ls hl => ?_)
          refine lv_goto (tgt := 4) hx hb dX0_containers_26 (by decide) ?_
          exact ih_4 (i + 1) (by omega) (by omega) ls (lv_cg (l := [(0, .ref (q0)), (1, .int (nI (fb_ct (bop V E) i))), (2, .int (nI (i + 1)))]) (lv_sub hl [1, 2, 0] rfl) (by rw [ct_n (p := bop V E) (n := i) c_17]))
        · refine lv_iinc (v := nI ((fb_ct (bop V E) i) + 1)) (lv' := [(1, .int (nI ((fb_ct (bop V E) i) + 1))), (0, .ref (q0)), (2, .int (nI (i)))]) hx hb dX0_containers_20 hl (k := 1) rfl (inc1 _) (by decide) rfl (fun ls hl => ?_)
          refine lv_iinc (v := nI (i + 1)) (lv' := [(2, .int (nI (i + 1))), (1, .int (nI ((fb_ct (bop V E) i) + 1))), (0, .ref (q0))]) hx hb dX0_containers_23 hl (k := 2) rfl (inc1 _) (by decide) rfl (fun ls hl => ?_)
          refine lv_goto (tgt := 4) hx hb dX0_containers_26 (by decide) ?_
          exact ih_4 (i + 1) (by omega) (by omega) ls (lv_cg (l := [(0, .ref (q0)), (1, .int (nI ((fb_ct (bop V E) i) + 1))), (2, .int (nI (i + 1)))]) (lv_sub hl [2, 1, 0] rfl) (by rw [ct_y (p := bop V E) (n := i) c_17]))
  exact lp_4 _ (0) (by omega) (Nat.lt_succ_self _) ls (lv_sub hl [2, 1, 0] rfl)
abbrev rm_X0_fullest : Room := { frames := 5, cells := 0, slots := 0, locals := 108 }
set_option maxHeartbeats 4000000 in
set_option maxRecDepth 100000 in
theorem c_X0_fullest (l : Launch) (dC : Nat → ClassId) (dI : Nat → Nat → Nat) (cI cJ cZ : ClassId) (q0 q1 q2 q3 : Nat) (w : Nat → Int64) (o d : Nat → Int32) (n : Nat) (V O E : Nat → Nat) (hD : bDD w o d n V O E) : Met l yX0_fullest wsX0_fullest rm_X0_fullest (rPc (dC, dI) (tysA cI cJ cZ) (wd q0 q1 q2 q3 cI cJ w o d n) [.ref (q0)]) (Ri (nI ((bfh V E n).1))) 0 0 (fun _ => False) := by
  refine met_r (cc := cX0_fullest) (maxL := 4) (ret := (some .int)) (own := RX0) (by decide) rfl rfl (Nat.le_of_ble_eq_true rfl) ?_
  intro p e s m below meth c S hr hlocks hP hK ls hl
  obtain ⟨hx, hb, hml, hown, hts⟩ := id S
  have hl : lv_has ls 4 [(0, .ref (q0))] := hl
  have hi0 : ∀ w ∈ wsX00, w ∈ wsX0_fullest := fun _ h => List.mem_cons_of_mem _ (List.mem_append_right _ h)
  obtain ⟨hn, hk⟩ := id hD
  have hfh := bfh_le V E
  refine lv_iconst (v := nI (0)) hx hb dX0_fullest_0 (by decide) ?_
  refine lv_istore_n (lv' := [(1, .int (nI (0))), (0, .ref (q0))]) hx hb dX0_fullest_1 rfl hl (by decide) rfl (fun ls hl => ?_)
  refine lv_iconst (v := nI (0)) hx hb dX0_fullest_2 (by decide) ?_
  refine lv_istore_n (lv' := [(2, .int (nI (0))), (1, .int (nI (0))), (0, .ref (q0))]) hx hb dX0_fullest_3 rfl hl (by decide) rfl (fun ls hl => ?_)
  refine lv_iconst (v := nI (0)) hx hb dX0_fullest_4 (by decide) ?_
  refine lv_istore_n (lv' := [(3, .int (nI (0))), (2, .int (nI (0))), (1, .int (nI (0))), (0, .ref (q0))]) hx hb dX0_fullest_5 rfl hl (by decide) rfl (fun ls hl => ?_)
  have lp_6 : ∀ (j_6 : Nat) (i : Nat), (i ≤ n) → (n - i) < j_6 → ∀ ls : Array Slot, lv_has ls 4 [(0, .ref (q0)), (1, .int (nI ((bfh V E i).1))), (2, .int (nI ((bfh V E i).2))), (3, .int (nI (i)))] → W p l e rm_X0_fullest s m ([.ref (q0)] : List Value).toArray below meth c s.heap [] 0 0 (MQ below (Ri (nI ((bfh V E n).1))) ([.ref (q0)] : List Value).toArray s 0 0 (fun _ => False)) (F0 m 6 ls []) := by
    intro j_6
    induction j_6 with
    | zero => intro i _ h0; exact absurd h0 (Nat.not_lt_zero _)
    | succ j_6 ih_6 =>
      intro i hi hf_6 ls hl
      refine lv_iload_n hx hb dX0_fullest_6 rfl (lv_at hl 3 rfl) ?_
      refine lv_aload_n hx hb dX0_fullest_7 rfl (lv_at hl 0 rfl) ?_
      refine va_get (D := (dC, dI)) (ci := 0) (v := .int (nI (n))) (C := RX0) (T := TX0) (N := 4) hx hb hts hi0 hown hK hP 0 rfl rfl 3 (by decide) (hts (.fieldLink RX0 22 "BurstWords$Dictionary" "size" "I") (by decide +kernel)) (fun _ h9 => h9) rfl dX0_fullest_8 ?_
      refine n_ge (tgt := 50) hx hb dX0_fullest_11 (by decide) (by omega) (by omega) (fun c_11 => ?_) (fun c_11 => ?_)
      · refine lv_iload_n hx hb dX0_fullest_50 rfl (lv_at hl 1 rfl) ?_
        exact r_i hx hb hr hlocks (by rw [show i = n by omega]) dX0_fullest_51
      · refine lv_aload_n hx hb dX0_fullest_14 rfl (lv_at hl 0 rfl) ?_
        refine lv_iload_n hx hb dX0_fullest_15 rfl (lv_at hl 3 rfl) ?_
        refine c_Vi (As := [.int (nI (i))]) (rest := []) (ci := 0) (q0 := 0) S (c_X0_isContained l dC dI cI cJ cZ q0 q1 q2 q3 w o d n V O E hD i (by omega)) (cwV 1 hts gX0_fullest_X0_isContained rfl rfl rfl (by decide +kernel) ⟨Nat.le_of_ble_eq_true rfl, Nat.le_of_ble_eq_true rfl⟩) hK hP rfl rfl rfl hl.1 rfl (Nat.le_of_ble_eq_true rfl) dX0_fullest_16 ⟨Nat.le_of_ble_eq_true rfl, Nat.le_of_ble_eq_true rfl⟩ ?_
        refine b_eq (tgt := 44) hx hb dX0_fullest_19 (by decide) (fun c_19 => ?_) (fun c_19 => ?_)
        · refine lv_iinc (v := nI (i + 1)) (lv' := [(3, .int (nI (i + 1))), (0, .ref (q0)), (1, .int (nI ((bfh V E i).1))), (2, .int (nI ((bfh V E i).2)))]) hx hb dX0_fullest_44 hl (k := 3) rfl (inc1 _) (by decide) rfl (fun ls hl => ?_)
          refine lv_goto (tgt := 6) hx hb dX0_fullest_47 (by decide) ?_
          exact ih_6 (i + 1) (by omega) (by omega) ls (lv_cg (l := [(0, .ref (q0)), (1, .int (nI ((bfh V E i).1))), (2, .int (nI ((bfh V E i).2))), (3, .int (nI (i + 1)))]) (lv_sub hl [1, 2, 3, 0] rfl) (by rw [bfh, if_neg (by simp [c_19])]))
        · refine lv_aload_n hx hb dX0_fullest_22 rfl (lv_at hl 0 rfl) ?_
          refine lv_iload_n hx hb dX0_fullest_23 rfl (lv_at hl 3 rfl) ?_
          refine c_Vi (As := [.int (nI (i))]) (rest := []) (ci := 0) (q0 := 0) S (c_X0_opensContainer l dC dI cI cJ cZ q0 q1 q2 q3 w o d n V O E hD i (by omega)) (cwV 1 hts gX0_fullest_X0_opensContainer rfl rfl rfl (by decide +kernel) ⟨Nat.le_of_ble_eq_true rfl, Nat.le_of_ble_eq_true rfl⟩) hK hP rfl rfl rfl hl.1 rfl (Nat.le_of_ble_eq_true rfl) dX0_fullest_24 ⟨Nat.le_of_ble_eq_true rfl, Nat.le_of_ble_eq_true rfl⟩ ?_
          refine b_eq (tgt := 34) hx hb dX0_fullest_27 (by decide) (fun c_27 => ?_) (fun c_27 => ?_)
          · refine lv_iload_n hx hb dX0_fullest_34 rfl (lv_at hl 2 rfl) ?_
            refine lv_iconst (v := nI (1)) hx hb dX0_fullest_35 (by decide) ?_
            refine lv_iadd hx hb dX0_fullest_36 ?_
            refine tpi (nI_add _ _) ?_
            refine lv_istore_n (lv' := [(2, .int (nI (((bfh V E i).2) + 1))), (0, .ref (q0)), (1, .int (nI ((bfh V E i).1))), (3, .int (nI (i)))]) hx hb dX0_fullest_37 rfl hl (by decide) rfl (fun ls hl => ?_)
            refine lv_iload_n hx hb dX0_fullest_38 rfl (lv_at hl 2 rfl) ?_
            refine lv_iload_n hx hb dX0_fullest_39 rfl (lv_at hl 0 rfl) ?_
            refine va_mmax hx hb (hml.trans hl.1.symm) hown (hts (.methodLink RX0 74 Lib.Math.max.name) (by decide +kernel)) (hts (.static Lib.Math.max.name) (by decide +kernel)) (hts (.initialized "java/lang/Math") (by decide +kernel)) (hts (.code Lib.Math.max.name Lib.Math.max.code 2 (some .int)) (by decide +kernel)) (Nat.le_of_ble_eq_true rfl) (Nat.le_of_ble_eq_true rfl) (Nat.le_of_ble_eq_true rfl) (Nat.le_of_ble_eq_true rfl) dX0_fullest_40 ?_
            refine tpi (nmax (by have := (hfh i).1; omega) (by have := (hfh i).2; omega)) ?_
            refine lv_istore_n (lv' := [(1, .int (nI (max ((bfh V E i).1) (((bfh V E i).2) + 1)))), (2, .int (nI (((bfh V E i).2) + 1))), (0, .ref (q0)), (3, .int (nI (i)))]) hx hb dX0_fullest_43 rfl hl (by decide) rfl (fun ls hl => ?_)
            refine lv_iinc (v := nI (i + 1)) (lv' := [(3, .int (nI (i + 1))), (1, .int (nI (max ((bfh V E i).1) (((bfh V E i).2) + 1)))), (2, .int (nI (((bfh V E i).2) + 1))), (0, .ref (q0))]) hx hb dX0_fullest_44 hl (k := 3) rfl (inc1 _) (by decide) rfl (fun ls hl => ?_)
            refine lv_goto (tgt := 6) hx hb dX0_fullest_47 (by decide) ?_
            exact ih_6 (i + 1) (by omega) (by omega) ls (lv_cg (l := [(0, .ref (q0)), (1, .int (nI (max ((bfh V E i).1) (((bfh V E i).2) + 1)))), (2, .int (nI (((bfh V E i).2) + 1))), (3, .int (nI (i + 1)))]) (lv_sub hl [3, 1, 2, 0] rfl) (by rw [bfh, if_pos c_19, if_neg (by simp [c_27])]))
          · refine lv_iconst (v := nI (1)) hx hb dX0_fullest_30 (by decide) ?_
            refine lv_goto (tgt := 37) hx hb dX0_fullest_31 (by decide) ?_
            refine lv_istore_n (lv' := [(2, .int (nI (1))), (0, .ref (q0)), (1, .int (nI ((bfh V E i).1))), (3, .int (nI (i)))]) hx hb dX0_fullest_37 rfl hl (by decide) rfl (fun ls hl => ?_)
            refine lv_iload_n hx hb dX0_fullest_38 rfl (lv_at hl 2 rfl) ?_
            refine lv_iload_n hx hb dX0_fullest_39 rfl (lv_at hl 0 rfl) ?_
            refine va_mmax hx hb (hml.trans hl.1.symm) hown (hts (.methodLink RX0 74 Lib.Math.max.name) (by decide +kernel)) (hts (.static Lib.Math.max.name) (by decide +kernel)) (hts (.initialized "java/lang/Math") (by decide +kernel)) (hts (.code Lib.Math.max.name Lib.Math.max.code 2 (some .int)) (by decide +kernel)) (Nat.le_of_ble_eq_true rfl) (Nat.le_of_ble_eq_true rfl) (Nat.le_of_ble_eq_true rfl) (Nat.le_of_ble_eq_true rfl) dX0_fullest_40 ?_
            refine tpi (nmax (by have := (hfh i).1; omega) (by have := (hfh i).2; omega)) ?_
            refine lv_istore_n (lv' := [(1, .int (nI (max ((bfh V E i).1) 1))), (2, .int (nI (1))), (0, .ref (q0)), (3, .int (nI (i)))]) hx hb dX0_fullest_43 rfl hl (by decide) rfl (fun ls hl => ?_)
            refine lv_iinc (v := nI (i + 1)) (lv' := [(3, .int (nI (i + 1))), (1, .int (nI (max ((bfh V E i).1) 1))), (2, .int (nI (1))), (0, .ref (q0))]) hx hb dX0_fullest_44 hl (k := 3) rfl (inc1 _) (by decide) rfl (fun ls hl => ?_)
            refine lv_goto (tgt := 6) hx hb dX0_fullest_47 (by decide) ?_
            exact ih_6 (i + 1) (by omega) (by omega) ls (lv_cg (l := [(0, .ref (q0)), (1, .int (nI (max ((bfh V E i).1) 1))), (2, .int (nI (1))), (3, .int (nI (i + 1)))]) (lv_sub hl [3, 1, 2, 0] rfl) (by rw [bfh, if_pos c_19, if_pos c_27]))
  exact lp_6 _ (0) (by omega) (Nat.lt_succ_self _) ls (lv_sub hl [3, 2, 1, 0] rfl)
abbrev rm_X0_deepest : Room := { frames := 2, cells := 0, slots := 0, locals := 42 }
set_option maxHeartbeats 4000000 in
set_option maxRecDepth 100000 in
theorem c_X0_deepest (l : Launch) (dC : Nat → ClassId) (dI : Nat → Nat → Nat) (cI cJ cZ : ClassId) (q0 q1 q2 q3 : Nat) (w : Nat → Int64) (o d : Nat → Int32) (n : Nat) (V O E : Nat → Nat) (hD : bDD w o d n V O E) : Met l yX0_deepest wsX0_deepest rm_X0_deepest (rPc (dC, dI) (tysA cI cJ cZ) (wd q0 q1 q2 q3 cI cJ w o d n) [.ref (q0)]) (Ri (nI (bmx E n))) 0 0 (fun _ => False) := by
  refine met_r (cc := cX0_deepest) (maxL := 3) (ret := (some .int)) (own := RX0) (by decide) rfl rfl (Nat.le_of_ble_eq_true rfl) ?_
  intro p e s m below meth c S hr hlocks hP hK ls hl
  obtain ⟨hx, hb, hml, hown, hts⟩ := id S
  have hl : lv_has ls 3 [(0, .ref (q0))] := hl
  have hi0 : ∀ w ∈ wsX00, w ∈ wsX0_deepest := fun _ h => List.mem_cons_of_mem _ (List.mem_append_right _ h)
  obtain ⟨hn, hk⟩ := id hD
  refine lv_iconst (v := nI (0)) hx hb dX0_deepest_0 (by decide) ?_
  refine lv_istore_n (lv' := [(1, .int (nI (0))), (0, .ref (q0))]) hx hb dX0_deepest_1 rfl hl (by decide) rfl (fun ls hl => ?_)
  refine lv_iconst (v := nI (0)) hx hb dX0_deepest_2 (by decide) ?_
  refine lv_istore_n (lv' := [(2, .int (nI (0))), (1, .int (nI (0))), (0, .ref (q0))]) hx hb dX0_deepest_3 rfl hl (by decide) rfl (fun ls hl => ?_)
  have lp_4 : ∀ (j_4 : Nat) (i : Nat), (i ≤ n) → (n - i) < j_4 → ∀ ls : Array Slot, lv_has ls 3 [(0, .ref (q0)), (1, .int (nI (bmx E i))), (2, .int (nI (i)))] → W p l e rm_X0_deepest s m ([.ref (q0)] : List Value).toArray below meth c s.heap [] 0 0 (MQ below (Ri (nI (bmx E n))) ([.ref (q0)] : List Value).toArray s 0 0 (fun _ => False)) (F0 m 4 ls []) := by
    intro j_4
    induction j_4 with
    | zero => intro i _ h0; exact absurd h0 (Nat.not_lt_zero _)
    | succ j_4 ih_4 =>
      intro i hi hf_4 ls hl
      refine lv_iload_n hx hb dX0_deepest_4 rfl (lv_at hl 2 rfl) ?_
      refine lv_aload_n hx hb dX0_deepest_5 rfl (lv_at hl 0 rfl) ?_
      refine va_get (D := (dC, dI)) (ci := 0) (v := .int (nI (n))) (C := RX0) (T := TX0) (N := 4) hx hb hts hi0 hown hK hP 0 rfl rfl 3 (by decide) (hts (.fieldLink RX0 22 "BurstWords$Dictionary" "size" "I") (by decide +kernel)) (fun _ h9 => h9) rfl dX0_deepest_6 ?_
      refine n_ge (tgt := 28) hx hb dX0_deepest_9 (by decide) (by omega) (by omega) (fun c_9 => ?_) (fun c_9 => ?_)
      · refine lv_iload_n hx hb dX0_deepest_28 rfl (lv_at hl 1 rfl) ?_
        exact r_i hx hb hr hlocks (by rw [show i = n by omega]) dX0_deepest_29
      · refine lv_iload_n hx hb dX0_deepest_12 rfl (lv_at hl 1 rfl) ?_
        refine lv_aload_n hx hb dX0_deepest_13 rfl (lv_at hl 0 rfl) ?_
        refine lv_iload_n hx hb dX0_deepest_14 rfl (lv_at hl 2 rfl) ?_
        refine c_Vi (As := [.int (nI (i))]) (rest := [.int (nI (bmx E i))]) (ci := 0) (q0 := 0) S (c_X0_depthAt_in l dC dI cI cJ cZ q0 q1 q2 q3 w o d n V O E hD i (by omega)) (cwV 1 hts gX0_deepest_X0_depthAt rfl rfl rfl (by decide +kernel) ⟨Nat.le_of_ble_eq_true rfl, Nat.le_of_ble_eq_true rfl⟩) hK hP rfl rfl rfl hl.1 rfl (Nat.le_of_ble_eq_true rfl) dX0_deepest_15 ⟨Nat.le_of_ble_eq_true rfl, Nat.le_of_ble_eq_true rfl⟩ ?_
        refine va_mmax hx hb (hml.trans hl.1.symm) hown (hts (.methodLink RX0 74 Lib.Math.max.name) (by decide +kernel)) (hts (.static Lib.Math.max.name) (by decide +kernel)) (hts (.initialized "java/lang/Math") (by decide +kernel)) (hts (.code Lib.Math.max.name Lib.Math.max.code 2 (some .int)) (by decide +kernel)) (Nat.le_of_ble_eq_true rfl) (Nat.le_of_ble_eq_true rfl) (Nat.le_of_ble_eq_true rfl) (Nat.le_of_ble_eq_true rfl) dX0_deepest_18 ?_
        refine tpi (nmax (Nat.lt_of_le_of_lt (bmx_le (c := 8) (fun k h => (hk k (by omega)).2.2.2.2.2.2)) (by decide)) (Nat.lt_of_le_of_lt (hk _ (by omega)).2.2.2.2.2.2 (by decide))) ?_
        refine lv_istore_n (lv' := [(1, .int (nI (max (bmx E i) (E i)))), (0, .ref (q0)), (2, .int (nI (i)))]) hx hb dX0_deepest_21 rfl hl (by decide) rfl (fun ls hl => ?_)
        refine lv_iinc (v := nI (i + 1)) (lv' := [(2, .int (nI (i + 1))), (1, .int (nI (max (bmx E i) (E i)))), (0, .ref (q0))]) hx hb dX0_deepest_22 hl (k := 2) rfl (inc1 _) (by decide) rfl (fun ls hl => ?_)
        refine lv_goto (tgt := 4) hx hb dX0_deepest_25 (by decide) ?_
        exact ih_4 (i + 1) (by omega) (by omega) ls (lv_sub hl [2, 1, 0] rfl)
  exact lp_4 _ (0) (by omega) (Nat.lt_succ_self _) ls (lv_sub hl [2, 1, 0] rfl)
abbrev rm_X0_lettersKept : Room := { frames := 4, cells := 0, slots := 0, locals := 85 }
set_option maxHeartbeats 4000000 in
set_option maxRecDepth 100000 in
theorem c_X0_lettersKept (l : Launch) (dC : Nat → ClassId) (dI : Nat → Nat → Nat) (cI cJ cZ : ClassId) (q0 q1 q2 q3 : Nat) (w : Nat → Int64) (o d : Nat → Int32) (n : Nat) (V O E : Nat → Nat) (hD : bDD w o d n V O E) : Met l yX0_lettersKept wsX0_lettersKept rm_X0_lettersKept (rPc (dC, dI) (tysA cI cJ cZ) (wd q0 q1 q2 q3 cI cJ w o d n) [.ref (q0)]) (Ri (nI (fb_sm (fun k => if bct V E k then bln (V k) - E k else 0) n))) 0 0 (fun _ => False) := by
  refine met_r (cc := cX0_lettersKept) (maxL := 3) (ret := (some .int)) (own := RX0) (by decide) rfl rfl (Nat.le_of_ble_eq_true rfl) ?_
  intro p e s m below meth c S hr hlocks hP hK ls hl
  obtain ⟨hx, hb, hml, hown, hts⟩ := id S
  have hl : lv_has ls 3 [(0, .ref (q0))] := hl
  have hi0 : ∀ w ∈ wsX00, w ∈ wsX0_lettersKept := fun _ h => List.mem_cons_of_mem _ (List.mem_append_right _ h)
  obtain ⟨hn, hk⟩ := id hD
  refine lv_iconst (v := nI (0)) hx hb dX0_lettersKept_0 (by decide) ?_
  refine lv_istore_n (lv' := [(1, .int (nI (0))), (0, .ref (q0))]) hx hb dX0_lettersKept_1 rfl hl (by decide) rfl (fun ls hl => ?_)
  refine lv_iconst (v := nI (0)) hx hb dX0_lettersKept_2 (by decide) ?_
  refine lv_istore_n (lv' := [(2, .int (nI (0))), (1, .int (nI (0))), (0, .ref (q0))]) hx hb dX0_lettersKept_3 rfl hl (by decide) rfl (fun ls hl => ?_)
  have lp_4 : ∀ (j_4 : Nat) (i : Nat), (i ≤ n) → (n - i) < j_4 → ∀ ls : Array Slot, lv_has ls 3 [(0, .ref (q0)), (1, .int (nI (fb_sm (fun k => if bct V E k then bln (V k) - E k else 0) i))), (2, .int (nI (i)))] → W p l e rm_X0_lettersKept s m ([.ref (q0)] : List Value).toArray below meth c s.heap [] 0 0 (MQ below (Ri (nI (fb_sm (fun k => if bct V E k then bln (V k) - E k else 0) n))) ([.ref (q0)] : List Value).toArray s 0 0 (fun _ => False)) (F0 m 4 ls []) := by
    intro j_4
    induction j_4 with
    | zero => intro i _ h0; exact absurd h0 (Nat.not_lt_zero _)
    | succ j_4 ih_4 =>
      intro i hi hf_4 ls hl
      refine lv_iload_n hx hb dX0_lettersKept_4 rfl (lv_at hl 2 rfl) ?_
      refine lv_aload_n hx hb dX0_lettersKept_5 rfl (lv_at hl 0 rfl) ?_
      refine va_get (D := (dC, dI)) (ci := 0) (v := .int (nI (n))) (C := RX0) (T := TX0) (N := 4) hx hb hts hi0 hown hK hP 0 rfl rfl 3 (by decide) (hts (.fieldLink RX0 22 "BurstWords$Dictionary" "size" "I") (by decide +kernel)) (fun _ h9 => h9) rfl dX0_lettersKept_6 ?_
      refine n_ge (tgt := 43) hx hb dX0_lettersKept_9 (by decide) (by omega) (by omega) (fun c_9 => ?_) (fun c_9 => ?_)
      · refine lv_iload_n hx hb dX0_lettersKept_43 rfl (lv_at hl 1 rfl) ?_
        exact r_i hx hb hr hlocks (by rw [show i = n by omega]) dX0_lettersKept_44
      · refine lv_aload_n hx hb dX0_lettersKept_12 rfl (lv_at hl 0 rfl) ?_
        refine lv_iload_n hx hb dX0_lettersKept_13 rfl (lv_at hl 2 rfl) ?_
        refine c_Vi (As := [.int (nI (i))]) (rest := []) (ci := 0) (q0 := 0) S (c_X0_isContained l dC dI cI cJ cZ q0 q1 q2 q3 w o d n V O E hD i (by omega)) (cwV 1 hts gX0_lettersKept_X0_isContained rfl rfl rfl (by decide +kernel) ⟨Nat.le_of_ble_eq_true rfl, Nat.le_of_ble_eq_true rfl⟩) hK hP rfl rfl rfl hl.1 rfl (Nat.le_of_ble_eq_true rfl) dX0_lettersKept_14 ⟨Nat.le_of_ble_eq_true rfl, Nat.le_of_ble_eq_true rfl⟩ ?_
        refine b_eq (tgt := 37) hx hb dX0_lettersKept_17 (by decide) (fun c_17 => ?_) (fun c_17 => ?_)
        · refine lv_iinc (v := nI (i + 1)) (lv' := [(2, .int (nI (i + 1))), (0, .ref (q0)), (1, .int (nI (fb_sm (fun k => if bct V E k then bln (V k) - E k else 0) i)))]) hx hb dX0_lettersKept_37 hl (k := 2) rfl (inc1 _) (by decide) rfl (fun ls hl => ?_)
          refine lv_goto (tgt := 4) hx hb dX0_lettersKept_40 (by decide) ?_
          exact ih_4 (i + 1) (by omega) (by omega) ls (lv_cg (l := [(0, .ref (q0)), (1, .int (nI (fb_sm (fun k => if bct V E k then bln (V k) - E k else 0) i))), (2, .int (nI (i + 1)))]) (lv_sub hl [1, 2, 0] rfl) (by rw [fb_sm_succ, if_neg (by simp [c_17])]; rfl))
        · refine lv_iload_n hx hb dX0_lettersKept_20 rfl (lv_at hl 1 rfl) ?_
          refine lv_aload_n hx hb dX0_lettersKept_21 rfl (lv_at hl 0 rfl) ?_
          refine lv_iload_n hx hb dX0_lettersKept_22 rfl (lv_at hl 2 rfl) ?_
          refine c_Vl (As := [.int (nI (i))]) (rest := [.int (nI (fb_sm (fun k => if bct V E k then bln (V k) - E k else 0) i))]) (ci := 0) (q0 := 0) S (c_X0_wordAt_in l dC dI cI cJ cZ q0 q1 q2 q3 w o d n V O E hD i (by omega)) (cwV 1 hts gX0_lettersKept_X0_wordAt rfl rfl rfl (by decide +kernel) ⟨Nat.le_of_ble_eq_true rfl, Nat.le_of_ble_eq_true rfl⟩) hK hP rfl rfl rfl hl.1 rfl (Nat.le_of_ble_eq_true rfl) dX0_lettersKept_23 ⟨Nat.le_of_ble_eq_true rfl, Nat.le_of_ble_eq_true rfl⟩ ?_
          refine c_Si (As := [.long (lN (be8 (V i)))]) (rest := [.int (nI (fb_sm (fun k => if bct V E k then bln (V k) - E k else 0) i))]) S (c_X3_lengthOf l (V i)) (va_cwS 1 hts gX0_lettersKept_X3_lengthOf rfl rfl rfl (by decide +kernel) ⟨Nat.le_of_ble_eq_true rfl, Nat.le_of_ble_eq_true rfl⟩) rfl hl.1 rfl (Nat.le_of_ble_eq_true rfl) dX0_lettersKept_26 ⟨Nat.le_of_ble_eq_true rfl, Nat.le_of_ble_eq_true rfl⟩ ?_
          refine lv_aload_n hx hb dX0_lettersKept_29 rfl (lv_at hl 0 rfl) ?_
          refine lv_iload_n hx hb dX0_lettersKept_30 rfl (lv_at hl 2 rfl) ?_
          refine c_Vi (As := [.int (nI (i))]) (rest := [.int (nI (bln (V i))), .int (nI (fb_sm (fun k => if bct V E k then bln (V k) - E k else 0) i))]) (ci := 0) (q0 := 0) S (c_X0_depthAt_in l dC dI cI cJ cZ q0 q1 q2 q3 w o d n V O E hD i (by omega)) (cwV 1 hts gX0_lettersKept_X0_depthAt rfl rfl rfl (by decide +kernel) ⟨Nat.le_of_ble_eq_true rfl, Nat.le_of_ble_eq_true rfl⟩) hK hP rfl rfl rfl hl.1 rfl (Nat.le_of_ble_eq_true rfl) dX0_lettersKept_31 ⟨Nat.le_of_ble_eq_true rfl, Nat.le_of_ble_eq_true rfl⟩ ?_
          refine lv_isub hx hb dX0_lettersKept_34 ?_
          refine tpi (pk_sub (by simpa [bct] using c_17)) ?_
          refine lv_iadd hx hb dX0_lettersKept_35 ?_
          refine tpi (nI_add _ _) ?_
          refine lv_istore_n (lv' := [(1, .int (nI ((fb_sm (fun k => if bct V E k then bln (V k) - E k else 0) i) + ((bln (V i)) - (E i))))), (0, .ref (q0)), (2, .int (nI (i)))]) hx hb dX0_lettersKept_36 rfl hl (by decide) rfl (fun ls hl => ?_)
          refine lv_iinc (v := nI (i + 1)) (lv' := [(2, .int (nI (i + 1))), (1, .int (nI ((fb_sm (fun k => if bct V E k then bln (V k) - E k else 0) i) + ((bln (V i)) - (E i))))), (0, .ref (q0))]) hx hb dX0_lettersKept_37 hl (k := 2) rfl (inc1 _) (by decide) rfl (fun ls hl => ?_)
          refine lv_goto (tgt := 4) hx hb dX0_lettersKept_40 (by decide) ?_
          exact ih_4 (i + 1) (by omega) (by omega) ls (lv_cg (l := [(0, .ref (q0)), (1, .int (nI ((fb_sm (fun k => if bct V E k then bln (V k) - E k else 0) i) + ((bln (V i)) - (E i))))), (2, .int (nI (i + 1)))]) (lv_sub hl [2, 1, 0] rfl) (by rw [fb_sm_succ, if_pos c_17]))
  exact lp_4 _ (0) (by omega) (Nat.lt_succ_self _) ls (lv_sub hl [2, 1, 0] rfl)
abbrev rm_X0_mostShared : Room := { frames := 4, cells := 0, slots := 0, locals := 87 }
set_option maxHeartbeats 4000000 in
set_option maxRecDepth 100000 in
theorem c_X0_mostShared (l : Launch) (dC : Nat → ClassId) (dI : Nat → Nat → Nat) (cI cJ cZ : ClassId) (q0 q1 q2 q3 : Nat) (w : Nat → Int64) (o d : Nat → Int32) (n : Nat) (V O E : Nat → Nat) (hD : bDD w o d n V O E) : Met l yX0_mostShared wsX0_mostShared rm_X0_mostShared (rPc (dC, dI) (tysA cI cJ cZ) (wd q0 q1 q2 q3 cI cJ w o d n) [.ref (q0)]) (Ri (nI (bmx (fun k => bsh (V k) (V (k + 1))) (n - 1)))) 0 0 (fun _ => False) := by
  refine met_r (cc := cX0_mostShared) (maxL := 3) (ret := (some .int)) (own := RX0) (by decide) rfl rfl (Nat.le_of_ble_eq_true rfl) ?_
  intro p e s m below meth c S hr hlocks hP hK ls hl
  obtain ⟨hx, hb, hml, hown, hts⟩ := id S
  have hl : lv_has ls 3 [(0, .ref (q0))] := hl
  have hi0 : ∀ w ∈ wsX00, w ∈ wsX0_mostShared := fun _ h => List.mem_cons_of_mem _ (List.mem_append_right _ h)
  obtain ⟨hn, hk⟩ := id hD
  refine lv_iconst (v := nI (0)) hx hb dX0_mostShared_0 (by decide) ?_
  refine lv_istore_n (lv' := [(1, .int (nI (0))), (0, .ref (q0))]) hx hb dX0_mostShared_1 rfl hl (by decide) rfl (fun ls hl => ?_)
  refine lv_iconst (v := nI (1)) hx hb dX0_mostShared_2 (by decide) ?_
  refine lv_istore_n (lv' := [(2, .int (nI (1))), (1, .int (nI (0))), (0, .ref (q0))]) hx hb dX0_mostShared_3 rfl hl (by decide) rfl (fun ls hl => ?_)
  have lp_4 : ∀ (j_4 : Nat) (i : Nat), (i ≤ n - 1) → (n - i) < j_4 → ∀ ls : Array Slot, lv_has ls 3 [(0, .ref (q0)), (1, .int (nI (bmx (fun k => bsh (V k) (V (k + 1))) i))), (2, .int (nI (i + 1)))] → W p l e rm_X0_mostShared s m ([.ref (q0)] : List Value).toArray below meth c s.heap [] 0 0 (MQ below (Ri (nI (bmx (fun k => bsh (V k) (V (k + 1))) (n - 1)))) ([.ref (q0)] : List Value).toArray s 0 0 (fun _ => False)) (F0 m 4 ls []) := by
    intro j_4
    induction j_4 with
    | zero => intro i _ h0; exact absurd h0 (Nat.not_lt_zero _)
    | succ j_4 ih_4 =>
      intro i hi hf_4 ls hl
      refine lv_iload_n hx hb dX0_mostShared_4 rfl (lv_at hl 2 rfl) ?_
      refine lv_aload_n hx hb dX0_mostShared_5 rfl (lv_at hl 0 rfl) ?_
      refine va_get (D := (dC, dI)) (ci := 0) (v := .int (nI (n))) (C := RX0) (T := TX0) (N := 4) hx hb hts hi0 hown hK hP 0 rfl rfl 3 (by decide) (hts (.fieldLink RX0 22 "BurstWords$Dictionary" "size" "I") (by decide +kernel)) (fun _ h9 => h9) rfl dX0_mostShared_6 ?_
      refine n_ge (tgt := 28) hx hb dX0_mostShared_9 (by decide) (by omega) (by omega) (fun c_9 => ?_) (fun c_9 => ?_)
      · refine lv_iload_n hx hb dX0_mostShared_28 rfl (lv_at hl 1 rfl) ?_
        exact r_i hx hb hr hlocks (by rw [show i = n - 1 by omega]) dX0_mostShared_29
      · refine lv_iload_n hx hb dX0_mostShared_12 rfl (lv_at hl 1 rfl) ?_
        refine lv_aload_n hx hb dX0_mostShared_13 rfl (lv_at hl 0 rfl) ?_
        refine lv_iload_n hx hb dX0_mostShared_14 rfl (lv_at hl 2 rfl) ?_
        refine c_Vi (As := [.int (nI (i + 1))]) (rest := [.int (nI (bmx (fun k => bsh (V k) (V (k + 1))) i))]) (ci := 0) (q0 := 0) S (c_X0_sharedAhead_1 l dC dI cI cJ cZ q0 q1 q2 q3 w o d n V O E hD (i + 1) (by omega) (by omega)) (cwV 1 hts gX0_mostShared_X0_sharedAhead rfl rfl rfl (by decide +kernel) ⟨Nat.le_of_ble_eq_true rfl, Nat.le_of_ble_eq_true rfl⟩) hK hP rfl rfl rfl hl.1 rfl (Nat.le_of_ble_eq_true rfl) dX0_mostShared_15 ⟨Nat.le_of_ble_eq_true rfl, Nat.le_of_ble_eq_true rfl⟩ ?_
        refine va_mmax hx hb (hml.trans hl.1.symm) hown (hts (.methodLink RX0 74 Lib.Math.max.name) (by decide +kernel)) (hts (.static Lib.Math.max.name) (by decide +kernel)) (hts (.initialized "java/lang/Math") (by decide +kernel)) (hts (.code Lib.Math.max.name Lib.Math.max.code 2 (some .int)) (by decide +kernel)) (Nat.le_of_ble_eq_true rfl) (Nat.le_of_ble_eq_true rfl) (Nat.le_of_ble_eq_true rfl) (Nat.le_of_ble_eq_true rfl) dX0_mostShared_18 ?_
        refine tpi (nmax (Nat.lt_of_le_of_lt (bmx_le (c := 7) (fun k _ => bsh_le _ _)) (by decide)) (Nat.lt_of_le_of_lt (bsh_le _ _) (by decide))) ?_
        refine lv_istore_n (lv' := [(1, .int (nI (max (bmx (fun k => bsh (V k) (V (k + 1))) i) (bsh (V ((i + 1) - 1)) (V (i + 1)))))), (0, .ref (q0)), (2, .int (nI (i + 1)))]) hx hb dX0_mostShared_21 rfl hl (by decide) rfl (fun ls hl => ?_)
        refine lv_iinc (v := nI ((i + 1) + 1)) (lv' := [(2, .int (nI ((i + 1) + 1))), (1, .int (nI (max (bmx (fun k => bsh (V k) (V (k + 1))) i) (bsh (V ((i + 1) - 1)) (V (i + 1)))))), (0, .ref (q0))]) hx hb dX0_mostShared_22 hl (k := 2) rfl (inc1 _) (by decide) rfl (fun ls hl => ?_)
        refine lv_goto (tgt := 4) hx hb dX0_mostShared_25 (by decide) ?_
        exact ih_4 (i + 1) (by omega) (by omega) ls (lv_sub hl [2, 1, 0] rfl)
  exact lp_4 _ (0) (by omega) (Nat.lt_succ_self _) ls (lv_sub hl [2, 1, 0] rfl)
abbrev rm_X0_pairsSharing : Room := { frames := 4, cells := 0, slots := 0, locals := 87 }
set_option maxHeartbeats 4000000 in
set_option maxRecDepth 100000 in
theorem c_X0_pairsSharing (l : Launch) (dC : Nat → ClassId) (dI : Nat → Nat → Nat) (cI cJ cZ : ClassId) (q0 q1 q2 q3 : Nat) (w : Nat → Int64) (o d : Nat → Int32) (n : Nat) (V O E : Nat → Nat) (hD : bDD w o d n V O E) (g : Nat) (hg : g ≤ 7) : Met l yX0_pairsSharing wsX0_pairsSharing rm_X0_pairsSharing (rPc (dC, dI) (tysA cI cJ cZ) (wd q0 q1 q2 q3 cI cJ w o d n) [.ref (q0), .int (nI (g))]) (Ri (nI (fb_ct (fun k => bsh (V k) (V (k + 1)) == g) (n - 1)))) 0 0 (fun _ => False) := by
  refine met_r (cc := cX0_pairsSharing) (maxL := 4) (ret := (some .int)) (own := RX0) (by decide) rfl rfl (Nat.le_of_ble_eq_true rfl) ?_
  intro p e s m below meth c S hr hlocks hP hK ls hl
  obtain ⟨hx, hb, hml, hown, hts⟩ := id S
  have hl : lv_has ls 4 [(0, .ref (q0)), (1, .int (nI (g)))] := hl
  have hi0 : ∀ w ∈ wsX00, w ∈ wsX0_pairsSharing := fun _ h => List.mem_cons_of_mem _ (List.mem_append_right _ h)
  obtain ⟨hn, hk⟩ := id hD
  refine lv_iconst (v := nI (0)) hx hb dX0_pairsSharing_0 (by decide) ?_
  refine lv_istore_n (lv' := [(2, .int (nI (0))), (0, .ref (q0)), (1, .int (nI (g)))]) hx hb dX0_pairsSharing_1 rfl hl (by decide) rfl (fun ls hl => ?_)
  refine lv_iconst (v := nI (1)) hx hb dX0_pairsSharing_2 (by decide) ?_
  refine lv_istore_n (lv' := [(3, .int (nI (1))), (2, .int (nI (0))), (0, .ref (q0)), (1, .int (nI (g)))]) hx hb dX0_pairsSharing_3 rfl hl (by decide) rfl (fun ls hl => ?_)
  have lp_4 : ∀ (j_4 : Nat) (i : Nat), (i ≤ n - 1) → (n - i) < j_4 → ∀ ls : Array Slot, lv_has ls 4 [(0, .ref (q0)), (1, .int (nI (g))), (2, .int (nI (fb_ct (fun k => bsh (V k) (V (k + 1)) == g) i))), (3, .int (nI (i + 1)))] → W p l e rm_X0_pairsSharing s m ([.ref (q0), .int (nI (g))] : List Value).toArray below meth c s.heap [] 0 0 (MQ below (Ri (nI (fb_ct (fun k => bsh (V k) (V (k + 1)) == g) (n - 1)))) ([.ref (q0), .int (nI (g))] : List Value).toArray s 0 0 (fun _ => False)) (F0 m 4 ls []) := by
    intro j_4
    induction j_4 with
    | zero => intro i _ h0; exact absurd h0 (Nat.not_lt_zero _)
    | succ j_4 ih_4 =>
      intro i hi hf_4 ls hl
      refine lv_iload_n hx hb dX0_pairsSharing_4 rfl (lv_at hl 3 rfl) ?_
      refine lv_aload_n hx hb dX0_pairsSharing_5 rfl (lv_at hl 0 rfl) ?_
      refine va_get (D := (dC, dI)) (ci := 0) (v := .int (nI (n))) (C := RX0) (T := TX0) (N := 4) hx hb hts hi0 hown hK hP 0 rfl rfl 3 (by decide) (hts (.fieldLink RX0 22 "BurstWords$Dictionary" "size" "I") (by decide +kernel)) (fun _ h9 => h9) rfl dX0_pairsSharing_6 ?_
      refine n_ge (tgt := 30) hx hb dX0_pairsSharing_9 (by decide) (by omega) (by omega) (fun c_9 => ?_) (fun c_9 => ?_)
      · refine lv_iload_n hx hb dX0_pairsSharing_30 rfl (lv_at hl 2 rfl) ?_
        exact r_i hx hb hr hlocks (by rw [show i = n - 1 by omega]) dX0_pairsSharing_31
      · refine lv_aload_n hx hb dX0_pairsSharing_12 rfl (lv_at hl 0 rfl) ?_
        refine lv_iload_n hx hb dX0_pairsSharing_13 rfl (lv_at hl 3 rfl) ?_
        refine c_Vi (As := [.int (nI (i + 1))]) (rest := []) (ci := 0) (q0 := 0) S (c_X0_sharedAhead_1 l dC dI cI cJ cZ q0 q1 q2 q3 w o d n V O E hD (i + 1) (by omega) (by omega)) (cwV 1 hts gX0_pairsSharing_X0_sharedAhead rfl rfl rfl (by decide +kernel) ⟨Nat.le_of_ble_eq_true rfl, Nat.le_of_ble_eq_true rfl⟩) hK hP rfl rfl rfl hl.1 rfl (Nat.le_of_ble_eq_true rfl) dX0_pairsSharing_14 ⟨Nat.le_of_ble_eq_true rfl, Nat.le_of_ble_eq_true rfl⟩ ?_
        refine lv_iload_n hx hb dX0_pairsSharing_17 rfl (lv_at hl 1 rfl) ?_
        refine n_ne (tgt := 24) hx hb dX0_pairsSharing_18 (by decide) (Nat.lt_of_le_of_lt (bsh_le _ _) (by decide)) (by omega) (fun c_18 => ?_) (fun c_18 => ?_)
        · refine lv_iinc (v := nI ((i + 1) + 1)) (lv' := [(3, .int (nI ((i + 1) + 1))), (0, .ref (q0)), (1, .int (nI (g))), (2, .int (nI (fb_ct (fun k => bsh (V k) (V (k + 1)) == g) i)))]) hx hb dX0_pairsSharing_24 hl (k := 3) rfl (inc1 _) (by decide) rfl (fun ls hl => ?_)
          refine lv_goto (tgt := 4) hx hb dX0_pairsSharing_27 (by decide) ?_
          exact ih_4 (i + 1) (by omega) (by omega) ls (lv_cg (l := [(0, .ref (q0)), (1, .int (nI (g))), (2, .int (nI (fb_ct (fun k => bsh (V k) (V (k + 1)) == g) i))), (3, .int (nI ((i + 1) + 1)))]) (lv_sub hl [1, 2, 3, 0] rfl) (by rw [ct_n (p := (fun k => bsh (V k) (V (k + 1)) == g)) (n := i) (by simpa using c_18)]))
        · refine lv_iinc (v := nI ((fb_ct (fun k => bsh (V k) (V (k + 1)) == g) i) + 1)) (lv' := [(2, .int (nI ((fb_ct (fun k => bsh (V k) (V (k + 1)) == g) i) + 1))), (0, .ref (q0)), (1, .int (nI (g))), (3, .int (nI (i + 1)))]) hx hb dX0_pairsSharing_21 hl (k := 2) rfl (inc1 _) (by decide) rfl (fun ls hl => ?_)
          refine lv_iinc (v := nI ((i + 1) + 1)) (lv' := [(3, .int (nI ((i + 1) + 1))), (2, .int (nI ((fb_ct (fun k => bsh (V k) (V (k + 1)) == g) i) + 1))), (0, .ref (q0)), (1, .int (nI (g)))]) hx hb dX0_pairsSharing_24 hl (k := 3) rfl (inc1 _) (by decide) rfl (fun ls hl => ?_)
          refine lv_goto (tgt := 4) hx hb dX0_pairsSharing_27 (by decide) ?_
          exact ih_4 (i + 1) (by omega) (by omega) ls (lv_cg (l := [(0, .ref (q0)), (1, .int (nI (g))), (2, .int (nI ((fb_ct (fun k => bsh (V k) (V (k + 1)) == g) i) + 1))), (3, .int (nI ((i + 1) + 1)))]) (lv_sub hl [2, 3, 1, 0] rfl) (by rw [ct_y (p := (fun k => bsh (V k) (V (k + 1)) == g)) (n := i) (by simpa using c_18)]))
  exact lp_4 _ (0) (by omega) (Nat.lt_succ_self _) ls (lv_sub hl [2, 3, 1, 0] rfl)
