theorem nt {b : Bool} (h : b = false) : ¬ b = true := fun q => Bool.noConfusion (h.symm.trans q)
abbrev bin (x y z : Int32) : Bool := !decide (x < y) && !decide (z < x)
theorem nM_pos {x : Nat} (h : 0 < x) : nM x = nI (x - 1) := by
  obtain ⟨k, rfl⟩ : ∃ k, x = k + 1 := ⟨x - 1, by omega⟩
  exact nM_s k
theorem blp_le (V : Nat → Nat) (v : Nat) : ∀ n, blp V v n ≤ n
  | 0 => Nat.le_refl 0
  | n + 1 => by
    have := blp_le V v n
    unfold blp
    split <;> omega
def bnz (x : Nat) : Int32 := if x = 0 then -9 else nI x
theorem bnz_0 {x : Nat} (h : x = 0) : bnz x = -9 := if_pos h
theorem bnz_p {x : Nat} (h : x ≠ 0) : bnz x = nI x := if_neg h
theorem bln_pos {v : Nat} (hv : bwf v) (h : 0 < v) : 0 < bln v := by
  rcases Nat.eq_zero_or_pos (bln v) with e | e
  · have z := bwf_z hv
    have hval := bsg_val hv.1
    rw [z 0 (by decide) (by omega), z 1 (by decide) (by omega), z 2 (by decide) (by omega), z 3 (by decide) (by omega), z 4 (by decide) (by omega), z 5 (by decide) (by omega), z 6 (by decide) (by omega)] at hval
    omega
  · exact e
def mo_times (V O : Nat → Nat) (n v : Nat) : Int32 := if blp V v n = 0 then nI 0 else nI (O (blp V v n - 1))
def mo_container (V : Nat → Nat) (n : Nat) (K : Nat → Nat) (nm v : Nat) (x : Int32) : Int32 := if bin x (nI 0) (nI 1) then (if bcs K nm v < bln v + 1 then (if bbg V n (bhd v (bcs K nm v)) = 0 then -9 else if x = 0 then nI (bbg V n (bhd v (bcs K nm v))) else nI (bcs K nm v)) else -9) else -1
def mo_telling (V : Nat → Nat) (n v : Nat) : Int32 := if blp V v n = 0 then -9 else nI (bfs (fun g => decide (bbg V n (bhd v g) ≤ 1)) (bln v + 1))
abbrev rm_X5_times : Room := { frames := 1, cells := 0, slots := 0, locals := 24 }
set_option maxHeartbeats 4000000 in
set_option maxRecDepth 100000 in
theorem c_X5_times (l : Launch) (dC : Nat → ClassId) (dI : Nat → Nat → Nat) (cI cJ cZ : ClassId) (a : Nat → Nat) (ty : Nat → Int32) (tm b : Nat) (wo : Nat → Int64) (of : Nat → Int32) (n : Nat) (no : Nat → Int64) (nm : Nat) (un : Nat → Int64) (um : Nat) (sa sl si : Nat → Int32) (sn : Nat) (tk : Nat → Int32) (v : Nat) (V O K SA SL SI : Nat → Nat) (hmw : bMW ty tm v) (hmd : bMD wo of n V O) (hmn : bMN no nm K) (hms : bMS sa sl si sn SA SL SI) (sz : Nat) : Met l yX5_times wsX5_times rm_X5_times (mPc (dC, dI) (tysA cI cJ cZ) (wm a cI cJ cZ ty tm b wo of n no nm un um sa sl si sn tk) sz [.ref (a 0)]) (mQi (dC, dI) (fun (r : Int32) (u : Unit) => r = mo_times V O n v) (fun u => wm a cI cJ cZ ty tm b wo of n no nm un um sa sl si sn tk) (va_A (wm a cI cJ cZ ty tm b wo of n no nm un um sa sl si sn tk) sz)) 0 0 (va_A (wm a cI cJ cZ ty tm b wo of n no nm un um sa sl si sn tk) sz) := by
  refine met_m (cc := cX5_times) (maxL := 2) (ret := (some .int)) (own := RX5) (Qc := fun A => mQi (dC, dI) (fun (r : Int32) (u : Unit) => r = mo_times V O n v) (fun u => wm a cI cJ cZ ty tm b wo of n no nm un um sa sl si sn tk) A) (by decide) rfl rfl (Nat.le_of_ble_eq_true rfl) ?_
  intro p e s m below meth c S hr hlocks hname hK A hA hP hD hS ls hl
  obtain ⟨hx, hb, hml, hown, hts⟩ := id S
  generalize hQQ : MQ below (mQi (dC, dI) (fun (r : Int32) (u : Unit) => r = mo_times V O n v) (fun u => wm a cI cJ cZ ty tm b wo of n no nm un um sa sl si sn tk) A) ([.ref (a 0)] : List Value).toArray s 0 0 A = QQ
  have hl : lv_has ls 2 [(0, .ref (a 0))] := hl
  have hi5 : ∀ w ∈ wsX50, w ∈ wsX5_times := fun _ h => List.mem_cons_of_mem _ (List.mem_append_right _ h)
  obtain ⟨hvw, htm, hty⟩ := id hmw; obtain ⟨hn, hk⟩ := id hmd; obtain ⟨hnm, hkn⟩ := id hmn; obtain ⟨hsn, hks⟩ := id hms
  have hbl := blp_le V v n
  refine lv_aload_n hx hb dX5_times_0 rfl (lv_at hl 0 rfl) ?_
  refine lv_iconst (v := nI (0)) hx hb dX5_times_1 (by decide) ?_
  refine va_put (D := (dC, dI)) (ci := 4) (v := .int (nI (0))) (ty := .int) (C := RX5) (T := TX5) (N := 16) hx hb hts hi5 tyX5 tyX5_ok nmX5 hown hK hP hD hS 0 rfl rfl 0 (by decide) (hts (.fieldLink RX5 43 "BurstWordsModel" "thrown" "I") (by decide +kernel)) (fun _ h9 => h9) rfl (by decide +kernel) rfl rfl (Nat.le_of_ble_eq_true rfl) dX5_times_2 (fun H locs hP hD hS => ?_)
  have hP : va_P (dC, dI) vwCl (wm a cI cJ cZ ty tm b wo of n no nm un um sa sl si sn tk) H := hP
  have hD : va_D A (wm a cI cJ cZ ty tm b wo of n no nm un um sa sl si sn tk) := hD
  refine lv_aload_n hx hb dX5_times_5 rfl (lv_at hl 0 rfl) ?_
  refine lv_aload_n hx hb dX5_times_6 rfl (lv_at hl 0 rfl) ?_
  refine c_Vl (As := []) (rest := [.ref (a 0)]) (ci := 4) (q0 := 0) S (c_X5_own l dC dI cI cJ cZ a ty tm b wo of n no nm un um sa sl si sn tk v V O K SA SL SI hmw hmd hmn hms ) (cwV 0 hts gX5_times_X5_own rfl rfl rfl (by decide +kernel) ⟨Nat.le_of_ble_eq_true rfl, Nat.le_of_ble_eq_true rfl⟩) hK hP rfl rfl rfl hl.1 rfl (Nat.le_of_ble_eq_true rfl) dX5_times_7 ⟨Nat.le_of_ble_eq_true rfl, Nat.le_of_ble_eq_true rfl⟩ ?_
  refine c_Vi (As := [.long (lN (v))]) (rest := []) (ci := 4) (q0 := 0) S (c_X5_placeOf l dC dI cI cJ cZ a ty tm b wo of n no nm un um sa sl si sn tk v V O K SA SL SI hmw hmd hmn hms v (w63 hvw.1)) (cwV 1 hts gX5_times_X5_placeOf rfl rfl rfl (by decide +kernel) ⟨Nat.le_of_ble_eq_true rfl, Nat.le_of_ble_eq_true rfl⟩) hK hP rfl rfl rfl hl.1 rfl (Nat.le_of_ble_eq_true rfl) dX5_times_10 ⟨Nat.le_of_ble_eq_true rfl, Nat.le_of_ble_eq_true rfl⟩ ?_
  by_cases hpl : blp V v n = 0
  · refine tpi ((congrArg nM hpl).trans nM_0) ?_
    refine lv_istore_n (lv' := [(1, .int ((-1 : Int32))), (0, .ref (a 0))]) hx hb dX5_times_13 rfl hl (by decide) rfl (fun ls hl => ?_)
    refine lv_iload_n hx hb dX5_times_14 rfl (lv_at hl 0 rfl) ?_
    refine lv_if_ge (tgt := 22) hx hb dX5_times_15 (by decide) (fun q => absurd q (by decide)) (fun _ => ?_)
    refine lv_iconst (v := nI (0)) hx hb dX5_times_18 (by decide) ?_
    refine lv_goto (tgt := 28) hx hb dX5_times_19 (by decide) ?_
    rw [← hQQ]
    exact m_i () hx hb hr hlocks (if_pos hpl).symm hP hD hS dX5_times_28
  · refine tpi (nM_pos (Nat.pos_of_ne_zero hpl)) ?_
    refine lv_istore_n (lv' := [(1, .int (nI (blp V v n - 1))), (0, .ref (a 0))]) hx hb dX5_times_13 rfl hl (by decide) rfl (fun ls hl => ?_)
    refine lv_iload_n hx hb dX5_times_14 rfl (lv_at hl 0 rfl) ?_
    refine z_ge (tgt := 22) hx hb dX5_times_15 (by decide) (by omega) ?_
    refine lv_aload_n hx hb dX5_times_22 rfl (lv_at hl 1 rfl) ?_
    refine va_get (D := (dC, dI)) (ci := 4) (v := .ref (a 3)) (C := RX5) (T := TX5) (N := 16) hx hb hts hi5 hown hK hP 0 rfl rfl 5 (by decide) (hts (.fieldLink RX5 21 "BurstWordsModel" "often" "[I") (by decide +kernel)) (fun _ h9 => h9) rfl dX5_times_23 ?_
    refine lv_iload_n hx hb dX5_times_26 rfl (lv_at hl 0 rfl) ?_
    refine g_i hx hb hK hP 3 0 rfl rfl (k := blp V v n - 1) (by omega) (by decide) dX5_times_27 (v := nI (O (blp V v n - 1))) (hk _ (by omega)).2.2.2.1 ?_
    rw [← hQQ]
    exact m_i () hx hb hr hlocks (if_neg hpl).symm hP hD hS dX5_times_28
abbrev rm_X5_rank : Room := { frames := 1, cells := 0, slots := 0, locals := 23 }
set_option maxHeartbeats 4000000 in
set_option maxRecDepth 100000 in
theorem c_X5_rank (l : Launch) (dC : Nat → ClassId) (dI : Nat → Nat → Nat) (cI cJ cZ : ClassId) (a : Nat → Nat) (ty : Nat → Int32) (tm b : Nat) (wo : Nat → Int64) (of : Nat → Int32) (n : Nat) (no : Nat → Int64) (nm : Nat) (un : Nat → Int64) (um : Nat) (sa sl si : Nat → Int32) (sn : Nat) (tk : Nat → Int32) (v : Nat) (V O K SA SL SI : Nat → Nat) (hmw : bMW ty tm v) (hmd : bMD wo of n V O) (hmn : bMN no nm K) (hms : bMS sa sl si sn SA SL SI) (sz : Nat) : Met l yX5_rank wsX5_rank rm_X5_rank (mPc (dC, dI) (tysA cI cJ cZ) (wm a cI cJ cZ ty tm b wo of n no nm un um sa sl si sn tk) sz [.ref (a 0)]) (mQi (dC, dI) (fun (r : Int32) (u : Unit) => r = nI (fb_sm (fun k => if V k < v then O k else 0) n)) (fun u => wm a cI cJ cZ ty tm b wo of n no nm un um sa sl si sn tk) (va_A (wm a cI cJ cZ ty tm b wo of n no nm un um sa sl si sn tk) sz)) 0 0 (va_A (wm a cI cJ cZ ty tm b wo of n no nm un um sa sl si sn tk) sz) := by
  refine met_m (cc := cX5_rank) (maxL := 5) (ret := (some .int)) (own := RX5) (Qc := fun A => mQi (dC, dI) (fun (r : Int32) (u : Unit) => r = nI (fb_sm (fun k => if V k < v then O k else 0) n)) (fun u => wm a cI cJ cZ ty tm b wo of n no nm un um sa sl si sn tk) A) (by decide) rfl rfl (Nat.le_of_ble_eq_true rfl) ?_
  intro p e s m below meth c S hr hlocks hname hK A hA hP hD hS ls hl
  obtain ⟨hx, hb, hml, hown, hts⟩ := id S
  generalize hQQ : MQ below (mQi (dC, dI) (fun (r : Int32) (u : Unit) => r = nI (fb_sm (fun k => if V k < v then O k else 0) n)) (fun u => wm a cI cJ cZ ty tm b wo of n no nm un um sa sl si sn tk) A) ([.ref (a 0)] : List Value).toArray s 0 0 A = QQ
  have hl : lv_has ls 5 [(0, .ref (a 0))] := hl
  have hi5 : ∀ w ∈ wsX50, w ∈ wsX5_rank := fun _ h => List.mem_cons_of_mem _ (List.mem_append_right _ h)
  obtain ⟨hvw, htm, hty⟩ := id hmw; obtain ⟨hn, hk⟩ := id hmd; obtain ⟨hnm, hkn⟩ := id hmn; obtain ⟨hsn, hks⟩ := id hms
  refine lv_aload_n hx hb dX5_rank_0 rfl (lv_at hl 0 rfl) ?_
  refine lv_iconst (v := nI (0)) hx hb dX5_rank_1 (by decide) ?_
  refine va_put (D := (dC, dI)) (ci := 4) (v := .int (nI (0))) (ty := .int) (C := RX5) (T := TX5) (N := 16) hx hb hts hi5 tyX5 tyX5_ok nmX5 hown hK hP hD hS 0 rfl rfl 0 (by decide) (hts (.fieldLink RX5 43 "BurstWordsModel" "thrown" "I") (by decide +kernel)) (fun _ h9 => h9) rfl (by decide +kernel) rfl rfl (Nat.le_of_ble_eq_true rfl) dX5_rank_2 (fun H locs hP hD hS => ?_)
  have hP : va_P (dC, dI) vwCl (wm a cI cJ cZ ty tm b wo of n no nm un um sa sl si sn tk) H := hP
  have hD : va_D A (wm a cI cJ cZ ty tm b wo of n no nm un um sa sl si sn tk) := hD
  refine lv_aload_n hx hb dX5_rank_5 rfl (lv_at hl 0 rfl) ?_
  refine c_Vl (As := []) (rest := []) (ci := 4) (q0 := 0) S (c_X5_own l dC dI cI cJ cZ a ty tm b wo of n no nm un um sa sl si sn tk v V O K SA SL SI hmw hmd hmn hms ) (cwV 0 hts gX5_rank_X5_own rfl rfl rfl (by decide +kernel) ⟨Nat.le_of_ble_eq_true rfl, Nat.le_of_ble_eq_true rfl⟩) hK hP rfl rfl rfl hl.1 rfl (Nat.le_of_ble_eq_true rfl) dX5_rank_6 ⟨Nat.le_of_ble_eq_true rfl, Nat.le_of_ble_eq_true rfl⟩ ?_
  refine lv_lstore_n (lv' := [(1, .long (lN (v))), (0, .ref (a 0))]) hx hb dX5_rank_9 rfl hl (by decide) rfl (fun ls hl => ?_)
  refine lv_iconst (v := nI (0)) hx hb dX5_rank_10 (by decide) ?_
  refine lv_istore_n (lv' := [(3, .int (nI (0))), (1, .long (lN (v))), (0, .ref (a 0))]) hx hb dX5_rank_11 rfl hl (by decide) rfl (fun ls hl => ?_)
  refine lv_iconst (v := nI (0)) hx hb dX5_rank_12 (by decide) ?_
  refine lv_istore (lv' := [(4, .int (nI (0))), (3, .int (nI (0))), (1, .long (lN (v))), (0, .ref (a 0))]) hx hb dX5_rank_13 hl (by decide) rfl (fun ls hl => ?_)
  have lp_15 : ∀ (j_15 : Nat) (i : Nat), (i ≤ n) → (n - i) < j_15 → ∀ ls : Array Slot, lv_has ls 5 [(0, .ref (a 0)), (1, .long (lN (v))), (3, .int (nI (fb_sm (fun k => if V k < v then O k else 0) i))), (4, .int (nI (i)))] → W p l e rm_X5_rank s m ([.ref (a 0)] : List Value).toArray below meth c H locs 0 0 QQ (F0 m 15 ls []) := by
    intro j_15
    induction j_15 with
    | zero => intro i _ h0; exact absurd h0 (Nat.not_lt_zero _)
    | succ j_15 ih_15 =>
      intro i hi hf_15 ls hl
      refine lv_iload hx hb dX5_rank_15 (lv_at hl 3 rfl) ?_
      refine lv_aload_n hx hb dX5_rank_17 rfl (lv_at hl 0 rfl) ?_
      refine va_get (D := (dC, dI)) (ci := 4) (v := .int (nI (n))) (C := RX5) (T := TX5) (N := 16) hx hb hts hi5 hown hK hP 0 rfl rfl 6 (by decide) (hts (.fieldLink RX5 67 "BurstWordsModel" "many" "I") (by decide +kernel)) (fun _ h9 => h9) rfl dX5_rank_18 ?_
      refine n_ge (tgt := 56) hx hb dX5_rank_21 (by decide) (by omega) (by omega) (fun c_21 => ?_) (fun c_21 => ?_)
      · refine lv_iload_n hx hb dX5_rank_56 rfl (lv_at hl 2 rfl) ?_
        rw [← hQQ]
        exact m_i () hx hb hr hlocks (by rw [show i = n by omega]) hP hD hS dX5_rank_57
      · refine lv_iload_n hx hb dX5_rank_24 rfl (lv_at hl 2 rfl) ?_
        refine lv_aload_n hx hb dX5_rank_25 rfl (lv_at hl 0 rfl) ?_
        refine va_get (D := (dC, dI)) (ci := 4) (v := .ref (a 2)) (C := RX5) (T := TX5) (N := 16) hx hb hts hi5 hown hK hP 0 rfl rfl 4 (by decide) (hts (.fieldLink RX5 17 "BurstWordsModel" "word" "[J") (by decide +kernel)) (fun _ h9 => h9) rfl dX5_rank_26 ?_
        refine lv_iload hx hb dX5_rank_29 (lv_at hl 3 rfl) ?_
        refine g_l hx hb hK hP 2 1 rfl rfl (k := i) (by omega) (by decide) dX5_rank_31 (v := lN (V i)) (hk _ (by omega)).1 ?_
        refine lv_lload_n hx hb dX5_rank_32 rfl (lv_at hl 1 rfl) ?_
        refine q_ge (tgt := 47) hx hb dX5_rank_33 dX5_rank_34 (by decide) (w63 (hk _ (by omega)).2.1.1) (w63 hvw.1) (fun c_33 => ?_) (fun c_33 => ?_)
        · refine lv_iconst (v := nI (0)) hx hb dX5_rank_47 (by decide) ?_
          refine lv_iadd hx hb dX5_rank_48 ?_
          refine tpi (nI_add _ _) ?_
          refine lv_istore_n (lv' := [(3, .int (nI ((fb_sm (fun k => if V k < v then O k else 0) i) + 0))), (0, .ref (a 0)), (1, .long (lN (v))), (4, .int (nI (i)))]) hx hb dX5_rank_49 rfl hl (by decide) rfl (fun ls hl => ?_)
          refine lv_iinc (v := nI (i + 1)) (lv' := [(4, .int (nI (i + 1))), (3, .int (nI ((fb_sm (fun k => if V k < v then O k else 0) i) + 0))), (0, .ref (a 0)), (1, .long (lN (v)))]) hx hb dX5_rank_50 hl (k := 3) rfl (inc1 _) (by decide) rfl (fun ls hl => ?_)
          refine lv_goto (tgt := 15) hx hb dX5_rank_53 (by decide) ?_
          exact ih_15 (i + 1) (by omega) (by omega) ls (lv_cg (l := [(0, .ref (a 0)), (1, .long (lN (v))), (3, .int (nI ((fb_sm (fun k => if V k < v then O k else 0) i) + 0))), (4, .int (nI (i + 1)))]) (lv_sub hl [2, 3, 1, 0] rfl) (by rw [fb_sm_succ, if_neg (Nat.not_lt.mpr c_33)]))
        · refine lv_aload_n hx hb dX5_rank_37 rfl (lv_at hl 0 rfl) ?_
          refine va_get (D := (dC, dI)) (ci := 4) (v := .ref (a 3)) (C := RX5) (T := TX5) (N := 16) hx hb hts hi5 hown hK hP 0 rfl rfl 5 (by decide) (hts (.fieldLink RX5 21 "BurstWordsModel" "often" "[I") (by decide +kernel)) (fun _ h9 => h9) rfl dX5_rank_38 ?_
          refine lv_iload hx hb dX5_rank_41 (lv_at hl 3 rfl) ?_
          refine g_i hx hb hK hP 3 0 rfl rfl (k := i) (by omega) (by decide) dX5_rank_43 (v := nI (O i)) (hk _ (by omega)).2.2.2.1 ?_
          refine lv_goto (tgt := 48) hx hb dX5_rank_44 (by decide) ?_
          refine lv_iadd hx hb dX5_rank_48 ?_
          refine tpi (nI_add _ _) ?_
          refine lv_istore_n (lv' := [(3, .int (nI ((fb_sm (fun k => if V k < v then O k else 0) i) + (O i)))), (0, .ref (a 0)), (1, .long (lN (v))), (4, .int (nI (i)))]) hx hb dX5_rank_49 rfl hl (by decide) rfl (fun ls hl => ?_)
          refine lv_iinc (v := nI (i + 1)) (lv' := [(4, .int (nI (i + 1))), (3, .int (nI ((fb_sm (fun k => if V k < v then O k else 0) i) + (O i)))), (0, .ref (a 0)), (1, .long (lN (v)))]) hx hb dX5_rank_50 hl (k := 3) rfl (inc1 _) (by decide) rfl (fun ls hl => ?_)
          refine lv_goto (tgt := 15) hx hb dX5_rank_53 (by decide) ?_
          exact ih_15 (i + 1) (by omega) (by omega) ls (lv_cg (l := [(0, .ref (a 0)), (1, .long (lN (v))), (3, .int (nI ((fb_sm (fun k => if V k < v then O k else 0) i) + (O i)))), (4, .int (nI (i + 1)))]) (lv_sub hl [2, 3, 1, 0] rfl) (by rw [fb_sm_succ, if_pos c_33]))
  exact lp_15 _ (0) (by omega) (Nat.lt_succ_self _) ls (lv_sub hl [3, 2, 1, 0] rfl)
abbrev rm_X5_begin : Room := { frames := 5, cells := 0, slots := 0, locals := 114 }
set_option maxHeartbeats 4000000 in
set_option maxRecDepth 100000 in
theorem c_X5_begin (l : Launch) (dC : Nat → ClassId) (dI : Nat → Nat → Nat) (cI cJ cZ : ClassId) (a : Nat → Nat) (ty : Nat → Int32) (tm b : Nat) (wo : Nat → Int64) (of : Nat → Int32) (n : Nat) (no : Nat → Int64) (nm : Nat) (un : Nat → Int64) (um : Nat) (sa sl si : Nat → Int32) (sn : Nat) (tk : Nat → Int32) (v : Nat) (V O K SA SL SI : Nat → Nat) (hmw : bMW ty tm v) (hmd : bMD wo of n V O) (hmn : bMN no nm K) (hms : bMS sa sl si sn SA SL SI) (sz : Nat) : Met l yX5_begin wsX5_begin rm_X5_begin (mPc (dC, dI) (tysA cI cJ cZ) (wm a cI cJ cZ ty tm b wo of n no nm un um sa sl si sn tk) sz [.ref (a 0)]) (mQi (dC, dI) (fun (r : Int32) (u : Unit) => r = nI (fb_sm (fun k => if bhd (V k) (bln v) == v then O k else 0) n)) (fun u => wm a cI cJ cZ ty tm b wo of n no nm un um sa sl si sn tk) (va_A (wm a cI cJ cZ ty tm b wo of n no nm un um sa sl si sn tk) sz)) 0 0 (va_A (wm a cI cJ cZ ty tm b wo of n no nm un um sa sl si sn tk) sz) := by
  refine met_m (cc := cX5_begin) (maxL := 1) (ret := (some .int)) (own := RX5) (Qc := fun A => mQi (dC, dI) (fun (r : Int32) (u : Unit) => r = nI (fb_sm (fun k => if bhd (V k) (bln v) == v then O k else 0) n)) (fun u => wm a cI cJ cZ ty tm b wo of n no nm un um sa sl si sn tk) A) (by decide) rfl rfl (Nat.le_of_ble_eq_true rfl) ?_
  intro p e s m below meth c S hr hlocks hname hK A hA hP hD hS ls hl
  obtain ⟨hx, hb, hml, hown, hts⟩ := id S
  generalize hQQ : MQ below (mQi (dC, dI) (fun (r : Int32) (u : Unit) => r = nI (fb_sm (fun k => if bhd (V k) (bln v) == v then O k else 0) n)) (fun u => wm a cI cJ cZ ty tm b wo of n no nm un um sa sl si sn tk) A) ([.ref (a 0)] : List Value).toArray s 0 0 A = QQ
  have hl : lv_has ls 1 [(0, .ref (a 0))] := hl
  have hi5 : ∀ w ∈ wsX50, w ∈ wsX5_begin := fun _ h => List.mem_cons_of_mem _ (List.mem_append_right _ h)
  obtain ⟨hvw, htm, hty⟩ := id hmw; obtain ⟨hn, hk⟩ := id hmd; obtain ⟨hnm, hkn⟩ := id hmn; obtain ⟨hsn, hks⟩ := id hms
  refine lv_aload_n hx hb dX5_begin_0 rfl (lv_at hl 0 rfl) ?_
  refine lv_iconst (v := nI (0)) hx hb dX5_begin_1 (by decide) ?_
  refine va_put (D := (dC, dI)) (ci := 4) (v := .int (nI (0))) (ty := .int) (C := RX5) (T := TX5) (N := 16) hx hb hts hi5 tyX5 tyX5_ok nmX5 hown hK hP hD hS 0 rfl rfl 0 (by decide) (hts (.fieldLink RX5 43 "BurstWordsModel" "thrown" "I") (by decide +kernel)) (fun _ h9 => h9) rfl (by decide +kernel) rfl rfl (Nat.le_of_ble_eq_true rfl) dX5_begin_2 (fun H locs hP hD hS => ?_)
  have hP : va_P (dC, dI) vwCl (wm a cI cJ cZ ty tm b wo of n no nm un um sa sl si sn tk) H := hP
  have hD : va_D A (wm a cI cJ cZ ty tm b wo of n no nm un um sa sl si sn tk) := hD
  refine lv_aload_n hx hb dX5_begin_5 rfl (lv_at hl 0 rfl) ?_
  refine lv_aload_n hx hb dX5_begin_6 rfl (lv_at hl 0 rfl) ?_
  refine c_Vl (As := []) (rest := [.ref (a 0)]) (ci := 4) (q0 := 0) S (c_X5_own l dC dI cI cJ cZ a ty tm b wo of n no nm un um sa sl si sn tk v V O K SA SL SI hmw hmd hmn hms ) (cwV 0 hts gX5_begin_X5_own rfl rfl rfl (by decide +kernel) ⟨Nat.le_of_ble_eq_true rfl, Nat.le_of_ble_eq_true rfl⟩) hK hP rfl rfl rfl hl.1 rfl (Nat.le_of_ble_eq_true rfl) dX5_begin_7 ⟨Nat.le_of_ble_eq_true rfl, Nat.le_of_ble_eq_true rfl⟩ ?_
  refine c_Vi (As := [.long (lN (v))]) (rest := []) (ci := 4) (q0 := 0) S (c_X5_beginOf l dC dI cI cJ cZ a ty tm b wo of n no nm un um sa sl si sn tk v V O K SA SL SI hmw hmd hmn hms v (w63 hvw.1)) (cwV 1 hts gX5_begin_X5_beginOf rfl rfl rfl (by decide +kernel) ⟨Nat.le_of_ble_eq_true rfl, Nat.le_of_ble_eq_true rfl⟩) hK hP rfl rfl rfl hl.1 rfl (Nat.le_of_ble_eq_true rfl) dX5_begin_10 ⟨Nat.le_of_ble_eq_true rfl, Nat.le_of_ble_eq_true rfl⟩ ?_
  rw [← hQQ]
  exact m_i () hx hb hr hlocks rfl hP hD hS dX5_begin_13
abbrev rm_X5_depth : Room := { frames := 4, cells := 0, slots := 0, locals := 91 }
set_option maxHeartbeats 4000000 in
set_option maxRecDepth 100000 in
theorem c_X5_depth (l : Launch) (dC : Nat → ClassId) (dI : Nat → Nat → Nat) (cI cJ cZ : ClassId) (a : Nat → Nat) (ty : Nat → Int32) (tm b : Nat) (wo : Nat → Int64) (of : Nat → Int32) (n : Nat) (no : Nat → Int64) (nm : Nat) (un : Nat → Int64) (um : Nat) (sa sl si : Nat → Int32) (sn : Nat) (tk : Nat → Int32) (v : Nat) (V O K SA SL SI : Nat → Nat) (hmw : bMW ty tm v) (hmd : bMD wo of n V O) (hmn : bMN no nm K) (hms : bMS sa sl si sn SA SL SI) (sz : Nat) : Met l yX5_depth wsX5_depth rm_X5_depth (mPc (dC, dI) (tysA cI cJ cZ) (wm a cI cJ cZ ty tm b wo of n no nm un um sa sl si sn tk) sz [.ref (a 0)]) (mQi (dC, dI) (fun (r : Int32) (u : Unit) => r = nI (bde K nm v)) (fun u => wm a cI cJ cZ ty tm b wo of n no nm un um sa sl si sn tk) (va_A (wm a cI cJ cZ ty tm b wo of n no nm un um sa sl si sn tk) sz)) 0 0 (va_A (wm a cI cJ cZ ty tm b wo of n no nm un um sa sl si sn tk) sz) := by
  refine met_m (cc := cX5_depth) (maxL := 1) (ret := (some .int)) (own := RX5) (Qc := fun A => mQi (dC, dI) (fun (r : Int32) (u : Unit) => r = nI (bde K nm v)) (fun u => wm a cI cJ cZ ty tm b wo of n no nm un um sa sl si sn tk) A) (by decide) rfl rfl (Nat.le_of_ble_eq_true rfl) ?_
  intro p e s m below meth c S hr hlocks hname hK A hA hP hD hS ls hl
  obtain ⟨hx, hb, hml, hown, hts⟩ := id S
  generalize hQQ : MQ below (mQi (dC, dI) (fun (r : Int32) (u : Unit) => r = nI (bde K nm v)) (fun u => wm a cI cJ cZ ty tm b wo of n no nm un um sa sl si sn tk) A) ([.ref (a 0)] : List Value).toArray s 0 0 A = QQ
  have hl : lv_has ls 1 [(0, .ref (a 0))] := hl
  have hi5 : ∀ w ∈ wsX50, w ∈ wsX5_depth := fun _ h => List.mem_cons_of_mem _ (List.mem_append_right _ h)
  obtain ⟨hvw, htm, hty⟩ := id hmw; obtain ⟨hn, hk⟩ := id hmd; obtain ⟨hnm, hkn⟩ := id hmn; obtain ⟨hsn, hks⟩ := id hms
  refine lv_aload_n hx hb dX5_depth_0 rfl (lv_at hl 0 rfl) ?_
  refine lv_iconst (v := nI (0)) hx hb dX5_depth_1 (by decide) ?_
  refine va_put (D := (dC, dI)) (ci := 4) (v := .int (nI (0))) (ty := .int) (C := RX5) (T := TX5) (N := 16) hx hb hts hi5 tyX5 tyX5_ok nmX5 hown hK hP hD hS 0 rfl rfl 0 (by decide) (hts (.fieldLink RX5 43 "BurstWordsModel" "thrown" "I") (by decide +kernel)) (fun _ h9 => h9) rfl (by decide +kernel) rfl rfl (Nat.le_of_ble_eq_true rfl) dX5_depth_2 (fun H locs hP hD hS => ?_)
  have hP : va_P (dC, dI) vwCl (wm a cI cJ cZ ty tm b wo of n no nm un um sa sl si sn tk) H := hP
  have hD : va_D A (wm a cI cJ cZ ty tm b wo of n no nm un um sa sl si sn tk) := hD
  refine lv_aload_n hx hb dX5_depth_5 rfl (lv_at hl 0 rfl) ?_
  refine lv_aload_n hx hb dX5_depth_6 rfl (lv_at hl 0 rfl) ?_
  refine c_Vl (As := []) (rest := [.ref (a 0)]) (ci := 4) (q0 := 0) S (c_X5_own l dC dI cI cJ cZ a ty tm b wo of n no nm un um sa sl si sn tk v V O K SA SL SI hmw hmd hmn hms ) (cwV 0 hts gX5_depth_X5_own rfl rfl rfl (by decide +kernel) ⟨Nat.le_of_ble_eq_true rfl, Nat.le_of_ble_eq_true rfl⟩) hK hP rfl rfl rfl hl.1 rfl (Nat.le_of_ble_eq_true rfl) dX5_depth_7 ⟨Nat.le_of_ble_eq_true rfl, Nat.le_of_ble_eq_true rfl⟩ ?_
  refine c_Vi (As := [.long (lN (v))]) (rest := []) (ci := 4) (q0 := 0) S (c_X5_depthOf l dC dI cI cJ cZ a ty tm b wo of n no nm un um sa sl si sn tk v V O K SA SL SI hmw hmd hmn hms v (w63 hvw.1)) (cwV 1 hts gX5_depth_X5_depthOf rfl rfl rfl (by decide +kernel) ⟨Nat.le_of_ble_eq_true rfl, Nat.le_of_ble_eq_true rfl⟩) hK hP rfl rfl rfl hl.1 rfl (Nat.le_of_ble_eq_true rfl) dX5_depth_10 ⟨Nat.le_of_ble_eq_true rfl, Nat.le_of_ble_eq_true rfl⟩ ?_
  rw [← hQQ]
  exact m_i () hx hb hr hlocks rfl hP hD hS dX5_depth_13
abbrev rm_X5_container : Room := { frames := 5, cells := 0, slots := 0, locals := 114 }
set_option maxHeartbeats 4000000 in
set_option maxRecDepth 100000 in
theorem c_X5_container (l : Launch) (dC : Nat → ClassId) (dI : Nat → Nat → Nat) (cI cJ cZ : ClassId) (a : Nat → Nat) (ty : Nat → Int32) (tm b : Nat) (wo : Nat → Int64) (of : Nat → Int32) (n : Nat) (no : Nat → Int64) (nm : Nat) (un : Nat → Int64) (um : Nat) (sa sl si : Nat → Int32) (sn : Nat) (tk : Nat → Int32) (v : Nat) (V O K SA SL SI : Nat → Nat) (hmw : bMW ty tm v) (hmd : bMD wo of n V O) (hmn : bMN no nm K) (hms : bMS sa sl si sn SA SL SI) (sz : Nat) (x : Int32) : Met l yX5_container wsX5_container rm_X5_container (mPc (dC, dI) (tysA cI cJ cZ) (wm a cI cJ cZ ty tm b wo of n no nm un um sa sl si sn tk) sz [.ref (a 0), .int (x)]) (mQi (dC, dI) (fun (r : Int32) (u : Unit) => r = mo_container V n K nm v x) (fun u => wm a cI cJ cZ ty tm b wo of n no nm un um sa sl si sn tk) (va_A (wm a cI cJ cZ ty tm b wo of n no nm un um sa sl si sn tk) sz)) 0 0 (va_A (wm a cI cJ cZ ty tm b wo of n no nm un um sa sl si sn tk) sz) := by
  refine met_m (cc := cX5_container) (maxL := 4) (ret := (some .int)) (own := RX5) (Qc := fun A => mQi (dC, dI) (fun (r : Int32) (u : Unit) => r = mo_container V n K nm v x) (fun u => wm a cI cJ cZ ty tm b wo of n no nm un um sa sl si sn tk) A) (by decide) rfl rfl (Nat.le_of_ble_eq_true rfl) ?_
  intro p e s m below meth c S hr hlocks hname hK A hA hP hD hS ls hl
  obtain ⟨hx, hb, hml, hown, hts⟩ := id S
  generalize hQQ : MQ below (mQi (dC, dI) (fun (r : Int32) (u : Unit) => r = mo_container V n K nm v x) (fun u => wm a cI cJ cZ ty tm b wo of n no nm un um sa sl si sn tk) A) ([.ref (a 0), .int (x)] : List Value).toArray s 0 0 A = QQ
  have hl : lv_has ls 4 [(0, .ref (a 0)), (1, .int (x))] := hl
  have hi5 : ∀ w ∈ wsX50, w ∈ wsX5_container := fun _ h => List.mem_cons_of_mem _ (List.mem_append_right _ h)
  obtain ⟨hvw, htm, hty⟩ := id hmw; obtain ⟨hn, hk⟩ := id hmd; obtain ⟨hnm, hkn⟩ := id hmn; obtain ⟨hsn, hks⟩ := id hms
  have hlv := bln_le v
  refine lv_aload_n hx hb dX5_container_0 rfl (lv_at hl 0 rfl) ?_
  refine lv_iconst (v := nI (0)) hx hb dX5_container_1 (by decide) ?_
  refine va_put (D := (dC, dI)) (ci := 4) (v := .int (nI (0))) (ty := .int) (C := RX5) (T := TX5) (N := 16) hx hb hts hi5 tyX5 tyX5_ok nmX5 hown hK hP hD hS 0 rfl rfl 0 (by decide) (hts (.fieldLink RX5 43 "BurstWordsModel" "thrown" "I") (by decide +kernel)) (fun _ h9 => h9) rfl (by decide +kernel) rfl rfl (Nat.le_of_ble_eq_true rfl) dX5_container_2 (fun H locs hP hD hS => ?_)
  have hP : va_P (dC, dI) vwCl (wm a cI cJ cZ ty tm b wo of n no nm un um sa sl si sn tk) H := hP
  have hD : va_D A (wm a cI cJ cZ ty tm b wo of n no nm un um sa sl si sn tk) := hD
  refine lv_iload_n hx hb dX5_container_5 rfl (lv_at hl 1 rfl) ?_
  refine lv_iconst (v := nI (0)) hx hb dX5_container_6 (by decide) ?_
  refine lv_iconst (v := nI (1)) hx hb dX5_container_7 (by decide) ?_
  refine c_Si (As := [.int (x), .int (nI (0)), .int (nI (1))]) (rest := []) S (c_X5_in l (x) (nI (0)) (nI (1))) (va_cwS 3 hts gX5_container_X5_in rfl rfl rfl (by decide +kernel) ⟨Nat.le_of_ble_eq_true rfl, Nat.le_of_ble_eq_true rfl⟩) rfl hl.1 rfl (Nat.le_of_ble_eq_true rfl) dX5_container_8 ⟨Nat.le_of_ble_eq_true rfl, Nat.le_of_ble_eq_true rfl⟩ ?_
  refine b_ne (tgt := 16) hx hb dX5_container_11 (by decide) (fun c_11 => ?_) (fun c_11 => ?_)
  · refine lv_aload_n hx hb dX5_container_16 rfl (lv_at hl 0 rfl) ?_
    refine lv_aload_n hx hb dX5_container_17 rfl (lv_at hl 0 rfl) ?_
    refine c_Vl (As := []) (rest := [.ref (a 0)]) (ci := 4) (q0 := 0) S (c_X5_own l dC dI cI cJ cZ a ty tm b wo of n no nm un um sa sl si sn tk v V O K SA SL SI hmw hmd hmn hms ) (cwV 0 hts gX5_container_X5_own rfl rfl rfl (by decide +kernel) ⟨Nat.le_of_ble_eq_true rfl, Nat.le_of_ble_eq_true rfl⟩) hK hP rfl rfl rfl hl.1 rfl (Nat.le_of_ble_eq_true rfl) dX5_container_18 ⟨Nat.le_of_ble_eq_true rfl, Nat.le_of_ble_eq_true rfl⟩ ?_
    refine c_Vi (As := [.long (lN (v))]) (rest := []) (ci := 4) (q0 := 0) S (c_X5_containerSize l dC dI cI cJ cZ a ty tm b wo of n no nm un um sa sl si sn tk v V O K SA SL SI hmw hmd hmn hms v (w63 hvw.1)) (cwV 1 hts gX5_container_X5_containerSize rfl rfl rfl (by decide +kernel) ⟨Nat.le_of_ble_eq_true rfl, Nat.le_of_ble_eq_true rfl⟩) hK hP rfl rfl rfl hl.1 rfl (Nat.le_of_ble_eq_true rfl) dX5_container_21 ⟨Nat.le_of_ble_eq_true rfl, Nat.le_of_ble_eq_true rfl⟩ ?_
    by_cases hcs : bcs K nm v < bln v + 1
    · refine tpi (bopt_y hcs) ?_
      refine lv_istore_n (lv' := [(2, .int (nI (bcs K nm v))), (0, .ref (a 0)), (1, .int (x))]) hx hb dX5_container_24 rfl hl (by decide) rfl (fun ls hl => ?_)
      refine lv_iload_n hx hb dX5_container_25 rfl (lv_at hl 0 rfl) ?_
      refine z_ge (tgt := 33) hx hb dX5_container_26 (by decide) (by omega) ?_
      refine lv_aload_n hx hb dX5_container_33 rfl (lv_at hl 1 rfl) ?_
      refine lv_aload_n hx hb dX5_container_34 rfl (lv_at hl 1 rfl) ?_
      refine c_Vl (As := []) (rest := [.ref (a 0)]) (ci := 4) (q0 := 0) S (c_X5_own l dC dI cI cJ cZ a ty tm b wo of n no nm un um sa sl si sn tk v V O K SA SL SI hmw hmd hmn hms ) (cwV 0 hts gX5_container_X5_own rfl rfl rfl (by decide +kernel) ⟨Nat.le_of_ble_eq_true rfl, Nat.le_of_ble_eq_true rfl⟩) hK hP rfl rfl rfl hl.1 rfl (Nat.le_of_ble_eq_true rfl) dX5_container_35 ⟨Nat.le_of_ble_eq_true rfl, Nat.le_of_ble_eq_true rfl⟩ ?_
      refine lv_iload_n hx hb dX5_container_38 rfl (lv_at hl 0 rfl) ?_
      refine c_Sl (As := [.long (lN (v)), .int (nI (bcs K nm v))]) (rest := [.ref (a 0)]) S (c_X5_head l v (bcs K nm v) (w63 hvw.1) (by omega)) (va_cwS 2 hts gX5_container_X5_head rfl rfl rfl (by decide +kernel) ⟨Nat.le_of_ble_eq_true rfl, Nat.le_of_ble_eq_true rfl⟩) rfl hl.1 rfl (Nat.le_of_ble_eq_true rfl) dX5_container_39 ⟨Nat.le_of_ble_eq_true rfl, Nat.le_of_ble_eq_true rfl⟩ ?_
      refine c_Vi (As := [.long (lN (bhd v (bcs K nm v)))]) (rest := []) (ci := 4) (q0 := 0) S (c_X5_beginning l dC dI cI cJ cZ a ty tm b wo of n no nm un um sa sl si sn tk v V O K SA SL SI hmw hmd hmn hms (bhd v (bcs K nm v)) (Nat.lt_of_le_of_lt (bhd_le _ _) (w63 hvw.1))) (cwV 1 hts gX5_container_X5_beginning rfl rfl rfl (by decide +kernel) ⟨Nat.le_of_ble_eq_true rfl, Nat.le_of_ble_eq_true rfl⟩) hK hP rfl rfl rfl hl.1 rfl (Nat.le_of_ble_eq_true rfl) dX5_container_42 ⟨Nat.le_of_ble_eq_true rfl, Nat.le_of_ble_eq_true rfl⟩ ?_
      refine lv_istore_n (lv' := [(3, .int (nI (bbg V n (bhd v (bcs K nm v))))), (2, .int (nI (bcs K nm v))), (0, .ref (a 0)), (1, .int (x))]) hx hb dX5_container_45 rfl hl (by decide) rfl (fun ls hl => ?_)
      refine lv_iload_n hx hb dX5_container_46 rfl (lv_at hl 0 rfl) ?_
      refine z_ne (tgt := 55) hx hb dX5_container_47 (by decide) (Nat.lt_of_le_of_lt (by first | exact fb_ct_le _ n | exact Nat.zero_le n) (by omega)) (fun c_47 => ?_) (fun c_47 => ?_)
      · refine lv_iload_n hx hb dX5_container_55 rfl (lv_at hl 3 rfl) ?_
        refine lv_if_ne (tgt := 63) hx hb dX5_container_56 (by decide) (fun c_56 => ?_) (fun c_56 => ?_)
        · refine lv_iload_n hx hb dX5_container_63 rfl (lv_at hl 1 rfl) ?_
          rw [← hQQ]
          exact m_i () hx hb hr hlocks (by rw [mo_container, if_pos c_11, if_pos hcs, if_neg (Nat.pos_iff_ne_zero.mp c_47), if_neg c_56]) hP hD hS dX5_container_64
        · refine lv_iload_n hx hb dX5_container_59 rfl (lv_at hl 0 rfl) ?_
          refine lv_goto (tgt := 64) hx hb dX5_container_60 (by decide) ?_
          rw [← hQQ]
          exact m_i () hx hb hr hlocks (by rw [mo_container, if_pos c_11, if_pos hcs, if_neg (Nat.pos_iff_ne_zero.mp c_47), if_pos c_56]) hP hD hS dX5_container_64
      · refine lv_bipush (v := (-9 : Int32)) hx hb dX5_container_50 (by decide) ?_
        refine lv_goto (tgt := 64) hx hb dX5_container_52 (by decide) ?_
        rw [← hQQ]
        exact m_i () hx hb hr hlocks (by rw [mo_container, if_pos c_11, if_pos hcs, if_pos c_47]) hP hD hS dX5_container_64
    · refine tpi (bopt_n hcs) ?_
      refine lv_istore_n (lv' := [(2, .int ((-1 : Int32))), (0, .ref (a 0)), (1, .int (x))]) hx hb dX5_container_24 rfl hl (by decide) rfl (fun ls hl => ?_)
      refine lv_iload_n hx hb dX5_container_25 rfl (lv_at hl 0 rfl) ?_
      refine lv_if_ge (tgt := 33) hx hb dX5_container_26 (by decide) (fun q => absurd q (by decide)) (fun _ => ?_)
      refine lv_iconst (v := nI (0)) hx hb dX5_container_29 (by decide) ?_
      refine lv_goto (tgt := 45) hx hb dX5_container_30 (by decide) ?_
      refine lv_istore_n (lv' := [(3, .int (nI (0))), (2, .int ((-1 : Int32))), (0, .ref (a 0)), (1, .int (x))]) hx hb dX5_container_45 rfl hl (by decide) rfl (fun ls hl => ?_)
      refine lv_iload_n hx hb dX5_container_46 rfl (lv_at hl 0 rfl) ?_
      refine z_ne (tgt := 55) hx hb dX5_container_47 (by decide) (Nat.lt_of_le_of_lt (by first | exact fb_ct_le _ n | exact Nat.zero_le n) (by omega)) (fun c_47 => ?_) (fun c_47 => ?_)
      · exact absurd c_47 (Nat.lt_irrefl 0)
      · refine lv_bipush (v := (-9 : Int32)) hx hb dX5_container_50 (by decide) ?_
        refine lv_goto (tgt := 64) hx hb dX5_container_52 (by decide) ?_
        rw [← hQQ]
        exact m_i () hx hb hr hlocks (by rw [mo_container, if_pos c_11, if_neg hcs]) hP hD hS dX5_container_64
  · refine lv_iconst (v := (-1 : Int32)) hx hb dX5_container_14 (by decide) ?_
    rw [← hQQ]
    exact m_i () hx hb hr hlocks (by rw [mo_container, if_neg (nt c_11)]) hP hD hS dX5_container_15
abbrev rm_X5_telling : Room := { frames := 5, cells := 0, slots := 0, locals := 114 }
set_option maxHeartbeats 4000000 in
set_option maxRecDepth 100000 in
theorem c_X5_telling (l : Launch) (dC : Nat → ClassId) (dI : Nat → Nat → Nat) (cI cJ cZ : ClassId) (a : Nat → Nat) (ty : Nat → Int32) (tm b : Nat) (wo : Nat → Int64) (of : Nat → Int32) (n : Nat) (no : Nat → Int64) (nm : Nat) (un : Nat → Int64) (um : Nat) (sa sl si : Nat → Int32) (sn : Nat) (tk : Nat → Int32) (v : Nat) (V O K SA SL SI : Nat → Nat) (hmw : bMW ty tm v) (hmd : bMD wo of n V O) (hmn : bMN no nm K) (hms : bMS sa sl si sn SA SL SI) (sz : Nat) : Met l yX5_telling wsX5_telling rm_X5_telling (mPc (dC, dI) (tysA cI cJ cZ) (wm a cI cJ cZ ty tm b wo of n no nm un um sa sl si sn tk) sz [.ref (a 0)]) (mQi (dC, dI) (fun (r : Int32) (u : Unit) => r = mo_telling V n v) (fun u => wm a cI cJ cZ ty tm b wo of n no nm un um sa sl si sn tk) (va_A (wm a cI cJ cZ ty tm b wo of n no nm un um sa sl si sn tk) sz)) 0 0 (va_A (wm a cI cJ cZ ty tm b wo of n no nm un um sa sl si sn tk) sz) := by
  refine met_m (cc := cX5_telling) (maxL := 4) (ret := (some .int)) (own := RX5) (Qc := fun A => mQi (dC, dI) (fun (r : Int32) (u : Unit) => r = mo_telling V n v) (fun u => wm a cI cJ cZ ty tm b wo of n no nm un um sa sl si sn tk) A) (by decide) rfl rfl (Nat.le_of_ble_eq_true rfl) ?_
  intro p e s m below meth c S hr hlocks hname hK A hA hP hD hS ls hl
  obtain ⟨hx, hb, hml, hown, hts⟩ := id S
  generalize hQQ : MQ below (mQi (dC, dI) (fun (r : Int32) (u : Unit) => r = mo_telling V n v) (fun u => wm a cI cJ cZ ty tm b wo of n no nm un um sa sl si sn tk) A) ([.ref (a 0)] : List Value).toArray s 0 0 A = QQ
  have hl : lv_has ls 4 [(0, .ref (a 0))] := hl
  have hi5 : ∀ w ∈ wsX50, w ∈ wsX5_telling := fun _ h => List.mem_cons_of_mem _ (List.mem_append_right _ h)
  obtain ⟨hvw, htm, hty⟩ := id hmw; obtain ⟨hn, hk⟩ := id hmd; obtain ⟨hnm, hkn⟩ := id hmn; obtain ⟨hsn, hks⟩ := id hms
  have hlv := bln_le v
  have hbl := blp_le V v n
  refine lv_aload_n hx hb dX5_telling_0 rfl (lv_at hl 0 rfl) ?_
  refine lv_iconst (v := nI (0)) hx hb dX5_telling_1 (by decide) ?_
  refine va_put (D := (dC, dI)) (ci := 4) (v := .int (nI (0))) (ty := .int) (C := RX5) (T := TX5) (N := 16) hx hb hts hi5 tyX5 tyX5_ok nmX5 hown hK hP hD hS 0 rfl rfl 0 (by decide) (hts (.fieldLink RX5 43 "BurstWordsModel" "thrown" "I") (by decide +kernel)) (fun _ h9 => h9) rfl (by decide +kernel) rfl rfl (Nat.le_of_ble_eq_true rfl) dX5_telling_2 (fun H locs hP hD hS => ?_)
  have hP : va_P (dC, dI) vwCl (wm a cI cJ cZ ty tm b wo of n no nm un um sa sl si sn tk) H := hP
  have hD : va_D A (wm a cI cJ cZ ty tm b wo of n no nm un um sa sl si sn tk) := hD
  refine lv_aload_n hx hb dX5_telling_5 rfl (lv_at hl 0 rfl) ?_
  refine c_Vl (As := []) (rest := []) (ci := 4) (q0 := 0) S (c_X5_own l dC dI cI cJ cZ a ty tm b wo of n no nm un um sa sl si sn tk v V O K SA SL SI hmw hmd hmn hms ) (cwV 0 hts gX5_telling_X5_own rfl rfl rfl (by decide +kernel) ⟨Nat.le_of_ble_eq_true rfl, Nat.le_of_ble_eq_true rfl⟩) hK hP rfl rfl rfl hl.1 rfl (Nat.le_of_ble_eq_true rfl) dX5_telling_6 ⟨Nat.le_of_ble_eq_true rfl, Nat.le_of_ble_eq_true rfl⟩ ?_
  refine lv_lstore_n (lv' := [(1, .long (lN (v))), (0, .ref (a 0))]) hx hb dX5_telling_9 rfl hl (by decide) rfl (fun ls hl => ?_)
  refine lv_aload_n hx hb dX5_telling_10 rfl (lv_at hl 1 rfl) ?_
  refine lv_lload_n hx hb dX5_telling_11 rfl (lv_at hl 0 rfl) ?_
  refine c_Vi (As := [.long (lN (v))]) (rest := []) (ci := 4) (q0 := 0) S (c_X5_placeOf l dC dI cI cJ cZ a ty tm b wo of n no nm un um sa sl si sn tk v V O K SA SL SI hmw hmd hmn hms v (w63 hvw.1)) (cwV 1 hts gX5_telling_X5_placeOf rfl rfl rfl (by decide +kernel) ⟨Nat.le_of_ble_eq_true rfl, Nat.le_of_ble_eq_true rfl⟩) hK hP rfl rfl rfl hl.1 rfl (Nat.le_of_ble_eq_true rfl) dX5_telling_12 ⟨Nat.le_of_ble_eq_true rfl, Nat.le_of_ble_eq_true rfl⟩ ?_
  by_cases hpl : blp V v n = 0
  · refine tpi ((congrArg nM hpl).trans nM_0) ?_
    refine lv_if_ge (tgt := 21) hx hb dX5_telling_15 (by decide) (fun q => absurd q (by decide)) (fun _ => ?_)
    refine lv_bipush (v := (-9 : Int32)) hx hb dX5_telling_18 (by decide) ?_
    rw [← hQQ]
    exact m_i () hx hb hr hlocks (by rw [mo_telling, if_pos hpl]) hP hD hS dX5_telling_20
  · refine tpi (nM_pos (Nat.pos_of_ne_zero hpl)) ?_
    refine z_ge (tgt := 21) hx hb dX5_telling_15 (by decide) (by omega) ?_
    refine lv_iconst (v := nI (0)) hx hb dX5_telling_21 (by decide) ?_
    refine lv_istore_n (lv' := [(3, .int (nI (0))), (1, .long (lN (v))), (0, .ref (a 0))]) hx hb dX5_telling_22 rfl hl (by decide) rfl (fun ls hl => ?_)
    have lp_23 : ∀ (j_23 : Nat) (i : Nat), (i ≤ bln v + 1) → (∀ k, k < i → 1 < bbg V n (bhd v k)) → (bln v + 1 - i) < j_23 → ∀ ls : Array Slot, lv_has ls 4 [(0, .ref (a 0)), (1, .long (lN (v))), (3, .int (nI (i)))] → W p l e rm_X5_telling s m ([.ref (a 0)] : List Value).toArray below meth c H locs 0 0 QQ (F0 m 23 ls []) := by
      intro j_23
      induction j_23 with
      | zero => intro i _ _ h0; exact absurd h0 (Nat.not_lt_zero _)
      | succ j_23 ih_23 =>
        intro i hi hz hf_23 ls hl
        refine lv_iload_n hx hb dX5_telling_23 rfl (lv_at hl 2 rfl) ?_
        refine lv_aload_n hx hb dX5_telling_24 rfl (lv_at hl 0 rfl) ?_
        refine va_get (D := (dC, dI)) (ci := 4) (v := .int (nI (tm))) (C := RX5) (T := TX5) (N := 16) hx hb hts hi5 hown hK hP 0 rfl rfl 2 (by decide) (hts (.fieldLink RX5 56 "BurstWordsModel" "typedMany" "I") (by decide +kernel)) (fun _ h9 => h9) rfl dX5_telling_25 ?_
        refine n_gt (tgt := 50) hx hb dX5_telling_28 (by decide) (by omega) (by omega) (fun c_28 => ?_) (fun c_28 => ?_)
        · refine lv_iload_n hx hb dX5_telling_50 rfl (lv_at hl 2 rfl) ?_
          rw [← hQQ]
          exact m_i () hx hb hr hlocks (by rw [mo_telling, if_neg hpl]; exact congrArg nI (bfs_eq hi (fun k h => by simpa using hz k h) (fun h => absurd h (by omega))).symm) hP hD hS dX5_telling_51
        · refine lv_aload_n hx hb dX5_telling_31 rfl (lv_at hl 0 rfl) ?_
          refine lv_lload_n hx hb dX5_telling_32 rfl (lv_at hl 1 rfl) ?_
          refine lv_iload_n hx hb dX5_telling_33 rfl (lv_at hl 2 rfl) ?_
          refine c_Sl (As := [.long (lN (v)), .int (nI (i))]) (rest := [.ref (a 0)]) S (c_X5_head l v i (w63 hvw.1) (by omega)) (va_cwS 2 hts gX5_telling_X5_head rfl rfl rfl (by decide +kernel) ⟨Nat.le_of_ble_eq_true rfl, Nat.le_of_ble_eq_true rfl⟩) rfl hl.1 rfl (Nat.le_of_ble_eq_true rfl) dX5_telling_34 ⟨Nat.le_of_ble_eq_true rfl, Nat.le_of_ble_eq_true rfl⟩ ?_
          refine c_Vi (As := [.long (lN (bhd v i))]) (rest := []) (ci := 4) (q0 := 0) S (c_X5_beginning l dC dI cI cJ cZ a ty tm b wo of n no nm un um sa sl si sn tk v V O K SA SL SI hmw hmd hmn hms (bhd v i) (Nat.lt_of_le_of_lt (bhd_le _ _) (w63 hvw.1))) (cwV 1 hts gX5_telling_X5_beginning rfl rfl rfl (by decide +kernel) ⟨Nat.le_of_ble_eq_true rfl, Nat.le_of_ble_eq_true rfl⟩) hK hP rfl rfl rfl hl.1 rfl (Nat.le_of_ble_eq_true rfl) dX5_telling_37 ⟨Nat.le_of_ble_eq_true rfl, Nat.le_of_ble_eq_true rfl⟩ ?_
          refine lv_iconst (v := nI (1)) hx hb dX5_telling_40 (by decide) ?_
          refine n_le (tgt := 50) hx hb dX5_telling_41 (by decide) (Nat.lt_of_le_of_lt (fb_ct_le _ n) (by omega)) (by omega) (fun c_41 => ?_) (fun c_41 => ?_)
          · refine lv_iload_n hx hb dX5_telling_50 rfl (lv_at hl 2 rfl) ?_
            rw [← hQQ]
            exact m_i () hx hb hr hlocks (by rw [mo_telling, if_neg hpl]; exact congrArg nI (bfs_eq hi (fun k h => by simpa using hz k h) (fun h => by simpa using c_41)).symm) hP hD hS dX5_telling_51
          · refine lv_iinc (v := nI (i + 1)) (lv' := [(3, .int (nI (i + 1))), (0, .ref (a 0)), (1, .long (lN (v)))]) hx hb dX5_telling_44 hl (k := 2) rfl (inc1 _) (by decide) rfl (fun ls hl => ?_)
            refine lv_goto (tgt := 23) hx hb dX5_telling_47 (by decide) ?_
            exact ih_23 (i + 1) (by omega) (lt_s hz c_41) (by omega) ls (lv_sub hl [1, 2, 0] rfl)
    exact lp_23 _ (0) (by omega) lt_0 (Nat.lt_succ_self _) ls (lv_sub hl [2, 1, 0] rfl)
abbrev rm_X5_longest : Room := { frames := 4, cells := 0, slots := 0, locals := 90 }
set_option maxHeartbeats 4000000 in
set_option maxRecDepth 100000 in
theorem c_X5_longest (l : Launch) (dC : Nat → ClassId) (dI : Nat → Nat → Nat) (cI cJ cZ : ClassId) (a : Nat → Nat) (ty : Nat → Int32) (tm b : Nat) (wo : Nat → Int64) (of : Nat → Int32) (n : Nat) (no : Nat → Int64) (nm : Nat) (un : Nat → Int64) (um : Nat) (sa sl si : Nat → Int32) (sn : Nat) (tk : Nat → Int32) (v : Nat) (V O K SA SL SI : Nat → Nat) (hmw : bMW ty tm v) (hmd : bMD wo of n V O) (hmn : bMN no nm K) (hms : bMS sa sl si sn SA SL SI) (sz : Nat) : Met l yX5_longest wsX5_longest rm_X5_longest (mPc (dC, dI) (tysA cI cJ cZ) (wm a cI cJ cZ ty tm b wo of n no nm un um sa sl si sn tk) sz [.ref (a 0)]) (mQi (dC, dI) (fun (r : Int32) (u : Unit) => r = bnz (bmx (fun k => if bhd v (bln (V k)) == V k then bln (V k) else 0) n)) (fun u => wm a cI cJ cZ ty tm b wo of n no nm un um sa sl si sn tk) (va_A (wm a cI cJ cZ ty tm b wo of n no nm un um sa sl si sn tk) sz)) 0 0 (va_A (wm a cI cJ cZ ty tm b wo of n no nm un um sa sl si sn tk) sz) := by
  refine met_m (cc := cX5_longest) (maxL := 3) (ret := (some .int)) (own := RX5) (Qc := fun A => mQi (dC, dI) (fun (r : Int32) (u : Unit) => r = bnz (bmx (fun k => if bhd v (bln (V k)) == V k then bln (V k) else 0) n)) (fun u => wm a cI cJ cZ ty tm b wo of n no nm un um sa sl si sn tk) A) (by decide) rfl rfl (Nat.le_of_ble_eq_true rfl) ?_
  intro p e s m below meth c S hr hlocks hname hK A hA hP hD hS ls hl
  obtain ⟨hx, hb, hml, hown, hts⟩ := id S
  generalize hQQ : MQ below (mQi (dC, dI) (fun (r : Int32) (u : Unit) => r = bnz (bmx (fun k => if bhd v (bln (V k)) == V k then bln (V k) else 0) n)) (fun u => wm a cI cJ cZ ty tm b wo of n no nm un um sa sl si sn tk) A) ([.ref (a 0)] : List Value).toArray s 0 0 A = QQ
  have hl : lv_has ls 3 [(0, .ref (a 0))] := hl
  have hi5 : ∀ w ∈ wsX50, w ∈ wsX5_longest := fun _ h => List.mem_cons_of_mem _ (List.mem_append_right _ h)
  obtain ⟨hvw, htm, hty⟩ := id hmw; obtain ⟨hn, hk⟩ := id hmd; obtain ⟨hnm, hkn⟩ := id hmn; obtain ⟨hsn, hks⟩ := id hms
  refine lv_aload_n hx hb dX5_longest_0 rfl (lv_at hl 0 rfl) ?_
  refine lv_iconst (v := nI (0)) hx hb dX5_longest_1 (by decide) ?_
  refine va_put (D := (dC, dI)) (ci := 4) (v := .int (nI (0))) (ty := .int) (C := RX5) (T := TX5) (N := 16) hx hb hts hi5 tyX5 tyX5_ok nmX5 hown hK hP hD hS 0 rfl rfl 0 (by decide) (hts (.fieldLink RX5 43 "BurstWordsModel" "thrown" "I") (by decide +kernel)) (fun _ h9 => h9) rfl (by decide +kernel) rfl rfl (Nat.le_of_ble_eq_true rfl) dX5_longest_2 (fun H locs hP hD hS => ?_)
  have hP : va_P (dC, dI) vwCl (wm a cI cJ cZ ty tm b wo of n no nm un um sa sl si sn tk) H := hP
  have hD : va_D A (wm a cI cJ cZ ty tm b wo of n no nm un um sa sl si sn tk) := hD
  refine lv_bipush (v := (-9 : Int32)) hx hb dX5_longest_5 (by decide) ?_
  refine lv_istore_n (lv' := [(1, .int ((-9 : Int32))), (0, .ref (a 0))]) hx hb dX5_longest_7 rfl hl (by decide) rfl (fun ls hl => ?_)
  refine lv_iconst (v := nI (0)) hx hb dX5_longest_8 (by decide) ?_
  refine lv_istore_n (lv' := [(2, .int (nI (0))), (1, .int ((-9 : Int32))), (0, .ref (a 0))]) hx hb dX5_longest_9 rfl hl (by decide) rfl (fun ls hl => ?_)
  have lp_10 : ∀ (j_10 : Nat) (i : Nat), (i ≤ n) → (n - i) < j_10 → ∀ ls : Array Slot, lv_has ls 3 [(0, .ref (a 0)), (1, .int (bnz (bmx (fun k => if bhd v (bln (V k)) == V k then bln (V k) else 0) i))), (2, .int (nI (i)))] → W p l e rm_X5_longest s m ([.ref (a 0)] : List Value).toArray below meth c H locs 0 0 QQ (F0 m 10 ls []) := by
    intro j_10
    induction j_10 with
    | zero => intro i _ h0; exact absurd h0 (Nat.not_lt_zero _)
    | succ j_10 ih_10 =>
      intro i hi hf_10 ls hl
      refine lv_iload_n hx hb dX5_longest_10 rfl (lv_at hl 2 rfl) ?_
      refine lv_aload_n hx hb dX5_longest_11 rfl (lv_at hl 0 rfl) ?_
      refine va_get (D := (dC, dI)) (ci := 4) (v := .int (nI (n))) (C := RX5) (T := TX5) (N := 16) hx hb hts hi5 hown hK hP 0 rfl rfl 6 (by decide) (hts (.fieldLink RX5 67 "BurstWordsModel" "many" "I") (by decide +kernel)) (fun _ h9 => h9) rfl dX5_longest_12 ?_
      refine n_ge (tgt := 67) hx hb dX5_longest_15 (by decide) (by omega) (by omega) (fun c_15 => ?_) (fun c_15 => ?_)
      · refine lv_iload_n hx hb dX5_longest_67 rfl (lv_at hl 1 rfl) ?_
        rw [← hQQ]
        exact m_i () hx hb hr hlocks (by rw [show i = n by omega]) hP hD hS dX5_longest_68
      · by_cases hsl : bmx (fun k => if bhd v (bln (V k)) == V k then bln (V k) else 0) i = 0
        · have hl := lv_cg (l' := [(0, .ref (a 0)), (1, .int ((-9 : Int32))), (2, .int (nI (i)))]) hl (by rw [show bnz (bmx (fun k => if bhd v (bln (V k)) == V k then bln (V k) else 0) i) = (-9 : Int32) from bnz_0 hsl])
          refine lv_aload_n hx hb dX5_longest_18 rfl (lv_at hl 0 rfl) ?_
          refine c_Vl (As := []) (rest := []) (ci := 4) (q0 := 0) S (c_X5_own l dC dI cI cJ cZ a ty tm b wo of n no nm un um sa sl si sn tk v V O K SA SL SI hmw hmd hmn hms ) (cwV 0 hts gX5_longest_X5_own rfl rfl rfl (by decide +kernel) ⟨Nat.le_of_ble_eq_true rfl, Nat.le_of_ble_eq_true rfl⟩) hK hP rfl rfl rfl hl.1 rfl (Nat.le_of_ble_eq_true rfl) dX5_longest_19 ⟨Nat.le_of_ble_eq_true rfl, Nat.le_of_ble_eq_true rfl⟩ ?_
          refine lv_aload_n hx hb dX5_longest_22 rfl (lv_at hl 0 rfl) ?_
          refine va_get (D := (dC, dI)) (ci := 4) (v := .ref (a 2)) (C := RX5) (T := TX5) (N := 16) hx hb hts hi5 hown hK hP 0 rfl rfl 4 (by decide) (hts (.fieldLink RX5 17 "BurstWordsModel" "word" "[J") (by decide +kernel)) (fun _ h9 => h9) rfl dX5_longest_23 ?_
          refine lv_iload_n hx hb dX5_longest_26 rfl (lv_at hl 2 rfl) ?_
          refine g_l hx hb hK hP 2 1 rfl rfl (k := i) (by omega) (by decide) dX5_longest_27 (v := lN (V i)) (hk _ (by omega)).1 ?_
          refine c_Si (As := [.long (lN (v)), .long (lN (V i))]) (rest := []) S (c_X5_begins l v (V i) (w63 hvw.1) (w63 (hk _ (by omega)).2.1.1)) (va_cwS 2 hts gX5_longest_X5_begins rfl rfl rfl (by decide +kernel) ⟨Nat.le_of_ble_eq_true rfl, Nat.le_of_ble_eq_true rfl⟩) rfl hl.1 rfl (Nat.le_of_ble_eq_true rfl) dX5_longest_28 ⟨Nat.le_of_ble_eq_true rfl, Nat.le_of_ble_eq_true rfl⟩ ?_
          refine b_eq (tgt := 59) hx hb dX5_longest_31 (by decide) (fun c_31 => ?_) (fun c_31 => ?_)
          · refine lv_iload_n hx hb dX5_longest_59 rfl (lv_at hl 1 rfl) ?_
            refine lv_istore_n (lv' := [(1, .int ((-9 : Int32))), (0, .ref (a 0)), (2, .int (nI (i)))]) hx hb dX5_longest_60 rfl hl (by decide) rfl (fun ls hl => ?_)
            refine lv_iinc (v := nI (i + 1)) (lv' := [(2, .int (nI (i + 1))), (1, .int ((-9 : Int32))), (0, .ref (a 0))]) hx hb dX5_longest_61 hl (k := 2) rfl (inc1 _) (by decide) rfl (fun ls hl => ?_)
            refine lv_goto (tgt := 10) hx hb dX5_longest_64 (by decide) ?_
            exact ih_10 (i + 1) (by omega) (by omega) ls (lv_cg (l := [(0, .ref (a 0)), (1, .int ((-9 : Int32))), (2, .int (nI (i + 1)))]) (lv_sub hl [2, 1, 0] rfl) (by rw [show bmx (fun k => if bhd v (bln (V k)) == V k then bln (V k) else 0) (i + 1) = bmx (fun k => if bhd v (bln (V k)) == V k then bln (V k) else 0) i from bmx_t (f := (fun k => if bhd v (bln (V k)) == V k then bln (V k) else 0)) (i := i) (by rw [if_neg (nt c_31)]; exact Nat.zero_le _), bnz_0 hsl]))
          · refine lv_aload_n hx hb dX5_longest_34 rfl (lv_at hl 0 rfl) ?_
            refine va_get (D := (dC, dI)) (ci := 4) (v := .ref (a 2)) (C := RX5) (T := TX5) (N := 16) hx hb hts hi5 hown hK hP 0 rfl rfl 4 (by decide) (hts (.fieldLink RX5 17 "BurstWordsModel" "word" "[J") (by decide +kernel)) (fun _ h9 => h9) rfl dX5_longest_35 ?_
            refine lv_iload_n hx hb dX5_longest_38 rfl (lv_at hl 2 rfl) ?_
            refine g_l hx hb hK hP 2 1 rfl rfl (k := i) (by omega) (by decide) dX5_longest_39 (v := lN (V i)) (hk _ (by omega)).1 ?_
            refine c_Si (As := [.long (lN (V i))]) (rest := []) S (c_X5_size l (V i) (w63 (hk _ (by omega)).2.1.1)) (va_cwS 1 hts gX5_longest_X5_size rfl rfl rfl (by decide +kernel) ⟨Nat.le_of_ble_eq_true rfl, Nat.le_of_ble_eq_true rfl⟩) rfl hl.1 rfl (Nat.le_of_ble_eq_true rfl) dX5_longest_40 ⟨Nat.le_of_ble_eq_true rfl, Nat.le_of_ble_eq_true rfl⟩ ?_
            refine lv_iload_n hx hb dX5_longest_43 rfl (lv_at hl 1 rfl) ?_
            refine lv_icmp_le (tgt := 59) hx hb dX5_longest_44 (by decide) (fun c_44 => ?_) (fun c_44 => ?_)
            · exact absurd c_44 (not9 (Nat.lt_of_le_of_lt (bln_le _) (by decide)))
            · refine lv_aload_n hx hb dX5_longest_47 rfl (lv_at hl 0 rfl) ?_
              refine va_get (D := (dC, dI)) (ci := 4) (v := .ref (a 2)) (C := RX5) (T := TX5) (N := 16) hx hb hts hi5 hown hK hP 0 rfl rfl 4 (by decide) (hts (.fieldLink RX5 17 "BurstWordsModel" "word" "[J") (by decide +kernel)) (fun _ h9 => h9) rfl dX5_longest_48 ?_
              refine lv_iload_n hx hb dX5_longest_51 rfl (lv_at hl 2 rfl) ?_
              refine g_l hx hb hK hP 2 1 rfl rfl (k := i) (by omega) (by decide) dX5_longest_52 (v := lN (V i)) (hk _ (by omega)).1 ?_
              refine c_Si (As := [.long (lN (V i))]) (rest := []) S (c_X5_size l (V i) (w63 (hk _ (by omega)).2.1.1)) (va_cwS 1 hts gX5_longest_X5_size rfl rfl rfl (by decide +kernel) ⟨Nat.le_of_ble_eq_true rfl, Nat.le_of_ble_eq_true rfl⟩) rfl hl.1 rfl (Nat.le_of_ble_eq_true rfl) dX5_longest_53 ⟨Nat.le_of_ble_eq_true rfl, Nat.le_of_ble_eq_true rfl⟩ ?_
              refine lv_goto (tgt := 60) hx hb dX5_longest_56 (by decide) ?_
              refine lv_istore_n (lv' := [(1, .int (nI (bln (V i)))), (0, .ref (a 0)), (2, .int (nI (i)))]) hx hb dX5_longest_60 rfl hl (by decide) rfl (fun ls hl => ?_)
              refine lv_iinc (v := nI (i + 1)) (lv' := [(2, .int (nI (i + 1))), (1, .int (nI (bln (V i)))), (0, .ref (a 0))]) hx hb dX5_longest_61 hl (k := 2) rfl (inc1 _) (by decide) rfl (fun ls hl => ?_)
              refine lv_goto (tgt := 10) hx hb dX5_longest_64 (by decide) ?_
              exact ih_10 (i + 1) (by omega) (by omega) ls (lv_cg (l := [(0, .ref (a 0)), (1, .int (nI (bln (V i)))), (2, .int (nI (i + 1)))]) (lv_sub hl [2, 1, 0] rfl) (by have hp0 := bln_pos (hk i c_15).2.1 (hk i c_15).2.2.1; rw [show bmx (fun k => if bhd v (bln (V k)) == V k then bln (V k) else 0) (i + 1) = bln (V i) from (bmx_s (f := (fun k => if bhd v (bln (V k)) == V k then bln (V k) else 0)) (i := i) (by rw [if_pos c_31, hsl]; exact hp0)).trans (if_pos c_31), bnz_p (Nat.pos_iff_ne_zero.mp hp0)]))
        · have hl := lv_cg (l' := [(0, .ref (a 0)), (1, .int (nI (bmx (fun k => if bhd v (bln (V k)) == V k then bln (V k) else 0) i))), (2, .int (nI (i)))]) hl (by rw [show bnz (bmx (fun k => if bhd v (bln (V k)) == V k then bln (V k) else 0) i) = nI (bmx (fun k => if bhd v (bln (V k)) == V k then bln (V k) else 0) i) from bnz_p hsl])
          refine lv_aload_n hx hb dX5_longest_18 rfl (lv_at hl 0 rfl) ?_
          refine c_Vl (As := []) (rest := []) (ci := 4) (q0 := 0) S (c_X5_own l dC dI cI cJ cZ a ty tm b wo of n no nm un um sa sl si sn tk v V O K SA SL SI hmw hmd hmn hms ) (cwV 0 hts gX5_longest_X5_own rfl rfl rfl (by decide +kernel) ⟨Nat.le_of_ble_eq_true rfl, Nat.le_of_ble_eq_true rfl⟩) hK hP rfl rfl rfl hl.1 rfl (Nat.le_of_ble_eq_true rfl) dX5_longest_19 ⟨Nat.le_of_ble_eq_true rfl, Nat.le_of_ble_eq_true rfl⟩ ?_
          refine lv_aload_n hx hb dX5_longest_22 rfl (lv_at hl 0 rfl) ?_
          refine va_get (D := (dC, dI)) (ci := 4) (v := .ref (a 2)) (C := RX5) (T := TX5) (N := 16) hx hb hts hi5 hown hK hP 0 rfl rfl 4 (by decide) (hts (.fieldLink RX5 17 "BurstWordsModel" "word" "[J") (by decide +kernel)) (fun _ h9 => h9) rfl dX5_longest_23 ?_
          refine lv_iload_n hx hb dX5_longest_26 rfl (lv_at hl 2 rfl) ?_
          refine g_l hx hb hK hP 2 1 rfl rfl (k := i) (by omega) (by decide) dX5_longest_27 (v := lN (V i)) (hk _ (by omega)).1 ?_
          refine c_Si (As := [.long (lN (v)), .long (lN (V i))]) (rest := []) S (c_X5_begins l v (V i) (w63 hvw.1) (w63 (hk _ (by omega)).2.1.1)) (va_cwS 2 hts gX5_longest_X5_begins rfl rfl rfl (by decide +kernel) ⟨Nat.le_of_ble_eq_true rfl, Nat.le_of_ble_eq_true rfl⟩) rfl hl.1 rfl (Nat.le_of_ble_eq_true rfl) dX5_longest_28 ⟨Nat.le_of_ble_eq_true rfl, Nat.le_of_ble_eq_true rfl⟩ ?_
          refine b_eq (tgt := 59) hx hb dX5_longest_31 (by decide) (fun c_31 => ?_) (fun c_31 => ?_)
          · refine lv_iload_n hx hb dX5_longest_59 rfl (lv_at hl 1 rfl) ?_
            refine lv_istore_n (lv' := [(1, .int (nI (bmx (fun k => if bhd v (bln (V k)) == V k then bln (V k) else 0) i))), (0, .ref (a 0)), (2, .int (nI (i)))]) hx hb dX5_longest_60 rfl hl (by decide) rfl (fun ls hl => ?_)
            refine lv_iinc (v := nI (i + 1)) (lv' := [(2, .int (nI (i + 1))), (1, .int (nI (bmx (fun k => if bhd v (bln (V k)) == V k then bln (V k) else 0) i))), (0, .ref (a 0))]) hx hb dX5_longest_61 hl (k := 2) rfl (inc1 _) (by decide) rfl (fun ls hl => ?_)
            refine lv_goto (tgt := 10) hx hb dX5_longest_64 (by decide) ?_
            exact ih_10 (i + 1) (by omega) (by omega) ls (lv_cg (l := [(0, .ref (a 0)), (1, .int (nI (bmx (fun k => if bhd v (bln (V k)) == V k then bln (V k) else 0) i))), (2, .int (nI (i + 1)))]) (lv_sub hl [2, 1, 0] rfl) (by rw [show bmx (fun k => if bhd v (bln (V k)) == V k then bln (V k) else 0) (i + 1) = bmx (fun k => if bhd v (bln (V k)) == V k then bln (V k) else 0) i from bmx_t (f := (fun k => if bhd v (bln (V k)) == V k then bln (V k) else 0)) (i := i) (by rw [if_neg (nt c_31)]; exact Nat.zero_le _), bnz_p hsl]))
          · refine lv_aload_n hx hb dX5_longest_34 rfl (lv_at hl 0 rfl) ?_
            refine va_get (D := (dC, dI)) (ci := 4) (v := .ref (a 2)) (C := RX5) (T := TX5) (N := 16) hx hb hts hi5 hown hK hP 0 rfl rfl 4 (by decide) (hts (.fieldLink RX5 17 "BurstWordsModel" "word" "[J") (by decide +kernel)) (fun _ h9 => h9) rfl dX5_longest_35 ?_
            refine lv_iload_n hx hb dX5_longest_38 rfl (lv_at hl 2 rfl) ?_
            refine g_l hx hb hK hP 2 1 rfl rfl (k := i) (by omega) (by decide) dX5_longest_39 (v := lN (V i)) (hk _ (by omega)).1 ?_
            refine c_Si (As := [.long (lN (V i))]) (rest := []) S (c_X5_size l (V i) (w63 (hk _ (by omega)).2.1.1)) (va_cwS 1 hts gX5_longest_X5_size rfl rfl rfl (by decide +kernel) ⟨Nat.le_of_ble_eq_true rfl, Nat.le_of_ble_eq_true rfl⟩) rfl hl.1 rfl (Nat.le_of_ble_eq_true rfl) dX5_longest_40 ⟨Nat.le_of_ble_eq_true rfl, Nat.le_of_ble_eq_true rfl⟩ ?_
            refine lv_iload_n hx hb dX5_longest_43 rfl (lv_at hl 1 rfl) ?_
            refine n_le (tgt := 59) hx hb dX5_longest_44 (by decide) (Nat.lt_of_le_of_lt (bln_le _) (by decide)) (Nat.lt_of_le_of_lt (bmx_le (c := 7) (fun k _ => by have := bln_le (V k); split <;> omega)) (by decide)) (fun c_44 => ?_) (fun c_44 => ?_)
            · refine lv_iload_n hx hb dX5_longest_59 rfl (lv_at hl 1 rfl) ?_
              refine lv_istore_n (lv' := [(1, .int (nI (bmx (fun k => if bhd v (bln (V k)) == V k then bln (V k) else 0) i))), (0, .ref (a 0)), (2, .int (nI (i)))]) hx hb dX5_longest_60 rfl hl (by decide) rfl (fun ls hl => ?_)
              refine lv_iinc (v := nI (i + 1)) (lv' := [(2, .int (nI (i + 1))), (1, .int (nI (bmx (fun k => if bhd v (bln (V k)) == V k then bln (V k) else 0) i))), (0, .ref (a 0))]) hx hb dX5_longest_61 hl (k := 2) rfl (inc1 _) (by decide) rfl (fun ls hl => ?_)
              refine lv_goto (tgt := 10) hx hb dX5_longest_64 (by decide) ?_
              exact ih_10 (i + 1) (by omega) (by omega) ls (lv_cg (l := [(0, .ref (a 0)), (1, .int (nI (bmx (fun k => if bhd v (bln (V k)) == V k then bln (V k) else 0) i))), (2, .int (nI (i + 1)))]) (lv_sub hl [2, 1, 0] rfl) (by rw [show bmx (fun k => if bhd v (bln (V k)) == V k then bln (V k) else 0) (i + 1) = bmx (fun k => if bhd v (bln (V k)) == V k then bln (V k) else 0) i from bmx_t (f := (fun k => if bhd v (bln (V k)) == V k then bln (V k) else 0)) (i := i) (by rw [if_pos c_31]; exact c_44), bnz_p hsl]))
            · refine lv_aload_n hx hb dX5_longest_47 rfl (lv_at hl 0 rfl) ?_
              refine va_get (D := (dC, dI)) (ci := 4) (v := .ref (a 2)) (C := RX5) (T := TX5) (N := 16) hx hb hts hi5 hown hK hP 0 rfl rfl 4 (by decide) (hts (.fieldLink RX5 17 "BurstWordsModel" "word" "[J") (by decide +kernel)) (fun _ h9 => h9) rfl dX5_longest_48 ?_
              refine lv_iload_n hx hb dX5_longest_51 rfl (lv_at hl 2 rfl) ?_
              refine g_l hx hb hK hP 2 1 rfl rfl (k := i) (by omega) (by decide) dX5_longest_52 (v := lN (V i)) (hk _ (by omega)).1 ?_
              refine c_Si (As := [.long (lN (V i))]) (rest := []) S (c_X5_size l (V i) (w63 (hk _ (by omega)).2.1.1)) (va_cwS 1 hts gX5_longest_X5_size rfl rfl rfl (by decide +kernel) ⟨Nat.le_of_ble_eq_true rfl, Nat.le_of_ble_eq_true rfl⟩) rfl hl.1 rfl (Nat.le_of_ble_eq_true rfl) dX5_longest_53 ⟨Nat.le_of_ble_eq_true rfl, Nat.le_of_ble_eq_true rfl⟩ ?_
              refine lv_goto (tgt := 60) hx hb dX5_longest_56 (by decide) ?_
              refine lv_istore_n (lv' := [(1, .int (nI (bln (V i)))), (0, .ref (a 0)), (2, .int (nI (i)))]) hx hb dX5_longest_60 rfl hl (by decide) rfl (fun ls hl => ?_)
              refine lv_iinc (v := nI (i + 1)) (lv' := [(2, .int (nI (i + 1))), (1, .int (nI (bln (V i)))), (0, .ref (a 0))]) hx hb dX5_longest_61 hl (k := 2) rfl (inc1 _) (by decide) rfl (fun ls hl => ?_)
              refine lv_goto (tgt := 10) hx hb dX5_longest_64 (by decide) ?_
              exact ih_10 (i + 1) (by omega) (by omega) ls (lv_cg (l := [(0, .ref (a 0)), (1, .int (nI (bln (V i)))), (2, .int (nI (i + 1)))]) (lv_sub hl [2, 1, 0] rfl) (by have hp0 := bln_pos (hk i c_15).2.1 (hk i c_15).2.2.1; rw [show bmx (fun k => if bhd v (bln (V k)) == V k then bln (V k) else 0) (i + 1) = bln (V i) from (bmx_s (f := (fun k => if bhd v (bln (V k)) == V k then bln (V k) else 0)) (i := i) (by rw [if_pos c_31]; exact c_44)).trans (if_pos c_31), bnz_p (Nat.pos_iff_ne_zero.mp hp0)]))
  exact lp_10 _ (0) (by omega) (Nat.lt_succ_self _) ls (lv_sub hl [2, 1, 0] rfl)
