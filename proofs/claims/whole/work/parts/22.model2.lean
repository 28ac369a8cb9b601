def bco (K : Nat → Nat) (nm : Nat) (V : Nat → Nat) (k : Nat) : Bool := decide (bcs K nm (V k) < bln (V k) + 1) && (k == 0 || !decide (bopt (bln (V (k - 1)) + 1) (bcs K nm (V (k - 1))) = nI (bcs K nm (V k))) || bhd (V (k - 1)) (bcs K nm (V k)) != bhd (V k) (bcs K nm (V k)))
theorem bde_le (K : Nat → Nat) (nm w : Nat) : bde K nm w ≤ 8 := Nat.le_trans (fb_ct_le _ _) (Nat.succ_le_succ (bln_le w))
theorem not9 {x : Nat} (h : x < 2 ^ 31) : ¬ nI x ≤ -9 := by
  intro q
  rw [Int32.le_iff_toInt_le, nI_toInt h] at q
  have : (-9 : Int32).toInt = -9 := by decide
  omega
def bsd (g : Bool) (i : Nat) (f : Nat → Nat) : Int32 := if g then bno i (bmx f i) else nI (bpr f i)
abbrev rm_X5_containers : Room := { frames := 4, cells := 0, slots := 0, locals := 90 }
set_option maxHeartbeats 4000000 in
set_option maxRecDepth 100000 in
theorem c_X5_containers (l : Launch) (dC : Nat → ClassId) (dI : Nat → Nat → Nat) (cI cJ cZ : ClassId) (a : Nat → Nat) (ty : Nat → Int32) (tm b : Nat) (wo : Nat → Int64) (of : Nat → Int32) (n : Nat) (no : Nat → Int64) (nm : Nat) (un : Nat → Int64) (um : Nat) (sa sl si : Nat → Int32) (sn : Nat) (tk : Nat → Int32) (v : Nat) (V O K SA SL SI : Nat → Nat) (hmw : bMW ty tm v) (hmd : bMD wo of n V O) (hmn : bMN no nm K) (hms : bMS sa sl si sn SA SL SI) : Met l yX5_containers wsX5_containers rm_X5_containers (rPc (dC, dI) (tysA cI cJ cZ) (wm a cI cJ cZ ty tm b wo of n no nm un um sa sl si sn tk) [.ref (a 0)]) (Ri (nI (fb_ct (bco K nm V) n))) 0 0 (fun _ => False) := by
  refine met_r (cc := cX5_containers) (maxL := 5) (ret := (some .int)) (own := RX5) (by decide) rfl rfl (Nat.le_of_ble_eq_true rfl) ?_
  intro p e s m below meth c S hr hlocks hP hK ls hl
  obtain ⟨hx, hb, hml, hown, hts⟩ := id S
  have hl : lv_has ls 5 [(0, .ref (a 0))] := hl
  have hi5 : ∀ w ∈ wsX50, w ∈ wsX5_containers := fun _ h => List.mem_cons_of_mem _ (List.mem_append_right _ h)
  obtain ⟨hvw, htm, hty⟩ := id hmw; obtain ⟨hn, hk⟩ := id hmd; obtain ⟨hnm, hkn⟩ := id hmn; obtain ⟨hsn, hks⟩ := id hms
  refine lv_iconst (v := nI (0)) hx hb dX5_containers_0 (by decide) ?_
  refine lv_istore_n (lv' := [(1, .int (nI (0))), (0, .ref (a 0))]) hx hb dX5_containers_1 rfl hl (by decide) rfl (fun ls hl => ?_)
  refine lv_iconst (v := nI (0)) hx hb dX5_containers_2 (by decide) ?_
  refine lv_istore_n (lv' := [(2, .int (nI (0))), (1, .int (nI (0))), (0, .ref (a 0))]) hx hb dX5_containers_3 rfl hl (by decide) rfl (fun ls hl => ?_)
  have lp_4 : ∀ (j_4 : Nat) (i : Nat), (i ≤ n) → (n - i) < j_4 → ∀ ls : Array Slot, lv_has ls 5 [(0, .ref (a 0)), (1, .int (nI (fb_ct (bco K nm V) i))), (2, .int (nI (i)))] → W p l e rm_X5_containers s m ([.ref (a 0)] : List Value).toArray below meth c s.heap [] 0 0 (MQ below (Ri (nI (fb_ct (bco K nm V) n))) ([.ref (a 0)] : List Value).toArray s 0 0 (fun _ => False)) (F0 m 4 ls []) := by
    intro j_4
    induction j_4 with
    | zero => intro i _ h0; exact absurd h0 (Nat.not_lt_zero _)
    | succ j_4 ih_4 =>
      intro i hi hf_4 ls hl
      refine lv_iload_n hx hb dX5_containers_4 rfl (lv_at hl 2 rfl) ?_
      refine lv_aload_n hx hb dX5_containers_5 rfl (lv_at hl 0 rfl) ?_
      refine va_get (D := (dC, dI)) (ci := 4) (v := .int (nI (n))) (C := RX5) (T := TX5) (N := 16) hx hb hts hi5 hown hK hP 0 rfl rfl 6 (by decide) (hts (.fieldLink RX5 67 "BurstWordsModel" "many" "I") (by decide +kernel)) (fun _ h9 => h9) rfl dX5_containers_6 ?_
      refine n_ge (tgt := 99) hx hb dX5_containers_9 (by decide) (by omega) (by omega) (fun c_9 => ?_) (fun c_9 => ?_)
      · refine lv_iload_n hx hb dX5_containers_99 rfl (lv_at hl 1 rfl) ?_
        exact r_i hx hb hr hlocks (by rw [show i = n by omega]) dX5_containers_100
      · refine lv_aload_n hx hb dX5_containers_12 rfl (lv_at hl 0 rfl) ?_
        refine lv_aload_n hx hb dX5_containers_13 rfl (lv_at hl 0 rfl) ?_
        refine va_get (D := (dC, dI)) (ci := 4) (v := .ref (a 2)) (C := RX5) (T := TX5) (N := 16) hx hb hts hi5 hown hK hP 0 rfl rfl 4 (by decide) (hts (.fieldLink RX5 17 "BurstWordsModel" "word" "[J") (by decide +kernel)) (fun _ h9 => h9) rfl dX5_containers_14 ?_
        refine lv_iload_n hx hb dX5_containers_17 rfl (lv_at hl 2 rfl) ?_
        refine g_l hx hb hK hP 2 1 rfl rfl (k := i) (by omega) (by decide) dX5_containers_18 (v := lN (V i)) (hk _ (by omega)).1 ?_
        refine c_Vi (As := [.long (lN (V i))]) (rest := []) (ci := 4) (q0 := 0) S (c_X5_containerSize l dC dI cI cJ cZ a ty tm b wo of n no nm un um sa sl si sn tk v V O K SA SL SI hmw hmd hmn hms (V i) (w63 (hk _ (by omega)).2.1.1)) (cwV 1 hts gX5_containers_X5_containerSize rfl rfl rfl (by decide +kernel) ⟨Nat.le_of_ble_eq_true rfl, Nat.le_of_ble_eq_true rfl⟩) hK hP rfl rfl rfl hl.1 rfl (Nat.le_of_ble_eq_true rfl) dX5_containers_19 ⟨Nat.le_of_ble_eq_true rfl, Nat.le_of_ble_eq_true rfl⟩ ?_
        by_cases hcs : bcs K nm (V i) < bln (V i) + 1
        · refine tpi (bopt_y hcs) ?_
          refine lv_istore_n (lv' := [(3, .int (nI (bcs K nm (V i)))), (0, .ref (a 0)), (1, .int (nI (fb_ct (bco K nm V) i))), (2, .int (nI (i)))]) hx hb dX5_containers_22 rfl hl (by decide) rfl (fun ls hl => ?_)
          refine lv_iload_n hx hb dX5_containers_23 rfl (lv_at hl 0 rfl) ?_
          refine z_lt (tgt := 77) hx hb dX5_containers_24 (by decide) (by have := bln_le (V i); omega) ?_
          refine lv_iload_n hx hb dX5_containers_27 rfl (lv_at hl 3 rfl) ?_
          refine z_eq (tgt := 73) hx hb dX5_containers_28 (by decide) (by omega) (fun c_28 => ?_) (fun c_28 => ?_)
          · refine lv_iconst (v := nI (1)) hx hb dX5_containers_73 (by decide) ?_
            refine lv_goto (tgt := 78) hx hb dX5_containers_74 (by decide) ?_
            refine lv_istore (lv' := [(4, .int (nI (1))), (3, .int (nI (bcs K nm (V i)))), (0, .ref (a 0)), (1, .int (nI (fb_ct (bco K nm V) i))), (2, .int (nI (i)))]) hx hb dX5_containers_78 hl (by decide) rfl (fun ls hl => ?_)
            refine lv_iload_n hx hb dX5_containers_80 rfl (lv_at hl 3 rfl) ?_
            refine lv_iload hx hb dX5_containers_81 (lv_at hl 0 rfl) ?_
            refine z_eq (tgt := 90) hx hb dX5_containers_83 (by decide) (by omega) (fun c_83 => ?_) (fun c_83 => ?_)
            · exact absurd c_83 (by decide)
            · refine lv_iconst (v := nI (1)) hx hb dX5_containers_86 (by decide) ?_
              refine lv_goto (tgt := 91) hx hb dX5_containers_87 (by decide) ?_
              refine lv_iadd hx hb dX5_containers_91 ?_
              refine tpi (nI_add _ _) ?_
              refine lv_istore_n (lv' := [(1, .int (nI ((fb_ct (bco K nm V) i) + 1))), (4, .int (nI (1))), (3, .int (nI (bcs K nm (V i)))), (0, .ref (a 0)), (2, .int (nI (i)))]) hx hb dX5_containers_92 rfl hl (by decide) rfl (fun ls hl => ?_)
              refine lv_iinc (v := nI (i + 1)) (lv' := [(2, .int (nI (i + 1))), (1, .int (nI ((fb_ct (bco K nm V) i) + 1))), (4, .int (nI (1))), (3, .int (nI (bcs K nm (V i)))), (0, .ref (a 0))]) hx hb dX5_containers_93 hl (k := 4) rfl (inc1 _) (by decide) rfl (fun ls hl => ?_)
              refine lv_goto (tgt := 4) hx hb dX5_containers_96 (by decide) ?_
              exact ih_4 (i + 1) (by omega) (by omega) ls (lv_cg (l := [(0, .ref (a 0)), (1, .int (nI ((fb_ct (bco K nm V) i) + 1))), (2, .int (nI (i + 1)))]) (lv_sub hl [4, 1, 0] rfl) (by rw [ct_y (p := (bco K nm V)) (n := i) (by rw [bco, decide_eq_true hcs, show (i == 0) = true by simp [c_28]]; rfl)]))
          · refine lv_aload_n hx hb dX5_containers_31 rfl (lv_at hl 1 rfl) ?_
            refine lv_aload_n hx hb dX5_containers_32 rfl (lv_at hl 1 rfl) ?_
            refine va_get (D := (dC, dI)) (ci := 4) (v := .ref (a 2)) (C := RX5) (T := TX5) (N := 16) hx hb hts hi5 hown hK hP 0 rfl rfl 4 (by decide) (hts (.fieldLink RX5 17 "BurstWordsModel" "word" "[J") (by decide +kernel)) (fun _ h9 => h9) rfl dX5_containers_33 ?_
            refine lv_iload_n hx hb dX5_containers_36 rfl (lv_at hl 3 rfl) ?_
            refine lv_iconst (v := nI (1)) hx hb dX5_containers_37 (by decide) ?_
            refine lv_isub hx hb dX5_containers_38 ?_
            refine tpi (pk_sub (by omega)) ?_
            refine g_l hx hb hK hP 2 1 rfl rfl (k := i - 1) (by omega) (by decide) dX5_containers_39 (v := lN (V (i - 1))) (hk _ (by omega)).1 ?_
            refine c_Vi (As := [.long (lN (V (i - 1)))]) (rest := []) (ci := 4) (q0 := 0) S (c_X5_containerSize l dC dI cI cJ cZ a ty tm b wo of n no nm un um sa sl si sn tk v V O K SA SL SI hmw hmd hmn hms (V (i - 1)) (w63 (hk _ (by omega)).2.1.1)) (cwV 1 hts gX5_containers_X5_containerSize rfl rfl rfl (by decide +kernel) ⟨Nat.le_of_ble_eq_true rfl, Nat.le_of_ble_eq_true rfl⟩) hK hP rfl rfl rfl hl.1 rfl (Nat.le_of_ble_eq_true rfl) dX5_containers_40 ⟨Nat.le_of_ble_eq_true rfl, Nat.le_of_ble_eq_true rfl⟩ ?_
            refine lv_iload_n hx hb dX5_containers_43 rfl (lv_at hl 0 rfl) ?_
            refine lv_icmp_ne (tgt := 73) hx hb dX5_containers_44 (by decide) (fun c_44 => ?_) (fun c_44 => ?_)
            · refine lv_iconst (v := nI (1)) hx hb dX5_containers_73 (by decide) ?_
              refine lv_goto (tgt := 78) hx hb dX5_containers_74 (by decide) ?_
              refine lv_istore (lv' := [(4, .int (nI (1))), (3, .int (nI (bcs K nm (V i)))), (0, .ref (a 0)), (1, .int (nI (fb_ct (bco K nm V) i))), (2, .int (nI (i)))]) hx hb dX5_containers_78 hl (by decide) rfl (fun ls hl => ?_)
              refine lv_iload_n hx hb dX5_containers_80 rfl (lv_at hl 3 rfl) ?_
              refine lv_iload hx hb dX5_containers_81 (lv_at hl 0 rfl) ?_
              refine z_eq (tgt := 90) hx hb dX5_containers_83 (by decide) (by omega) (fun c_83 => ?_) (fun c_83 => ?_)
              · exact absurd c_83 (by decide)
              · refine lv_iconst (v := nI (1)) hx hb dX5_containers_86 (by decide) ?_
                refine lv_goto (tgt := 91) hx hb dX5_containers_87 (by decide) ?_
                refine lv_iadd hx hb dX5_containers_91 ?_
                refine tpi (nI_add _ _) ?_
                refine lv_istore_n (lv' := [(1, .int (nI ((fb_ct (bco K nm V) i) + 1))), (4, .int (nI (1))), (3, .int (nI (bcs K nm (V i)))), (0, .ref (a 0)), (2, .int (nI (i)))]) hx hb dX5_containers_92 rfl hl (by decide) rfl (fun ls hl => ?_)
                refine lv_iinc (v := nI (i + 1)) (lv' := [(2, .int (nI (i + 1))), (1, .int (nI ((fb_ct (bco K nm V) i) + 1))), (4, .int (nI (1))), (3, .int (nI (bcs K nm (V i)))), (0, .ref (a 0))]) hx hb dX5_containers_93 hl (k := 4) rfl (inc1 _) (by decide) rfl (fun ls hl => ?_)
                refine lv_goto (tgt := 4) hx hb dX5_containers_96 (by decide) ?_
                exact ih_4 (i + 1) (by omega) (by omega) ls (lv_cg (l := [(0, .ref (a 0)), (1, .int (nI ((fb_ct (bco K nm V) i) + 1))), (2, .int (nI (i + 1)))]) (lv_sub hl [4, 1, 0] rfl) (by rw [ct_y (p := (bco K nm V)) (n := i) (by rw [bco, decide_eq_true hcs, decide_eq_false c_44]; simp)]))
            · refine lv_aload_n hx hb dX5_containers_47 rfl (lv_at hl 1 rfl) ?_
              refine va_get (D := (dC, dI)) (ci := 4) (v := .ref (a 2)) (C := RX5) (T := TX5) (N := 16) hx hb hts hi5 hown hK hP 0 rfl rfl 4 (by decide) (hts (.fieldLink RX5 17 "BurstWordsModel" "word" "[J") (by decide +kernel)) (fun _ h9 => h9) rfl dX5_containers_48 ?_
              refine lv_iload_n hx hb dX5_containers_51 rfl (lv_at hl 3 rfl) ?_
              refine lv_iconst (v := nI (1)) hx hb dX5_containers_52 (by decide) ?_
              refine lv_isub hx hb dX5_containers_53 ?_
              refine tpi (pk_sub (by omega)) ?_
              refine g_l hx hb hK hP 2 1 rfl rfl (k := i - 1) (by omega) (by decide) dX5_containers_54 (v := lN (V (i - 1))) (hk _ (by omega)).1 ?_
              refine lv_iload_n hx hb dX5_containers_55 rfl (lv_at hl 0 rfl) ?_
              refine c_Sl (As := [.long (lN (V (i - 1))), .int (nI (bcs K nm (V i)))]) (rest := []) S (c_X5_head l (V (i - 1)) (bcs K nm (V i)) (w63 (hk _ (by omega)).2.1.1) (by have := bln_le (V i); omega)) (va_cwS 2 hts gX5_containers_X5_head rfl rfl rfl (by decide +kernel) ⟨Nat.le_of_ble_eq_true rfl, Nat.le_of_ble_eq_true rfl⟩) rfl hl.1 rfl (Nat.le_of_ble_eq_true rfl) dX5_containers_56 ⟨Nat.le_of_ble_eq_true rfl, Nat.le_of_ble_eq_true rfl⟩ ?_
              refine lv_aload_n hx hb dX5_containers_59 rfl (lv_at hl 1 rfl) ?_
              refine va_get (D := (dC, dI)) (ci := 4) (v := .ref (a 2)) (C := RX5) (T := TX5) (N := 16) hx hb hts hi5 hown hK hP 0 rfl rfl 4 (by decide) (hts (.fieldLink RX5 17 "BurstWordsModel" "word" "[J") (by decide +kernel)) (fun _ h9 => h9) rfl dX5_containers_60 ?_
              refine lv_iload_n hx hb dX5_containers_63 rfl (lv_at hl 3 rfl) ?_
              refine g_l hx hb hK hP 2 1 rfl rfl (k := i) (by omega) (by decide) dX5_containers_64 (v := lN (V i)) (hk _ (by omega)).1 ?_
              refine lv_iload_n hx hb dX5_containers_65 rfl (lv_at hl 0 rfl) ?_
              refine c_Sl (As := [.long (lN (V i)), .int (nI (bcs K nm (V i)))]) (rest := [.long (lN (bhd (V (i - 1)) (bcs K nm (V i))))]) S (c_X5_head l (V i) (bcs K nm (V i)) (w63 (hk _ (by omega)).2.1.1) (by have := bln_le (V i); omega)) (va_cwS 2 hts gX5_containers_X5_head rfl rfl rfl (by decide +kernel) ⟨Nat.le_of_ble_eq_true rfl, Nat.le_of_ble_eq_true rfl⟩) rfl hl.1 rfl (Nat.le_of_ble_eq_true rfl) dX5_containers_66 ⟨Nat.le_of_ble_eq_true rfl, Nat.le_of_ble_eq_true rfl⟩ ?_
              refine q_eq (tgt := 77) hx hb dX5_containers_69 dX5_containers_70 (by decide) (Nat.lt_of_le_of_lt (bhd_le _ _) (w63 (hk _ (by omega)).2.1.1)) (Nat.lt_of_le_of_lt (bhd_le _ _) (w63 (hk _ (by omega)).2.1.1)) (fun c_69 => ?_) (fun c_69 => ?_)
              · refine lv_iconst (v := nI (0)) hx hb dX5_containers_77 (by decide) ?_
                refine lv_istore (lv' := [(4, .int (nI (0))), (3, .int (nI (bcs K nm (V i)))), (0, .ref (a 0)), (1, .int (nI (fb_ct (bco K nm V) i))), (2, .int (nI (i)))]) hx hb dX5_containers_78 hl (by decide) rfl (fun ls hl => ?_)
                refine lv_iload_n hx hb dX5_containers_80 rfl (lv_at hl 3 rfl) ?_
                refine lv_iload hx hb dX5_containers_81 (lv_at hl 0 rfl) ?_
                refine z_eq (tgt := 90) hx hb dX5_containers_83 (by decide) (by omega) (fun c_83 => ?_) (fun c_83 => ?_)
                · refine lv_iconst (v := nI (0)) hx hb dX5_containers_90 (by decide) ?_
                  refine lv_iadd hx hb dX5_containers_91 ?_
                  refine tpi (nI_add _ _) ?_
                  refine lv_istore_n (lv' := [(1, .int (nI ((fb_ct (bco K nm V) i) + 0))), (4, .int (nI (0))), (3, .int (nI (bcs K nm (V i)))), (0, .ref (a 0)), (2, .int (nI (i)))]) hx hb dX5_containers_92 rfl hl (by decide) rfl (fun ls hl => ?_)
                  refine lv_iinc (v := nI (i + 1)) (lv' := [(2, .int (nI (i + 1))), (1, .int (nI ((fb_ct (bco K nm V) i) + 0))), (4, .int (nI (0))), (3, .int (nI (bcs K nm (V i)))), (0, .ref (a 0))]) hx hb dX5_containers_93 hl (k := 4) rfl (inc1 _) (by decide) rfl (fun ls hl => ?_)
                  refine lv_goto (tgt := 4) hx hb dX5_containers_96 (by decide) ?_
                  exact ih_4 (i + 1) (by omega) (by omega) ls (lv_cg (l := [(0, .ref (a 0)), (1, .int (nI ((fb_ct (bco K nm V) i) + 0))), (2, .int (nI (i + 1)))]) (lv_sub hl [4, 1, 0] rfl) (by rw [ct_n (p := (bco K nm V)) (n := i) (by rw [bco, decide_eq_true hcs, decide_eq_true c_44, c_69, beq_false_of_ne (Nat.pos_iff_ne_zero.mp c_28)]; simp)]; simp only [Nat.add_zero]))
                · exact absurd c_83 (by decide)
              · refine lv_iconst (v := nI (1)) hx hb dX5_containers_73 (by decide) ?_
                refine lv_goto (tgt := 78) hx hb dX5_containers_74 (by decide) ?_
                refine lv_istore (lv' := [(4, .int (nI (1))), (3, .int (nI (bcs K nm (V i)))), (0, .ref (a 0)), (1, .int (nI (fb_ct (bco K nm V) i))), (2, .int (nI (i)))]) hx hb dX5_containers_78 hl (by decide) rfl (fun ls hl => ?_)
                refine lv_iload_n hx hb dX5_containers_80 rfl (lv_at hl 3 rfl) ?_
                refine lv_iload hx hb dX5_containers_81 (lv_at hl 0 rfl) ?_
                refine z_eq (tgt := 90) hx hb dX5_containers_83 (by decide) (by omega) (fun c_83 => ?_) (fun c_83 => ?_)
                · exact absurd c_83 (by decide)
                · refine lv_iconst (v := nI (1)) hx hb dX5_containers_86 (by decide) ?_
                  refine lv_goto (tgt := 91) hx hb dX5_containers_87 (by decide) ?_
                  refine lv_iadd hx hb dX5_containers_91 ?_
                  refine tpi (nI_add _ _) ?_
                  refine lv_istore_n (lv' := [(1, .int (nI ((fb_ct (bco K nm V) i) + 1))), (4, .int (nI (1))), (3, .int (nI (bcs K nm (V i)))), (0, .ref (a 0)), (2, .int (nI (i)))]) hx hb dX5_containers_92 rfl hl (by decide) rfl (fun ls hl => ?_)
                  refine lv_iinc (v := nI (i + 1)) (lv' := [(2, .int (nI (i + 1))), (1, .int (nI ((fb_ct (bco K nm V) i) + 1))), (4, .int (nI (1))), (3, .int (nI (bcs K nm (V i)))), (0, .ref (a 0))]) hx hb dX5_containers_93 hl (k := 4) rfl (inc1 _) (by decide) rfl (fun ls hl => ?_)
                  refine lv_goto (tgt := 4) hx hb dX5_containers_96 (by decide) ?_
                  exact ih_4 (i + 1) (by omega) (by omega) ls (lv_cg (l := [(0, .ref (a 0)), (1, .int (nI ((fb_ct (bco K nm V) i) + 1))), (2, .int (nI (i + 1)))]) (lv_sub hl [4, 1, 0] rfl) (by rw [ct_y (p := (bco K nm V)) (n := i) (by rw [bco, decide_eq_true hcs, bne_iff_ne.mpr c_69]; simp)]))
        · refine tpi (bopt_n hcs) ?_
          refine lv_istore_n (lv' := [(3, .int ((-1 : Int32))), (0, .ref (a 0)), (1, .int (nI (fb_ct (bco K nm V) i))), (2, .int (nI (i)))]) hx hb dX5_containers_22 rfl hl (by decide) rfl (fun ls hl => ?_)
          refine lv_iload_n hx hb dX5_containers_23 rfl (lv_at hl 0 rfl) ?_
          refine lv_if_lt (tgt := 77) hx hb dX5_containers_24 (by decide) (fun _ => ?_) (fun q => absurd (by decide) q)
          refine lv_iconst (v := nI (0)) hx hb dX5_containers_77 (by decide) ?_
          refine lv_istore (lv' := [(4, .int (nI (0))), (3, .int ((-1 : Int32))), (0, .ref (a 0)), (1, .int (nI (fb_ct (bco K nm V) i))), (2, .int (nI (i)))]) hx hb dX5_containers_78 hl (by decide) rfl (fun ls hl => ?_)
          refine lv_iload_n hx hb dX5_containers_80 rfl (lv_at hl 3 rfl) ?_
          refine lv_iload hx hb dX5_containers_81 (lv_at hl 0 rfl) ?_
          refine z_eq (tgt := 90) hx hb dX5_containers_83 (by decide) (by omega) (fun c_83 => ?_) (fun c_83 => ?_)
          · refine lv_iconst (v := nI (0)) hx hb dX5_containers_90 (by decide) ?_
            refine lv_iadd hx hb dX5_containers_91 ?_
            refine tpi (nI_add _ _) ?_
            refine lv_istore_n (lv' := [(1, .int (nI ((fb_ct (bco K nm V) i) + 0))), (4, .int (nI (0))), (3, .int ((-1 : Int32))), (0, .ref (a 0)), (2, .int (nI (i)))]) hx hb dX5_containers_92 rfl hl (by decide) rfl (fun ls hl => ?_)
            refine lv_iinc (v := nI (i + 1)) (lv' := [(2, .int (nI (i + 1))), (1, .int (nI ((fb_ct (bco K nm V) i) + 0))), (4, .int (nI (0))), (3, .int ((-1 : Int32))), (0, .ref (a 0))]) hx hb dX5_containers_93 hl (k := 4) rfl (inc1 _) (by decide) rfl (fun ls hl => ?_)
            refine lv_goto (tgt := 4) hx hb dX5_containers_96 (by decide) ?_
            exact ih_4 (i + 1) (by omega) (by omega) ls (lv_cg (l := [(0, .ref (a 0)), (1, .int (nI ((fb_ct (bco K nm V) i) + 0))), (2, .int (nI (i + 1)))]) (lv_sub hl [4, 1, 0] rfl) (by rw [ct_n (p := (bco K nm V)) (n := i) (by rw [bco, decide_eq_false hcs]; rfl)]; simp only [Nat.add_zero]))
          · exact absurd c_83 (by decide)
  exact lp_4 _ (0) (by omega) (Nat.lt_succ_self _) ls (lv_sub hl [2, 1, 0] rfl)
abbrev rm_X5_fullest : Room := { frames := 5, cells := 0, slots := 0, locals := 114 }
set_option maxHeartbeats 4000000 in
set_option maxRecDepth 100000 in
theorem c_X5_fullest (l : Launch) (dC : Nat → ClassId) (dI : Nat → Nat → Nat) (cI cJ cZ : ClassId) (a : Nat → Nat) (ty : Nat → Int32) (tm b : Nat) (wo : Nat → Int64) (of : Nat → Int32) (n : Nat) (no : Nat → Int64) (nm : Nat) (un : Nat → Int64) (um : Nat) (sa sl si : Nat → Int32) (sn : Nat) (tk : Nat → Int32) (v : Nat) (V O K SA SL SI : Nat → Nat) (hmw : bMW ty tm v) (hmd : bMD wo of n V O) (hmn : bMN no nm K) (hms : bMS sa sl si sn SA SL SI) : Met l yX5_fullest wsX5_fullest rm_X5_fullest (rPc (dC, dI) (tysA cI cJ cZ) (wm a cI cJ cZ ty tm b wo of n no nm un um sa sl si sn tk) [.ref (a 0)]) (Ri (nI (bmx (fun k => if bcs K nm (V k) < bln (V k) + 1 then bbg V n (bhd (V k) (bcs K nm (V k))) else 0) n))) 0 0 (fun _ => False) := by
  refine met_r (cc := cX5_fullest) (maxL := 5) (ret := (some .int)) (own := RX5) (by decide) rfl rfl (Nat.le_of_ble_eq_true rfl) ?_
  intro p e s m below meth c S hr hlocks hP hK ls hl
  obtain ⟨hx, hb, hml, hown, hts⟩ := id S
  have hl : lv_has ls 5 [(0, .ref (a 0))] := hl
  have hi5 : ∀ w ∈ wsX50, w ∈ wsX5_fullest := fun _ h => List.mem_cons_of_mem _ (List.mem_append_right _ h)
  obtain ⟨hvw, htm, hty⟩ := id hmw; obtain ⟨hn, hk⟩ := id hmd; obtain ⟨hnm, hkn⟩ := id hmn; obtain ⟨hsn, hks⟩ := id hms
  have hfu : ∀ k, bmx (fun k => if bcs K nm (V k) < bln (V k) + 1 then bbg V n (bhd (V k) (bcs K nm (V k))) else 0) k ≤ 40 := fun k => bmx_le (fun j _ => by split; exact Nat.le_trans (fb_ct_le _ n) hn; exact Nat.zero_le _)
  refine lv_iconst (v := nI (0)) hx hb dX5_fullest_0 (by decide) ?_
  refine lv_istore_n (lv' := [(1, .int (nI (0))), (0, .ref (a 0))]) hx hb dX5_fullest_1 rfl hl (by decide) rfl (fun ls hl => ?_)
  refine lv_iconst (v := nI (0)) hx hb dX5_fullest_2 (by decide) ?_
  refine lv_istore_n (lv' := [(2, .int (nI (0))), (1, .int (nI (0))), (0, .ref (a 0))]) hx hb dX5_fullest_3 rfl hl (by decide) rfl (fun ls hl => ?_)
  have lp_4 : ∀ (j_4 : Nat) (i : Nat), (i ≤ n) → (n - i) < j_4 → ∀ ls : Array Slot, lv_has ls 5 [(0, .ref (a 0)), (1, .int (nI (bmx (fun k => if bcs K nm (V k) < bln (V k) + 1 then bbg V n (bhd (V k) (bcs K nm (V k))) else 0) i))), (2, .int (nI (i)))] → W p l e rm_X5_fullest s m ([.ref (a 0)] : List Value).toArray below meth c s.heap [] 0 0 (MQ below (Ri (nI (bmx (fun k => if bcs K nm (V k) < bln (V k) + 1 then bbg V n (bhd (V k) (bcs K nm (V k))) else 0) n))) ([.ref (a 0)] : List Value).toArray s 0 0 (fun _ => False)) (F0 m 4 ls []) := by
    intro j_4
    induction j_4 with
    | zero => intro i _ h0; exact absurd h0 (Nat.not_lt_zero _)
    | succ j_4 ih_4 =>
      intro i hi hf_4 ls hl
      refine lv_iload_n hx hb dX5_fullest_4 rfl (lv_at hl 2 rfl) ?_
      refine lv_aload_n hx hb dX5_fullest_5 rfl (lv_at hl 0 rfl) ?_
      refine va_get (D := (dC, dI)) (ci := 4) (v := .int (nI (n))) (C := RX5) (T := TX5) (N := 16) hx hb hts hi5 hown hK hP 0 rfl rfl 6 (by decide) (hts (.fieldLink RX5 67 "BurstWordsModel" "many" "I") (by decide +kernel)) (fun _ h9 => h9) rfl dX5_fullest_6 ?_
      refine n_ge (tgt := 66) hx hb dX5_fullest_9 (by decide) (by omega) (by omega) (fun c_9 => ?_) (fun c_9 => ?_)
      · refine lv_iload_n hx hb dX5_fullest_66 rfl (lv_at hl 1 rfl) ?_
        exact r_i hx hb hr hlocks (by rw [show i = n by omega]) dX5_fullest_67
      · refine lv_aload_n hx hb dX5_fullest_12 rfl (lv_at hl 0 rfl) ?_
        refine lv_aload_n hx hb dX5_fullest_13 rfl (lv_at hl 0 rfl) ?_
        refine va_get (D := (dC, dI)) (ci := 4) (v := .ref (a 2)) (C := RX5) (T := TX5) (N := 16) hx hb hts hi5 hown hK hP 0 rfl rfl 4 (by decide) (hts (.fieldLink RX5 17 "BurstWordsModel" "word" "[J") (by decide +kernel)) (fun _ h9 => h9) rfl dX5_fullest_14 ?_
        refine lv_iload_n hx hb dX5_fullest_17 rfl (lv_at hl 2 rfl) ?_
        refine g_l hx hb hK hP 2 1 rfl rfl (k := i) (by omega) (by decide) dX5_fullest_18 (v := lN (V i)) (hk _ (by omega)).1 ?_
        refine c_Vi (As := [.long (lN (V i))]) (rest := []) (ci := 4) (q0 := 0) S (c_X5_containerSize l dC dI cI cJ cZ a ty tm b wo of n no nm un um sa sl si sn tk v V O K SA SL SI hmw hmd hmn hms (V i) (w63 (hk _ (by omega)).2.1.1)) (cwV 1 hts gX5_fullest_X5_containerSize rfl rfl rfl (by decide +kernel) ⟨Nat.le_of_ble_eq_true rfl, Nat.le_of_ble_eq_true rfl⟩) hK hP rfl rfl rfl hl.1 rfl (Nat.le_of_ble_eq_true rfl) dX5_fullest_19 ⟨Nat.le_of_ble_eq_true rfl, Nat.le_of_ble_eq_true rfl⟩ ?_
        by_cases hcs : bcs K nm (V i) < bln (V i) + 1
        · refine tpi (bopt_y hcs) ?_
          refine lv_istore_n (lv' := [(3, .int (nI (bcs K nm (V i)))), (0, .ref (a 0)), (1, .int (nI (bmx (fun k => if bcs K nm (V k) < bln (V k) + 1 then bbg V n (bhd (V k) (bcs K nm (V k))) else 0) i))), (2, .int (nI (i)))]) hx hb dX5_fullest_22 rfl hl (by decide) rfl (fun ls hl => ?_)
          refine lv_iload_n hx hb dX5_fullest_23 rfl (lv_at hl 0 rfl) ?_
          refine z_ge (tgt := 31) hx hb dX5_fullest_24 (by decide) (by have := bln_le (V i); omega) ?_
          refine lv_aload_n hx hb dX5_fullest_31 rfl (lv_at hl 1 rfl) ?_
          refine lv_aload_n hx hb dX5_fullest_32 rfl (lv_at hl 1 rfl) ?_
          refine va_get (D := (dC, dI)) (ci := 4) (v := .ref (a 2)) (C := RX5) (T := TX5) (N := 16) hx hb hts hi5 hown hK hP 0 rfl rfl 4 (by decide) (hts (.fieldLink RX5 17 "BurstWordsModel" "word" "[J") (by decide +kernel)) (fun _ h9 => h9) rfl dX5_fullest_33 ?_
          refine lv_iload_n hx hb dX5_fullest_36 rfl (lv_at hl 3 rfl) ?_
          refine g_l hx hb hK hP 2 1 rfl rfl (k := i) (by omega) (by decide) dX5_fullest_37 (v := lN (V i)) (hk _ (by omega)).1 ?_
          refine lv_iload_n hx hb dX5_fullest_38 rfl (lv_at hl 0 rfl) ?_
          refine c_Sl (As := [.long (lN (V i)), .int (nI (bcs K nm (V i)))]) (rest := [.ref (a 0)]) S (c_X5_head l (V i) (bcs K nm (V i)) (w63 (hk _ (by omega)).2.1.1) (by have := bln_le (V i); omega)) (va_cwS 2 hts gX5_fullest_X5_head rfl rfl rfl (by decide +kernel) ⟨Nat.le_of_ble_eq_true rfl, Nat.le_of_ble_eq_true rfl⟩) rfl hl.1 rfl (Nat.le_of_ble_eq_true rfl) dX5_fullest_39 ⟨Nat.le_of_ble_eq_true rfl, Nat.le_of_ble_eq_true rfl⟩ ?_
          refine c_Vi (As := [.long (lN (bhd (V i) (bcs K nm (V i))))]) (rest := []) (ci := 4) (q0 := 0) S (c_X5_beginning l dC dI cI cJ cZ a ty tm b wo of n no nm un um sa sl si sn tk v V O K SA SL SI hmw hmd hmn hms (bhd (V i) (bcs K nm (V i))) (Nat.lt_of_le_of_lt (bhd_le _ _) (w63 (hk _ (by omega)).2.1.1))) (cwV 1 hts gX5_fullest_X5_beginning rfl rfl rfl (by decide +kernel) ⟨Nat.le_of_ble_eq_true rfl, Nat.le_of_ble_eq_true rfl⟩) hK hP rfl rfl rfl hl.1 rfl (Nat.le_of_ble_eq_true rfl) dX5_fullest_42 ⟨Nat.le_of_ble_eq_true rfl, Nat.le_of_ble_eq_true rfl⟩ ?_
          refine lv_istore (lv' := [(4, .int (nI (bbg V n (bhd (V i) (bcs K nm (V i)))))), (3, .int (nI (bcs K nm (V i)))), (0, .ref (a 0)), (1, .int (nI (bmx (fun k => if bcs K nm (V k) < bln (V k) + 1 then bbg V n (bhd (V k) (bcs K nm (V k))) else 0) i))), (2, .int (nI (i)))]) hx hb dX5_fullest_45 hl (by decide) rfl (fun ls hl => ?_)
          refine lv_iload hx hb dX5_fullest_47 (lv_at hl 0 rfl) ?_
          refine lv_iload_n hx hb dX5_fullest_49 rfl (lv_at hl 3 rfl) ?_
          refine n_le (tgt := 58) hx hb dX5_fullest_50 (by decide) (Nat.lt_of_le_of_lt (by first | exact fb_ct_le _ n | exact Nat.zero_le n) (by omega)) (Nat.lt_of_le_of_lt (hfu i) (by decide)) (fun c_50 => ?_) (fun c_50 => ?_)
          · refine lv_iload_n hx hb dX5_fullest_58 rfl (lv_at hl 3 rfl) ?_
            refine lv_istore_n (lv' := [(1, .int (nI (bmx (fun k => if bcs K nm (V k) < bln (V k) + 1 then bbg V n (bhd (V k) (bcs K nm (V k))) else 0) i))), (4, .int (nI (bbg V n (bhd (V i) (bcs K nm (V i)))))), (3, .int (nI (bcs K nm (V i)))), (0, .ref (a 0)), (2, .int (nI (i)))]) hx hb dX5_fullest_59 rfl hl (by decide) rfl (fun ls hl => ?_)
            refine lv_iinc (v := nI (i + 1)) (lv' := [(2, .int (nI (i + 1))), (1, .int (nI (bmx (fun k => if bcs K nm (V k) < bln (V k) + 1 then bbg V n (bhd (V k) (bcs K nm (V k))) else 0) i))), (4, .int (nI (bbg V n (bhd (V i) (bcs K nm (V i)))))), (3, .int (nI (bcs K nm (V i)))), (0, .ref (a 0))]) hx hb dX5_fullest_60 hl (k := 4) rfl (inc1 _) (by decide) rfl (fun ls hl => ?_)
            refine lv_goto (tgt := 4) hx hb dX5_fullest_63 (by decide) ?_
            exact ih_4 (i + 1) (by omega) (by omega) ls (lv_cg (l := [(0, .ref (a 0)), (1, .int (nI (bmx (fun k => if bcs K nm (V k) < bln (V k) + 1 then bbg V n (bhd (V k) (bcs K nm (V k))) else 0) i))), (2, .int (nI (i + 1)))]) (lv_sub hl [4, 1, 0] rfl) (by rw [bmx_t (f := (fun k => if bcs K nm (V k) < bln (V k) + 1 then bbg V n (bhd (V k) (bcs K nm (V k))) else 0)) (i := i) (by rw [if_pos hcs]; exact c_50)]))
          · refine lv_iload hx hb dX5_fullest_53 (lv_at hl 0 rfl) ?_
            refine lv_goto (tgt := 59) hx hb dX5_fullest_55 (by decide) ?_
            refine lv_istore_n (lv' := [(1, .int (nI (bbg V n (bhd (V i) (bcs K nm (V i)))))), (4, .int (nI (bbg V n (bhd (V i) (bcs K nm (V i)))))), (3, .int (nI (bcs K nm (V i)))), (0, .ref (a 0)), (2, .int (nI (i)))]) hx hb dX5_fullest_59 rfl hl (by decide) rfl (fun ls hl => ?_)
            refine lv_iinc (v := nI (i + 1)) (lv' := [(2, .int (nI (i + 1))), (1, .int (nI (bbg V n (bhd (V i) (bcs K nm (V i)))))), (4, .int (nI (bbg V n (bhd (V i) (bcs K nm (V i)))))), (3, .int (nI (bcs K nm (V i)))), (0, .ref (a 0))]) hx hb dX5_fullest_60 hl (k := 4) rfl (inc1 _) (by decide) rfl (fun ls hl => ?_)
            refine lv_goto (tgt := 4) hx hb dX5_fullest_63 (by decide) ?_
            exact ih_4 (i + 1) (by omega) (by omega) ls (lv_cg (l := [(0, .ref (a 0)), (1, .int (nI (bbg V n (bhd (V i) (bcs K nm (V i)))))), (2, .int (nI (i + 1)))]) (lv_sub hl [4, 1, 0] rfl) (by rw [bmx_s (f := (fun k => if bcs K nm (V k) < bln (V k) + 1 then bbg V n (bhd (V k) (bcs K nm (V k))) else 0)) (i := i) (by rw [if_pos hcs]; exact c_50), if_pos hcs]))
        · refine tpi (bopt_n hcs) ?_
          refine lv_istore_n (lv' := [(3, .int ((-1 : Int32))), (0, .ref (a 0)), (1, .int (nI (bmx (fun k => if bcs K nm (V k) < bln (V k) + 1 then bbg V n (bhd (V k) (bcs K nm (V k))) else 0) i))), (2, .int (nI (i)))]) hx hb dX5_fullest_22 rfl hl (by decide) rfl (fun ls hl => ?_)
          refine lv_iload_n hx hb dX5_fullest_23 rfl (lv_at hl 0 rfl) ?_
          refine lv_if_ge (tgt := 31) hx hb dX5_fullest_24 (by decide) (fun q => absurd q (by decide)) (fun _ => ?_)
          refine lv_iconst (v := nI (0)) hx hb dX5_fullest_27 (by decide) ?_
          refine lv_goto (tgt := 45) hx hb dX5_fullest_28 (by decide) ?_
          refine lv_istore (lv' := [(4, .int (nI (0))), (3, .int ((-1 : Int32))), (0, .ref (a 0)), (1, .int (nI (bmx (fun k => if bcs K nm (V k) < bln (V k) + 1 then bbg V n (bhd (V k) (bcs K nm (V k))) else 0) i))), (2, .int (nI (i)))]) hx hb dX5_fullest_45 hl (by decide) rfl (fun ls hl => ?_)
          refine lv_iload hx hb dX5_fullest_47 (lv_at hl 0 rfl) ?_
          refine lv_iload_n hx hb dX5_fullest_49 rfl (lv_at hl 3 rfl) ?_
          refine n_le (tgt := 58) hx hb dX5_fullest_50 (by decide) (Nat.lt_of_le_of_lt (by first | exact fb_ct_le _ n | exact Nat.zero_le n) (by omega)) (Nat.lt_of_le_of_lt (hfu i) (by decide)) (fun c_50 => ?_) (fun c_50 => ?_)
          · refine lv_iload_n hx hb dX5_fullest_58 rfl (lv_at hl 3 rfl) ?_
            refine lv_istore_n (lv' := [(1, .int (nI (bmx (fun k => if bcs K nm (V k) < bln (V k) + 1 then bbg V n (bhd (V k) (bcs K nm (V k))) else 0) i))), (4, .int (nI (0))), (3, .int ((-1 : Int32))), (0, .ref (a 0)), (2, .int (nI (i)))]) hx hb dX5_fullest_59 rfl hl (by decide) rfl (fun ls hl => ?_)
            refine lv_iinc (v := nI (i + 1)) (lv' := [(2, .int (nI (i + 1))), (1, .int (nI (bmx (fun k => if bcs K nm (V k) < bln (V k) + 1 then bbg V n (bhd (V k) (bcs K nm (V k))) else 0) i))), (4, .int (nI (0))), (3, .int ((-1 : Int32))), (0, .ref (a 0))]) hx hb dX5_fullest_60 hl (k := 4) rfl (inc1 _) (by decide) rfl (fun ls hl => ?_)
            refine lv_goto (tgt := 4) hx hb dX5_fullest_63 (by decide) ?_
            exact ih_4 (i + 1) (by omega) (by omega) ls (lv_cg (l := [(0, .ref (a 0)), (1, .int (nI (bmx (fun k => if bcs K nm (V k) < bln (V k) + 1 then bbg V n (bhd (V k) (bcs K nm (V k))) else 0) i))), (2, .int (nI (i + 1)))]) (lv_sub hl [4, 1, 0] rfl) (by rw [bmx_t (f := (fun k => if bcs K nm (V k) < bln (V k) + 1 then bbg V n (bhd (V k) (bcs K nm (V k))) else 0)) (i := i) (by rw [if_neg hcs]; exact Nat.zero_le _)]))
          · exact absurd c_50 (Nat.not_lt_zero _)
  exact lp_4 _ (0) (by omega) (Nat.lt_succ_self _) ls (lv_sub hl [2, 1, 0] rfl)
abbrev rm_X5_deepest : Room := { frames := 4, cells := 0, slots := 0, locals := 91 }
set_option maxHeartbeats 4000000 in
set_option maxRecDepth 100000 in
theorem c_X5_deepest (l : Launch) (dC : Nat → ClassId) (dI : Nat → Nat → Nat) (cI cJ cZ : ClassId) (a : Nat → Nat) (ty : Nat → Int32) (tm b : Nat) (wo : Nat → Int64) (of : Nat → Int32) (n : Nat) (no : Nat → Int64) (nm : Nat) (un : Nat → Int64) (um : Nat) (sa sl si : Nat → Int32) (sn : Nat) (tk : Nat → Int32) (v : Nat) (V O K SA SL SI : Nat → Nat) (hmw : bMW ty tm v) (hmd : bMD wo of n V O) (hmn : bMN no nm K) (hms : bMS sa sl si sn SA SL SI) : Met l yX5_deepest wsX5_deepest rm_X5_deepest (rPc (dC, dI) (tysA cI cJ cZ) (wm a cI cJ cZ ty tm b wo of n no nm un um sa sl si sn tk) [.ref (a 0)]) (Ri (nI (bmx (fun k => bde K nm (V k)) n))) 0 0 (fun _ => False) := by
  refine met_r (cc := cX5_deepest) (maxL := 3) (ret := (some .int)) (own := RX5) (by decide) rfl rfl (Nat.le_of_ble_eq_true rfl) ?_
  intro p e s m below meth c S hr hlocks hP hK ls hl
  obtain ⟨hx, hb, hml, hown, hts⟩ := id S
  have hl : lv_has ls 3 [(0, .ref (a 0))] := hl
  have hi5 : ∀ w ∈ wsX50, w ∈ wsX5_deepest := fun _ h => List.mem_cons_of_mem _ (List.mem_append_right _ h)
  obtain ⟨hvw, htm, hty⟩ := id hmw; obtain ⟨hn, hk⟩ := id hmd; obtain ⟨hnm, hkn⟩ := id hmn; obtain ⟨hsn, hks⟩ := id hms
  refine lv_iconst (v := nI (0)) hx hb dX5_deepest_0 (by decide) ?_
  refine lv_istore_n (lv' := [(1, .int (nI (0))), (0, .ref (a 0))]) hx hb dX5_deepest_1 rfl hl (by decide) rfl (fun ls hl => ?_)
  refine lv_iconst (v := nI (0)) hx hb dX5_deepest_2 (by decide) ?_
  refine lv_istore_n (lv' := [(2, .int (nI (0))), (1, .int (nI (0))), (0, .ref (a 0))]) hx hb dX5_deepest_3 rfl hl (by decide) rfl (fun ls hl => ?_)
  have lp_4 : ∀ (j_4 : Nat) (i : Nat), (i ≤ n) → (n - i) < j_4 → ∀ ls : Array Slot, lv_has ls 3 [(0, .ref (a 0)), (1, .int (nI (bmx (fun k => bde K nm (V k)) i))), (2, .int (nI (i)))] → W p l e rm_X5_deepest s m ([.ref (a 0)] : List Value).toArray below meth c s.heap [] 0 0 (MQ below (Ri (nI (bmx (fun k => bde K nm (V k)) n))) ([.ref (a 0)] : List Value).toArray s 0 0 (fun _ => False)) (F0 m 4 ls []) := by
    intro j_4
    induction j_4 with
    | zero => intro i _ h0; exact absurd h0 (Nat.not_lt_zero _)
    | succ j_4 ih_4 =>
      intro i hi hf_4 ls hl
      refine lv_iload_n hx hb dX5_deepest_4 rfl (lv_at hl 2 rfl) ?_
      refine lv_aload_n hx hb dX5_deepest_5 rfl (lv_at hl 0 rfl) ?_
      refine va_get (D := (dC, dI)) (ci := 4) (v := .int (nI (n))) (C := RX5) (T := TX5) (N := 16) hx hb hts hi5 hown hK hP 0 rfl rfl 6 (by decide) (hts (.fieldLink RX5 67 "BurstWordsModel" "many" "I") (by decide +kernel)) (fun _ h9 => h9) rfl dX5_deepest_6 ?_
      refine n_ge (tgt := 47) hx hb dX5_deepest_9 (by decide) (by omega) (by omega) (fun c_9 => ?_) (fun c_9 => ?_)
      · refine lv_iload_n hx hb dX5_deepest_47 rfl (lv_at hl 1 rfl) ?_
        exact r_i hx hb hr hlocks (by rw [show i = n by omega]) dX5_deepest_48
      · refine lv_aload_n hx hb dX5_deepest_12 rfl (lv_at hl 0 rfl) ?_
        refine lv_aload_n hx hb dX5_deepest_13 rfl (lv_at hl 0 rfl) ?_
        refine va_get (D := (dC, dI)) (ci := 4) (v := .ref (a 2)) (C := RX5) (T := TX5) (N := 16) hx hb hts hi5 hown hK hP 0 rfl rfl 4 (by decide) (hts (.fieldLink RX5 17 "BurstWordsModel" "word" "[J") (by decide +kernel)) (fun _ h9 => h9) rfl dX5_deepest_14 ?_
        refine lv_iload_n hx hb dX5_deepest_17 rfl (lv_at hl 2 rfl) ?_
        refine g_l hx hb hK hP 2 1 rfl rfl (k := i) (by omega) (by decide) dX5_deepest_18 (v := lN (V i)) (hk _ (by omega)).1 ?_
        refine c_Vi (As := [.long (lN (V i))]) (rest := []) (ci := 4) (q0 := 0) S (c_X5_depthOf l dC dI cI cJ cZ a ty tm b wo of n no nm un um sa sl si sn tk v V O K SA SL SI hmw hmd hmn hms (V i) (w63 (hk _ (by omega)).2.1.1)) (cwV 1 hts gX5_deepest_X5_depthOf rfl rfl rfl (by decide +kernel) ⟨Nat.le_of_ble_eq_true rfl, Nat.le_of_ble_eq_true rfl⟩) hK hP rfl rfl rfl hl.1 rfl (Nat.le_of_ble_eq_true rfl) dX5_deepest_19 ⟨Nat.le_of_ble_eq_true rfl, Nat.le_of_ble_eq_true rfl⟩ ?_
        refine lv_iload_n hx hb dX5_deepest_22 rfl (lv_at hl 1 rfl) ?_
        refine n_le (tgt := 39) hx hb dX5_deepest_23 (by decide) (Nat.lt_of_le_of_lt (bde_le _ _ _) (by decide)) (Nat.lt_of_le_of_lt (bmx_le (c := 8) (fun k _ => bde_le _ _ _)) (by decide)) (fun c_23 => ?_) (fun c_23 => ?_)
        · refine lv_iload_n hx hb dX5_deepest_39 rfl (lv_at hl 1 rfl) ?_
          refine lv_istore_n (lv' := [(1, .int (nI (bmx (fun k => bde K nm (V k)) i))), (0, .ref (a 0)), (2, .int (nI (i)))]) hx hb dX5_deepest_40 rfl hl (by decide) rfl (fun ls hl => ?_)
          refine lv_iinc (v := nI (i + 1)) (lv' := [(2, .int (nI (i + 1))), (1, .int (nI (bmx (fun k => bde K nm (V k)) i))), (0, .ref (a 0))]) hx hb dX5_deepest_41 hl (k := 2) rfl (inc1 _) (by decide) rfl (fun ls hl => ?_)
          refine lv_goto (tgt := 4) hx hb dX5_deepest_44 (by decide) ?_
          exact ih_4 (i + 1) (by omega) (by omega) ls (lv_cg (l := [(0, .ref (a 0)), (1, .int (nI (bmx (fun k => bde K nm (V k)) i))), (2, .int (nI (i + 1)))]) (lv_sub hl [2, 1, 0] rfl) (by rw [bmx_t (f := (fun k => bde K nm (V k))) (i := i) c_23]))
        · refine lv_aload_n hx hb dX5_deepest_26 rfl (lv_at hl 0 rfl) ?_
          refine lv_aload_n hx hb dX5_deepest_27 rfl (lv_at hl 0 rfl) ?_
          refine va_get (D := (dC, dI)) (ci := 4) (v := .ref (a 2)) (C := RX5) (T := TX5) (N := 16) hx hb hts hi5 hown hK hP 0 rfl rfl 4 (by decide) (hts (.fieldLink RX5 17 "BurstWordsModel" "word" "[J") (by decide +kernel)) (fun _ h9 => h9) rfl dX5_deepest_28 ?_
          refine lv_iload_n hx hb dX5_deepest_31 rfl (lv_at hl 2 rfl) ?_
          refine g_l hx hb hK hP 2 1 rfl rfl (k := i) (by omega) (by decide) dX5_deepest_32 (v := lN (V i)) (hk _ (by omega)).1 ?_
          refine c_Vi (As := [.long (lN (V i))]) (rest := []) (ci := 4) (q0 := 0) S (c_X5_depthOf l dC dI cI cJ cZ a ty tm b wo of n no nm un um sa sl si sn tk v V O K SA SL SI hmw hmd hmn hms (V i) (w63 (hk _ (by omega)).2.1.1)) (cwV 1 hts gX5_deepest_X5_depthOf rfl rfl rfl (by decide +kernel) ⟨Nat.le_of_ble_eq_true rfl, Nat.le_of_ble_eq_true rfl⟩) hK hP rfl rfl rfl hl.1 rfl (Nat.le_of_ble_eq_true rfl) dX5_deepest_33 ⟨Nat.le_of_ble_eq_true rfl, Nat.le_of_ble_eq_true rfl⟩ ?_
          refine lv_goto (tgt := 40) hx hb dX5_deepest_36 (by decide) ?_
          refine lv_istore_n (lv' := [(1, .int (nI (bde K nm (V i)))), (0, .ref (a 0)), (2, .int (nI (i)))]) hx hb dX5_deepest_40 rfl hl (by decide) rfl (fun ls hl => ?_)
          refine lv_iinc (v := nI (i + 1)) (lv' := [(2, .int (nI (i + 1))), (1, .int (nI (bde K nm (V i)))), (0, .ref (a 0))]) hx hb dX5_deepest_41 hl (k := 2) rfl (inc1 _) (by decide) rfl (fun ls hl => ?_)
          refine lv_goto (tgt := 4) hx hb dX5_deepest_44 (by decide) ?_
          exact ih_4 (i + 1) (by omega) (by omega) ls (lv_cg (l := [(0, .ref (a 0)), (1, .int (nI (bde K nm (V i)))), (2, .int (nI (i + 1)))]) (lv_sub hl [2, 1, 0] rfl) (by rw [bmx_s (f := (fun k => bde K nm (V k))) (i := i) c_23]))
  exact lp_4 _ (0) (by omega) (Nat.lt_succ_self _) ls (lv_sub hl [2, 1, 0] rfl)
abbrev rm_X5_letters : Room := { frames := 4, cells := 0, slots := 0, locals := 90 }
set_option maxHeartbeats 4000000 in
set_option maxRecDepth 100000 in
theorem c_X5_letters (l : Launch) (dC : Nat → ClassId) (dI : Nat → Nat → Nat) (cI cJ cZ : ClassId) (a : Nat → Nat) (ty : Nat → Int32) (tm b : Nat) (wo : Nat → Int64) (of : Nat → Int32) (n : Nat) (no : Nat → Int64) (nm : Nat) (un : Nat → Int64) (um : Nat) (sa sl si : Nat → Int32) (sn : Nat) (tk : Nat → Int32) (v : Nat) (V O K SA SL SI : Nat → Nat) (hmw : bMW ty tm v) (hmd : bMD wo of n V O) (hmn : bMN no nm K) (hms : bMS sa sl si sn SA SL SI) : Met l yX5_letters wsX5_letters rm_X5_letters (rPc (dC, dI) (tysA cI cJ cZ) (wm a cI cJ cZ ty tm b wo of n no nm un um sa sl si sn tk) [.ref (a 0)]) (Ri (nI (fb_sm (fun k => if bcs K nm (V k) < bln (V k) + 1 then bln (V k) - bcs K nm (V k) else 0) n))) 0 0 (fun _ => False) := by
  refine met_r (cc := cX5_letters) (maxL := 4) (ret := (some .int)) (own := RX5) (by decide) rfl rfl (Nat.le_of_ble_eq_true rfl) ?_
  intro p e s m below meth c S hr hlocks hP hK ls hl
  obtain ⟨hx, hb, hml, hown, hts⟩ := id S
  have hl : lv_has ls 4 [(0, .ref (a 0))] := hl
  have hi5 : ∀ w ∈ wsX50, w ∈ wsX5_letters := fun _ h => List.mem_cons_of_mem _ (List.mem_append_right _ h)
  obtain ⟨hvw, htm, hty⟩ := id hmw; obtain ⟨hn, hk⟩ := id hmd; obtain ⟨hnm, hkn⟩ := id hmn; obtain ⟨hsn, hks⟩ := id hms
  have hln := bln_le
  refine lv_iconst (v := nI (0)) hx hb dX5_letters_0 (by decide) ?_
  refine lv_istore_n (lv' := [(1, .int (nI (0))), (0, .ref (a 0))]) hx hb dX5_letters_1 rfl hl (by decide) rfl (fun ls hl => ?_)
  refine lv_iconst (v := nI (0)) hx hb dX5_letters_2 (by decide) ?_
  refine lv_istore_n (lv' := [(2, .int (nI (0))), (1, .int (nI (0))), (0, .ref (a 0))]) hx hb dX5_letters_3 rfl hl (by decide) rfl (fun ls hl => ?_)
  have lp_4 : ∀ (j_4 : Nat) (i : Nat), (i ≤ n) → (n - i) < j_4 → ∀ ls : Array Slot, lv_has ls 4 [(0, .ref (a 0)), (1, .int (nI (fb_sm (fun k => if bcs K nm (V k) < bln (V k) + 1 then bln (V k) - bcs K nm (V k) else 0) i))), (2, .int (nI (i)))] → W p l e rm_X5_letters s m ([.ref (a 0)] : List Value).toArray below meth c s.heap [] 0 0 (MQ below (Ri (nI (fb_sm (fun k => if bcs K nm (V k) < bln (V k) + 1 then bln (V k) - bcs K nm (V k) else 0) n))) ([.ref (a 0)] : List Value).toArray s 0 0 (fun _ => False)) (F0 m 4 ls []) := by
    intro j_4
    induction j_4 with
    | zero => intro i _ h0; exact absurd h0 (Nat.not_lt_zero _)
    | succ j_4 ih_4 =>
      intro i hi hf_4 ls hl
      refine lv_iload_n hx hb dX5_letters_4 rfl (lv_at hl 2 rfl) ?_
      refine lv_aload_n hx hb dX5_letters_5 rfl (lv_at hl 0 rfl) ?_
      refine va_get (D := (dC, dI)) (ci := 4) (v := .int (nI (n))) (C := RX5) (T := TX5) (N := 16) hx hb hts hi5 hown hK hP 0 rfl rfl 6 (by decide) (hts (.fieldLink RX5 67 "BurstWordsModel" "many" "I") (by decide +kernel)) (fun _ h9 => h9) rfl dX5_letters_6 ?_
      refine n_ge (tgt := 51) hx hb dX5_letters_9 (by decide) (by omega) (by omega) (fun c_9 => ?_) (fun c_9 => ?_)
      · refine lv_iload_n hx hb dX5_letters_51 rfl (lv_at hl 1 rfl) ?_
        exact r_i hx hb hr hlocks (by rw [show i = n by omega]) dX5_letters_52
      · refine lv_aload_n hx hb dX5_letters_12 rfl (lv_at hl 0 rfl) ?_
        refine lv_aload_n hx hb dX5_letters_13 rfl (lv_at hl 0 rfl) ?_
        refine va_get (D := (dC, dI)) (ci := 4) (v := .ref (a 2)) (C := RX5) (T := TX5) (N := 16) hx hb hts hi5 hown hK hP 0 rfl rfl 4 (by decide) (hts (.fieldLink RX5 17 "BurstWordsModel" "word" "[J") (by decide +kernel)) (fun _ h9 => h9) rfl dX5_letters_14 ?_
        refine lv_iload_n hx hb dX5_letters_17 rfl (lv_at hl 2 rfl) ?_
        refine g_l hx hb hK hP 2 1 rfl rfl (k := i) (by omega) (by decide) dX5_letters_18 (v := lN (V i)) (hk _ (by omega)).1 ?_
        refine c_Vi (As := [.long (lN (V i))]) (rest := []) (ci := 4) (q0 := 0) S (c_X5_containerSize l dC dI cI cJ cZ a ty tm b wo of n no nm un um sa sl si sn tk v V O K SA SL SI hmw hmd hmn hms (V i) (w63 (hk _ (by omega)).2.1.1)) (cwV 1 hts gX5_letters_X5_containerSize rfl rfl rfl (by decide +kernel) ⟨Nat.le_of_ble_eq_true rfl, Nat.le_of_ble_eq_true rfl⟩) hK hP rfl rfl rfl hl.1 rfl (Nat.le_of_ble_eq_true rfl) dX5_letters_19 ⟨Nat.le_of_ble_eq_true rfl, Nat.le_of_ble_eq_true rfl⟩ ?_
        by_cases hcs : bcs K nm (V i) < bln (V i) + 1
        · refine tpi (bopt_y hcs) ?_
          refine lv_istore_n (lv' := [(3, .int (nI (bcs K nm (V i)))), (0, .ref (a 0)), (1, .int (nI (fb_sm (fun k => if bcs K nm (V k) < bln (V k) + 1 then bln (V k) - bcs K nm (V k) else 0) i))), (2, .int (nI (i)))]) hx hb dX5_letters_22 rfl hl (by decide) rfl (fun ls hl => ?_)
          refine lv_iload_n hx hb dX5_letters_23 rfl (lv_at hl 2 rfl) ?_
          refine lv_iload_n hx hb dX5_letters_24 rfl (lv_at hl 0 rfl) ?_
          refine z_ge (tgt := 32) hx hb dX5_letters_25 (by decide) (by have := hln (V i); omega) ?_
          refine lv_aload_n hx hb dX5_letters_32 rfl (lv_at hl 1 rfl) ?_
          refine va_get (D := (dC, dI)) (ci := 4) (v := .ref (a 2)) (C := RX5) (T := TX5) (N := 16) hx hb hts hi5 hown hK hP 0 rfl rfl 4 (by decide) (hts (.fieldLink RX5 17 "BurstWordsModel" "word" "[J") (by decide +kernel)) (fun _ h9 => h9) rfl dX5_letters_33 ?_
          refine lv_iload_n hx hb dX5_letters_36 rfl (lv_at hl 3 rfl) ?_
          refine g_l hx hb hK hP 2 1 rfl rfl (k := i) (by omega) (by decide) dX5_letters_37 (v := lN (V i)) (hk _ (by omega)).1 ?_
          refine c_Si (As := [.long (lN (V i))]) (rest := [.int (nI (fb_sm (fun k => if bcs K nm (V k) < bln (V k) + 1 then bln (V k) - bcs K nm (V k) else 0) i))]) S (c_X5_size l (V i) (w63 (hk _ (by omega)).2.1.1)) (va_cwS 1 hts gX5_letters_X5_size rfl rfl rfl (by decide +kernel) ⟨Nat.le_of_ble_eq_true rfl, Nat.le_of_ble_eq_true rfl⟩) rfl hl.1 rfl (Nat.le_of_ble_eq_true rfl) dX5_letters_38 ⟨Nat.le_of_ble_eq_true rfl, Nat.le_of_ble_eq_true rfl⟩ ?_
          refine lv_iload_n hx hb dX5_letters_41 rfl (lv_at hl 0 rfl) ?_
          refine lv_isub hx hb dX5_letters_42 ?_
          refine tpi (pk_sub (by omega)) ?_
          refine lv_iadd hx hb dX5_letters_43 ?_
          refine tpi (nI_add _ _) ?_
          refine lv_istore_n (lv' := [(1, .int (nI ((fb_sm (fun k => if bcs K nm (V k) < bln (V k) + 1 then bln (V k) - bcs K nm (V k) else 0) i) + ((bln (V i)) - (bcs K nm (V i)))))), (3, .int (nI (bcs K nm (V i)))), (0, .ref (a 0)), (2, .int (nI (i)))]) hx hb dX5_letters_44 rfl hl (by decide) rfl (fun ls hl => ?_)
          refine lv_iinc (v := nI (i + 1)) (lv' := [(2, .int (nI (i + 1))), (1, .int (nI ((fb_sm (fun k => if bcs K nm (V k) < bln (V k) + 1 then bln (V k) - bcs K nm (V k) else 0) i) + ((bln (V i)) - (bcs K nm (V i)))))), (3, .int (nI (bcs K nm (V i)))), (0, .ref (a 0))]) hx hb dX5_letters_45 hl (k := 3) rfl (inc1 _) (by decide) rfl (fun ls hl => ?_)
          refine lv_goto (tgt := 4) hx hb dX5_letters_48 (by decide) ?_
          exact ih_4 (i + 1) (by omega) (by omega) ls (lv_cg (l := [(0, .ref (a 0)), (1, .int (nI ((fb_sm (fun k => if bcs K nm (V k) < bln (V k) + 1 then bln (V k) - bcs K nm (V k) else 0) i) + ((bln (V i)) - (bcs K nm (V i)))))), (2, .int (nI (i + 1)))]) (lv_sub hl [3, 1, 0] rfl) (by rw [fb_sm_succ, if_pos hcs]))
        · refine tpi (bopt_n hcs) ?_
          refine lv_istore_n (lv' := [(3, .int ((-1 : Int32))), (0, .ref (a 0)), (1, .int (nI (fb_sm (fun k => if bcs K nm (V k) < bln (V k) + 1 then bln (V k) - bcs K nm (V k) else 0) i))), (2, .int (nI (i)))]) hx hb dX5_letters_22 rfl hl (by decide) rfl (fun ls hl => ?_)
          refine lv_iload_n hx hb dX5_letters_23 rfl (lv_at hl 2 rfl) ?_
          refine lv_iload_n hx hb dX5_letters_24 rfl (lv_at hl 0 rfl) ?_
          refine lv_if_ge (tgt := 32) hx hb dX5_letters_25 (by decide) (fun q => absurd q (by decide)) (fun _ => ?_)
          refine lv_iconst (v := nI (0)) hx hb dX5_letters_28 (by decide) ?_
          refine lv_goto (tgt := 43) hx hb dX5_letters_29 (by decide) ?_
          refine lv_iadd hx hb dX5_letters_43 ?_
          refine tpi (nI_add _ _) ?_
          refine lv_istore_n (lv' := [(1, .int (nI ((fb_sm (fun k => if bcs K nm (V k) < bln (V k) + 1 then bln (V k) - bcs K nm (V k) else 0) i) + 0))), (3, .int ((-1 : Int32))), (0, .ref (a 0)), (2, .int (nI (i)))]) hx hb dX5_letters_44 rfl hl (by decide) rfl (fun ls hl => ?_)
          refine lv_iinc (v := nI (i + 1)) (lv' := [(2, .int (nI (i + 1))), (1, .int (nI ((fb_sm (fun k => if bcs K nm (V k) < bln (V k) + 1 then bln (V k) - bcs K nm (V k) else 0) i) + 0))), (3, .int ((-1 : Int32))), (0, .ref (a 0))]) hx hb dX5_letters_45 hl (k := 3) rfl (inc1 _) (by decide) rfl (fun ls hl => ?_)
          refine lv_goto (tgt := 4) hx hb dX5_letters_48 (by decide) ?_
          exact ih_4 (i + 1) (by omega) (by omega) ls (lv_cg (l := [(0, .ref (a 0)), (1, .int (nI ((fb_sm (fun k => if bcs K nm (V k) < bln (V k) + 1 then bln (V k) - bcs K nm (V k) else 0) i) + 0))), (2, .int (nI (i + 1)))]) (lv_sub hl [3, 1, 0] rfl) (by rw [fb_sm_succ, if_neg hcs]))
  exact lp_4 _ (0) (by omega) (Nat.lt_succ_self _) ls (lv_sub hl [2, 1, 0] rfl)
abbrev rm_X5_sharedBy : Room := { frames := 2, cells := 0, slots := 0, locals := 45 }
set_option maxHeartbeats 4000000 in
set_option maxRecDepth 100000 in
theorem c_X5_sharedBy (l : Launch) (dC : Nat → ClassId) (dI : Nat → Nat → Nat) (cI cJ cZ : ClassId) (a : Nat → Nat) (ty : Nat → Int32) (tm b : Nat) (wo : Nat → Int64) (of : Nat → Int32) (n : Nat) (no : Nat → Int64) (nm : Nat) (un : Nat → Int64) (um : Nat) (sa sl si : Nat → Int32) (sn : Nat) (tk : Nat → Int32) (v : Nat) (V O K SA SL SI : Nat → Nat) (hmw : bMW ty tm v) (hmd : bMD wo of n V O) (hmn : bMN no nm K) (hms : bMS sa sl si sn SA SL SI) (k : Nat) (hkn2 : k + 1 < n) : Met l yX5_sharedBy wsX5_sharedBy rm_X5_sharedBy (rPc (dC, dI) (tysA cI cJ cZ) (wm a cI cJ cZ ty tm b wo of n no nm un um sa sl si sn tk) [.ref (a 0), .int (nI (k))]) (Ri (nI (bsh (V k) (V (k + 1))))) 0 0 (fun _ => False) := by
  refine met_r (cc := cX5_sharedBy) (maxL := 3) (ret := (some .int)) (own := RX5) (by decide) rfl rfl (Nat.le_of_ble_eq_true rfl) ?_
  intro p e s m below meth c S hr hlocks hP hK ls hl
  obtain ⟨hx, hb, hml, hown, hts⟩ := id S
  have hl : lv_has ls 3 [(0, .ref (a 0)), (1, .int (nI (k)))] := hl
  have hi5 : ∀ w ∈ wsX50, w ∈ wsX5_sharedBy := fun _ h => List.mem_cons_of_mem _ (List.mem_append_right _ h)
  obtain ⟨hvw, htm, hty⟩ := id hmw; obtain ⟨hn, hk⟩ := id hmd; obtain ⟨hnm, hkn⟩ := id hmn; obtain ⟨hsn, hks⟩ := id hms
  refine lv_iconst (v := nI (0)) hx hb dX5_sharedBy_0 (by decide) ?_
  refine lv_istore_n (lv' := [(2, .int (nI (0))), (0, .ref (a 0)), (1, .int (nI (k)))]) hx hb dX5_sharedBy_1 rfl hl (by decide) rfl (fun ls hl => ?_)
  have lp_2 : ∀ (j_2 : Nat) (i : Nat), (i ≤ 7) → (∀ j, j < i → bsg (V k) j ≠ 0 ∧ bsg (V k) j = bsg (V (k + 1)) j) → (7 - i) < j_2 → ∀ ls : Array Slot, lv_has ls 3 [(0, .ref (a 0)), (1, .int (nI (k))), (2, .int (nI (i)))] → W p l e rm_X5_sharedBy s m ([.ref (a 0), .int (nI (k))] : List Value).toArray below meth c s.heap [] 0 0 (MQ below (Ri (nI (bsh (V k) (V (k + 1))))) ([.ref (a 0), .int (nI (k))] : List Value).toArray s 0 0 (fun _ => False)) (F0 m 2 ls []) := by
    intro j_2
    induction j_2 with
    | zero => intro i _ _ h0; exact absurd h0 (Nat.not_lt_zero _)
    | succ j_2 ih_2 =>
      intro i hi hz hf_2 ls hl
      refine lv_iload_n hx hb dX5_sharedBy_2 rfl (lv_at hl 2 rfl) ?_
      refine lv_bipush (v := nI (7)) hx hb dX5_sharedBy_3 (by decide) ?_
      refine n_ge (tgt := 52) hx hb dX5_sharedBy_5 (by decide) (by omega) (by omega) (fun c_5 => ?_) (fun c_5 => ?_)
      · refine lv_iload_n hx hb dX5_sharedBy_52 rfl (lv_at hl 2 rfl) ?_
        exact r_i hx hb hr hlocks (congrArg nI (bfs_eq hi (fun j h => by simp [hz j h]; exact (hz j h).2 ▸ (hz j h).1) (fun h => absurd h (by omega))).symm) dX5_sharedBy_53
      · refine lv_aload_n hx hb dX5_sharedBy_8 rfl (lv_at hl 0 rfl) ?_
        refine va_get (D := (dC, dI)) (ci := 4) (v := .ref (a 2)) (C := RX5) (T := TX5) (N := 16) hx hb hts hi5 hown hK hP 0 rfl rfl 4 (by decide) (hts (.fieldLink RX5 17 "BurstWordsModel" "word" "[J") (by decide +kernel)) (fun _ h9 => h9) rfl dX5_sharedBy_9 ?_
        refine lv_iload_n hx hb dX5_sharedBy_12 rfl (lv_at hl 1 rfl) ?_
        refine g_l hx hb hK hP 2 1 rfl rfl (k := k) (by omega) (by decide) dX5_sharedBy_13 (v := lN (V k)) (hk _ (by omega)).1 ?_
        refine lv_iload_n hx hb dX5_sharedBy_14 rfl (lv_at hl 2 rfl) ?_
        refine c_Si (As := [.long (lN (V k)), .int (nI (i))]) (rest := []) S (c_X5_sign l (V k) i (w63 (hk _ (by omega)).2.1.1) (by omega)) (va_cwS 2 hts gX5_sharedBy_X5_sign rfl rfl rfl (by decide +kernel) ⟨Nat.le_of_ble_eq_true rfl, Nat.le_of_ble_eq_true rfl⟩) rfl hl.1 rfl (Nat.le_of_ble_eq_true rfl) dX5_sharedBy_15 ⟨Nat.le_of_ble_eq_true rfl, Nat.le_of_ble_eq_true rfl⟩ ?_
        refine z_le (tgt := 52) hx hb dX5_sharedBy_18 (by decide) (Nat.lt_trans (bsg_lt _ _) (by decide)) (fun c_18 => ?_) (fun c_18 => ?_)
        · refine lv_iload_n hx hb dX5_sharedBy_52 rfl (lv_at hl 2 rfl) ?_
          exact r_i hx hb hr hlocks (congrArg nI (bfs_eq hi (fun j h => by simp [hz j h]; exact (hz j h).2 ▸ (hz j h).1) (fun h => by simp [c_18])).symm) dX5_sharedBy_53
        · refine lv_aload_n hx hb dX5_sharedBy_21 rfl (lv_at hl 0 rfl) ?_
          refine va_get (D := (dC, dI)) (ci := 4) (v := .ref (a 2)) (C := RX5) (T := TX5) (N := 16) hx hb hts hi5 hown hK hP 0 rfl rfl 4 (by decide) (hts (.fieldLink RX5 17 "BurstWordsModel" "word" "[J") (by decide +kernel)) (fun _ h9 => h9) rfl dX5_sharedBy_22 ?_
          refine lv_iload_n hx hb dX5_sharedBy_25 rfl (lv_at hl 1 rfl) ?_
          refine g_l hx hb hK hP 2 1 rfl rfl (k := k) (by omega) (by decide) dX5_sharedBy_26 (v := lN (V k)) (hk _ (by omega)).1 ?_
          refine lv_iload_n hx hb dX5_sharedBy_27 rfl (lv_at hl 2 rfl) ?_
          refine c_Si (As := [.long (lN (V k)), .int (nI (i))]) (rest := []) S (c_X5_sign l (V k) i (w63 (hk _ (by omega)).2.1.1) (by omega)) (va_cwS 2 hts gX5_sharedBy_X5_sign rfl rfl rfl (by decide +kernel) ⟨Nat.le_of_ble_eq_true rfl, Nat.le_of_ble_eq_true rfl⟩) rfl hl.1 rfl (Nat.le_of_ble_eq_true rfl) dX5_sharedBy_28 ⟨Nat.le_of_ble_eq_true rfl, Nat.le_of_ble_eq_true rfl⟩ ?_
          refine lv_aload_n hx hb dX5_sharedBy_31 rfl (lv_at hl 0 rfl) ?_
          refine va_get (D := (dC, dI)) (ci := 4) (v := .ref (a 2)) (C := RX5) (T := TX5) (N := 16) hx hb hts hi5 hown hK hP 0 rfl rfl 4 (by decide) (hts (.fieldLink RX5 17 "BurstWordsModel" "word" "[J") (by decide +kernel)) (fun _ h9 => h9) rfl dX5_sharedBy_32 ?_
          refine lv_iload_n hx hb dX5_sharedBy_35 rfl (lv_at hl 1 rfl) ?_
          refine lv_iconst (v := nI (1)) hx hb dX5_sharedBy_36 (by decide) ?_
          refine lv_iadd hx hb dX5_sharedBy_37 ?_
          refine tpi (nI_add _ _) ?_
          refine g_l hx hb hK hP 2 1 rfl rfl (k := k + 1) (by omega) (by decide) dX5_sharedBy_38 (v := lN (V (k + 1))) (hk _ (by omega)).1 ?_
          refine lv_iload_n hx hb dX5_sharedBy_39 rfl (lv_at hl 2 rfl) ?_
          refine c_Si (As := [.long (lN (V (k + 1))), .int (nI (i))]) (rest := [.int (nI (bsg (V k) i))]) S (c_X5_sign l (V (k + 1)) i (w63 (hk _ (by omega)).2.1.1) (by omega)) (va_cwS 2 hts gX5_sharedBy_X5_sign rfl rfl rfl (by decide +kernel) ⟨Nat.le_of_ble_eq_true rfl, Nat.le_of_ble_eq_true rfl⟩) rfl hl.1 rfl (Nat.le_of_ble_eq_true rfl) dX5_sharedBy_40 ⟨Nat.le_of_ble_eq_true rfl, Nat.le_of_ble_eq_true rfl⟩ ?_
          refine n_ne (tgt := 52) hx hb dX5_sharedBy_43 (by decide) (Nat.lt_trans (bsg_lt _ _) (by decide)) (Nat.lt_trans (bsg_lt _ _) (by decide)) (fun c_43 => ?_) (fun c_43 => ?_)
          · refine lv_iload_n hx hb dX5_sharedBy_52 rfl (lv_at hl 2 rfl) ?_
            exact r_i hx hb hr hlocks (congrArg nI (bfs_eq hi (fun j h => by simp [hz j h]; exact (hz j h).2 ▸ (hz j h).1) (fun h => by simp [c_43])).symm) dX5_sharedBy_53
          · refine lv_iinc (v := nI (i + 1)) (lv' := [(2, .int (nI (i + 1))), (0, .ref (a 0)), (1, .int (nI (k)))]) hx hb dX5_sharedBy_46 hl (k := 2) rfl (inc1 _) (by decide) rfl (fun ls hl => ?_)
            refine lv_goto (tgt := 2) hx hb dX5_sharedBy_49 (by decide) ?_
            exact ih_2 (i + 1) (by omega) (lt_s hz ⟨Nat.pos_iff_ne_zero.mp c_18, c_43⟩) (by omega) ls (lv_sub hl [1, 2, 0] rfl)
  exact lp_2 _ (0) (by omega) lt_0 (Nat.lt_succ_self _) ls (lv_sub hl [1, 2, 0] rfl)
abbrev rm_X5_shared : Room := { frames := 3, cells := 0, slots := 0, locals := 67 }
set_option maxHeartbeats 4000000 in
set_option maxRecDepth 100000 in
theorem c_X5_shared (l : Launch) (dC : Nat → ClassId) (dI : Nat → Nat → Nat) (cI cJ cZ : ClassId) (a : Nat → Nat) (ty : Nat → Int32) (tm b : Nat) (wo : Nat → Int64) (of : Nat → Int32) (n : Nat) (no : Nat → Int64) (nm : Nat) (un : Nat → Int64) (um : Nat) (sa sl si : Nat → Int32) (sn : Nat) (tk : Nat → Int32) (v : Nat) (V O K SA SL SI : Nat → Nat) (hmw : bMW ty tm v) (hmd : bMD wo of n V O) (hmn : bMN no nm K) (hms : bMS sa sl si sn SA SL SI) (g : Bool) : Met l yX5_shared wsX5_shared rm_X5_shared (rPc (dC, dI) (tysA cI cJ cZ) (wm a cI cJ cZ ty tm b wo of n no nm un um sa sl si sn tk) [.ref (a 0), .int (bI (g))]) (Ri (bsd g (n - 1) (fun k => bsh (V k) (V (k + 1))))) 0 0 (fun _ => False) := by
  refine met_r (cc := cX5_shared) (maxL := 6) (ret := (some .int)) (own := RX5) (by decide) rfl rfl (Nat.le_of_ble_eq_true rfl) ?_
  intro p e s m below meth c S hr hlocks hP hK ls hl
  obtain ⟨hx, hb, hml, hown, hts⟩ := id S
  have hl : lv_has ls 6 [(0, .ref (a 0)), (1, .int (bI (g)))] := hl
  have hi5 : ∀ w ∈ wsX50, w ∈ wsX5_shared := fun _ h => List.mem_cons_of_mem _ (List.mem_append_right _ h)
  obtain ⟨hvw, htm, hty⟩ := id hmw; obtain ⟨hn, hk⟩ := id hmd; obtain ⟨hnm, hkn⟩ := id hmn; obtain ⟨hsn, hks⟩ := id hms
  refine lv_bipush (v := (-9 : Int32)) hx hb dX5_shared_0 (by decide) ?_
  refine lv_istore_n (lv' := [(2, .int ((-9 : Int32))), (0, .ref (a 0)), (1, .int (bI (g)))]) hx hb dX5_shared_2 rfl hl (by decide) rfl (fun ls hl => ?_)
  refine lv_iconst (v := nI (0)) hx hb dX5_shared_3 (by decide) ?_
  refine lv_istore_n (lv' := [(3, .int (nI (0))), (2, .int ((-9 : Int32))), (0, .ref (a 0)), (1, .int (bI (g)))]) hx hb dX5_shared_4 rfl hl (by decide) rfl (fun ls hl => ?_)
  refine lv_iconst (v := nI (0)) hx hb dX5_shared_5 (by decide) ?_
  refine lv_istore (lv' := [(4, .int (nI (0))), (3, .int (nI (0))), (2, .int ((-9 : Int32))), (0, .ref (a 0)), (1, .int (bI (g)))]) hx hb dX5_shared_6 hl (by decide) rfl (fun ls hl => ?_)
  have lp_8 : ∀ (j_8 : Nat) (i : Nat), (i ≤ n - 1) → (n - i) < j_8 → ∀ ls : Array Slot, lv_has ls 6 [(0, .ref (a 0)), (1, .int (bI (g))), (2, .int (bno i (bmx (fun k => bsh (V k) (V (k + 1))) i))), (3, .int (nI (bpr (fun k => bsh (V k) (V (k + 1))) i))), (4, .int (nI (i)))] → W p l e rm_X5_shared s m ([.ref (a 0), .int (bI (g))] : List Value).toArray below meth c s.heap [] 0 0 (MQ below (Ri (bsd g (n - 1) (fun k => bsh (V k) (V (k + 1))))) ([.ref (a 0), .int (bI (g))] : List Value).toArray s 0 0 (fun _ => False)) (F0 m 8 ls []) := by
    intro j_8
    induction j_8 with
    | zero => intro i _ h0; exact absurd h0 (Nat.not_lt_zero _)
    | succ j_8 ih_8 =>
      intro i hi hf_8 ls hl
      refine lv_iload hx hb dX5_shared_8 (lv_at hl 4 rfl) ?_
      refine lv_iconst (v := nI (1)) hx hb dX5_shared_10 (by decide) ?_
      refine lv_iadd hx hb dX5_shared_11 ?_
      refine tpi (nI_add _ _) ?_
      refine lv_aload_n hx hb dX5_shared_12 rfl (lv_at hl 0 rfl) ?_
      refine va_get (D := (dC, dI)) (ci := 4) (v := .int (nI (n))) (C := RX5) (T := TX5) (N := 16) hx hb hts hi5 hown hK hP 0 rfl rfl 6 (by decide) (hts (.fieldLink RX5 67 "BurstWordsModel" "many" "I") (by decide +kernel)) (fun _ h9 => h9) rfl dX5_shared_13 ?_
      refine n_ge (tgt := 70) hx hb dX5_shared_16 (by decide) (by omega) (by omega) (fun c_16 => ?_) (fun c_16 => ?_)
      · refine lv_iload_n hx hb dX5_shared_70 rfl (lv_at hl 1 rfl) ?_
        refine b_eq (tgt := 78) hx hb dX5_shared_71 (by decide) (fun c_71 => ?_) (fun c_71 => ?_)
        · refine lv_iload_n hx hb dX5_shared_78 rfl (lv_at hl 3 rfl) ?_
          exact r_i hx hb hr hlocks (by rw [c_71, show n - 1 = i by omega]; rfl) dX5_shared_79
        · refine lv_iload_n hx hb dX5_shared_74 rfl (lv_at hl 2 rfl) ?_
          refine lv_goto (tgt := 79) hx hb dX5_shared_75 (by decide) ?_
          exact r_i hx hb hr hlocks (by rw [c_71, show n - 1 = i by omega]; rfl) dX5_shared_79
      · by_cases hsl : i = 0
        · have hl := lv_cg (l' := [(0, .ref (a 0)), (1, .int (bI (g))), (2, .int ((-9 : Int32))), (3, .int (nI (bpr (fun k => bsh (V k) (V (k + 1))) i))), (4, .int (nI (i)))]) hl (by rw [show bno i (bmx (fun k => bsh (V k) (V (k + 1))) i) = (-9 : Int32) from if_pos hsl])
          refine lv_aload_n hx hb dX5_shared_19 rfl (lv_at hl 0 rfl) ?_
          refine lv_iload hx hb dX5_shared_20 (lv_at hl 4 rfl) ?_
          refine c_Vi (As := [.int (nI (i))]) (rest := []) (ci := 4) (q0 := 0) S (c_X5_sharedBy l dC dI cI cJ cZ a ty tm b wo of n no nm un um sa sl si sn tk v V O K SA SL SI hmw hmd hmn hms i (by omega)) (cwV 1 hts gX5_shared_X5_sharedBy rfl rfl rfl (by decide +kernel) ⟨Nat.le_of_ble_eq_true rfl, Nat.le_of_ble_eq_true rfl⟩) hK hP rfl rfl rfl hl.1 rfl (Nat.le_of_ble_eq_true rfl) dX5_shared_22 ⟨Nat.le_of_ble_eq_true rfl, Nat.le_of_ble_eq_true rfl⟩ ?_
          refine lv_istore (lv' := [(5, .int (nI (bsh (V i) (V (i + 1))))), (0, .ref (a 0)), (1, .int (bI (g))), (2, .int ((-9 : Int32))), (3, .int (nI (bpr (fun k => bsh (V k) (V (k + 1))) i))), (4, .int (nI (i)))]) hx hb dX5_shared_25 hl (by decide) rfl (fun ls hl => ?_)
          refine lv_iload hx hb dX5_shared_27 (lv_at hl 0 rfl) ?_
          refine lv_iload_n hx hb dX5_shared_29 rfl (lv_at hl 3 rfl) ?_
          refine lv_icmp_le (tgt := 37) hx hb dX5_shared_30 (by decide) (fun c_30 => ?_) (fun c_30 => ?_)
          · exact absurd c_30 (not9 (Nat.lt_of_le_of_lt (bsh_le _ _) (by decide)))
          · refine lv_iconst (v := nI (1)) hx hb dX5_shared_33 (by decide) ?_
            refine lv_goto (tgt := 50) hx hb dX5_shared_34 (by decide) ?_
            refine lv_istore_n (lv' := [(3, .int (nI (1))), (5, .int (nI (bsh (V i) (V (i + 1))))), (0, .ref (a 0)), (1, .int (bI (g))), (2, .int ((-9 : Int32))), (4, .int (nI (i)))]) hx hb dX5_shared_50 rfl hl (by decide) rfl (fun ls hl => ?_)
            refine lv_iload hx hb dX5_shared_51 (lv_at hl 1 rfl) ?_
            refine lv_iload_n hx hb dX5_shared_53 rfl (lv_at hl 4 rfl) ?_
            refine lv_icmp_le (tgt := 62) hx hb dX5_shared_54 (by decide) (fun c_54 => ?_) (fun c_54 => ?_)
            · exact absurd c_54 (not9 (Nat.lt_of_le_of_lt (bsh_le _ _) (by decide)))
            · refine lv_iload hx hb dX5_shared_57 (lv_at hl 1 rfl) ?_
              refine lv_goto (tgt := 63) hx hb dX5_shared_59 (by decide) ?_
              refine lv_istore_n (lv' := [(2, .int (nI (bsh (V i) (V (i + 1))))), (3, .int (nI (1))), (5, .int (nI (bsh (V i) (V (i + 1))))), (0, .ref (a 0)), (1, .int (bI (g))), (4, .int (nI (i)))]) hx hb dX5_shared_63 rfl hl (by decide) rfl (fun ls hl => ?_)
              refine lv_iinc (v := nI (i + 1)) (lv' := [(4, .int (nI (i + 1))), (2, .int (nI (bsh (V i) (V (i + 1))))), (3, .int (nI (1))), (5, .int (nI (bsh (V i) (V (i + 1))))), (0, .ref (a 0)), (1, .int (bI (g)))]) hx hb dX5_shared_64 hl (k := 5) rfl (inc1 _) (by decide) rfl (fun ls hl => ?_)
              refine lv_goto (tgt := 8) hx hb dX5_shared_67 (by decide) ?_
              exact ih_8 (i + 1) (by omega) (by omega) ls (lv_cg (l := [(0, .ref (a 0)), (1, .int (bI (g))), (2, .int (nI (bsh (V i) (V (i + 1))))), (3, .int (nI (1))), (4, .int (nI (i + 1)))]) (lv_sub hl [4, 5, 1, 2, 0] rfl) (by rw [bpr_gt (f := (fun k => bsh (V k) (V (k + 1)))) (Or.inl hsl)]; subst hsl; rfl))
        · have hl := lv_cg (l' := [(0, .ref (a 0)), (1, .int (bI (g))), (2, .int (nI (bmx (fun k => bsh (V k) (V (k + 1))) i))), (3, .int (nI (bpr (fun k => bsh (V k) (V (k + 1))) i))), (4, .int (nI (i)))]) hl (by rw [show bno i (bmx (fun k => bsh (V k) (V (k + 1))) i) = nI (bmx (fun k => bsh (V k) (V (k + 1))) i) from if_neg hsl])
          refine lv_aload_n hx hb dX5_shared_19 rfl (lv_at hl 0 rfl) ?_
          refine lv_iload hx hb dX5_shared_20 (lv_at hl 4 rfl) ?_
          refine c_Vi (As := [.int (nI (i))]) (rest := []) (ci := 4) (q0 := 0) S (c_X5_sharedBy l dC dI cI cJ cZ a ty tm b wo of n no nm un um sa sl si sn tk v V O K SA SL SI hmw hmd hmn hms i (by omega)) (cwV 1 hts gX5_shared_X5_sharedBy rfl rfl rfl (by decide +kernel) ⟨Nat.le_of_ble_eq_true rfl, Nat.le_of_ble_eq_true rfl⟩) hK hP rfl rfl rfl hl.1 rfl (Nat.le_of_ble_eq_true rfl) dX5_shared_22 ⟨Nat.le_of_ble_eq_true rfl, Nat.le_of_ble_eq_true rfl⟩ ?_
          refine lv_istore (lv' := [(5, .int (nI (bsh (V i) (V (i + 1))))), (0, .ref (a 0)), (1, .int (bI (g))), (2, .int (nI (bmx (fun k => bsh (V k) (V (k + 1))) i))), (3, .int (nI (bpr (fun k => bsh (V k) (V (k + 1))) i))), (4, .int (nI (i)))]) hx hb dX5_shared_25 hl (by decide) rfl (fun ls hl => ?_)
          refine lv_iload hx hb dX5_shared_27 (lv_at hl 0 rfl) ?_
          refine lv_iload_n hx hb dX5_shared_29 rfl (lv_at hl 3 rfl) ?_
          refine n_le (tgt := 37) hx hb dX5_shared_30 (by decide) (Nat.lt_of_le_of_lt (bsh_le _ _) (by decide)) (Nat.lt_of_le_of_lt (bmx_le (c := 7) (fun k _ => bsh_le _ _)) (by decide)) (fun c_30 => ?_) (fun c_30 => ?_)
          · refine lv_iload hx hb dX5_shared_37 (lv_at hl 0 rfl) ?_
            refine lv_iload_n hx hb dX5_shared_39 rfl (lv_at hl 3 rfl) ?_
            refine n_ne (tgt := 49) hx hb dX5_shared_40 (by decide) (Nat.lt_of_le_of_lt (bsh_le _ _) (by decide)) (Nat.lt_of_le_of_lt (bmx_le (c := 7) (fun k _ => bsh_le _ _)) (by decide)) (fun c_40 => ?_) (fun c_40 => ?_)
            · refine lv_iload_n hx hb dX5_shared_49 rfl (lv_at hl 4 rfl) ?_
              refine lv_istore_n (lv' := [(3, .int (nI (bpr (fun k => bsh (V k) (V (k + 1))) i))), (5, .int (nI (bsh (V i) (V (i + 1))))), (0, .ref (a 0)), (1, .int (bI (g))), (2, .int (nI (bmx (fun k => bsh (V k) (V (k + 1))) i))), (4, .int (nI (i)))]) hx hb dX5_shared_50 rfl hl (by decide) rfl (fun ls hl => ?_)
              refine lv_iload hx hb dX5_shared_51 (lv_at hl 1 rfl) ?_
              refine lv_iload_n hx hb dX5_shared_53 rfl (lv_at hl 4 rfl) ?_
              refine n_le (tgt := 62) hx hb dX5_shared_54 (by decide) (Nat.lt_of_le_of_lt (bsh_le _ _) (by decide)) (Nat.lt_of_le_of_lt (bmx_le (c := 7) (fun k _ => bsh_le _ _)) (by decide)) (fun c_54 => ?_) (fun c_54 => ?_)
              · refine lv_iload_n hx hb dX5_shared_62 rfl (lv_at hl 4 rfl) ?_
                refine lv_istore_n (lv' := [(2, .int (nI (bmx (fun k => bsh (V k) (V (k + 1))) i))), (3, .int (nI (bpr (fun k => bsh (V k) (V (k + 1))) i))), (5, .int (nI (bsh (V i) (V (i + 1))))), (0, .ref (a 0)), (1, .int (bI (g))), (4, .int (nI (i)))]) hx hb dX5_shared_63 rfl hl (by decide) rfl (fun ls hl => ?_)
                refine lv_iinc (v := nI (i + 1)) (lv' := [(4, .int (nI (i + 1))), (2, .int (nI (bmx (fun k => bsh (V k) (V (k + 1))) i))), (3, .int (nI (bpr (fun k => bsh (V k) (V (k + 1))) i))), (5, .int (nI (bsh (V i) (V (i + 1))))), (0, .ref (a 0)), (1, .int (bI (g)))]) hx hb dX5_shared_64 hl (k := 5) rfl (inc1 _) (by decide) rfl (fun ls hl => ?_)
                refine lv_goto (tgt := 8) hx hb dX5_shared_67 (by decide) ?_
                exact ih_8 (i + 1) (by omega) (by omega) ls (lv_cg (l := [(0, .ref (a 0)), (1, .int (bI (g))), (2, .int (nI (bmx (fun k => bsh (V k) (V (k + 1))) i))), (3, .int (nI (bpr (fun k => bsh (V k) (V (k + 1))) i))), (4, .int (nI (i + 1)))]) (lv_sub hl [4, 5, 1, 2, 0] rfl) (by rw [bpr_lt (f := (fun k => bsh (V k) (V (k + 1)))) (Nat.lt_of_le_of_ne c_30 c_40), show bno (i + 1) (bmx (fun k => bsh (V k) (V (k + 1))) (i + 1)) = nI (bmx (fun k => bsh (V k) (V (k + 1))) (i + 1)) from if_neg (Nat.succ_ne_zero i), bmx_t (f := (fun k => bsh (V k) (V (k + 1)))) (i := i) c_30]))
              · exact absurd c_54 (by omega)
            · refine lv_iload_n hx hb dX5_shared_43 rfl (lv_at hl 4 rfl) ?_
              refine lv_iconst (v := nI (1)) hx hb dX5_shared_44 (by decide) ?_
              refine lv_iadd hx hb dX5_shared_45 ?_
              refine tpi (nI_add _ _) ?_
              refine lv_goto (tgt := 50) hx hb dX5_shared_46 (by decide) ?_
              refine lv_istore_n (lv' := [(3, .int (nI ((bpr (fun k => bsh (V k) (V (k + 1))) i) + 1))), (5, .int (nI (bsh (V i) (V (i + 1))))), (0, .ref (a 0)), (1, .int (bI (g))), (2, .int (nI (bmx (fun k => bsh (V k) (V (k + 1))) i))), (4, .int (nI (i)))]) hx hb dX5_shared_50 rfl hl (by decide) rfl (fun ls hl => ?_)
              refine lv_iload hx hb dX5_shared_51 (lv_at hl 1 rfl) ?_
              refine lv_iload_n hx hb dX5_shared_53 rfl (lv_at hl 4 rfl) ?_
              refine n_le (tgt := 62) hx hb dX5_shared_54 (by decide) (Nat.lt_of_le_of_lt (bsh_le _ _) (by decide)) (Nat.lt_of_le_of_lt (bmx_le (c := 7) (fun k _ => bsh_le _ _)) (by decide)) (fun c_54 => ?_) (fun c_54 => ?_)
              · refine lv_iload_n hx hb dX5_shared_62 rfl (lv_at hl 4 rfl) ?_
                refine lv_istore_n (lv' := [(2, .int (nI (bmx (fun k => bsh (V k) (V (k + 1))) i))), (3, .int (nI ((bpr (fun k => bsh (V k) (V (k + 1))) i) + 1))), (5, .int (nI (bsh (V i) (V (i + 1))))), (0, .ref (a 0)), (1, .int (bI (g))), (4, .int (nI (i)))]) hx hb dX5_shared_63 rfl hl (by decide) rfl (fun ls hl => ?_)
                refine lv_iinc (v := nI (i + 1)) (lv' := [(4, .int (nI (i + 1))), (2, .int (nI (bmx (fun k => bsh (V k) (V (k + 1))) i))), (3, .int (nI ((bpr (fun k => bsh (V k) (V (k + 1))) i) + 1))), (5, .int (nI (bsh (V i) (V (i + 1))))), (0, .ref (a 0)), (1, .int (bI (g)))]) hx hb dX5_shared_64 hl (k := 5) rfl (inc1 _) (by decide) rfl (fun ls hl => ?_)
                refine lv_goto (tgt := 8) hx hb dX5_shared_67 (by decide) ?_
                exact ih_8 (i + 1) (by omega) (by omega) ls (lv_cg (l := [(0, .ref (a 0)), (1, .int (bI (g))), (2, .int (nI (bmx (fun k => bsh (V k) (V (k + 1))) i))), (3, .int (nI ((bpr (fun k => bsh (V k) (V (k + 1))) i) + 1))), (4, .int (nI (i + 1)))]) (lv_sub hl [4, 5, 1, 2, 0] rfl) (by rw [bpr_eq (f := (fun k => bsh (V k) (V (k + 1)))) c_40.symm, show bno (i + 1) (bmx (fun k => bsh (V k) (V (k + 1))) (i + 1)) = nI (bmx (fun k => bsh (V k) (V (k + 1))) (i + 1)) from if_neg (Nat.succ_ne_zero i), bmx_t (f := (fun k => bsh (V k) (V (k + 1)))) (i := i) c_30]))
              · exact absurd c_54 (by omega)
          · refine lv_iconst (v := nI (1)) hx hb dX5_shared_33 (by decide) ?_
            refine lv_goto (tgt := 50) hx hb dX5_shared_34 (by decide) ?_
            refine lv_istore_n (lv' := [(3, .int (nI (1))), (5, .int (nI (bsh (V i) (V (i + 1))))), (0, .ref (a 0)), (1, .int (bI (g))), (2, .int (nI (bmx (fun k => bsh (V k) (V (k + 1))) i))), (4, .int (nI (i)))]) hx hb dX5_shared_50 rfl hl (by decide) rfl (fun ls hl => ?_)
            refine lv_iload hx hb dX5_shared_51 (lv_at hl 1 rfl) ?_
            refine lv_iload_n hx hb dX5_shared_53 rfl (lv_at hl 4 rfl) ?_
            refine n_le (tgt := 62) hx hb dX5_shared_54 (by decide) (Nat.lt_of_le_of_lt (bsh_le _ _) (by decide)) (Nat.lt_of_le_of_lt (bmx_le (c := 7) (fun k _ => bsh_le _ _)) (by decide)) (fun c_54 => ?_) (fun c_54 => ?_)
            · exact absurd c_54 (by omega)
            · refine lv_iload hx hb dX5_shared_57 (lv_at hl 1 rfl) ?_
              refine lv_goto (tgt := 63) hx hb dX5_shared_59 (by decide) ?_
              refine lv_istore_n (lv' := [(2, .int (nI (bsh (V i) (V (i + 1))))), (3, .int (nI (1))), (5, .int (nI (bsh (V i) (V (i + 1))))), (0, .ref (a 0)), (1, .int (bI (g))), (4, .int (nI (i)))]) hx hb dX5_shared_63 rfl hl (by decide) rfl (fun ls hl => ?_)
              refine lv_iinc (v := nI (i + 1)) (lv' := [(4, .int (nI (i + 1))), (2, .int (nI (bsh (V i) (V (i + 1))))), (3, .int (nI (1))), (5, .int (nI (bsh (V i) (V (i + 1))))), (0, .ref (a 0)), (1, .int (bI (g)))]) hx hb dX5_shared_64 hl (k := 5) rfl (inc1 _) (by decide) rfl (fun ls hl => ?_)
              refine lv_goto (tgt := 8) hx hb dX5_shared_67 (by decide) ?_
              exact ih_8 (i + 1) (by omega) (by omega) ls (lv_cg (l := [(0, .ref (a 0)), (1, .int (bI (g))), (2, .int (nI (bsh (V i) (V (i + 1))))), (3, .int (nI (1))), (4, .int (nI (i + 1)))]) (lv_sub hl [4, 5, 1, 2, 0] rfl) (by rw [bpr_gt (f := (fun k => bsh (V k) (V (k + 1)))) (Or.inr c_30), show bno (i + 1) (bmx (fun k => bsh (V k) (V (k + 1))) (i + 1)) = nI (bmx (fun k => bsh (V k) (V (k + 1))) (i + 1)) from if_neg (Nat.succ_ne_zero i), bmx_s (f := (fun k => bsh (V k) (V (k + 1)))) (i := i) c_30]))
  exact lp_8 _ (0) (by omega) (Nat.lt_succ_self _) ls (lv_sub hl [3, 4, 2, 1, 0] rfl)
