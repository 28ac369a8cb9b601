/-! own rows: the law: its loop, and from its entry -/
theorem lp_go {L i : Nat} (hL : L ≤ 2048) (hi : i ≤ 4096) (h : ¬ nI L - nI 4 < nI i) : i + 4 ≤ L := by
  rw [Int32.lt_iff_toInt_lt, pk_sub_toInt (by omega) (by omega), nI_toInt (by omega)] at h
  omega
set_option maxHeartbeats 4000000 in
set_option maxRecDepth 100000 in
theorem law_loop {p : Program} {e : Env} {s : State} {m : MethodId} {below : List Frame} {meth : Method} {c : Code} {l : Launch} {b L : Nat} {xs : Nat → Int32} {dC : Nat → ClassId} {dI : Nat → Nat → Nat} {cI cJ cZ : ClassId} {a a' : Nat → Nat} (hL : L ≤ 2048) (hr : meth.sig.returnType = ret) (hlocks : meth.locks = false) (S : CallFix p m c code 4 s #[Value.ref b] wsL_law RL) (hK : va_K (dC, dI) vwCl (tysA cI cJ cZ) s) (hX : va_X b L xs s s.heap) (hbl : b < s.heap.size) :
    ∀ (N i : Nat), i ≤ 4096 → L ≤ i + 4 * N → ∀ (ls : Array Slot), lv_has ls 4 [(3, .int (nI i)), (2, .ref (a' 0)), (1, .ref (a 0)), (0, .ref b)] → ∀ (w : Nat → Int64) (o d : Nat → Int32) (n : Nat) (hw : Nat → Int64) (ho hd : Nat → Int32) (hn : Nat) (pl le so : Nat → Int32) (sn : Nat) (ta : Nat → Int32) (v bd : Nat) (ty : Nat → Int32) (tm : Nat) (wo : Nat → Int64) (of : Nat → Int32) (no : Nat → Int64) (nm : Nat) (un : Nat → Int64) (sa sl si tk : Nat → Int32) (V O E K HW HO HE SA SL SI : Nat → Nat) (hbd : 2 ≤ bd ∧ bd ≤ 8) (hJ : bJ bd n V O E K nm w o d hw ho hd hn HW HO HE wo of no un) (hMW : bMW ty tm v) (hSS : bSS pl le so sn SA SL SI) (hMS : bMS sa sl si sn SA SL SI) (H : Heap) (locs : List Loc), va_P (dC, dI) vwCl (wb a cI cJ cZ w o d n hw ho hd hn pl le so sn ta v bd ++ wm a' cI cJ cZ ty tm bd wo of n no nm un hn sa sl si sn tk) H → va_D (fun q : Nat => s.heap.size ≤ q) (wb a cI cJ cZ w o d n hw ho hd hn pl le so sn ta v bd ++ wm a' cI cJ cZ ty tm bd wo of n no nm un hn sa sl si sn tk) → va_S (fun q : Nat => s.heap.size ≤ q) s.heap H locs →
      W p l e room_1 s m #[Value.ref b] below meth c H locs 24 4134 (lw_Z below #[Value.ref b] s) (F0 m 18 ls []) := by
  obtain ⟨hx, hb, hml, hown, hts⟩ := id S
  have hA : ∀ q : Nat, s.heap.size ≤ q → (fun q : Nat => s.heap.size ≤ q) q := fun _ h => h
  have hbA : ¬ (fun q : Nat => s.heap.size ≤ q) b := Nat.not_le.mpr hbl
  intro N
  induction N with
  | zero =>
    intro i hi hN ls hl w o d n hw ho hd hn pl le so sn ta v bd ty tm wo of no nm un sa sl si tk V O E K HW HO HE SA SL SI hbd hJ hMW hSS hMS H locs hP hD hS
    refine lv_iload_n hx hb dL_law_18 rfl (lv_at hl 0 rfl) ?_
    refine lv_aload_n hx hb dL_law_19 rfl (lv_at hl 3 rfl) ?_
    refine va_slen hx hb hX hbl hbA hS dL_law_20 ?_
    refine lv_iconst (v := nI 4) hx hb dL_law_21 (by decide) ?_
    refine lv_isub hx hb dL_law_22 ?_
    refine lv_icmp_gt (tgt := 650) hx hb dL_law_23 (by decide) (fun cq => ?_) (fun cq => ?_)
    · refine lv_iconst (v := 1) hx hb dL_law_650 (by decide) ?_
      refine va_forget (fun q hq => hS.2.2 q hq) ?_
      exact lw_ret hx hb hr hlocks dL_law_651
    · have hgo := lp_go hL hi cq
      omega
  | succ N ih =>
    intro i hi hN ls hl w o d n hw ho hd hn pl le so sn ta v bd ty tm wo of no nm un sa sl si tk V O E K HW HO HE SA SL SI hbd hJ hMW hSS hMS H locs hP hD hS
    refine lv_iload_n hx hb dL_law_18 rfl (lv_at hl 0 rfl) ?_
    refine lv_aload_n hx hb dL_law_19 rfl (lv_at hl 3 rfl) ?_
    refine va_slen hx hb hX hbl hbA hS dL_law_20 ?_
    refine lv_iconst (v := nI 4) hx hb dL_law_21 (by decide) ?_
    refine lv_isub hx hb dL_law_22 ?_
    refine lv_icmp_gt (tgt := 650) hx hb dL_law_23 (by decide) (fun cq => ?_) (fun cq => ?_)
    · refine lv_iconst (v := 1) hx hb dL_law_650 (by decide) ?_
      refine va_forget (fun q hq => hS.2.2 q hq) ?_
      exact lw_ret hx hb hr hlocks dL_law_651
    · have hgo := lp_go hL hi cq
      have kk : LK l p e s m b below meth c dC dI cI cJ cZ a a' (fun q : Nat => s.heap.size ≤ q) (lw_Z below #[Value.ref b] s) ls := by
        intro w o d n hw ho hd hn pl le so sn ta v bd ty tm wo of no nm un sa sl si tk V O E K HW HO HE SA SL SI hbd hJ hMW hSS hMS H locs hP hD hS
        refine lv_iinc (v := nI (i + 4)) (lv' := [(3, .int (nI (i + 4))), (2, .ref (a' 0)), (1, .ref (a 0)), (0, .ref b)]) hx hb dL_law_644 hl (k := 0) rfl (nI_add i 4) (by decide) rfl (fun ls hl => ?_)
        refine lv_goto (tgt := 18) hx hb dL_law_647 (by decide) ?_
        exact ih (i + 4) (by omega) (by omega) ls hl w o d n hw ho hd hn pl le so sn ta v bd ty tm wo of no nm un sa sl si tk V O E K HW HO HE SA SL SI hbd hJ hMW hSS hMS H locs hP hD hS
      refine lv_aload_n hx hb dL_law_26 rfl (lv_at hl 3 rfl) ?_
      refine lv_iload_n hx hb dL_law_27 rfl (lv_at hl 0 rfl) ?_
      refine va_sld hx hb hX hbl hbA hS (vp_in_nI (show i < L by omega) (by omega)) dL_law_28 ?_
      refine lv_bipush (v := nI (31)) hx hb dL_law_29 (by decide) ?_
      refine lv_iand hx hb dL_law_31 ?_
      obtain ⟨k, hk, ek⟩ := and31 (xs (nI i).toNatClampNeg)
      refine tpi ek ?_
      clear ek
      rcases Nat.lt_or_ge k 25 with h25 | h25
      · rcases (show k = 0 ∨ k = 1 ∨ k = 2 ∨ k = 3 ∨ k = 4 ∨ k = 5 ∨ k = 6 ∨ k = 7 ∨ k = 8 ∨ k = 9 ∨ k = 10 ∨ k = 11 ∨ k = 12 ∨ k = 13 ∨ k = 14 ∨ k = 15 ∨ k = 16 ∨ k = 17 ∨ k = 18 ∨ k = 19 ∨ k = 20 ∨ k = 21 ∨ k = 22 ∨ k = 23 ∨ k = 24 by omega) with rfl | rfl | rfl | rfl | rfl | rfl | rfl | rfl | rfl | rfl | rfl | rfl | rfl | rfl | rfl | rfl | rfl | rfl | rfl | rfl | rfl | rfl | rfl | rfl | rfl
        · refine lv_tableIn (off := 116) (tgt := 148) hx hb dL_law_32 (by decide +kernel) (by decide +kernel) (by decide +kernel) (by decide) ?_
          exact cs_type S hK hA hX hbl hbA hl hgo hL kk hbd hJ hMW hSS hMS hP hD hS
        · refine lv_tableIn (off := 139) (tgt := 171) hx hb dL_law_32 (by decide +kernel) (by decide +kernel) (by decide +kernel) (by decide) ?_
          exact cs_clear S hK hA hX hbl hbA hl hgo hL kk hbd hJ hMW hSS hMS hP hD hS
        · refine lv_tableIn (off := 152) (tgt := 184) hx hb dL_law_32 (by decide +kernel) (by decide +kernel) (by decide +kernel) (by decide) ?_
          exact cs_bounds S hK hA hX hbl hbA hl hgo hL kk hbd hJ hMW hSS hMS hP hD hS
        · refine lv_tableIn (off := 175) (tgt := 207) hx hb dL_law_32 (by decide +kernel) (by decide +kernel) (by decide +kernel) (by decide) ?_
          exact cs_adds S hK hA hX hbl hbA hl hgo hL kk hbd hJ hMW hSS hMS hP hD hS
        · refine lv_tableIn (off := 188) (tgt := 220) hx hb dL_law_32 (by decide +kernel) (by decide +kernel) (by decide +kernel) (by decide) ?_
          exact cs_takes S hK hA hX hbl hbA hl hgo hL kk hbd hJ hMW hSS hMS hP hD hS
        · refine lv_tableIn (off := 201) (tgt := 233) hx hb dL_law_32 (by decide +kernel) (by decide +kernel) (by decide +kernel) (by decide) ?_
          exact cs_undo S hK hA hX hbl hbA hl hgo hL kk hbd hJ hMW hSS hMS hP hD hS
        · refine lv_tableIn (off := 214) (tgt := 246) hx hb dL_law_32 (by decide +kernel) (by decide +kernel) (by decide +kernel) (by decide) ?_
          exact cs_times S hK hA hX hbl hbA hl hgo hL kk hbd hJ hMW hSS hMS hP hD hS
        · refine lv_tableIn (off := 227) (tgt := 259) hx hb dL_law_32 (by decide +kernel) (by decide +kernel) (by decide +kernel) (by decide) ?_
          exact cs_rank S hK hA hX hbl hbA hl hgo hL kk hbd hJ hMW hSS hMS hP hD hS
        · refine lv_tableIn (off := 240) (tgt := 272) hx hb dL_law_32 (by decide +kernel) (by decide +kernel) (by decide +kernel) (by decide) ?_
          exact cs_begin S hK hA hX hbl hbA hl hgo hL kk hbd hJ hMW hSS hMS hP hD hS
        · refine lv_tableIn (off := 253) (tgt := 285) hx hb dL_law_32 (by decide +kernel) (by decide +kernel) (by decide +kernel) (by decide) ?_
          exact cs_depth S hK hA hX hbl hbA hl hgo hL kk hbd hJ hMW hSS hMS hP hD hS
        · refine lv_tableIn (off := 266) (tgt := 298) hx hb dL_law_32 (by decide +kernel) (by decide +kernel) (by decide +kernel) (by decide) ?_
          exact cs_container S hK hA hX hbl hbA hl hgo hL kk hbd hJ hMW hSS hMS hP hD hS
        · refine lv_tableIn (off := 289) (tgt := 321) hx hb dL_law_32 (by decide +kernel) (by decide +kernel) (by decide +kernel) (by decide) ?_
          exact cs_telling S hK hA hX hbl hbA hl hgo hL kk hbd hJ hMW hSS hMS hP hD hS
        · refine lv_tableIn (off := 302) (tgt := 334) hx hb dL_law_32 (by decide +kernel) (by decide +kernel) (by decide +kernel) (by decide) ?_
          exact cs_longest S hK hA hX hbl hbA hl hgo hL kk hbd hJ hMW hSS hMS hP hD hS
        · refine lv_tableIn (off := 315) (tgt := 347) hx hb dL_law_32 (by decide +kernel) (by decide +kernel) (by decide +kernel) (by decide) ?_
          exact cs_like S hK hA hX hbl hbA hl hgo hL kk hbd hJ hMW hSS hMS hP hD hS
        · refine lv_tableIn (off := 338) (tgt := 370) hx hb dL_law_32 (by decide +kernel) (by decide +kernel) (by decide +kernel) (by decide) ?_
          exact cs_odds S hK hA hX hbl hbA hl hgo hL kk hbd hJ hMW hSS hMS hP hD hS
        · refine lv_tableIn (off := 361) (tgt := 393) hx hb dL_law_32 (by decide +kernel) (by decide +kernel) (by decide +kernel) (by decide) ?_
          exact cs_kth S hK hA hX hbl hbA hl hgo hL kk hbd hJ hMW hSS hMS hP hD hS
        · refine lv_tableIn (off := 394) (tgt := 426) hx hb dL_law_32 (by decide +kernel) (by decide +kernel) (by decide +kernel) (by decide) ?_
          exact cs_unlike S hK hA hX hbl hbA hl hgo hL kk hbd hJ hMW hSS hMS hP hD hS
        · refine lv_tableIn (off := 427) (tgt := 459) hx hb dL_law_32 (by decide +kernel) (by decide +kernel) (by decide +kernel) (by decide) ?_
          exact cs_next S hK hA hX hbl hbA hl hgo hL kk hbd hJ hMW hSS hMS hP hD hS
        · refine lv_tableIn (off := 450) (tgt := 482) hx hb dL_law_32 (by decide +kernel) (by decide +kernel) (by decide +kernel) (by decide) ?_
          exact cs_top S hK hA hX hbl hbA hl hgo hL kk hbd hJ hMW hSS hMS hP hD hS
        · refine lv_tableIn (off := 483) (tgt := 515) hx hb dL_law_32 (by decide +kernel) (by decide +kernel) (by decide +kernel) (by decide) ?_
          exact cs_sees S hK hA hX hbl hbA hl hgo hL kk hbd hJ hMW hSS hMS hP hD hS
        · refine lv_tableIn (off := 526) (tgt := 558) hx hb dL_law_32 (by decide +kernel) (by decide +kernel) (by decide +kernel) (by decide) ?_
          exact cs_forget S hK hA hX hbl hbA hl hgo hL kk hbd hJ hMW hSS hMS hP hD hS
        · refine lv_tableIn (off := 539) (tgt := 571) hx hb dL_law_32 (by decide +kernel) (by decide +kernel) (by decide +kernel) (by decide) ?_
          exact cs_fit S hK hA hX hbl hbA hl hgo hL kk hbd hJ hMW hSS hMS hP hD hS
        · refine lv_tableIn (off := 562) (tgt := 594) hx hb dL_law_32 (by decide +kernel) (by decide +kernel) (by decide +kernel) (by decide) ?_
          exact cs_ask S hK hA hX hbl hbA hl hgo hL kk hbd hJ hMW hSS hMS hP hD hS
        · refine lv_tableIn (off := 575) (tgt := 607) hx hb dL_law_32 (by decide +kernel) (by decide +kernel) (by decide +kernel) (by decide) ?_
          exact cs_count S hK hA hX hbl hbA hl hgo hL kk hbd hJ hMW hSS hMS hP hD hS
        · refine lv_tableIn (off := 598) (tgt := 630) hx hb dL_law_32 (by decide +kernel) (by decide +kernel) (by decide +kernel) (by decide) ?_
          exact cs_digest S hK hA hX hbl hbA hl hgo hL kk hbd hJ hMW hSS hMS hP hD hS
      · refine lv_tableOut (tgt := 644) hx hb dL_law_32 (Or.inr (by rw [nI_toInt (by omega)]; omega)) (by decide) ?_
        exact kk w o d n hw ho hd hn pl le so sn ta v bd ty tm wo of no nm un sa sl si tk V O E K HW HO HE SA SL SI hbd hJ hMW hSS hMS H locs hP hD hS
