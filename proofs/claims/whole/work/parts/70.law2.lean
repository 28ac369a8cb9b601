/-! own rows: the law: the cases of its writers -/
section LW
variable {l : Launch} {p : Program} {e : Env} {s : State} {m : MethodId} {b : Nat} {below : List Frame} {meth : Method} {c : Code} {dC : Nat → ClassId} {dI : Nat → Nat → Nat} {cI cJ cZ : ClassId} {a a' : Nat → Nat} {A : Nat → Prop} {Q : State → Prop} {ls : Array Slot}
variable {w : Nat → Int64} {o d : Nat → Int32} {n : Nat} {hw : Nat → Int64} {ho hd : Nat → Int32} {hn : Nat} {pl le so : Nat → Int32} {sn : Nat} {ta : Nat → Int32} {v bd : Nat} {ty : Nat → Int32} {tm : Nat} {wo : Nat → Int64} {of : Nat → Int32} {no : Nat → Int64} {nm : Nat} {un : Nat → Int64} {sa sl si tk : Nat → Int32} {V O E K HW HO HE SA SL SI : Nat → Nat}
variable {H : Heap} {locs : List Loc} {L i : Nat} {xs : Nat → Int32} {rest : List Value}
set_option maxHeartbeats 4000000 in
set_option maxRecDepth 100000 in
theorem cs_type (S : CallFix p m c code 4 s #[Value.ref b] wsL_law RL) (hK : va_K (dC, dI) vwCl (tysA cI cJ cZ) s) (hA : ∀ q, s.heap.size ≤ q → A q) (hX : va_X b L xs s s.heap) (hbl : b < s.heap.size) (hbA : ¬ A b) (hl : lv_has ls 4 [(3, .int (nI i)), (2, .ref (a' 0)), (1, .ref (a 0)), (0, .ref b)]) (hi : i + 4 ≤ L) (hL : L ≤ 2048) (kk : LK l p e s m b below meth c dC dI cI cJ cZ a a' A Q ls)
    (hbd : 2 ≤ bd ∧ bd ≤ 8) (hJ : bJ bd n V O E K nm w o d hw ho hd hn HW HO HE wo of no un) (hMW : bMW ty tm v) (hSS : bSS pl le so sn SA SL SI) (hMS : bMS sa sl si sn SA SL SI) (hP : va_P (dC, dI) vwCl (wb a cI cJ cZ w o d n hw ho hd hn pl le so sn ta v bd ++ wm a' cI cJ cZ ty tm bd wo of n no nm un hn sa sl si sn tk) H) (hD : va_D A (wb a cI cJ cZ w o d n hw ho hd hn pl le so sn ta v bd ++ wm a' cI cJ cZ ty tm bd wo of n no nm un hn sa sl si sn tk)) (hS : va_S A s.heap H locs) : W p l e room_1 s m #[Value.ref b] below meth c H locs 24 4134 Q (F0 m 148 ls []) := by
  obtain ⟨hx, hb, hml, hown, hts⟩ := id S
  obtain ⟨j1, j2, j3, j4, j5, j6, j7, j8⟩ := id hJ
  have hv := hMW.1
  refine lv_aload_n hx hb dL_law_148 rfl (lv_at hl 2 rfl) ?_
  refine ld_arg (k := 1) hx hb hX hbl hbA hS hl dL_law_149 dL_law_150 dL_law_151 dL_law_152 dL_law_153 (by decide) (by omega) hL ?_
  refine m_Vi (As := [.int (xs (nI (i + 1)).toNatClampNeg)]) (rest := []) (ci := 3) (q0 := 0) (wr := wm a' cI cJ cZ ty tm bd wo of n no nm un hn sa sl si sn tk) S (c_X4_type l dC dI cI cJ cZ a w o d n hw ho hd hn pl le so sn ta v bd V O E HW HO HE SA SL SI j1 j2 hSS hv hbd H.size  (xs (nI (i + 1)).toNatClampNeg)) (cwV 1 hts gL_law_X4_type rfl rfl rfl (by decide +kernel) ⟨Nat.le_of_ble_eq_true rfl, Nat.le_of_ble_eq_true rfl⟩) hK hP hD hS hA [0, 1, 2, 3, 4, 5, 6, 7, 8, 9, 10, 11, 12, 13] [14, 15, 16, 17, 18, 19, 20, 21, 22, 23] (hP.sub [0, 1, 2, 3, 4, 5, 6, 7, 8, 9, 10, 11, 12, 13] rfl) (hD.sub [0, 1, 2, 3, 4, 5, 6, 7, 8, 9, 10, 11, 12, 13] (by decide) rfl) rfl rfl (by decide) (by decide) rfl rfl rfl hl.1 rfl (Nat.le_of_ble_eq_true rfl) dL_law_154 ⟨Nat.le_of_ble_eq_true rfl, Nat.le_of_ble_eq_true rfl⟩ (fun r u4 H locs hu4 hP hD hS => ?_)
  have hP : va_P (dC, dI) vwCl (wm a' cI cJ cZ ty tm bd wo of n no nm un hn sa sl si sn tk ++ wb a cI cJ cZ w o d n hw ho hd hn pl le so sn ta u4 bd) H := hP
  have hD : va_D A (wm a' cI cJ cZ ty tm bd wo of n no nm un hn sa sl si sn tk ++ wb a cI cJ cZ w o d n hw ho hd hn pl le so sn ta u4 bd) := hD
  refine lv_aload_n hx hb dL_law_157 rfl (lv_at hl 1 rfl) ?_
  refine ld_arg (k := 1) hx hb hX hbl hbA hS hl dL_law_158 dL_law_159 dL_law_160 dL_law_161 dL_law_162 (by decide) (by omega) hL ?_
  refine m_Vi (As := [.int (xs (nI (i + 1)).toNatClampNeg)]) (rest := [.int r]) (ci := 4) (q0 := 0) (wr := wb a cI cJ cZ w o d n hw ho hd hn pl le so sn ta u4 bd) S (c_X5_type l dC dI cI cJ cZ a' ty tm bd wo of n no nm un hn sa sl si sn tk v V O K SA SL SI hMW j3 j4 hMS H.size  (xs (nI (i + 1)).toNatClampNeg)) (cwV 1 hts gL_law_X5_type rfl rfl rfl (by decide +kernel) ⟨Nat.le_of_ble_eq_true rfl, Nat.le_of_ble_eq_true rfl⟩) hK hP hD hS hA [0, 1, 2, 3, 4, 5, 6, 7, 8, 9] [10, 11, 12, 13, 14, 15, 16, 17, 18, 19, 20, 21, 22, 23] (hP.sub [0, 1, 2, 3, 4, 5, 6, 7, 8, 9] rfl) (hD.sub [0, 1, 2, 3, 4, 5, 6, 7, 8, 9] (by decide) rfl) rfl rfl (by decide) (by decide) rfl rfl rfl hl.1 rfl (Nat.le_of_ble_eq_true rfl) dL_law_163 ⟨Nat.le_of_ble_eq_true rfl, Nat.le_of_ble_eq_true rfl⟩ (fun r' u5 H locs hu5 hP hD hS => ?_)
  obtain ⟨ty', tm'⟩ := u5
  have hP : va_P (dC, dI) vwCl (wb a cI cJ cZ w o d n hw ho hd hn pl le so sn ta u4 bd ++ wm a' cI cJ cZ ty' tm' bd wo of n no nm un hn sa sl si sn tk) H := hP
  have hD : va_D A (wb a cI cJ cZ w o d n hw ho hd hn pl le so sn ta u4 bd ++ wm a' cI cJ cZ ty' tm' bd wo of n no nm un hn sa sl si sn tk) := hD
  obtain ⟨e1, hMW'⟩ := J_type hMW hu4 hu5
  refine lv_icmp_eq (tgt := 644) hx hb dL_law_166 (by decide) (fun cq => ?_) (fun cq => ?_)
  · exact kk w o d n hw ho hd hn pl le so sn ta u4 bd ty' tm' wo of no nm un sa sl si tk V O E K HW HO HE SA SL SI hbd hJ hMW' hSS hMS H locs hP hD hS
  · exact absurd (e1) cq
set_option maxHeartbeats 4000000 in
set_option maxRecDepth 100000 in
theorem cs_clear (S : CallFix p m c code 4 s #[Value.ref b] wsL_law RL) (hK : va_K (dC, dI) vwCl (tysA cI cJ cZ) s) (hA : ∀ q, s.heap.size ≤ q → A q) (hX : va_X b L xs s s.heap) (hbl : b < s.heap.size) (hbA : ¬ A b) (hl : lv_has ls 4 [(3, .int (nI i)), (2, .ref (a' 0)), (1, .ref (a 0)), (0, .ref b)]) (hi : i + 4 ≤ L) (hL : L ≤ 2048) (kk : LK l p e s m b below meth c dC dI cI cJ cZ a a' A Q ls)
    (hbd : 2 ≤ bd ∧ bd ≤ 8) (hJ : bJ bd n V O E K nm w o d hw ho hd hn HW HO HE wo of no un) (hMW : bMW ty tm v) (hSS : bSS pl le so sn SA SL SI) (hMS : bMS sa sl si sn SA SL SI) (hP : va_P (dC, dI) vwCl (wb a cI cJ cZ w o d n hw ho hd hn pl le so sn ta v bd ++ wm a' cI cJ cZ ty tm bd wo of n no nm un hn sa sl si sn tk) H) (hD : va_D A (wb a cI cJ cZ w o d n hw ho hd hn pl le so sn ta v bd ++ wm a' cI cJ cZ ty tm bd wo of n no nm un hn sa sl si sn tk)) (hS : va_S A s.heap H locs) : W p l e room_1 s m #[Value.ref b] below meth c H locs 24 4134 Q (F0 m 171 ls []) := by
  obtain ⟨hx, hb, hml, hown, hts⟩ := id S
  obtain ⟨j1, j2, j3, j4, j5, j6, j7, j8⟩ := id hJ
  have hv := hMW.1
  refine lv_aload_n hx hb dL_law_171 rfl (lv_at hl 2 rfl) ?_
  refine m_Vi (As := []) (rest := []) (ci := 3) (q0 := 0) (wr := wm a' cI cJ cZ ty tm bd wo of n no nm un hn sa sl si sn tk) S (c_X4_clear l dC dI cI cJ cZ a w o d n hw ho hd hn pl le so sn ta v bd V O E HW HO HE SA SL SI j1 j2 hSS hv hbd H.size  ) (cwV 0 hts gL_law_X4_clear rfl rfl rfl (by decide +kernel) ⟨Nat.le_of_ble_eq_true rfl, Nat.le_of_ble_eq_true rfl⟩) hK hP hD hS hA [0, 1, 2, 3, 4, 5, 6, 7, 8, 9, 10, 11, 12, 13] [14, 15, 16, 17, 18, 19, 20, 21, 22, 23] (hP.sub [0, 1, 2, 3, 4, 5, 6, 7, 8, 9, 10, 11, 12, 13] rfl) (hD.sub [0, 1, 2, 3, 4, 5, 6, 7, 8, 9, 10, 11, 12, 13] (by decide) rfl) rfl rfl (by decide) (by decide) rfl rfl rfl hl.1 rfl (Nat.le_of_ble_eq_true rfl) dL_law_172 ⟨Nat.le_of_ble_eq_true rfl, Nat.le_of_ble_eq_true rfl⟩ (fun r u4 H locs hu4 hP hD hS => ?_)
  have hP : va_P (dC, dI) vwCl (wm a' cI cJ cZ ty tm bd wo of n no nm un hn sa sl si sn tk ++ wb a cI cJ cZ w o d n hw ho hd hn pl le so sn ta u4 bd) H := hP
  have hD : va_D A (wm a' cI cJ cZ ty tm bd wo of n no nm un hn sa sl si sn tk ++ wb a cI cJ cZ w o d n hw ho hd hn pl le so sn ta u4 bd) := hD
  refine lv_aload_n hx hb dL_law_175 rfl (lv_at hl 1 rfl) ?_
  refine m_Vi (As := []) (rest := [.int r]) (ci := 4) (q0 := 0) (wr := wb a cI cJ cZ w o d n hw ho hd hn pl le so sn ta u4 bd) S (c_X5_clear l dC dI cI cJ cZ a' ty tm bd wo of n no nm un hn sa sl si sn tk v V O K SA SL SI hMW j3 j4 hMS H.size  ) (cwV 0 hts gL_law_X5_clear rfl rfl rfl (by decide +kernel) ⟨Nat.le_of_ble_eq_true rfl, Nat.le_of_ble_eq_true rfl⟩) hK hP hD hS hA [0, 1, 2, 3, 4, 5, 6, 7, 8, 9] [10, 11, 12, 13, 14, 15, 16, 17, 18, 19, 20, 21, 22, 23] (hP.sub [0, 1, 2, 3, 4, 5, 6, 7, 8, 9] rfl) (hD.sub [0, 1, 2, 3, 4, 5, 6, 7, 8, 9] (by decide) rfl) rfl rfl (by decide) (by decide) rfl rfl rfl hl.1 rfl (Nat.le_of_ble_eq_true rfl) dL_law_176 ⟨Nat.le_of_ble_eq_true rfl, Nat.le_of_ble_eq_true rfl⟩ (fun r' u5 H locs hu5 hP hD hS => ?_)
  have hP : va_P (dC, dI) vwCl (wb a cI cJ cZ w o d n hw ho hd hn pl le so sn ta u4 bd ++ wm a' cI cJ cZ ty u5 bd wo of n no nm un hn sa sl si sn tk) H := hP
  have hD : va_D A (wb a cI cJ cZ w o d n hw ho hd hn pl le so sn ta u4 bd ++ wm a' cI cJ cZ ty u5 bd wo of n no nm un hn sa sl si sn tk) := hD
  obtain ⟨e1, rfl⟩ := hu4
  obtain ⟨e2, rfl⟩ := hu5
  refine lv_icmp_eq (tgt := 644) hx hb dL_law_179 (by decide) (fun cq => ?_) (fun cq => ?_)
  · exact kk w o d n hw ho hd hn pl le so sn ta 0 bd ty 0 wo of no nm un sa sl si tk V O E K HW HO HE SA SL SI hbd hJ bMW_0 hSS hMS H locs hP hD hS
  · exact absurd (by rw [e1, e2, hMW.2.1]) cq
set_option maxHeartbeats 4000000 in
set_option maxRecDepth 100000 in
theorem cs_bounds (S : CallFix p m c code 4 s #[Value.ref b] wsL_law RL) (hK : va_K (dC, dI) vwCl (tysA cI cJ cZ) s) (hA : ∀ q, s.heap.size ≤ q → A q) (hX : va_X b L xs s s.heap) (hbl : b < s.heap.size) (hbA : ¬ A b) (hl : lv_has ls 4 [(3, .int (nI i)), (2, .ref (a' 0)), (1, .ref (a 0)), (0, .ref b)]) (hi : i + 4 ≤ L) (hL : L ≤ 2048) (kk : LK l p e s m b below meth c dC dI cI cJ cZ a a' A Q ls)
    (hbd : 2 ≤ bd ∧ bd ≤ 8) (hJ : bJ bd n V O E K nm w o d hw ho hd hn HW HO HE wo of no un) (hMW : bMW ty tm v) (hSS : bSS pl le so sn SA SL SI) (hMS : bMS sa sl si sn SA SL SI) (hP : va_P (dC, dI) vwCl (wb a cI cJ cZ w o d n hw ho hd hn pl le so sn ta v bd ++ wm a' cI cJ cZ ty tm bd wo of n no nm un hn sa sl si sn tk) H) (hD : va_D A (wb a cI cJ cZ w o d n hw ho hd hn pl le so sn ta v bd ++ wm a' cI cJ cZ ty tm bd wo of n no nm un hn sa sl si sn tk)) (hS : va_S A s.heap H locs) : W p l e room_1 s m #[Value.ref b] below meth c H locs 24 4134 Q (F0 m 184 ls []) := by
  obtain ⟨hx, hb, hml, hown, hts⟩ := id S
  obtain ⟨j1, j2, j3, j4, j5, j6, j7, j8⟩ := id hJ
  have hv := hMW.1
  refine lv_aload_n hx hb dL_law_184 rfl (lv_at hl 2 rfl) ?_
  refine ld_arg (k := 1) hx hb hX hbl hbA hS hl dL_law_185 dL_law_186 dL_law_187 dL_law_188 dL_law_189 (by decide) (by omega) hL ?_
  refine m_Vi (As := [.int (xs (nI (i + 1)).toNatClampNeg)]) (rest := []) (ci := 3) (q0 := 0) (wr := wm a' cI cJ cZ ty tm bd wo of n no nm un hn sa sl si sn tk) S (c_X4_bounds l dC dI cI cJ cZ a w o d n hw ho hd hn pl le so sn ta v bd V O E HW HO HE SA SL SI j1 j2 hSS hv hbd H.size  (xs (nI (i + 1)).toNatClampNeg)) (cwV 1 hts gL_law_X4_bounds rfl rfl rfl (by decide +kernel) ⟨Nat.le_of_ble_eq_true rfl, Nat.le_of_ble_eq_true rfl⟩) hK hP hD hS hA [0, 1, 2, 3, 4, 5, 6, 7, 8, 9, 10, 11, 12, 13] [14, 15, 16, 17, 18, 19, 20, 21, 22, 23] (hP.sub [0, 1, 2, 3, 4, 5, 6, 7, 8, 9, 10, 11, 12, 13] rfl) (hD.sub [0, 1, 2, 3, 4, 5, 6, 7, 8, 9, 10, 11, 12, 13] (by decide) rfl) rfl rfl (by decide) (by decide) rfl rfl rfl hl.1 rfl (Nat.le_of_ble_eq_true rfl) dL_law_190 ⟨Nat.le_of_ble_eq_true rfl, Nat.le_of_ble_eq_true rfl⟩ (fun r u4 H locs hu4 hP hD hS => ?_)
  obtain ⟨bd', hn'⟩ := u4
  have hP : va_P (dC, dI) vwCl (wm a' cI cJ cZ ty tm bd wo of n no nm un hn sa sl si sn tk ++ wb a cI cJ cZ w o d n hw ho hd hn' pl le so sn ta v bd') H := hP
  have hD : va_D A (wm a' cI cJ cZ ty tm bd wo of n no nm un hn sa sl si sn tk ++ wb a cI cJ cZ w o d n hw ho hd hn' pl le so sn ta v bd') := hD
  refine lv_aload_n hx hb dL_law_193 rfl (lv_at hl 1 rfl) ?_
  refine ld_arg (k := 1) hx hb hX hbl hbA hS hl dL_law_194 dL_law_195 dL_law_196 dL_law_197 dL_law_198 (by decide) (by omega) hL ?_
  refine m_Vi (As := [.int (xs (nI (i + 1)).toNatClampNeg)]) (rest := [.int r]) (ci := 4) (q0 := 0) (wr := wb a cI cJ cZ w o d n hw ho hd hn' pl le so sn ta v bd') S (c_X5_bounds l dC dI cI cJ cZ a' ty tm bd wo of n no nm un hn sa sl si sn tk v V O K SA SL SI hMW j3 j4 hMS H.size  (xs (nI (i + 1)).toNatClampNeg)) (cwV 1 hts gL_law_X5_bounds rfl rfl rfl (by decide +kernel) ⟨Nat.le_of_ble_eq_true rfl, Nat.le_of_ble_eq_true rfl⟩) hK hP hD hS hA [0, 1, 2, 3, 4, 5, 6, 7, 8, 9] [10, 11, 12, 13, 14, 15, 16, 17, 18, 19, 20, 21, 22, 23] (hP.sub [0, 1, 2, 3, 4, 5, 6, 7, 8, 9] rfl) (hD.sub [0, 1, 2, 3, 4, 5, 6, 7, 8, 9] (by decide) rfl) rfl rfl (by decide) (by decide) rfl rfl rfl hl.1 rfl (Nat.le_of_ble_eq_true rfl) dL_law_199 ⟨Nat.le_of_ble_eq_true rfl, Nat.le_of_ble_eq_true rfl⟩ (fun r' u5 H locs hu5 hP hD hS => ?_)
  obtain ⟨b5, um'⟩ := u5
  have hP : va_P (dC, dI) vwCl (wb a cI cJ cZ w o d n hw ho hd hn' pl le so sn ta v bd' ++ wm a' cI cJ cZ ty tm b5 wo of n no nm un um' sa sl si sn tk) H := hP
  have hD : va_D A (wb a cI cJ cZ w o d n hw ho hd hn' pl le so sn ta v bd' ++ wm a' cI cJ cZ ty tm b5 wo of n no nm un um' sa sl si sn tk) := hD
  obtain ⟨e1, e2, e3, hbd', hJ'⟩ := J_bounds hJ hbd hu4 hu5
  subst e2
  subst e3
  refine lv_icmp_eq (tgt := 644) hx hb dL_law_202 (by decide) (fun cq => ?_) (fun cq => ?_)
  · exact kk w o d n hw ho hd hn' pl le so sn ta v bd' ty tm wo of no nm un sa sl si tk V O E K HW HO HE SA SL SI hbd' hJ' hMW hSS hMS H locs hP hD hS
  · exact absurd (e1) cq
set_option maxHeartbeats 4000000 in
set_option maxRecDepth 100000 in
theorem cs_adds (S : CallFix p m c code 4 s #[Value.ref b] wsL_law RL) (hK : va_K (dC, dI) vwCl (tysA cI cJ cZ) s) (hA : ∀ q, s.heap.size ≤ q → A q) (hX : va_X b L xs s s.heap) (hbl : b < s.heap.size) (hbA : ¬ A b) (hl : lv_has ls 4 [(3, .int (nI i)), (2, .ref (a' 0)), (1, .ref (a 0)), (0, .ref b)]) (hi : i + 4 ≤ L) (hL : L ≤ 2048) (kk : LK l p e s m b below meth c dC dI cI cJ cZ a a' A Q ls)
    (hbd : 2 ≤ bd ∧ bd ≤ 8) (hJ : bJ bd n V O E K nm w o d hw ho hd hn HW HO HE wo of no un) (hMW : bMW ty tm v) (hSS : bSS pl le so sn SA SL SI) (hMS : bMS sa sl si sn SA SL SI) (hP : va_P (dC, dI) vwCl (wb a cI cJ cZ w o d n hw ho hd hn pl le so sn ta v bd ++ wm a' cI cJ cZ ty tm bd wo of n no nm un hn sa sl si sn tk) H) (hD : va_D A (wb a cI cJ cZ w o d n hw ho hd hn pl le so sn ta v bd ++ wm a' cI cJ cZ ty tm bd wo of n no nm un hn sa sl si sn tk)) (hS : va_S A s.heap H locs) : W p l e room_1 s m #[Value.ref b] below meth c H locs 24 4134 Q (F0 m 207 ls []) := by
  obtain ⟨hx, hb, hml, hown, hts⟩ := id S
  obtain ⟨j1, j2, j3, j4, j5, j6, j7, j8⟩ := id hJ
  have hv := hMW.1
  refine lv_aload_n hx hb dL_law_207 rfl (lv_at hl 2 rfl) ?_
  refine m_Vi (As := []) (rest := []) (ci := 3) (q0 := 0) (wr := wm a' cI cJ cZ ty tm bd wo of n no nm un hn sa sl si sn tk) S (c_X4_adds l dC dI cI cJ cZ a w o d n hw ho hd hn pl le so sn ta v bd V O E HW HO HE SA SL SI j1 j2 hSS hv hbd H.size  ) (cwV 0 hts gL_law_X4_adds rfl rfl rfl (by decide +kernel) ⟨Nat.le_of_ble_eq_true rfl, Nat.le_of_ble_eq_true rfl⟩) hK hP hD hS hA [0, 1, 2, 3, 4, 5, 6, 7, 8, 9, 10, 11, 12, 13] [14, 15, 16, 17, 18, 19, 20, 21, 22, 23] (hP.sub [0, 1, 2, 3, 4, 5, 6, 7, 8, 9, 10, 11, 12, 13] rfl) (hD.sub [0, 1, 2, 3, 4, 5, 6, 7, 8, 9, 10, 11, 12, 13] (by decide) rfl) rfl rfl (by decide) (by decide) rfl rfl rfl hl.1 rfl (Nat.le_of_ble_eq_true rfl) dL_law_208 ⟨Nat.le_of_ble_eq_true rfl, Nat.le_of_ble_eq_true rfl⟩ (fun r u4 H locs hu4 hP hD hS => ?_)
  obtain ⟨w', o', d', nc, hw', ho', hd', hn'⟩ := u4
  have hP : va_P (dC, dI) vwCl (wm a' cI cJ cZ ty tm bd wo of n no nm un hn sa sl si sn tk ++ wb a cI cJ cZ w' o' d' nc hw' ho' hd' hn' pl le so sn ta v bd) H := hP
  have hD : va_D A (wm a' cI cJ cZ ty tm bd wo of n no nm un hn sa sl si sn tk ++ wb a cI cJ cZ w' o' d' nc hw' ho' hd' hn' pl le so sn ta v bd) := hD
  refine lv_aload_n hx hb dL_law_211 rfl (lv_at hl 1 rfl) ?_
  refine m_Vi (As := []) (rest := [.int r]) (ci := 4) (q0 := 0) (wr := wb a cI cJ cZ w' o' d' nc hw' ho' hd' hn' pl le so sn ta v bd) S (c_X5_adds l dC dI cI cJ cZ a' ty tm bd wo of n no nm un hn sa sl si sn tk v V O K SA SL SI hMW j3 j4 hMS H.size j2.1 (bcs_hcl j6 hv) (nm_le hbd.1 j5 j6) hbd.2 ) (cwV 0 hts gL_law_X5_adds rfl rfl rfl (by decide +kernel) ⟨Nat.le_of_ble_eq_true rfl, Nat.le_of_ble_eq_true rfl⟩) hK hP hD hS hA [0, 1, 2, 3, 4, 5, 6, 7, 8, 9] [10, 11, 12, 13, 14, 15, 16, 17, 18, 19, 20, 21, 22, 23] (hP.sub [0, 1, 2, 3, 4, 5, 6, 7, 8, 9] rfl) (hD.sub [0, 1, 2, 3, 4, 5, 6, 7, 8, 9] (by decide) rfl) rfl rfl (by decide) (by decide) rfl rfl rfl hl.1 rfl (Nat.le_of_ble_eq_true rfl) dL_law_212 ⟨Nat.le_of_ble_eq_true rfl, Nat.le_of_ble_eq_true rfl⟩ (fun r' u5 H locs hu5 hP hD hS => ?_)
  obtain ⟨wo', of', n2, no', nm', un', um'⟩ := u5
  have hP : va_P (dC, dI) vwCl (wb a cI cJ cZ w' o' d' nc hw' ho' hd' hn' pl le so sn ta v bd ++ wm a' cI cJ cZ ty tm bd wo' of' n2 no' nm' un' um' sa sl si sn tk) H := hP
  have hD : va_D A (wb a cI cJ cZ w' o' d' nc hw' ho' hd' hn' pl le so sn ta v bd ++ wm a' cI cJ cZ ty tm bd wo' of' n2 no' nm' un' um' sa sl si sn tk) := hD
  obtain ⟨e1, e2, e3, V', O', E', K', HW', HO', HE', hJ'⟩ := J_adds hbd.1 hJ hv hMW.2.1 hu4 hu5
  subst e2
  subst e3
  refine lv_icmp_eq (tgt := 644) hx hb dL_law_215 (by decide) (fun cq => ?_) (fun cq => ?_)
  · exact kk w' o' d' nc hw' ho' hd' hn' pl le so sn ta v bd ty tm wo' of' no' nm' un' sa sl si tk V' O' E' K' HW' HO' HE' SA SL SI hbd hJ' hMW hSS hMS H locs hP hD hS
  · exact absurd (e1) cq
set_option maxHeartbeats 4000000 in
set_option maxRecDepth 100000 in
theorem cs_takes (S : CallFix p m c code 4 s #[Value.ref b] wsL_law RL) (hK : va_K (dC, dI) vwCl (tysA cI cJ cZ) s) (hA : ∀ q, s.heap.size ≤ q → A q) (hX : va_X b L xs s s.heap) (hbl : b < s.heap.size) (hbA : ¬ A b) (hl : lv_has ls 4 [(3, .int (nI i)), (2, .ref (a' 0)), (1, .ref (a 0)), (0, .ref b)]) (hi : i + 4 ≤ L) (hL : L ≤ 2048) (kk : LK l p e s m b below meth c dC dI cI cJ cZ a a' A Q ls)
    (hbd : 2 ≤ bd ∧ bd ≤ 8) (hJ : bJ bd n V O E K nm w o d hw ho hd hn HW HO HE wo of no un) (hMW : bMW ty tm v) (hSS : bSS pl le so sn SA SL SI) (hMS : bMS sa sl si sn SA SL SI) (hP : va_P (dC, dI) vwCl (wb a cI cJ cZ w o d n hw ho hd hn pl le so sn ta v bd ++ wm a' cI cJ cZ ty tm bd wo of n no nm un hn sa sl si sn tk) H) (hD : va_D A (wb a cI cJ cZ w o d n hw ho hd hn pl le so sn ta v bd ++ wm a' cI cJ cZ ty tm bd wo of n no nm un hn sa sl si sn tk)) (hS : va_S A s.heap H locs) : W p l e room_1 s m #[Value.ref b] below meth c H locs 24 4134 Q (F0 m 220 ls []) := by
  obtain ⟨hx, hb, hml, hown, hts⟩ := id S
  obtain ⟨j1, j2, j3, j4, j5, j6, j7, j8⟩ := id hJ
  have hv := hMW.1
  refine lv_aload_n hx hb dL_law_220 rfl (lv_at hl 2 rfl) ?_
  refine m_Vi (As := []) (rest := []) (ci := 3) (q0 := 0) (wr := wm a' cI cJ cZ ty tm bd wo of n no nm un hn sa sl si sn tk) S (c_X4_takes l dC dI cI cJ cZ a w o d n hw ho hd hn pl le so sn ta v bd V O E HW HO HE SA SL SI j1 j2 hSS hv hbd H.size  ) (cwV 0 hts gL_law_X4_takes rfl rfl rfl (by decide +kernel) ⟨Nat.le_of_ble_eq_true rfl, Nat.le_of_ble_eq_true rfl⟩) hK hP hD hS hA [0, 1, 2, 3, 4, 5, 6, 7, 8, 9, 10, 11, 12, 13] [14, 15, 16, 17, 18, 19, 20, 21, 22, 23] (hP.sub [0, 1, 2, 3, 4, 5, 6, 7, 8, 9, 10, 11, 12, 13] rfl) (hD.sub [0, 1, 2, 3, 4, 5, 6, 7, 8, 9, 10, 11, 12, 13] (by decide) rfl) rfl rfl (by decide) (by decide) rfl rfl rfl hl.1 rfl (Nat.le_of_ble_eq_true rfl) dL_law_221 ⟨Nat.le_of_ble_eq_true rfl, Nat.le_of_ble_eq_true rfl⟩ (fun r u4 H locs hu4 hP hD hS => ?_)
  obtain ⟨w', o', d', nc, hw', ho', hd', hn'⟩ := u4
  have hP : va_P (dC, dI) vwCl (wm a' cI cJ cZ ty tm bd wo of n no nm un hn sa sl si sn tk ++ wb a cI cJ cZ w' o' d' nc hw' ho' hd' hn' pl le so sn ta v bd) H := hP
  have hD : va_D A (wm a' cI cJ cZ ty tm bd wo of n no nm un hn sa sl si sn tk ++ wb a cI cJ cZ w' o' d' nc hw' ho' hd' hn' pl le so sn ta v bd) := hD
  refine lv_aload_n hx hb dL_law_224 rfl (lv_at hl 1 rfl) ?_
  refine m_Vi (As := []) (rest := [.int r]) (ci := 4) (q0 := 0) (wr := wb a cI cJ cZ w' o' d' nc hw' ho' hd' hn' pl le so sn ta v bd) S (c_X5_takes l dC dI cI cJ cZ a' ty tm bd wo of n no nm un hn sa sl si sn tk v V O K SA SL SI hMW j3 j4 hMS H.size j2.1 (fun g hg => bcs_iff j6 hv hg) j6.1 hbd.2 ) (cwV 0 hts gL_law_X5_takes rfl rfl rfl (by decide +kernel) ⟨Nat.le_of_ble_eq_true rfl, Nat.le_of_ble_eq_true rfl⟩) hK hP hD hS hA [0, 1, 2, 3, 4, 5, 6, 7, 8, 9] [10, 11, 12, 13, 14, 15, 16, 17, 18, 19, 20, 21, 22, 23] (hP.sub [0, 1, 2, 3, 4, 5, 6, 7, 8, 9] rfl) (hD.sub [0, 1, 2, 3, 4, 5, 6, 7, 8, 9] (by decide) rfl) rfl rfl (by decide) (by decide) rfl rfl rfl hl.1 rfl (Nat.le_of_ble_eq_true rfl) dL_law_225 ⟨Nat.le_of_ble_eq_true rfl, Nat.le_of_ble_eq_true rfl⟩ (fun r' u5 H locs hu5 hP hD hS => ?_)
  obtain ⟨wo', of', n2, no', nm', un', um'⟩ := u5
  have hP : va_P (dC, dI) vwCl (wb a cI cJ cZ w' o' d' nc hw' ho' hd' hn' pl le so sn ta v bd ++ wm a' cI cJ cZ ty tm bd wo' of' n2 no' nm' un' um' sa sl si sn tk) H := hP
  have hD : va_D A (wb a cI cJ cZ w' o' d' nc hw' ho' hd' hn' pl le so sn ta v bd ++ wm a' cI cJ cZ ty tm bd wo' of' n2 no' nm' un' um' sa sl si sn tk) := hD
  obtain ⟨e1, e2, e3, V', O', E', K', HW', HO', HE', hJ'⟩ := J_takes hbd.1 hJ hv hu4 hu5
  subst e2
  subst e3
  refine lv_icmp_eq (tgt := 644) hx hb dL_law_228 (by decide) (fun cq => ?_) (fun cq => ?_)
  · exact kk w' o' d' nc hw' ho' hd' hn' pl le so sn ta v bd ty tm wo' of' no' nm' un' sa sl si tk V' O' E' K' HW' HO' HE' SA SL SI hbd hJ' hMW hSS hMS H locs hP hD hS
  · exact absurd (e1) cq
set_option maxHeartbeats 4000000 in
set_option maxRecDepth 100000 in
theorem cs_undo (S : CallFix p m c code 4 s #[Value.ref b] wsL_law RL) (hK : va_K (dC, dI) vwCl (tysA cI cJ cZ) s) (hA : ∀ q, s.heap.size ≤ q → A q) (hX : va_X b L xs s s.heap) (hbl : b < s.heap.size) (hbA : ¬ A b) (hl : lv_has ls 4 [(3, .int (nI i)), (2, .ref (a' 0)), (1, .ref (a 0)), (0, .ref b)]) (hi : i + 4 ≤ L) (hL : L ≤ 2048) (kk : LK l p e s m b below meth c dC dI cI cJ cZ a a' A Q ls)
    (hbd : 2 ≤ bd ∧ bd ≤ 8) (hJ : bJ bd n V O E K nm w o d hw ho hd hn HW HO HE wo of no un) (hMW : bMW ty tm v) (hSS : bSS pl le so sn SA SL SI) (hMS : bMS sa sl si sn SA SL SI) (hP : va_P (dC, dI) vwCl (wb a cI cJ cZ w o d n hw ho hd hn pl le so sn ta v bd ++ wm a' cI cJ cZ ty tm bd wo of n no nm un hn sa sl si sn tk) H) (hD : va_D A (wb a cI cJ cZ w o d n hw ho hd hn pl le so sn ta v bd ++ wm a' cI cJ cZ ty tm bd wo of n no nm un hn sa sl si sn tk)) (hS : va_S A s.heap H locs) : W p l e room_1 s m #[Value.ref b] below meth c H locs 24 4134 Q (F0 m 233 ls []) := by
  obtain ⟨hx, hb, hml, hown, hts⟩ := id S
  obtain ⟨j1, j2, j3, j4, j5, j6, j7, j8⟩ := id hJ
  have hv := hMW.1
  obtain ⟨nt, nmt, Vt, Ot, Kt, q1, q2, q3, q4⟩ := J_undo hbd.1 hJ
  refine lv_aload_n hx hb dL_law_233 rfl (lv_at hl 2 rfl) ?_
  refine m_Vi (As := []) (rest := []) (ci := 3) (q0 := 0) (wr := wm a' cI cJ cZ ty tm bd wo of n no nm un hn sa sl si sn tk) S (c_X4_undo l dC dI cI cJ cZ a w o d n hw ho hd hn pl le so sn ta v bd V O E HW HO HE SA SL SI j1 j2 hSS hv hbd H.size q2 q3 ) (cwV 0 hts gL_law_X4_undo rfl rfl rfl (by decide +kernel) ⟨Nat.le_of_ble_eq_true rfl, Nat.le_of_ble_eq_true rfl⟩) hK hP hD hS hA [0, 1, 2, 3, 4, 5, 6, 7, 8, 9, 10, 11, 12, 13] [14, 15, 16, 17, 18, 19, 20, 21, 22, 23] (hP.sub [0, 1, 2, 3, 4, 5, 6, 7, 8, 9, 10, 11, 12, 13] rfl) (hD.sub [0, 1, 2, 3, 4, 5, 6, 7, 8, 9, 10, 11, 12, 13] (by decide) rfl) rfl rfl (by decide) (by decide) rfl rfl rfl hl.1 rfl (Nat.le_of_ble_eq_true rfl) dL_law_234 ⟨Nat.le_of_ble_eq_true rfl, Nat.le_of_ble_eq_true rfl⟩ (fun r u4 H locs hu4 hP hD hS => ?_)
  obtain ⟨w', o', d', nc, hn'⟩ := u4
  have hP : va_P (dC, dI) vwCl (wm a' cI cJ cZ ty tm bd wo of n no nm un hn sa sl si sn tk ++ wb a cI cJ cZ w' o' d' nc hw ho hd hn' pl le so sn ta v bd) H := hP
  have hD : va_D A (wm a' cI cJ cZ ty tm bd wo of n no nm un hn sa sl si sn tk ++ wb a cI cJ cZ w' o' d' nc hw ho hd hn' pl le so sn ta v bd) := hD
  refine lv_aload_n hx hb dL_law_237 rfl (lv_at hl 1 rfl) ?_
  refine m_Vi (As := []) (rest := [.int r]) (ci := 4) (q0 := 0) (wr := wb a cI cJ cZ w' o' d' nc hw ho hd hn' pl le so sn ta v bd) S (c_X5_undo l dC dI cI cJ cZ a' ty tm bd wo of n no nm un hn sa sl si sn tk v V O K SA SL SI hMW j3 j4 hMS H.size nt nmt Vt Ot Kt j2.1 q1 ) (cwV 0 hts gL_law_X5_undo rfl rfl rfl (by decide +kernel) ⟨Nat.le_of_ble_eq_true rfl, Nat.le_of_ble_eq_true rfl⟩) hK hP hD hS hA [0, 1, 2, 3, 4, 5, 6, 7, 8, 9] [10, 11, 12, 13, 14, 15, 16, 17, 18, 19, 20, 21, 22, 23] (hP.sub [0, 1, 2, 3, 4, 5, 6, 7, 8, 9] rfl) (hD.sub [0, 1, 2, 3, 4, 5, 6, 7, 8, 9] (by decide) rfl) rfl rfl (by decide) (by decide) rfl rfl rfl hl.1 rfl (Nat.le_of_ble_eq_true rfl) dL_law_238 ⟨Nat.le_of_ble_eq_true rfl, Nat.le_of_ble_eq_true rfl⟩ (fun r' u5 H locs hu5 hP hD hS => ?_)
  obtain ⟨wo', of', n2, no', nm', um'⟩ := u5
  have hP : va_P (dC, dI) vwCl (wb a cI cJ cZ w' o' d' nc hw ho hd hn' pl le so sn ta v bd ++ wm a' cI cJ cZ ty tm bd wo' of' n2 no' nm' un um' sa sl si sn tk) H := hP
  have hD : va_D A (wb a cI cJ cZ w' o' d' nc hw ho hd hn' pl le so sn ta v bd ++ wm a' cI cJ cZ ty tm bd wo' of' n2 no' nm' un um' sa sl si sn tk) := hD
  obtain ⟨e1, e2, e3, V', O', E', K', hJ'⟩ := q4 r r' w' o' d' nc hn' wo' of' n2 no' nm' um' hu4 hu5
  subst e2
  subst e3
  refine lv_icmp_eq (tgt := 644) hx hb dL_law_241 (by decide) (fun cq => ?_) (fun cq => ?_)
  · exact kk w' o' d' nc hw ho hd hn' pl le so sn ta v bd ty tm wo' of' no' nm' un sa sl si tk V' O' E' K' HW HO HE SA SL SI hbd hJ' hMW hSS hMS H locs hP hD hS
  · exact absurd (e1) cq
set_option maxHeartbeats 4000000 in
set_option maxRecDepth 100000 in
theorem cs_sees (S : CallFix p m c code 4 s #[Value.ref b] wsL_law RL) (hK : va_K (dC, dI) vwCl (tysA cI cJ cZ) s) (hA : ∀ q, s.heap.size ≤ q → A q) (hX : va_X b L xs s s.heap) (hbl : b < s.heap.size) (hbA : ¬ A b) (hl : lv_has ls 4 [(3, .int (nI i)), (2, .ref (a' 0)), (1, .ref (a 0)), (0, .ref b)]) (hi : i + 4 ≤ L) (hL : L ≤ 2048) (kk : LK l p e s m b below meth c dC dI cI cJ cZ a a' A Q ls)
    (hbd : 2 ≤ bd ∧ bd ≤ 8) (hJ : bJ bd n V O E K nm w o d hw ho hd hn HW HO HE wo of no un) (hMW : bMW ty tm v) (hSS : bSS pl le so sn SA SL SI) (hMS : bMS sa sl si sn SA SL SI) (hP : va_P (dC, dI) vwCl (wb a cI cJ cZ w o d n hw ho hd hn pl le so sn ta v bd ++ wm a' cI cJ cZ ty tm bd wo of n no nm un hn sa sl si sn tk) H) (hD : va_D A (wb a cI cJ cZ w o d n hw ho hd hn pl le so sn ta v bd ++ wm a' cI cJ cZ ty tm bd wo of n no nm un hn sa sl si sn tk)) (hS : va_S A s.heap H locs) : W p l e room_1 s m #[Value.ref b] below meth c H locs 24 4134 Q (F0 m 515 ls []) := by
  obtain ⟨hx, hb, hml, hown, hts⟩ := id S
  obtain ⟨j1, j2, j3, j4, j5, j6, j7, j8⟩ := id hJ
  have hv := hMW.1
  refine lv_aload_n hx hb dL_law_515 rfl (lv_at hl 2 rfl) ?_
  refine ld_arg (k := 1) hx hb hX hbl hbA hS hl dL_law_516 dL_law_517 dL_law_518 dL_law_519 dL_law_520 (by decide) (by omega) hL ?_
  refine ld_arg (k := 2) hx hb hX hbl hbA hS hl dL_law_521 dL_law_522 dL_law_523 dL_law_524 dL_law_525 (by decide) (by omega) hL ?_
  refine ld_arg (k := 3) hx hb hX hbl hbA hS hl dL_law_526 dL_law_527 dL_law_528 dL_law_529 dL_law_530 (by decide) (by omega) hL ?_
  refine m_Vi (As := [.int (xs (nI (i + 1)).toNatClampNeg), .int (xs (nI (i + 2)).toNatClampNeg), .int (xs (nI (i + 3)).toNatClampNeg)]) (rest := []) (ci := 3) (q0 := 0) (wr := wm a' cI cJ cZ ty tm bd wo of n no nm un hn sa sl si sn tk) S (c_X4_sees l dC dI cI cJ cZ a w o d n hw ho hd hn pl le so sn ta v bd V O E HW HO HE SA SL SI j1 j2 hSS hv hbd H.size  (xs (nI (i + 1)).toNatClampNeg) (xs (nI (i + 2)).toNatClampNeg) (xs (nI (i + 3)).toNatClampNeg)) (cwV 3 hts gL_law_X4_sees rfl rfl rfl (by decide +kernel) ⟨Nat.le_of_ble_eq_true rfl, Nat.le_of_ble_eq_true rfl⟩) hK hP hD hS hA [0, 1, 2, 3, 4, 5, 6, 7, 8, 9, 10, 11, 12, 13] [14, 15, 16, 17, 18, 19, 20, 21, 22, 23] (hP.sub [0, 1, 2, 3, 4, 5, 6, 7, 8, 9, 10, 11, 12, 13] rfl) (hD.sub [0, 1, 2, 3, 4, 5, 6, 7, 8, 9, 10, 11, 12, 13] (by decide) rfl) rfl rfl (by decide) (by decide) rfl rfl rfl hl.1 rfl (Nat.le_of_ble_eq_true rfl) dL_law_531 ⟨Nat.le_of_ble_eq_true rfl, Nat.le_of_ble_eq_true rfl⟩ (fun r u4 H locs hu4 hP hD hS => ?_)
  obtain ⟨pl', le', so', s4⟩ := u4
  have hP : va_P (dC, dI) vwCl (wm a' cI cJ cZ ty tm bd wo of n no nm un hn sa sl si sn tk ++ wb a cI cJ cZ w o d n hw ho hd hn pl' le' so' s4 ta v bd) H := hP
  have hD : va_D A (wm a' cI cJ cZ ty tm bd wo of n no nm un hn sa sl si sn tk ++ wb a cI cJ cZ w o d n hw ho hd hn pl' le' so' s4 ta v bd) := hD
  refine lv_aload_n hx hb dL_law_534 rfl (lv_at hl 1 rfl) ?_
  refine ld_arg (k := 1) hx hb hX hbl hbA hS hl dL_law_535 dL_law_536 dL_law_537 dL_law_538 dL_law_539 (by decide) (by omega) hL ?_
  refine ld_arg (k := 2) hx hb hX hbl hbA hS hl dL_law_540 dL_law_541 dL_law_542 dL_law_543 dL_law_544 (by decide) (by omega) hL ?_
  refine ld_arg (k := 3) hx hb hX hbl hbA hS hl dL_law_545 dL_law_546 dL_law_547 dL_law_548 dL_law_549 (by decide) (by omega) hL ?_
  refine m_Vi (As := [.int (xs (nI (i + 1)).toNatClampNeg), .int (xs (nI (i + 2)).toNatClampNeg), .int (xs (nI (i + 3)).toNatClampNeg)]) (rest := [.int r]) (ci := 4) (q0 := 0) (wr := wb a cI cJ cZ w o d n hw ho hd hn pl' le' so' s4 ta v bd) S (c_X5_sees l dC dI cI cJ cZ a' ty tm bd wo of n no nm un hn sa sl si sn tk v V O K SA SL SI hMW j3 j4 hMS H.size  (xs (nI (i + 1)).toNatClampNeg) (xs (nI (i + 2)).toNatClampNeg) (xs (nI (i + 3)).toNatClampNeg)) (cwV 3 hts gL_law_X5_sees rfl rfl rfl (by decide +kernel) ⟨Nat.le_of_ble_eq_true rfl, Nat.le_of_ble_eq_true rfl⟩) hK hP hD hS hA [0, 1, 2, 3, 4, 5, 6, 7, 8, 9] [10, 11, 12, 13, 14, 15, 16, 17, 18, 19, 20, 21, 22, 23] (hP.sub [0, 1, 2, 3, 4, 5, 6, 7, 8, 9] rfl) (hD.sub [0, 1, 2, 3, 4, 5, 6, 7, 8, 9] (by decide) rfl) rfl rfl (by decide) (by decide) rfl rfl rfl hl.1 rfl (Nat.le_of_ble_eq_true rfl) dL_law_550 ⟨Nat.le_of_ble_eq_true rfl, Nat.le_of_ble_eq_true rfl⟩ (fun r' u5 H locs hu5 hP hD hS => ?_)
  obtain ⟨sa', sl', si', s5⟩ := u5
  have hP : va_P (dC, dI) vwCl (wb a cI cJ cZ w o d n hw ho hd hn pl' le' so' s4 ta v bd ++ wm a' cI cJ cZ ty tm bd wo of n no nm un hn sa' sl' si' s5 tk) H := hP
  have hD : va_D A (wb a cI cJ cZ w o d n hw ho hd hn pl' le' so' s4 ta v bd ++ wm a' cI cJ cZ ty tm bd wo of n no nm un hn sa' sl' si' s5 tk) := hD
  obtain ⟨e1, e2, SA', SL', SI', hSS', hMS'⟩ := J_sees hSS hMS hu4 hu5
  subst e2
  refine lv_icmp_eq (tgt := 644) hx hb dL_law_553 (by decide) (fun cq => ?_) (fun cq => ?_)
  · exact kk w o d n hw ho hd hn pl' le' so' s4 ta v bd ty tm wo of no nm un sa' sl' si' tk V O E K HW HO HE SA' SL' SI' hbd hJ hMW hSS' hMS' H locs hP hD hS
  · exact absurd (e1) cq
set_option maxHeartbeats 4000000 in
set_option maxRecDepth 100000 in
theorem cs_forget (S : CallFix p m c code 4 s #[Value.ref b] wsL_law RL) (hK : va_K (dC, dI) vwCl (tysA cI cJ cZ) s) (hA : ∀ q, s.heap.size ≤ q → A q) (hX : va_X b L xs s s.heap) (hbl : b < s.heap.size) (hbA : ¬ A b) (hl : lv_has ls 4 [(3, .int (nI i)), (2, .ref (a' 0)), (1, .ref (a 0)), (0, .ref b)]) (hi : i + 4 ≤ L) (hL : L ≤ 2048) (kk : LK l p e s m b below meth c dC dI cI cJ cZ a a' A Q ls)
    (hbd : 2 ≤ bd ∧ bd ≤ 8) (hJ : bJ bd n V O E K nm w o d hw ho hd hn HW HO HE wo of no un) (hMW : bMW ty tm v) (hSS : bSS pl le so sn SA SL SI) (hMS : bMS sa sl si sn SA SL SI) (hP : va_P (dC, dI) vwCl (wb a cI cJ cZ w o d n hw ho hd hn pl le so sn ta v bd ++ wm a' cI cJ cZ ty tm bd wo of n no nm un hn sa sl si sn tk) H) (hD : va_D A (wb a cI cJ cZ w o d n hw ho hd hn pl le so sn ta v bd ++ wm a' cI cJ cZ ty tm bd wo of n no nm un hn sa sl si sn tk)) (hS : va_S A s.heap H locs) : W p l e room_1 s m #[Value.ref b] below meth c H locs 24 4134 Q (F0 m 558 ls []) := by
  obtain ⟨hx, hb, hml, hown, hts⟩ := id S
  obtain ⟨j1, j2, j3, j4, j5, j6, j7, j8⟩ := id hJ
  have hv := hMW.1
  refine lv_aload_n hx hb dL_law_558 rfl (lv_at hl 2 rfl) ?_
  refine m_Vi (As := []) (rest := []) (ci := 3) (q0 := 0) (wr := wm a' cI cJ cZ ty tm bd wo of n no nm un hn sa sl si sn tk) S (c_X4_forget l dC dI cI cJ cZ a w o d n hw ho hd hn pl le so sn ta v bd V O E HW HO HE SA SL SI j1 j2 hSS hv hbd H.size  ) (cwV 0 hts gL_law_X4_forget rfl rfl rfl (by decide +kernel) ⟨Nat.le_of_ble_eq_true rfl, Nat.le_of_ble_eq_true rfl⟩) hK hP hD hS hA [0, 1, 2, 3, 4, 5, 6, 7, 8, 9, 10, 11, 12, 13] [14, 15, 16, 17, 18, 19, 20, 21, 22, 23] (hP.sub [0, 1, 2, 3, 4, 5, 6, 7, 8, 9, 10, 11, 12, 13] rfl) (hD.sub [0, 1, 2, 3, 4, 5, 6, 7, 8, 9, 10, 11, 12, 13] (by decide) rfl) rfl rfl (by decide) (by decide) rfl rfl rfl hl.1 rfl (Nat.le_of_ble_eq_true rfl) dL_law_559 ⟨Nat.le_of_ble_eq_true rfl, Nat.le_of_ble_eq_true rfl⟩ (fun r u4 H locs hu4 hP hD hS => ?_)
  have hP : va_P (dC, dI) vwCl (wm a' cI cJ cZ ty tm bd wo of n no nm un hn sa sl si sn tk ++ wb a cI cJ cZ w o d n hw ho hd hn pl le so u4 ta v bd) H := hP
  have hD : va_D A (wm a' cI cJ cZ ty tm bd wo of n no nm un hn sa sl si sn tk ++ wb a cI cJ cZ w o d n hw ho hd hn pl le so u4 ta v bd) := hD
  refine lv_aload_n hx hb dL_law_562 rfl (lv_at hl 1 rfl) ?_
  refine m_Vi (As := []) (rest := [.int r]) (ci := 4) (q0 := 0) (wr := wb a cI cJ cZ w o d n hw ho hd hn pl le so u4 ta v bd) S (c_X5_forget l dC dI cI cJ cZ a' ty tm bd wo of n no nm un hn sa sl si sn tk v V O K SA SL SI hMW j3 j4 hMS H.size  ) (cwV 0 hts gL_law_X5_forget rfl rfl rfl (by decide +kernel) ⟨Nat.le_of_ble_eq_true rfl, Nat.le_of_ble_eq_true rfl⟩) hK hP hD hS hA [0, 1, 2, 3, 4, 5, 6, 7, 8, 9] [10, 11, 12, 13, 14, 15, 16, 17, 18, 19, 20, 21, 22, 23] (hP.sub [0, 1, 2, 3, 4, 5, 6, 7, 8, 9] rfl) (hD.sub [0, 1, 2, 3, 4, 5, 6, 7, 8, 9] (by decide) rfl) rfl rfl (by decide) (by decide) rfl rfl rfl hl.1 rfl (Nat.le_of_ble_eq_true rfl) dL_law_563 ⟨Nat.le_of_ble_eq_true rfl, Nat.le_of_ble_eq_true rfl⟩ (fun r' u5 H locs hu5 hP hD hS => ?_)
  have hP : va_P (dC, dI) vwCl (wb a cI cJ cZ w o d n hw ho hd hn pl le so u4 ta v bd ++ wm a' cI cJ cZ ty tm bd wo of n no nm un hn sa sl si u5 tk) H := hP
  have hD : va_D A (wb a cI cJ cZ w o d n hw ho hd hn pl le so u4 ta v bd ++ wm a' cI cJ cZ ty tm bd wo of n no nm un hn sa sl si u5 tk) := hD
  obtain ⟨e1, rfl⟩ := hu4
  obtain ⟨e2, rfl⟩ := hu5
  refine lv_icmp_eq (tgt := 644) hx hb dL_law_566 (by decide) (fun cq => ?_) (fun cq => ?_)
  · exact kk w o d n hw ho hd hn pl le so 0 ta v bd ty tm wo of no nm un sa sl si tk V O E K HW HO HE SA SL SI hbd hJ hMW ⟨Nat.zero_le _, fun k hk => absurd hk (Nat.not_lt_zero k)⟩ ⟨Nat.zero_le _, fun k hk => absurd hk (Nat.not_lt_zero k)⟩ H locs hP hD hS
  · exact absurd (by rw [e1, e2]) cq
set_option maxHeartbeats 4000000 in
set_option maxRecDepth 100000 in
theorem cs_ask (S : CallFix p m c code 4 s #[Value.ref b] wsL_law RL) (hK : va_K (dC, dI) vwCl (tysA cI cJ cZ) s) (hA : ∀ q, s.heap.size ≤ q → A q) (hX : va_X b L xs s s.heap) (hbl : b < s.heap.size) (hbA : ¬ A b) (hl : lv_has ls 4 [(3, .int (nI i)), (2, .ref (a' 0)), (1, .ref (a 0)), (0, .ref b)]) (hi : i + 4 ≤ L) (hL : L ≤ 2048) (kk : LK l p e s m b below meth c dC dI cI cJ cZ a a' A Q ls)
    (hbd : 2 ≤ bd ∧ bd ≤ 8) (hJ : bJ bd n V O E K nm w o d hw ho hd hn HW HO HE wo of no un) (hMW : bMW ty tm v) (hSS : bSS pl le so sn SA SL SI) (hMS : bMS sa sl si sn SA SL SI) (hP : va_P (dC, dI) vwCl (wb a cI cJ cZ w o d n hw ho hd hn pl le so sn ta v bd ++ wm a' cI cJ cZ ty tm bd wo of n no nm un hn sa sl si sn tk) H) (hD : va_D A (wb a cI cJ cZ w o d n hw ho hd hn pl le so sn ta v bd ++ wm a' cI cJ cZ ty tm bd wo of n no nm un hn sa sl si sn tk)) (hS : va_S A s.heap H locs) : W p l e room_1 s m #[Value.ref b] below meth c H locs 24 4134 Q (F0 m 594 ls []) := by
  obtain ⟨hx, hb, hml, hown, hts⟩ := id S
  obtain ⟨j1, j2, j3, j4, j5, j6, j7, j8⟩ := id hJ
  have hv := hMW.1
  refine lv_aload_n hx hb dL_law_594 rfl (lv_at hl 2 rfl) ?_
  refine m_Vi (As := []) (rest := []) (ci := 3) (q0 := 0) (wr := wm a' cI cJ cZ ty tm bd wo of n no nm un hn sa sl si sn tk) S (c_X4_ask l dC dI cI cJ cZ a w o d n hw ho hd hn pl le so sn ta v bd V O E HW HO HE SA SL SI j1 j2 hSS hv hbd H.size  ) (cwV 0 hts gL_law_X4_ask rfl rfl rfl (by decide +kernel) ⟨Nat.le_of_ble_eq_true rfl, Nat.le_of_ble_eq_true rfl⟩) hK hP hD hS hA [0, 1, 2, 3, 4, 5, 6, 7, 8, 9, 10, 11, 12, 13] [14, 15, 16, 17, 18, 19, 20, 21, 22, 23] (hP.sub [0, 1, 2, 3, 4, 5, 6, 7, 8, 9, 10, 11, 12, 13] rfl) (hD.sub [0, 1, 2, 3, 4, 5, 6, 7, 8, 9, 10, 11, 12, 13] (by decide) rfl) rfl rfl (by decide) (by decide) rfl rfl rfl hl.1 rfl (Nat.le_of_ble_eq_true rfl) dL_law_595 ⟨Nat.le_of_ble_eq_true rfl, Nat.le_of_ble_eq_true rfl⟩ (fun r u4 H locs hu4 hP hD hS => ?_)
  have hP : va_P (dC, dI) vwCl (wm a' cI cJ cZ ty tm bd wo of n no nm un hn sa sl si sn tk ++ wb a cI cJ cZ w o d n hw ho hd hn pl le so sn u4 v bd) H := hP
  have hD : va_D A (wm a' cI cJ cZ ty tm bd wo of n no nm un hn sa sl si sn tk ++ wb a cI cJ cZ w o d n hw ho hd hn pl le so sn u4 v bd) := hD
  refine lv_aload_n hx hb dL_law_598 rfl (lv_at hl 1 rfl) ?_
  refine m_Vi (As := []) (rest := [.int r]) (ci := 4) (q0 := 0) (wr := wb a cI cJ cZ w o d n hw ho hd hn pl le so sn u4 v bd) S (c_X5_ask l dC dI cI cJ cZ a' ty tm bd wo of n no nm un hn sa sl si sn tk v V O K SA SL SI hMW j3 j4 hMS H.size  ) (cwV 0 hts gL_law_X5_ask rfl rfl rfl (by decide +kernel) ⟨Nat.le_of_ble_eq_true rfl, Nat.le_of_ble_eq_true rfl⟩) hK hP hD hS hA [0, 1, 2, 3, 4, 5, 6, 7, 8, 9] [10, 11, 12, 13, 14, 15, 16, 17, 18, 19, 20, 21, 22, 23] (hP.sub [0, 1, 2, 3, 4, 5, 6, 7, 8, 9] rfl) (hD.sub [0, 1, 2, 3, 4, 5, 6, 7, 8, 9] (by decide) rfl) rfl rfl (by decide) (by decide) rfl rfl rfl hl.1 rfl (Nat.le_of_ble_eq_true rfl) dL_law_599 ⟨Nat.le_of_ble_eq_true rfl, Nat.le_of_ble_eq_true rfl⟩ (fun r' u5 H locs hu5 hP hD hS => ?_)
  have hP : va_P (dC, dI) vwCl (wb a cI cJ cZ w o d n hw ho hd hn pl le so sn u4 v bd ++ wm a' cI cJ cZ ty tm bd wo of n no nm un hn sa sl si sn u5) H := hP
  have hD : va_D A (wb a cI cJ cZ w o d n hw ho hd hn pl le so sn u4 v bd ++ wm a' cI cJ cZ ty tm bd wo of n no nm un hn sa sl si sn u5) := hD
  have hu4' := hu4
  have hu5' := hu5
  refine lv_icmp_eq (tgt := 644) hx hb dL_law_602 (by decide) (fun cq => ?_) (fun cq => ?_)
  · exact kk w o d n hw ho hd hn pl le so sn u4 v bd ty tm wo of no nm un sa sl si u5 V O E K HW HO HE SA SL SI hbd hJ hMW hSS hMS H locs hP hD hS
  · exact absurd (hu4'.trans ((J_ask j5.1).trans hu5'.symm)) cq
end LW
