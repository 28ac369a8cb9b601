/-! own rows: the law: what holds between two calls, and the cases of its readers -/
theorem and31 (x : Int32) : ∃ k, k < 32 ∧ x &&& nI 31 = nI k := by
  have h : (x &&& nI 31).toBitVec.toNat < 32 := by
    rw [Int32.toBitVec_and, BitVec.toNat_and]
    exact Nat.lt_of_le_of_lt Nat.and_le_right (by decide +kernel)
  refine ⟨_, h, ?_⟩
  apply Int32.toBitVec_inj.mp
  apply BitVec.eq_of_toNat_eq
  show _ = (BitVec.ofNat 32 _).toNat
  rw [BitVec.toNat_ofNat, Nat.mod_eq_of_lt (Nat.lt_trans h (by decide))]
/-- behind a call whose two answers were alike: the law goes on -/
def LK (l : Launch) (p : Program) (e : Env) (s : State) (m : MethodId) (b : Nat) (below : List Frame) (meth : Method) (c : Code) (dC : Nat → ClassId) (dI : Nat → Nat → Nat) (cI cJ cZ : ClassId) (a a' : Nat → Nat) (A : Nat → Prop) (Q : State → Prop) (ls : Array Slot) : Prop :=
  ∀ (w : Nat → Int64) (o d : Nat → Int32) (n : Nat) (hw : Nat → Int64) (ho hd : Nat → Int32) (hn : Nat) (pl le so : Nat → Int32) (sn : Nat) (ta : Nat → Int32) (v bd : Nat) (ty : Nat → Int32) (tm : Nat) (wo : Nat → Int64) (of : Nat → Int32) (no : Nat → Int64) (nm : Nat) (un : Nat → Int64) (sa sl si tk : Nat → Int32) (V O E K HW HO HE SA SL SI : Nat → Nat), (2 ≤ bd ∧ bd ≤ 8) → bJ bd n V O E K nm w o d hw ho hd hn HW HO HE wo of no un → bMW ty tm v → bSS pl le so sn SA SL SI → bMS sa sl si sn SA SL SI → ∀ (H : Heap) (locs : List Loc), va_P (dC, dI) vwCl (wb a cI cJ cZ w o d n hw ho hd hn pl le so sn ta v bd ++ wm a' cI cJ cZ ty tm bd wo of n no nm un hn sa sl si sn tk) H → va_D A (wb a cI cJ cZ w o d n hw ho hd hn pl le so sn ta v bd ++ wm a' cI cJ cZ ty tm bd wo of n no nm un hn sa sl si sn tk) → va_S A s.heap H locs →
    W p l e room_1 s m #[Value.ref b] below meth c H locs 24 4134 Q (F0 m 644 ls [])
section LW
variable {l : Launch} {p : Program} {e : Env} {s : State} {m : MethodId} {b : Nat} {below : List Frame} {meth : Method} {c : Code} {dC : Nat → ClassId} {dI : Nat → Nat → Nat} {cI cJ cZ : ClassId} {a a' : Nat → Nat} {A : Nat → Prop} {Q : State → Prop} {ls : Array Slot}
variable {w : Nat → Int64} {o d : Nat → Int32} {n : Nat} {hw : Nat → Int64} {ho hd : Nat → Int32} {hn : Nat} {pl le so : Nat → Int32} {sn : Nat} {ta : Nat → Int32} {v bd : Nat} {ty : Nat → Int32} {tm : Nat} {wo : Nat → Int64} {of : Nat → Int32} {no : Nat → Int64} {nm : Nat} {un : Nat → Int64} {sa sl si tk : Nat → Int32} {V O E K HW HO HE SA SL SI : Nat → Nat}
variable {H : Heap} {locs : List Loc} {L i : Nat} {xs : Nat → Int32} {rest : List Value}
theorem ld_arg {cells slots pc k : Nat} {j : Int} {R : Room} (hx : p.tables.exec = Jvm.exec) (hb : c.code = code) (hX : va_X b L xs s s.heap) (hbl : b < s.heap.size) (hbA : ¬ A b) (hS : va_S A s.heap H locs) (hl : lv_has ls 4 [(3, .int (nI i)), (2, .ref (a' 0)), (1, .ref (a 0)), (0, .ref b)])
    (h0 : decode code pc = .ok (.aload_n 0, 1)) (h1 : decode code (pc + 1) = .ok (.iload_n 3, 1)) (h2 : decode code (pc + 1 + 1) = .ok (.iconst j, 1)) (h3 : decode code (pc + 1 + 1 + 1) = .ok (.iadd, 1)) (h4 : decode code (pc + 1 + 1 + 1 + 1) = .ok (.iaload, 1)) (hj : Int32.ofInt j = nI k) (hk : i + k < L) (hL : L ≤ 2048)
    (kk : W p l e R s m #[Value.ref b] below meth c H locs cells slots Q (F0 m (pc + 1 + 1 + 1 + 1 + 1) ls (.int (xs (nI (i + k)).toNatClampNeg) :: rest))) : W p l e R s m #[Value.ref b] below meth c H locs cells slots Q (F0 m pc ls rest) := by
  refine lv_aload_n hx hb h0 rfl (lv_at hl 3 rfl) ?_
  refine lv_iload_n hx hb h1 rfl (lv_at hl 0 rfl) ?_
  refine lv_iconst (v := nI k) hx hb h2 hj ?_
  refine lv_iadd hx hb h3 ?_
  refine tpi (nI_add i k) ?_
  exact va_sld hx hb hX hbl hbA hS (vp_in_nI hk (by omega)) h4 kk
set_option maxHeartbeats 4000000 in
set_option maxRecDepth 100000 in
theorem cs_times (S : CallFix p m c code 4 s #[Value.ref b] wsL_law RL) (hK : va_K (dC, dI) vwCl (tysA cI cJ cZ) s) (hA : ∀ q, s.heap.size ≤ q → A q) (hX : va_X b L xs s s.heap) (hbl : b < s.heap.size) (hbA : ¬ A b) (hl : lv_has ls 4 [(3, .int (nI i)), (2, .ref (a' 0)), (1, .ref (a 0)), (0, .ref b)]) (hi : i + 4 ≤ L) (hL : L ≤ 2048) (kk : LK l p e s m b below meth c dC dI cI cJ cZ a a' A Q ls)
    (hbd : 2 ≤ bd ∧ bd ≤ 8) (hJ : bJ bd n V O E K nm w o d hw ho hd hn HW HO HE wo of no un) (hMW : bMW ty tm v) (hSS : bSS pl le so sn SA SL SI) (hMS : bMS sa sl si sn SA SL SI) (hP : va_P (dC, dI) vwCl (wb a cI cJ cZ w o d n hw ho hd hn pl le so sn ta v bd ++ wm a' cI cJ cZ ty tm bd wo of n no nm un hn sa sl si sn tk) H) (hD : va_D A (wb a cI cJ cZ w o d n hw ho hd hn pl le so sn ta v bd ++ wm a' cI cJ cZ ty tm bd wo of n no nm un hn sa sl si sn tk)) (hS : va_S A s.heap H locs) : W p l e room_1 s m #[Value.ref b] below meth c H locs 24 4134 Q (F0 m 246 ls []) := by
  obtain ⟨hx, hb, hml, hown, hts⟩ := id S
  obtain ⟨j1, j2, j3, j4, j5, j6, j7, j8⟩ := id hJ
  have hv := hMW.1
  refine lv_aload_n hx hb dL_law_246 rfl (lv_at hl 2 rfl) ?_
  refine c_Vi (As := []) (rest := []) (ci := 3) (q0 := 0) S (c_X4_times l dC dI cI cJ cZ a w o d n hw ho hd hn pl le so sn ta v bd V O E HW HO HE SA SL SI j1 j2 hSS hv hbd ) (cwV 0 hts gL_law_X4_times rfl rfl rfl (by decide +kernel) ⟨Nat.le_of_ble_eq_true rfl, Nat.le_of_ble_eq_true rfl⟩) hK (hP.sub [0, 1, 2, 3, 4, 5, 6, 7, 8, 9, 10, 11, 12, 13] rfl) rfl rfl rfl hl.1 rfl (Nat.le_of_ble_eq_true rfl) dL_law_247 ⟨Nat.le_of_ble_eq_true rfl, Nat.le_of_ble_eq_true rfl⟩ ?_
  refine lv_aload_n hx hb dL_law_250 rfl (lv_at hl 1 rfl) ?_
  refine m_Vi (As := []) (rest := [.int (nI (bof V O n v))]) (ci := 4) (q0 := 0) (wr := wb a cI cJ cZ w o d n hw ho hd hn pl le so sn ta v bd) S (c_X5_times l dC dI cI cJ cZ a' ty tm bd wo of n no nm un hn sa sl si sn tk v V O K SA SL SI hMW j3 j4 hMS H.size ) (cwV 0 hts gL_law_X5_times rfl rfl rfl (by decide +kernel) ⟨Nat.le_of_ble_eq_true rfl, Nat.le_of_ble_eq_true rfl⟩) hK hP hD hS hA [14, 15, 16, 17, 18, 19, 20, 21, 22, 23] [0, 1, 2, 3, 4, 5, 6, 7, 8, 9, 10, 11, 12, 13] (hP.sub [14, 15, 16, 17, 18, 19, 20, 21, 22, 23] rfl) (hD.sub [14, 15, 16, 17, 18, 19, 20, 21, 22, 23] (by decide) rfl) rfl rfl (by decide) (by decide) rfl rfl rfl hl.1 rfl (Nat.le_of_ble_eq_true rfl) dL_law_251 ⟨Nat.le_of_ble_eq_true rfl, Nat.le_of_ble_eq_true rfl⟩ (fun r u H locs hu hP hD hS => ?_)
  have he : nI (bof V O n v) = r := (an_times j5).trans hu.symm
  refine lv_icmp_eq (tgt := 644) hx hb dL_law_254 (by decide) (fun cq => ?_) (fun cq => ?_)
  · exact kk w o d n hw ho hd hn pl le so sn ta v bd ty tm wo of no nm un sa sl si tk V O E K HW HO HE SA SL SI hbd hJ hMW hSS hMS H locs hP hD hS
  · exact absurd he cq
set_option maxHeartbeats 4000000 in
set_option maxRecDepth 100000 in
theorem cs_rank (S : CallFix p m c code 4 s #[Value.ref b] wsL_law RL) (hK : va_K (dC, dI) vwCl (tysA cI cJ cZ) s) (hA : ∀ q, s.heap.size ≤ q → A q) (hX : va_X b L xs s s.heap) (hbl : b < s.heap.size) (hbA : ¬ A b) (hl : lv_has ls 4 [(3, .int (nI i)), (2, .ref (a' 0)), (1, .ref (a 0)), (0, .ref b)]) (hi : i + 4 ≤ L) (hL : L ≤ 2048) (kk : LK l p e s m b below meth c dC dI cI cJ cZ a a' A Q ls)
    (hbd : 2 ≤ bd ∧ bd ≤ 8) (hJ : bJ bd n V O E K nm w o d hw ho hd hn HW HO HE wo of no un) (hMW : bMW ty tm v) (hSS : bSS pl le so sn SA SL SI) (hMS : bMS sa sl si sn SA SL SI) (hP : va_P (dC, dI) vwCl (wb a cI cJ cZ w o d n hw ho hd hn pl le so sn ta v bd ++ wm a' cI cJ cZ ty tm bd wo of n no nm un hn sa sl si sn tk) H) (hD : va_D A (wb a cI cJ cZ w o d n hw ho hd hn pl le so sn ta v bd ++ wm a' cI cJ cZ ty tm bd wo of n no nm un hn sa sl si sn tk)) (hS : va_S A s.heap H locs) : W p l e room_1 s m #[Value.ref b] below meth c H locs 24 4134 Q (F0 m 259 ls []) := by
  obtain ⟨hx, hb, hml, hown, hts⟩ := id S
  obtain ⟨j1, j2, j3, j4, j5, j6, j7, j8⟩ := id hJ
  have hv := hMW.1
  refine lv_aload_n hx hb dL_law_259 rfl (lv_at hl 2 rfl) ?_
  refine c_Vi (As := []) (rest := []) (ci := 3) (q0 := 0) S (c_X4_rank l dC dI cI cJ cZ a w o d n hw ho hd hn pl le so sn ta v bd V O E HW HO HE SA SL SI j1 j2 hSS hv hbd ) (cwV 0 hts gL_law_X4_rank rfl rfl rfl (by decide +kernel) ⟨Nat.le_of_ble_eq_true rfl, Nat.le_of_ble_eq_true rfl⟩) hK (hP.sub [0, 1, 2, 3, 4, 5, 6, 7, 8, 9, 10, 11, 12, 13] rfl) rfl rfl rfl hl.1 rfl (Nat.le_of_ble_eq_true rfl) dL_law_260 ⟨Nat.le_of_ble_eq_true rfl, Nat.le_of_ble_eq_true rfl⟩ ?_
  refine lv_aload_n hx hb dL_law_263 rfl (lv_at hl 1 rfl) ?_
  refine m_Vi (As := []) (rest := [.int (nI (fb_sm O (bpl V n v)))]) (ci := 4) (q0 := 0) (wr := wb a cI cJ cZ w o d n hw ho hd hn pl le so sn ta v bd) S (c_X5_rank l dC dI cI cJ cZ a' ty tm bd wo of n no nm un hn sa sl si sn tk v V O K SA SL SI hMW j3 j4 hMS H.size ) (cwV 0 hts gL_law_X5_rank rfl rfl rfl (by decide +kernel) ⟨Nat.le_of_ble_eq_true rfl, Nat.le_of_ble_eq_true rfl⟩) hK hP hD hS hA [14, 15, 16, 17, 18, 19, 20, 21, 22, 23] [0, 1, 2, 3, 4, 5, 6, 7, 8, 9, 10, 11, 12, 13] (hP.sub [14, 15, 16, 17, 18, 19, 20, 21, 22, 23] rfl) (hD.sub [14, 15, 16, 17, 18, 19, 20, 21, 22, 23] (by decide) rfl) rfl rfl (by decide) (by decide) rfl rfl rfl hl.1 rfl (Nat.le_of_ble_eq_true rfl) dL_law_264 ⟨Nat.le_of_ble_eq_true rfl, Nat.le_of_ble_eq_true rfl⟩ (fun r u H locs hu hP hD hS => ?_)
  have he : nI (fb_sm O (bpl V n v)) = r := (congrArg nI (rank_eq j5)).trans hu.symm
  refine lv_icmp_eq (tgt := 644) hx hb dL_law_267 (by decide) (fun cq => ?_) (fun cq => ?_)
  · exact kk w o d n hw ho hd hn pl le so sn ta v bd ty tm wo of no nm un sa sl si tk V O E K HW HO HE SA SL SI hbd hJ hMW hSS hMS H locs hP hD hS
  · exact absurd he cq
set_option maxHeartbeats 4000000 in
set_option maxRecDepth 100000 in
theorem cs_begin (S : CallFix p m c code 4 s #[Value.ref b] wsL_law RL) (hK : va_K (dC, dI) vwCl (tysA cI cJ cZ) s) (hA : ∀ q, s.heap.size ≤ q → A q) (hX : va_X b L xs s s.heap) (hbl : b < s.heap.size) (hbA : ¬ A b) (hl : lv_has ls 4 [(3, .int (nI i)), (2, .ref (a' 0)), (1, .ref (a 0)), (0, .ref b)]) (hi : i + 4 ≤ L) (hL : L ≤ 2048) (kk : LK l p e s m b below meth c dC dI cI cJ cZ a a' A Q ls)
    (hbd : 2 ≤ bd ∧ bd ≤ 8) (hJ : bJ bd n V O E K nm w o d hw ho hd hn HW HO HE wo of no un) (hMW : bMW ty tm v) (hSS : bSS pl le so sn SA SL SI) (hMS : bMS sa sl si sn SA SL SI) (hP : va_P (dC, dI) vwCl (wb a cI cJ cZ w o d n hw ho hd hn pl le so sn ta v bd ++ wm a' cI cJ cZ ty tm bd wo of n no nm un hn sa sl si sn tk) H) (hD : va_D A (wb a cI cJ cZ w o d n hw ho hd hn pl le so sn ta v bd ++ wm a' cI cJ cZ ty tm bd wo of n no nm un hn sa sl si sn tk)) (hS : va_S A s.heap H locs) : W p l e room_1 s m #[Value.ref b] below meth c H locs 24 4134 Q (F0 m 272 ls []) := by
  obtain ⟨hx, hb, hml, hown, hts⟩ := id S
  obtain ⟨j1, j2, j3, j4, j5, j6, j7, j8⟩ := id hJ
  have hv := hMW.1
  refine lv_aload_n hx hb dL_law_272 rfl (lv_at hl 2 rfl) ?_
  refine c_Vi (As := []) (rest := []) (ci := 3) (q0 := 0) S (c_X4_begin l dC dI cI cJ cZ a w o d n hw ho hd hn pl le so sn ta v bd V O E HW HO HE SA SL SI j1 j2 hSS hv hbd ) (cwV 0 hts gL_law_X4_begin rfl rfl rfl (by decide +kernel) ⟨Nat.le_of_ble_eq_true rfl, Nat.le_of_ble_eq_true rfl⟩) hK (hP.sub [0, 1, 2, 3, 4, 5, 6, 7, 8, 9, 10, 11, 12, 13] rfl) rfl rfl rfl hl.1 rfl (Nat.le_of_ble_eq_true rfl) dL_law_273 ⟨Nat.le_of_ble_eq_true rfl, Nat.le_of_ble_eq_true rfl⟩ ?_
  refine lv_aload_n hx hb dL_law_276 rfl (lv_at hl 1 rfl) ?_
  refine m_Vi (As := []) (rest := [.int (nI (fb_sm (fun k => if bsh v (V k) == bln v then O k else 0) n))]) (ci := 4) (q0 := 0) (wr := wb a cI cJ cZ w o d n hw ho hd hn pl le so sn ta v bd) S (c_X5_begin l dC dI cI cJ cZ a' ty tm bd wo of n no nm un hn sa sl si sn tk v V O K SA SL SI hMW j3 j4 hMS H.size ) (cwV 0 hts gL_law_X5_begin rfl rfl rfl (by decide +kernel) ⟨Nat.le_of_ble_eq_true rfl, Nat.le_of_ble_eq_true rfl⟩) hK hP hD hS hA [14, 15, 16, 17, 18, 19, 20, 21, 22, 23] [0, 1, 2, 3, 4, 5, 6, 7, 8, 9, 10, 11, 12, 13] (hP.sub [14, 15, 16, 17, 18, 19, 20, 21, 22, 23] rfl) (hD.sub [14, 15, 16, 17, 18, 19, 20, 21, 22, 23] (by decide) rfl) rfl rfl (by decide) (by decide) rfl rfl rfl hl.1 rfl (Nat.le_of_ble_eq_true rfl) dL_law_277 ⟨Nat.le_of_ble_eq_true rfl, Nat.le_of_ble_eq_true rfl⟩ (fun r u H locs hu hP hD hS => ?_)
  have he : nI (fb_sm (fun k => if bsh v (V k) == bln v then O k else 0) n) = r := (congrArg nI (an_begin j5 hv)).trans hu.symm
  refine lv_icmp_eq (tgt := 644) hx hb dL_law_280 (by decide) (fun cq => ?_) (fun cq => ?_)
  · exact kk w o d n hw ho hd hn pl le so sn ta v bd ty tm wo of no nm un sa sl si tk V O E K HW HO HE SA SL SI hbd hJ hMW hSS hMS H locs hP hD hS
  · exact absurd he cq
set_option maxHeartbeats 4000000 in
set_option maxRecDepth 100000 in
theorem cs_depth (S : CallFix p m c code 4 s #[Value.ref b] wsL_law RL) (hK : va_K (dC, dI) vwCl (tysA cI cJ cZ) s) (hA : ∀ q, s.heap.size ≤ q → A q) (hX : va_X b L xs s s.heap) (hbl : b < s.heap.size) (hbA : ¬ A b) (hl : lv_has ls 4 [(3, .int (nI i)), (2, .ref (a' 0)), (1, .ref (a 0)), (0, .ref b)]) (hi : i + 4 ≤ L) (hL : L ≤ 2048) (kk : LK l p e s m b below meth c dC dI cI cJ cZ a a' A Q ls)
    (hbd : 2 ≤ bd ∧ bd ≤ 8) (hJ : bJ bd n V O E K nm w o d hw ho hd hn HW HO HE wo of no un) (hMW : bMW ty tm v) (hSS : bSS pl le so sn SA SL SI) (hMS : bMS sa sl si sn SA SL SI) (hP : va_P (dC, dI) vwCl (wb a cI cJ cZ w o d n hw ho hd hn pl le so sn ta v bd ++ wm a' cI cJ cZ ty tm bd wo of n no nm un hn sa sl si sn tk) H) (hD : va_D A (wb a cI cJ cZ w o d n hw ho hd hn pl le so sn ta v bd ++ wm a' cI cJ cZ ty tm bd wo of n no nm un hn sa sl si sn tk)) (hS : va_S A s.heap H locs) : W p l e room_1 s m #[Value.ref b] below meth c H locs 24 4134 Q (F0 m 285 ls []) := by
  obtain ⟨hx, hb, hml, hown, hts⟩ := id S
  obtain ⟨j1, j2, j3, j4, j5, j6, j7, j8⟩ := id hJ
  have hv := hMW.1
  refine lv_aload_n hx hb dL_law_285 rfl (lv_at hl 2 rfl) ?_
  refine c_Vi (As := []) (rest := []) (ci := 3) (q0 := 0) S (c_X4_depth l dC dI cI cJ cZ a w o d n hw ho hd hn pl le so sn ta v bd V O E HW HO HE SA SL SI j1 j2 hSS hv hbd ) (cwV 0 hts gL_law_X4_depth rfl rfl rfl (by decide +kernel) ⟨Nat.le_of_ble_eq_true rfl, Nat.le_of_ble_eq_true rfl⟩) hK (hP.sub [0, 1, 2, 3, 4, 5, 6, 7, 8, 9, 10, 11, 12, 13] rfl) rfl rfl rfl hl.1 rfl (Nat.le_of_ble_eq_true rfl) dL_law_286 ⟨Nat.le_of_ble_eq_true rfl, Nat.le_of_ble_eq_true rfl⟩ ?_
  refine lv_aload_n hx hb dL_law_289 rfl (lv_at hl 1 rfl) ?_
  refine m_Vi (As := []) (rest := [.int (nI (bdp V E n v))]) (ci := 4) (q0 := 0) (wr := wb a cI cJ cZ w o d n hw ho hd hn pl le so sn ta v bd) S (c_X5_depth l dC dI cI cJ cZ a' ty tm bd wo of n no nm un hn sa sl si sn tk v V O K SA SL SI hMW j3 j4 hMS H.size ) (cwV 0 hts gL_law_X5_depth rfl rfl rfl (by decide +kernel) ⟨Nat.le_of_ble_eq_true rfl, Nat.le_of_ble_eq_true rfl⟩) hK hP hD hS hA [14, 15, 16, 17, 18, 19, 20, 21, 22, 23] [0, 1, 2, 3, 4, 5, 6, 7, 8, 9, 10, 11, 12, 13] (hP.sub [14, 15, 16, 17, 18, 19, 20, 21, 22, 23] rfl) (hD.sub [14, 15, 16, 17, 18, 19, 20, 21, 22, 23] (by decide) rfl) rfl rfl (by decide) (by decide) rfl rfl rfl hl.1 rfl (Nat.le_of_ble_eq_true rfl) dL_law_290 ⟨Nat.le_of_ble_eq_true rfl, Nat.le_of_ble_eq_true rfl⟩ (fun r u H locs hu hP hD hS => ?_)
  have he : nI (bdp V E n v) = r := (congrArg nI (an_depth hbd.1 j5 j6 j7 hv)).trans hu.symm
  refine lv_icmp_eq (tgt := 644) hx hb dL_law_293 (by decide) (fun cq => ?_) (fun cq => ?_)
  · exact kk w o d n hw ho hd hn pl le so sn ta v bd ty tm wo of no nm un sa sl si tk V O E K HW HO HE SA SL SI hbd hJ hMW hSS hMS H locs hP hD hS
  · exact absurd he cq
set_option maxHeartbeats 4000000 in
set_option maxRecDepth 100000 in
theorem cs_container (S : CallFix p m c code 4 s #[Value.ref b] wsL_law RL) (hK : va_K (dC, dI) vwCl (tysA cI cJ cZ) s) (hA : ∀ q, s.heap.size ≤ q → A q) (hX : va_X b L xs s s.heap) (hbl : b < s.heap.size) (hbA : ¬ A b) (hl : lv_has ls 4 [(3, .int (nI i)), (2, .ref (a' 0)), (1, .ref (a 0)), (0, .ref b)]) (hi : i + 4 ≤ L) (hL : L ≤ 2048) (kk : LK l p e s m b below meth c dC dI cI cJ cZ a a' A Q ls)
    (hbd : 2 ≤ bd ∧ bd ≤ 8) (hJ : bJ bd n V O E K nm w o d hw ho hd hn HW HO HE wo of no un) (hMW : bMW ty tm v) (hSS : bSS pl le so sn SA SL SI) (hMS : bMS sa sl si sn SA SL SI) (hP : va_P (dC, dI) vwCl (wb a cI cJ cZ w o d n hw ho hd hn pl le so sn ta v bd ++ wm a' cI cJ cZ ty tm bd wo of n no nm un hn sa sl si sn tk) H) (hD : va_D A (wb a cI cJ cZ w o d n hw ho hd hn pl le so sn ta v bd ++ wm a' cI cJ cZ ty tm bd wo of n no nm un hn sa sl si sn tk)) (hS : va_S A s.heap H locs) : W p l e room_1 s m #[Value.ref b] below meth c H locs 24 4134 Q (F0 m 298 ls []) := by
  obtain ⟨hx, hb, hml, hown, hts⟩ := id S
  obtain ⟨j1, j2, j3, j4, j5, j6, j7, j8⟩ := id hJ
  have hv := hMW.1
  refine lv_aload_n hx hb dL_law_298 rfl (lv_at hl 2 rfl) ?_
  refine ld_arg (k := 1) hx hb hX hbl hbA hS hl dL_law_299 dL_law_300 dL_law_301 dL_law_302 dL_law_303 (by decide) (by omega) hL ?_
  refine c_Vi (As := [.int (xs (nI (i + 1)).toNatClampNeg)]) (rest := []) (ci := 3) (q0 := 0) S (c_X4_container l dC dI cI cJ cZ a w o d n hw ho hd hn pl le so sn ta v bd V O E HW HO HE SA SL SI j1 j2 hSS hv hbd (xs (nI (i + 1)).toNatClampNeg)) (cwV 1 hts gL_law_X4_container rfl rfl rfl (by decide +kernel) ⟨Nat.le_of_ble_eq_true rfl, Nat.le_of_ble_eq_true rfl⟩) hK (hP.sub [0, 1, 2, 3, 4, 5, 6, 7, 8, 9, 10, 11, 12, 13] rfl) rfl rfl rfl hl.1 rfl (Nat.le_of_ble_eq_true rfl) dL_law_304 ⟨Nat.le_of_ble_eq_true rfl, Nat.le_of_ble_eq_true rfl⟩ ?_
  refine lv_aload_n hx hb dL_law_307 rfl (lv_at hl 1 rfl) ?_
  refine ld_arg (k := 1) hx hb hX hbl hbA hS hl dL_law_308 dL_law_309 dL_law_310 dL_law_311 dL_law_312 (by decide) (by omega) hL ?_
  refine m_Vi (As := [.int (xs (nI (i + 1)).toNatClampNeg)]) (rest := [.int (cl_container V E n v (xs (nI (i + 1)).toNatClampNeg))]) (ci := 4) (q0 := 0) (wr := wb a cI cJ cZ w o d n hw ho hd hn pl le so sn ta v bd) S (c_X5_container l dC dI cI cJ cZ a' ty tm bd wo of n no nm un hn sa sl si sn tk v V O K SA SL SI hMW j3 j4 hMS H.size (xs (nI (i + 1)).toNatClampNeg)) (cwV 1 hts gL_law_X5_container rfl rfl rfl (by decide +kernel) ⟨Nat.le_of_ble_eq_true rfl, Nat.le_of_ble_eq_true rfl⟩) hK hP hD hS hA [14, 15, 16, 17, 18, 19, 20, 21, 22, 23] [0, 1, 2, 3, 4, 5, 6, 7, 8, 9, 10, 11, 12, 13] (hP.sub [14, 15, 16, 17, 18, 19, 20, 21, 22, 23] rfl) (hD.sub [14, 15, 16, 17, 18, 19, 20, 21, 22, 23] (by decide) rfl) rfl rfl (by decide) (by decide) rfl rfl rfl hl.1 rfl (Nat.le_of_ble_eq_true rfl) dL_law_313 ⟨Nat.le_of_ble_eq_true rfl, Nat.le_of_ble_eq_true rfl⟩ (fun r u H locs hu hP hD hS => ?_)
  have he : cl_container V E n v (xs (nI (i + 1)).toNatClampNeg) = r := (an_container hbd.1 j5 j6 j7 hv (xs (nI (i + 1)).toNatClampNeg)).trans hu.symm
  refine lv_icmp_eq (tgt := 644) hx hb dL_law_316 (by decide) (fun cq => ?_) (fun cq => ?_)
  · exact kk w o d n hw ho hd hn pl le so sn ta v bd ty tm wo of no nm un sa sl si tk V O E K HW HO HE SA SL SI hbd hJ hMW hSS hMS H locs hP hD hS
  · exact absurd he cq
set_option maxHeartbeats 4000000 in
set_option maxRecDepth 100000 in
theorem cs_telling (S : CallFix p m c code 4 s #[Value.ref b] wsL_law RL) (hK : va_K (dC, dI) vwCl (tysA cI cJ cZ) s) (hA : ∀ q, s.heap.size ≤ q → A q) (hX : va_X b L xs s s.heap) (hbl : b < s.heap.size) (hbA : ¬ A b) (hl : lv_has ls 4 [(3, .int (nI i)), (2, .ref (a' 0)), (1, .ref (a 0)), (0, .ref b)]) (hi : i + 4 ≤ L) (hL : L ≤ 2048) (kk : LK l p e s m b below meth c dC dI cI cJ cZ a a' A Q ls)
    (hbd : 2 ≤ bd ∧ bd ≤ 8) (hJ : bJ bd n V O E K nm w o d hw ho hd hn HW HO HE wo of no un) (hMW : bMW ty tm v) (hSS : bSS pl le so sn SA SL SI) (hMS : bMS sa sl si sn SA SL SI) (hP : va_P (dC, dI) vwCl (wb a cI cJ cZ w o d n hw ho hd hn pl le so sn ta v bd ++ wm a' cI cJ cZ ty tm bd wo of n no nm un hn sa sl si sn tk) H) (hD : va_D A (wb a cI cJ cZ w o d n hw ho hd hn pl le so sn ta v bd ++ wm a' cI cJ cZ ty tm bd wo of n no nm un hn sa sl si sn tk)) (hS : va_S A s.heap H locs) : W p l e room_1 s m #[Value.ref b] below meth c H locs 24 4134 Q (F0 m 321 ls []) := by
  obtain ⟨hx, hb, hml, hown, hts⟩ := id S
  obtain ⟨j1, j2, j3, j4, j5, j6, j7, j8⟩ := id hJ
  have hv := hMW.1
  refine lv_aload_n hx hb dL_law_321 rfl (lv_at hl 2 rfl) ?_
  refine c_Vi (As := []) (rest := []) (ci := 3) (q0 := 0) S (c_X4_telling l dC dI cI cJ cZ a w o d n hw ho hd hn pl le so sn ta v bd V O E HW HO HE SA SL SI j1 j2 hSS hv hbd ) (cwV 0 hts gL_law_X4_telling rfl rfl rfl (by decide +kernel) ⟨Nat.le_of_ble_eq_true rfl, Nat.le_of_ble_eq_true rfl⟩) hK (hP.sub [0, 1, 2, 3, 4, 5, 6, 7, 8, 9, 10, 11, 12, 13] rfl) rfl rfl rfl hl.1 rfl (Nat.le_of_ble_eq_true rfl) dL_law_322 ⟨Nat.le_of_ble_eq_true rfl, Nat.le_of_ble_eq_true rfl⟩ ?_
  refine lv_aload_n hx hb dL_law_325 rfl (lv_at hl 1 rfl) ?_
  refine m_Vi (As := []) (rest := [.int (cl_telling V O n v)]) (ci := 4) (q0 := 0) (wr := wb a cI cJ cZ w o d n hw ho hd hn pl le so sn ta v bd) S (c_X5_telling l dC dI cI cJ cZ a' ty tm bd wo of n no nm un hn sa sl si sn tk v V O K SA SL SI hMW j3 j4 hMS H.size ) (cwV 0 hts gL_law_X5_telling rfl rfl rfl (by decide +kernel) ⟨Nat.le_of_ble_eq_true rfl, Nat.le_of_ble_eq_true rfl⟩) hK hP hD hS hA [14, 15, 16, 17, 18, 19, 20, 21, 22, 23] [0, 1, 2, 3, 4, 5, 6, 7, 8, 9, 10, 11, 12, 13] (hP.sub [14, 15, 16, 17, 18, 19, 20, 21, 22, 23] rfl) (hD.sub [14, 15, 16, 17, 18, 19, 20, 21, 22, 23] (by decide) rfl) rfl rfl (by decide) (by decide) rfl rfl rfl hl.1 rfl (Nat.le_of_ble_eq_true rfl) dL_law_326 ⟨Nat.le_of_ble_eq_true rfl, Nat.le_of_ble_eq_true rfl⟩ (fun r u H locs hu hP hD hS => ?_)
  have he : cl_telling V O n v = r := (an_telling j5 hv).trans hu.symm
  refine lv_icmp_eq (tgt := 644) hx hb dL_law_329 (by decide) (fun cq => ?_) (fun cq => ?_)
  · exact kk w o d n hw ho hd hn pl le so sn ta v bd ty tm wo of no nm un sa sl si tk V O E K HW HO HE SA SL SI hbd hJ hMW hSS hMS H locs hP hD hS
  · exact absurd he cq
set_option maxHeartbeats 4000000 in
set_option maxRecDepth 100000 in
theorem cs_longest (S : CallFix p m c code 4 s #[Value.ref b] wsL_law RL) (hK : va_K (dC, dI) vwCl (tysA cI cJ cZ) s) (hA : ∀ q, s.heap.size ≤ q → A q) (hX : va_X b L xs s s.heap) (hbl : b < s.heap.size) (hbA : ¬ A b) (hl : lv_has ls 4 [(3, .int (nI i)), (2, .ref (a' 0)), (1, .ref (a 0)), (0, .ref b)]) (hi : i + 4 ≤ L) (hL : L ≤ 2048) (kk : LK l p e s m b below meth c dC dI cI cJ cZ a a' A Q ls)
    (hbd : 2 ≤ bd ∧ bd ≤ 8) (hJ : bJ bd n V O E K nm w o d hw ho hd hn HW HO HE wo of no un) (hMW : bMW ty tm v) (hSS : bSS pl le so sn SA SL SI) (hMS : bMS sa sl si sn SA SL SI) (hP : va_P (dC, dI) vwCl (wb a cI cJ cZ w o d n hw ho hd hn pl le so sn ta v bd ++ wm a' cI cJ cZ ty tm bd wo of n no nm un hn sa sl si sn tk) H) (hD : va_D A (wb a cI cJ cZ w o d n hw ho hd hn pl le so sn ta v bd ++ wm a' cI cJ cZ ty tm bd wo of n no nm un hn sa sl si sn tk)) (hS : va_S A s.heap H locs) : W p l e room_1 s m #[Value.ref b] below meth c H locs 24 4134 Q (F0 m 334 ls []) := by
  obtain ⟨hx, hb, hml, hown, hts⟩ := id S
  obtain ⟨j1, j2, j3, j4, j5, j6, j7, j8⟩ := id hJ
  have hv := hMW.1
  refine lv_aload_n hx hb dL_law_334 rfl (lv_at hl 2 rfl) ?_
  refine c_Vi (As := []) (rest := []) (ci := 3) (q0 := 0) S (c_X4_longest l dC dI cI cJ cZ a w o d n hw ho hd hn pl le so sn ta v bd V O E HW HO HE SA SL SI j1 j2 hSS hv hbd ) (cwV 0 hts gL_law_X4_longest rfl rfl rfl (by decide +kernel) ⟨Nat.le_of_ble_eq_true rfl, Nat.le_of_ble_eq_true rfl⟩) hK (hP.sub [0, 1, 2, 3, 4, 5, 6, 7, 8, 9, 10, 11, 12, 13] rfl) rfl rfl rfl hl.1 rfl (Nat.le_of_ble_eq_true rfl) dL_law_335 ⟨Nat.le_of_ble_eq_true rfl, Nat.le_of_ble_eq_true rfl⟩ ?_
  refine lv_aload_n hx hb dL_law_338 rfl (lv_at hl 1 rfl) ?_
  refine m_Vi (As := []) (rest := [.int (bnz (bmx (fun k => if bsh (V k) v == bln (V k) then bln (V k) else 0) n))]) (ci := 4) (q0 := 0) (wr := wb a cI cJ cZ w o d n hw ho hd hn pl le so sn ta v bd) S (c_X5_longest l dC dI cI cJ cZ a' ty tm bd wo of n no nm un hn sa sl si sn tk v V O K SA SL SI hMW j3 j4 hMS H.size ) (cwV 0 hts gL_law_X5_longest rfl rfl rfl (by decide +kernel) ⟨Nat.le_of_ble_eq_true rfl, Nat.le_of_ble_eq_true rfl⟩) hK hP hD hS hA [14, 15, 16, 17, 18, 19, 20, 21, 22, 23] [0, 1, 2, 3, 4, 5, 6, 7, 8, 9, 10, 11, 12, 13] (hP.sub [14, 15, 16, 17, 18, 19, 20, 21, 22, 23] rfl) (hD.sub [14, 15, 16, 17, 18, 19, 20, 21, 22, 23] (by decide) rfl) rfl rfl (by decide) (by decide) rfl rfl rfl hl.1 rfl (Nat.le_of_ble_eq_true rfl) dL_law_339 ⟨Nat.le_of_ble_eq_true rfl, Nat.le_of_ble_eq_true rfl⟩ (fun r u H locs hu hP hD hS => ?_)
  have he : bnz (bmx (fun k => if bsh (V k) v == bln (V k) then bln (V k) else 0) n) = r := (congrArg bnz (an_longest j5 hv)).trans hu.symm
  refine lv_icmp_eq (tgt := 644) hx hb dL_law_342 (by decide) (fun cq => ?_) (fun cq => ?_)
  · exact kk w o d n hw ho hd hn pl le so sn ta v bd ty tm wo of no nm un sa sl si tk V O E K HW HO HE SA SL SI hbd hJ hMW hSS hMS H locs hP hD hS
  · exact absurd he cq
set_option maxHeartbeats 4000000 in
set_option maxRecDepth 100000 in
theorem cs_like (S : CallFix p m c code 4 s #[Value.ref b] wsL_law RL) (hK : va_K (dC, dI) vwCl (tysA cI cJ cZ) s) (hA : ∀ q, s.heap.size ≤ q → A q) (hX : va_X b L xs s s.heap) (hbl : b < s.heap.size) (hbA : ¬ A b) (hl : lv_has ls 4 [(3, .int (nI i)), (2, .ref (a' 0)), (1, .ref (a 0)), (0, .ref b)]) (hi : i + 4 ≤ L) (hL : L ≤ 2048) (kk : LK l p e s m b below meth c dC dI cI cJ cZ a a' A Q ls)
    (hbd : 2 ≤ bd ∧ bd ≤ 8) (hJ : bJ bd n V O E K nm w o d hw ho hd hn HW HO HE wo of no un) (hMW : bMW ty tm v) (hSS : bSS pl le so sn SA SL SI) (hMS : bMS sa sl si sn SA SL SI) (hP : va_P (dC, dI) vwCl (wb a cI cJ cZ w o d n hw ho hd hn pl le so sn ta v bd ++ wm a' cI cJ cZ ty tm bd wo of n no nm un hn sa sl si sn tk) H) (hD : va_D A (wb a cI cJ cZ w o d n hw ho hd hn pl le so sn ta v bd ++ wm a' cI cJ cZ ty tm bd wo of n no nm un hn sa sl si sn tk)) (hS : va_S A s.heap H locs) : W p l e room_1 s m #[Value.ref b] below meth c H locs 24 4134 Q (F0 m 347 ls []) := by
  obtain ⟨hx, hb, hml, hown, hts⟩ := id S
  obtain ⟨j1, j2, j3, j4, j5, j6, j7, j8⟩ := id hJ
  have hv := hMW.1
  refine lv_aload_n hx hb dL_law_347 rfl (lv_at hl 2 rfl) ?_
  refine ld_arg (k := 1) hx hb hX hbl hbA hS hl dL_law_348 dL_law_349 dL_law_350 dL_law_351 dL_law_352 (by decide) (by omega) hL ?_
  refine c_Vi (As := [.int (xs (nI (i + 1)).toNatClampNeg)]) (rest := []) (ci := 3) (q0 := 0) S (c_X4_like l dC dI cI cJ cZ a w o d n hw ho hd hn pl le so sn ta v bd V O E HW HO HE SA SL SI j1 j2 hSS hv hbd (xs (nI (i + 1)).toNatClampNeg)) (cwV 1 hts gL_law_X4_like rfl rfl rfl (by decide +kernel) ⟨Nat.le_of_ble_eq_true rfl, Nat.le_of_ble_eq_true rfl⟩) hK (hP.sub [0, 1, 2, 3, 4, 5, 6, 7, 8, 9, 10, 11, 12, 13] rfl) rfl rfl rfl hl.1 rfl (Nat.le_of_ble_eq_true rfl) dL_law_353 ⟨Nat.le_of_ble_eq_true rfl, Nat.le_of_ble_eq_true rfl⟩ ?_
  refine lv_aload_n hx hb dL_law_356 rfl (lv_at hl 1 rfl) ?_
  refine ld_arg (k := 1) hx hb hX hbl hbA hS hl dL_law_357 dL_law_358 dL_law_359 dL_law_360 dL_law_361 (by decide) (by omega) hL ?_
  refine m_Vi (As := [.int (xs (nI (i + 1)).toNatClampNeg)]) (rest := [.int (cl_like V n v (xs (nI (i + 1)).toNatClampNeg))]) (ci := 4) (q0 := 0) (wr := wb a cI cJ cZ w o d n hw ho hd hn pl le so sn ta v bd) S (c_X5_like l dC dI cI cJ cZ a' ty tm bd wo of n no nm un hn sa sl si sn tk v V O K SA SL SI hMW j3 j4 hMS H.size (xs (nI (i + 1)).toNatClampNeg)) (cwV 1 hts gL_law_X5_like rfl rfl rfl (by decide +kernel) ⟨Nat.le_of_ble_eq_true rfl, Nat.le_of_ble_eq_true rfl⟩) hK hP hD hS hA [14, 15, 16, 17, 18, 19, 20, 21, 22, 23] [0, 1, 2, 3, 4, 5, 6, 7, 8, 9, 10, 11, 12, 13] (hP.sub [14, 15, 16, 17, 18, 19, 20, 21, 22, 23] rfl) (hD.sub [14, 15, 16, 17, 18, 19, 20, 21, 22, 23] (by decide) rfl) rfl rfl (by decide) (by decide) rfl rfl rfl hl.1 rfl (Nat.le_of_ble_eq_true rfl) dL_law_362 ⟨Nat.le_of_ble_eq_true rfl, Nat.le_of_ble_eq_true rfl⟩ (fun r u H locs hu hP hD hS => ?_)
  have he : cl_like V n v (xs (nI (i + 1)).toNatClampNeg) = r := by rw [hu, hMW.2.1]; exact an_like j5 hv (xs (nI (i + 1)).toNatClampNeg)
  refine lv_icmp_eq (tgt := 644) hx hb dL_law_365 (by decide) (fun cq => ?_) (fun cq => ?_)
  · exact kk w o d n hw ho hd hn pl le so sn ta v bd ty tm wo of no nm un sa sl si tk V O E K HW HO HE SA SL SI hbd hJ hMW hSS hMS H locs hP hD hS
  · exact absurd he cq
set_option maxHeartbeats 4000000 in
set_option maxRecDepth 100000 in
theorem cs_odds (S : CallFix p m c code 4 s #[Value.ref b] wsL_law RL) (hK : va_K (dC, dI) vwCl (tysA cI cJ cZ) s) (hA : ∀ q, s.heap.size ≤ q → A q) (hX : va_X b L xs s s.heap) (hbl : b < s.heap.size) (hbA : ¬ A b) (hl : lv_has ls 4 [(3, .int (nI i)), (2, .ref (a' 0)), (1, .ref (a 0)), (0, .ref b)]) (hi : i + 4 ≤ L) (hL : L ≤ 2048) (kk : LK l p e s m b below meth c dC dI cI cJ cZ a a' A Q ls)
    (hbd : 2 ≤ bd ∧ bd ≤ 8) (hJ : bJ bd n V O E K nm w o d hw ho hd hn HW HO HE wo of no un) (hMW : bMW ty tm v) (hSS : bSS pl le so sn SA SL SI) (hMS : bMS sa sl si sn SA SL SI) (hP : va_P (dC, dI) vwCl (wb a cI cJ cZ w o d n hw ho hd hn pl le so sn ta v bd ++ wm a' cI cJ cZ ty tm bd wo of n no nm un hn sa sl si sn tk) H) (hD : va_D A (wb a cI cJ cZ w o d n hw ho hd hn pl le so sn ta v bd ++ wm a' cI cJ cZ ty tm bd wo of n no nm un hn sa sl si sn tk)) (hS : va_S A s.heap H locs) : W p l e room_1 s m #[Value.ref b] below meth c H locs 24 4134 Q (F0 m 370 ls []) := by
  obtain ⟨hx, hb, hml, hown, hts⟩ := id S
  obtain ⟨j1, j2, j3, j4, j5, j6, j7, j8⟩ := id hJ
  have hv := hMW.1
  refine lv_aload_n hx hb dL_law_370 rfl (lv_at hl 2 rfl) ?_
  refine ld_arg (k := 1) hx hb hX hbl hbA hS hl dL_law_371 dL_law_372 dL_law_373 dL_law_374 dL_law_375 (by decide) (by omega) hL ?_
  refine c_Vi (As := [.int (xs (nI (i + 1)).toNatClampNeg)]) (rest := []) (ci := 3) (q0 := 0) S (c_X4_odds l dC dI cI cJ cZ a w o d n hw ho hd hn pl le so sn ta v bd V O E HW HO HE SA SL SI j1 j2 hSS hv hbd (xs (nI (i + 1)).toNatClampNeg)) (cwV 1 hts gL_law_X4_odds rfl rfl rfl (by decide +kernel) ⟨Nat.le_of_ble_eq_true rfl, Nat.le_of_ble_eq_true rfl⟩) hK (hP.sub [0, 1, 2, 3, 4, 5, 6, 7, 8, 9, 10, 11, 12, 13] rfl) rfl rfl rfl hl.1 rfl (Nat.le_of_ble_eq_true rfl) dL_law_376 ⟨Nat.le_of_ble_eq_true rfl, Nat.le_of_ble_eq_true rfl⟩ ?_
  refine lv_aload_n hx hb dL_law_379 rfl (lv_at hl 1 rfl) ?_
  refine ld_arg (k := 1) hx hb hX hbl hbA hS hl dL_law_380 dL_law_381 dL_law_382 dL_law_383 dL_law_384 (by decide) (by omega) hL ?_
  refine m_Vi (As := [.int (xs (nI (i + 1)).toNatClampNeg)]) (rest := [.int (cl_odds (fb_sm O n) (fb_sm (fun k => if bsh v (V k) == bln v then O k else 0) n) (xs (nI (i + 1)).toNatClampNeg))]) (ci := 4) (q0 := 0) (wr := wb a cI cJ cZ w o d n hw ho hd hn pl le so sn ta v bd) S (c_X5_odds l dC dI cI cJ cZ a' ty tm bd wo of n no nm un hn sa sl si sn tk v V O K SA SL SI hMW j3 j4 hMS H.size (xs (nI (i + 1)).toNatClampNeg)) (cwV 1 hts gL_law_X5_odds rfl rfl rfl (by decide +kernel) ⟨Nat.le_of_ble_eq_true rfl, Nat.le_of_ble_eq_true rfl⟩) hK hP hD hS hA [14, 15, 16, 17, 18, 19, 20, 21, 22, 23] [0, 1, 2, 3, 4, 5, 6, 7, 8, 9, 10, 11, 12, 13] (hP.sub [14, 15, 16, 17, 18, 19, 20, 21, 22, 23] rfl) (hD.sub [14, 15, 16, 17, 18, 19, 20, 21, 22, 23] (by decide) rfl) rfl rfl (by decide) (by decide) rfl rfl rfl hl.1 rfl (Nat.le_of_ble_eq_true rfl) dL_law_385 ⟨Nat.le_of_ble_eq_true rfl, Nat.le_of_ble_eq_true rfl⟩ (fun r u H locs hu hP hD hS => ?_)
  have he : cl_odds (fb_sm O n) (fb_sm (fun k => if bsh v (V k) == bln v then O k else 0) n) (xs (nI (i + 1)).toNatClampNeg) = r := by rw [hu, an_begin j5 hv]; exact an_odds (fb_sm_le (fun k _ => by split <;> omega)) (xs (nI (i + 1)).toNatClampNeg)
  refine lv_icmp_eq (tgt := 644) hx hb dL_law_388 (by decide) (fun cq => ?_) (fun cq => ?_)
  · exact kk w o d n hw ho hd hn pl le so sn ta v bd ty tm wo of no nm un sa sl si tk V O E K HW HO HE SA SL SI hbd hJ hMW hSS hMS H locs hP hD hS
  · exact absurd he cq
set_option maxHeartbeats 4000000 in
set_option maxRecDepth 100000 in
theorem cs_kth (S : CallFix p m c code 4 s #[Value.ref b] wsL_law RL) (hK : va_K (dC, dI) vwCl (tysA cI cJ cZ) s) (hA : ∀ q, s.heap.size ≤ q → A q) (hX : va_X b L xs s s.heap) (hbl : b < s.heap.size) (hbA : ¬ A b) (hl : lv_has ls 4 [(3, .int (nI i)), (2, .ref (a' 0)), (1, .ref (a 0)), (0, .ref b)]) (hi : i + 4 ≤ L) (hL : L ≤ 2048) (kk : LK l p e s m b below meth c dC dI cI cJ cZ a a' A Q ls)
    (hbd : 2 ≤ bd ∧ bd ≤ 8) (hJ : bJ bd n V O E K nm w o d hw ho hd hn HW HO HE wo of no un) (hMW : bMW ty tm v) (hSS : bSS pl le so sn SA SL SI) (hMS : bMS sa sl si sn SA SL SI) (hP : va_P (dC, dI) vwCl (wb a cI cJ cZ w o d n hw ho hd hn pl le so sn ta v bd ++ wm a' cI cJ cZ ty tm bd wo of n no nm un hn sa sl si sn tk) H) (hD : va_D A (wb a cI cJ cZ w o d n hw ho hd hn pl le so sn ta v bd ++ wm a' cI cJ cZ ty tm bd wo of n no nm un hn sa sl si sn tk)) (hS : va_S A s.heap H locs) : W p l e room_1 s m #[Value.ref b] below meth c H locs 24 4134 Q (F0 m 393 ls []) := by
  obtain ⟨hx, hb, hml, hown, hts⟩ := id S
  obtain ⟨j1, j2, j3, j4, j5, j6, j7, j8⟩ := id hJ
  have hv := hMW.1
  refine lv_aload_n hx hb dL_law_393 rfl (lv_at hl 2 rfl) ?_
  refine ld_arg (k := 1) hx hb hX hbl hbA hS hl dL_law_394 dL_law_395 dL_law_396 dL_law_397 dL_law_398 (by decide) (by omega) hL ?_
  refine ld_arg (k := 2) hx hb hX hbl hbA hS hl dL_law_399 dL_law_400 dL_law_401 dL_law_402 dL_law_403 (by decide) (by omega) hL ?_
  refine c_Vi (As := [.int (xs (nI (i + 1)).toNatClampNeg), .int (xs (nI (i + 2)).toNatClampNeg)]) (rest := []) (ci := 3) (q0 := 0) S (c_X4_kth l dC dI cI cJ cZ a w o d n hw ho hd hn pl le so sn ta v bd V O E HW HO HE SA SL SI j1 j2 hSS hv hbd (xs (nI (i + 1)).toNatClampNeg) (xs (nI (i + 2)).toNatClampNeg)) (cwV 2 hts gL_law_X4_kth rfl rfl rfl (by decide +kernel) ⟨Nat.le_of_ble_eq_true rfl, Nat.le_of_ble_eq_true rfl⟩) hK (hP.sub [0, 1, 2, 3, 4, 5, 6, 7, 8, 9, 10, 11, 12, 13] rfl) rfl rfl rfl hl.1 rfl (Nat.le_of_ble_eq_true rfl) dL_law_404 ⟨Nat.le_of_ble_eq_true rfl, Nat.le_of_ble_eq_true rfl⟩ ?_
  refine lv_aload_n hx hb dL_law_407 rfl (lv_at hl 1 rfl) ?_
  refine ld_arg (k := 1) hx hb hX hbl hbA hS hl dL_law_408 dL_law_409 dL_law_410 dL_law_411 dL_law_412 (by decide) (by omega) hL ?_
  refine ld_arg (k := 2) hx hb hX hbl hbA hS hl dL_law_413 dL_law_414 dL_law_415 dL_law_416 dL_law_417 (by decide) (by omega) hL ?_
  refine m_Vi (As := [.int (xs (nI (i + 1)).toNatClampNeg), .int (xs (nI (i + 2)).toNatClampNeg)]) (rest := [.int (cl_kth V O n (xs (nI (i + 1)).toNatClampNeg) (xs (nI (i + 2)).toNatClampNeg))]) (ci := 4) (q0 := 0) (wr := wb a cI cJ cZ w o d n hw ho hd hn pl le so sn ta v bd) S (c_X5_kth l dC dI cI cJ cZ a' ty tm bd wo of n no nm un hn sa sl si sn tk v V O K SA SL SI hMW j3 j4 hMS H.size (xs (nI (i + 1)).toNatClampNeg) (xs (nI (i + 2)).toNatClampNeg)) (cwV 2 hts gL_law_X5_kth rfl rfl rfl (by decide +kernel) ⟨Nat.le_of_ble_eq_true rfl, Nat.le_of_ble_eq_true rfl⟩) hK hP hD hS hA [14, 15, 16, 17, 18, 19, 20, 21, 22, 23] [0, 1, 2, 3, 4, 5, 6, 7, 8, 9, 10, 11, 12, 13] (hP.sub [14, 15, 16, 17, 18, 19, 20, 21, 22, 23] rfl) (hD.sub [14, 15, 16, 17, 18, 19, 20, 21, 22, 23] (by decide) rfl) rfl rfl (by decide) (by decide) rfl rfl rfl hl.1 rfl (Nat.le_of_ble_eq_true rfl) dL_law_418 ⟨Nat.le_of_ble_eq_true rfl, Nat.le_of_ble_eq_true rfl⟩ (fun r u H locs hu hP hD hS => ?_)
  have he : cl_kth V O n (xs (nI (i + 1)).toNatClampNeg) (xs (nI (i + 2)).toNatClampNeg) = r := (an_kth (xs (nI (i + 1)).toNatClampNeg) (xs (nI (i + 2)).toNatClampNeg)).trans hu.symm
  refine lv_icmp_eq (tgt := 644) hx hb dL_law_421 (by decide) (fun cq => ?_) (fun cq => ?_)
  · exact kk w o d n hw ho hd hn pl le so sn ta v bd ty tm wo of no nm un sa sl si tk V O E K HW HO HE SA SL SI hbd hJ hMW hSS hMS H locs hP hD hS
  · exact absurd he cq
set_option maxHeartbeats 4000000 in
set_option maxRecDepth 100000 in
theorem cs_unlike (S : CallFix p m c code 4 s #[Value.ref b] wsL_law RL) (hK : va_K (dC, dI) vwCl (tysA cI cJ cZ) s) (hA : ∀ q, s.heap.size ≤ q → A q) (hX : va_X b L xs s s.heap) (hbl : b < s.heap.size) (hbA : ¬ A b) (hl : lv_has ls 4 [(3, .int (nI i)), (2, .ref (a' 0)), (1, .ref (a 0)), (0, .ref b)]) (hi : i + 4 ≤ L) (hL : L ≤ 2048) (kk : LK l p e s m b below meth c dC dI cI cJ cZ a a' A Q ls)
    (hbd : 2 ≤ bd ∧ bd ≤ 8) (hJ : bJ bd n V O E K nm w o d hw ho hd hn HW HO HE wo of no un) (hMW : bMW ty tm v) (hSS : bSS pl le so sn SA SL SI) (hMS : bMS sa sl si sn SA SL SI) (hP : va_P (dC, dI) vwCl (wb a cI cJ cZ w o d n hw ho hd hn pl le so sn ta v bd ++ wm a' cI cJ cZ ty tm bd wo of n no nm un hn sa sl si sn tk) H) (hD : va_D A (wb a cI cJ cZ w o d n hw ho hd hn pl le so sn ta v bd ++ wm a' cI cJ cZ ty tm bd wo of n no nm un hn sa sl si sn tk)) (hS : va_S A s.heap H locs) : W p l e room_1 s m #[Value.ref b] below meth c H locs 24 4134 Q (F0 m 426 ls []) := by
  obtain ⟨hx, hb, hml, hown, hts⟩ := id S
  obtain ⟨j1, j2, j3, j4, j5, j6, j7, j8⟩ := id hJ
  have hv := hMW.1
  refine lv_aload_n hx hb dL_law_426 rfl (lv_at hl 2 rfl) ?_
  refine ld_arg (k := 1) hx hb hX hbl hbA hS hl dL_law_427 dL_law_428 dL_law_429 dL_law_430 dL_law_431 (by decide) (by omega) hL ?_
  refine ld_arg (k := 2) hx hb hX hbl hbA hS hl dL_law_432 dL_law_433 dL_law_434 dL_law_435 dL_law_436 (by decide) (by omega) hL ?_
  refine c_Vi (As := [.int (xs (nI (i + 1)).toNatClampNeg), .int (xs (nI (i + 2)).toNatClampNeg)]) (rest := []) (ci := 3) (q0 := 0) S (c_X4_unlike l dC dI cI cJ cZ a w o d n hw ho hd hn pl le so sn ta v bd V O E HW HO HE SA SL SI j1 j2 hSS hv hbd (xs (nI (i + 1)).toNatClampNeg) (xs (nI (i + 2)).toNatClampNeg)) (cwV 2 hts gL_law_X4_unlike rfl rfl rfl (by decide +kernel) ⟨Nat.le_of_ble_eq_true rfl, Nat.le_of_ble_eq_true rfl⟩) hK (hP.sub [0, 1, 2, 3, 4, 5, 6, 7, 8, 9, 10, 11, 12, 13] rfl) rfl rfl rfl hl.1 rfl (Nat.le_of_ble_eq_true rfl) dL_law_437 ⟨Nat.le_of_ble_eq_true rfl, Nat.le_of_ble_eq_true rfl⟩ ?_
  refine lv_aload_n hx hb dL_law_440 rfl (lv_at hl 1 rfl) ?_
  refine ld_arg (k := 1) hx hb hX hbl hbA hS hl dL_law_441 dL_law_442 dL_law_443 dL_law_444 dL_law_445 (by decide) (by omega) hL ?_
  refine ld_arg (k := 2) hx hb hX hbl hbA hS hl dL_law_446 dL_law_447 dL_law_448 dL_law_449 dL_law_450 (by decide) (by omega) hL ?_
  refine m_Vi (As := [.int (xs (nI (i + 1)).toNatClampNeg), .int (xs (nI (i + 2)).toNatClampNeg)]) (rest := [.int (cl_unlike V n (xs (nI (i + 1)).toNatClampNeg) (xs (nI (i + 2)).toNatClampNeg))]) (ci := 4) (q0 := 0) (wr := wb a cI cJ cZ w o d n hw ho hd hn pl le so sn ta v bd) S (c_X5_unlike l dC dI cI cJ cZ a' ty tm bd wo of n no nm un hn sa sl si sn tk v V O K SA SL SI hMW j3 j4 hMS H.size (xs (nI (i + 1)).toNatClampNeg) (xs (nI (i + 2)).toNatClampNeg)) (cwV 2 hts gL_law_X5_unlike rfl rfl rfl (by decide +kernel) ⟨Nat.le_of_ble_eq_true rfl, Nat.le_of_ble_eq_true rfl⟩) hK hP hD hS hA [14, 15, 16, 17, 18, 19, 20, 21, 22, 23] [0, 1, 2, 3, 4, 5, 6, 7, 8, 9, 10, 11, 12, 13] (hP.sub [14, 15, 16, 17, 18, 19, 20, 21, 22, 23] rfl) (hD.sub [14, 15, 16, 17, 18, 19, 20, 21, 22, 23] (by decide) rfl) rfl rfl (by decide) (by decide) rfl rfl rfl hl.1 rfl (Nat.le_of_ble_eq_true rfl) dL_law_451 ⟨Nat.le_of_ble_eq_true rfl, Nat.le_of_ble_eq_true rfl⟩ (fun r u H locs hu hP hD hS => ?_)
  have he : cl_unlike V n (xs (nI (i + 1)).toNatClampNeg) (xs (nI (i + 2)).toNatClampNeg) = r := (an_unlike (xs (nI (i + 1)).toNatClampNeg) (xs (nI (i + 2)).toNatClampNeg)).trans hu.symm
  refine lv_icmp_eq (tgt := 644) hx hb dL_law_454 (by decide) (fun cq => ?_) (fun cq => ?_)
  · exact kk w o d n hw ho hd hn pl le so sn ta v bd ty tm wo of no nm un sa sl si tk V O E K HW HO HE SA SL SI hbd hJ hMW hSS hMS H locs hP hD hS
  · exact absurd he cq
set_option maxHeartbeats 4000000 in
set_option maxRecDepth 100000 in
theorem cs_next (S : CallFix p m c code 4 s #[Value.ref b] wsL_law RL) (hK : va_K (dC, dI) vwCl (tysA cI cJ cZ) s) (hA : ∀ q, s.heap.size ≤ q → A q) (hX : va_X b L xs s s.heap) (hbl : b < s.heap.size) (hbA : ¬ A b) (hl : lv_has ls 4 [(3, .int (nI i)), (2, .ref (a' 0)), (1, .ref (a 0)), (0, .ref b)]) (hi : i + 4 ≤ L) (hL : L ≤ 2048) (kk : LK l p e s m b below meth c dC dI cI cJ cZ a a' A Q ls)
    (hbd : 2 ≤ bd ∧ bd ≤ 8) (hJ : bJ bd n V O E K nm w o d hw ho hd hn HW HO HE wo of no un) (hMW : bMW ty tm v) (hSS : bSS pl le so sn SA SL SI) (hMS : bMS sa sl si sn SA SL SI) (hP : va_P (dC, dI) vwCl (wb a cI cJ cZ w o d n hw ho hd hn pl le so sn ta v bd ++ wm a' cI cJ cZ ty tm bd wo of n no nm un hn sa sl si sn tk) H) (hD : va_D A (wb a cI cJ cZ w o d n hw ho hd hn pl le so sn ta v bd ++ wm a' cI cJ cZ ty tm bd wo of n no nm un hn sa sl si sn tk)) (hS : va_S A s.heap H locs) : W p l e room_1 s m #[Value.ref b] below meth c H locs 24 4134 Q (F0 m 459 ls []) := by
  obtain ⟨hx, hb, hml, hown, hts⟩ := id S
  obtain ⟨j1, j2, j3, j4, j5, j6, j7, j8⟩ := id hJ
  have hv := hMW.1
  refine lv_aload_n hx hb dL_law_459 rfl (lv_at hl 2 rfl) ?_
  refine ld_arg (k := 1) hx hb hX hbl hbA hS hl dL_law_460 dL_law_461 dL_law_462 dL_law_463 dL_law_464 (by decide) (by omega) hL ?_
  refine c_Vi (As := [.int (xs (nI (i + 1)).toNatClampNeg)]) (rest := []) (ci := 3) (q0 := 0) S (c_X4_next l dC dI cI cJ cZ a w o d n hw ho hd hn pl le so sn ta v bd V O E HW HO HE SA SL SI j1 j2 hSS hv hbd (xs (nI (i + 1)).toNatClampNeg)) (cwV 1 hts gL_law_X4_next rfl rfl rfl (by decide +kernel) ⟨Nat.le_of_ble_eq_true rfl, Nat.le_of_ble_eq_true rfl⟩) hK (hP.sub [0, 1, 2, 3, 4, 5, 6, 7, 8, 9, 10, 11, 12, 13] rfl) rfl rfl rfl hl.1 rfl (Nat.le_of_ble_eq_true rfl) dL_law_465 ⟨Nat.le_of_ble_eq_true rfl, Nat.le_of_ble_eq_true rfl⟩ ?_
  refine lv_aload_n hx hb dL_law_468 rfl (lv_at hl 1 rfl) ?_
  refine ld_arg (k := 1) hx hb hX hbl hbA hS hl dL_law_469 dL_law_470 dL_law_471 dL_law_472 dL_law_473 (by decide) (by omega) hL ?_
  refine m_Vi (As := [.int (xs (nI (i + 1)).toNatClampNeg)]) (rest := [.int (cl_next V O n v (xs (nI (i + 1)).toNatClampNeg))]) (ci := 4) (q0 := 0) (wr := wb a cI cJ cZ w o d n hw ho hd hn pl le so sn ta v bd) S (c_X5_next l dC dI cI cJ cZ a' ty tm bd wo of n no nm un hn sa sl si sn tk v V O K SA SL SI hMW j3 j4 hMS H.size (xs (nI (i + 1)).toNatClampNeg)) (cwV 1 hts gL_law_X5_next rfl rfl rfl (by decide +kernel) ⟨Nat.le_of_ble_eq_true rfl, Nat.le_of_ble_eq_true rfl⟩) hK hP hD hS hA [14, 15, 16, 17, 18, 19, 20, 21, 22, 23] [0, 1, 2, 3, 4, 5, 6, 7, 8, 9, 10, 11, 12, 13] (hP.sub [14, 15, 16, 17, 18, 19, 20, 21, 22, 23] rfl) (hD.sub [14, 15, 16, 17, 18, 19, 20, 21, 22, 23] (by decide) rfl) rfl rfl (by decide) (by decide) rfl rfl rfl hl.1 rfl (Nat.le_of_ble_eq_true rfl) dL_law_474 ⟨Nat.le_of_ble_eq_true rfl, Nat.le_of_ble_eq_true rfl⟩ (fun r u H locs hu hP hD hS => ?_)
  have he : cl_next V O n v (xs (nI (i + 1)).toNatClampNeg) = r := (an_next j5 (xs (nI (i + 1)).toNatClampNeg)).trans hu.symm
  refine lv_icmp_eq (tgt := 644) hx hb dL_law_477 (by decide) (fun cq => ?_) (fun cq => ?_)
  · exact kk w o d n hw ho hd hn pl le so sn ta v bd ty tm wo of no nm un sa sl si tk V O E K HW HO HE SA SL SI hbd hJ hMW hSS hMS H locs hP hD hS
  · exact absurd he cq
set_option maxHeartbeats 4000000 in
set_option maxRecDepth 100000 in
theorem cs_top (S : CallFix p m c code 4 s #[Value.ref b] wsL_law RL) (hK : va_K (dC, dI) vwCl (tysA cI cJ cZ) s) (hA : ∀ q, s.heap.size ≤ q → A q) (hX : va_X b L xs s s.heap) (hbl : b < s.heap.size) (hbA : ¬ A b) (hl : lv_has ls 4 [(3, .int (nI i)), (2, .ref (a' 0)), (1, .ref (a 0)), (0, .ref b)]) (hi : i + 4 ≤ L) (hL : L ≤ 2048) (kk : LK l p e s m b below meth c dC dI cI cJ cZ a a' A Q ls)
    (hbd : 2 ≤ bd ∧ bd ≤ 8) (hJ : bJ bd n V O E K nm w o d hw ho hd hn HW HO HE wo of no un) (hMW : bMW ty tm v) (hSS : bSS pl le so sn SA SL SI) (hMS : bMS sa sl si sn SA SL SI) (hP : va_P (dC, dI) vwCl (wb a cI cJ cZ w o d n hw ho hd hn pl le so sn ta v bd ++ wm a' cI cJ cZ ty tm bd wo of n no nm un hn sa sl si sn tk) H) (hD : va_D A (wb a cI cJ cZ w o d n hw ho hd hn pl le so sn ta v bd ++ wm a' cI cJ cZ ty tm bd wo of n no nm un hn sa sl si sn tk)) (hS : va_S A s.heap H locs) : W p l e room_1 s m #[Value.ref b] below meth c H locs 24 4134 Q (F0 m 482 ls []) := by
  obtain ⟨hx, hb, hml, hown, hts⟩ := id S
  obtain ⟨j1, j2, j3, j4, j5, j6, j7, j8⟩ := id hJ
  have hv := hMW.1
  refine lv_aload_n hx hb dL_law_482 rfl (lv_at hl 2 rfl) ?_
  refine ld_arg (k := 1) hx hb hX hbl hbA hS hl dL_law_483 dL_law_484 dL_law_485 dL_law_486 dL_law_487 (by decide) (by omega) hL ?_
  refine ld_arg (k := 2) hx hb hX hbl hbA hS hl dL_law_488 dL_law_489 dL_law_490 dL_law_491 dL_law_492 (by decide) (by omega) hL ?_
  refine c_Vi (As := [.int (xs (nI (i + 1)).toNatClampNeg), .int (xs (nI (i + 2)).toNatClampNeg)]) (rest := []) (ci := 3) (q0 := 0) S (c_X4_top l dC dI cI cJ cZ a w o d n hw ho hd hn pl le so sn ta v bd V O E HW HO HE SA SL SI j1 j2 hSS hv hbd (xs (nI (i + 1)).toNatClampNeg) (xs (nI (i + 2)).toNatClampNeg)) (cwV 2 hts gL_law_X4_top rfl rfl rfl (by decide +kernel) ⟨Nat.le_of_ble_eq_true rfl, Nat.le_of_ble_eq_true rfl⟩) hK (hP.sub [0, 1, 2, 3, 4, 5, 6, 7, 8, 9, 10, 11, 12, 13] rfl) rfl rfl rfl hl.1 rfl (Nat.le_of_ble_eq_true rfl) dL_law_493 ⟨Nat.le_of_ble_eq_true rfl, Nat.le_of_ble_eq_true rfl⟩ ?_
  refine lv_aload_n hx hb dL_law_496 rfl (lv_at hl 1 rfl) ?_
  refine ld_arg (k := 1) hx hb hX hbl hbA hS hl dL_law_497 dL_law_498 dL_law_499 dL_law_500 dL_law_501 (by decide) (by omega) hL ?_
  refine ld_arg (k := 2) hx hb hX hbl hbA hS hl dL_law_502 dL_law_503 dL_law_504 dL_law_505 dL_law_506 (by decide) (by omega) hL ?_
  refine m_Vi (As := [.int (xs (nI (i + 1)).toNatClampNeg), .int (xs (nI (i + 2)).toNatClampNeg)]) (rest := [.int (cl_top V O n v (xs (nI (i + 1)).toNatClampNeg) (xs (nI (i + 2)).toNatClampNeg))]) (ci := 4) (q0 := 0) (wr := wb a cI cJ cZ w o d n hw ho hd hn pl le so sn ta v bd) S (c_X5_top l dC dI cI cJ cZ a' ty tm bd wo of n no nm un hn sa sl si sn tk v V O K SA SL SI hMW j3 j4 hMS H.size (xs (nI (i + 1)).toNatClampNeg) (xs (nI (i + 2)).toNatClampNeg)) (cwV 2 hts gL_law_X5_top rfl rfl rfl (by decide +kernel) ⟨Nat.le_of_ble_eq_true rfl, Nat.le_of_ble_eq_true rfl⟩) hK hP hD hS hA [14, 15, 16, 17, 18, 19, 20, 21, 22, 23] [0, 1, 2, 3, 4, 5, 6, 7, 8, 9, 10, 11, 12, 13] (hP.sub [14, 15, 16, 17, 18, 19, 20, 21, 22, 23] rfl) (hD.sub [14, 15, 16, 17, 18, 19, 20, 21, 22, 23] (by decide) rfl) rfl rfl (by decide) (by decide) rfl rfl rfl hl.1 rfl (Nat.le_of_ble_eq_true rfl) dL_law_507 ⟨Nat.le_of_ble_eq_true rfl, Nat.le_of_ble_eq_true rfl⟩ (fun r u H locs hu hP hD hS => ?_)
  have he : cl_top V O n v (xs (nI (i + 1)).toNatClampNeg) (xs (nI (i + 2)).toNatClampNeg) = r := (an_top j5 hv (xs (nI (i + 1)).toNatClampNeg) (xs (nI (i + 2)).toNatClampNeg)).trans hu.symm
  refine lv_icmp_eq (tgt := 644) hx hb dL_law_510 (by decide) (fun cq => ?_) (fun cq => ?_)
  · exact kk w o d n hw ho hd hn pl le so sn ta v bd ty tm wo of no nm un sa sl si u V O E K HW HO HE SA SL SI hbd hJ hMW hSS hMS H locs hP hD hS
  · exact absurd he cq
set_option maxHeartbeats 4000000 in
set_option maxRecDepth 100000 in
theorem cs_fit (S : CallFix p m c code 4 s #[Value.ref b] wsL_law RL) (hK : va_K (dC, dI) vwCl (tysA cI cJ cZ) s) (hA : ∀ q, s.heap.size ≤ q → A q) (hX : va_X b L xs s s.heap) (hbl : b < s.heap.size) (hbA : ¬ A b) (hl : lv_has ls 4 [(3, .int (nI i)), (2, .ref (a' 0)), (1, .ref (a 0)), (0, .ref b)]) (hi : i + 4 ≤ L) (hL : L ≤ 2048) (kk : LK l p e s m b below meth c dC dI cI cJ cZ a a' A Q ls)
    (hbd : 2 ≤ bd ∧ bd ≤ 8) (hJ : bJ bd n V O E K nm w o d hw ho hd hn HW HO HE wo of no un) (hMW : bMW ty tm v) (hSS : bSS pl le so sn SA SL SI) (hMS : bMS sa sl si sn SA SL SI) (hP : va_P (dC, dI) vwCl (wb a cI cJ cZ w o d n hw ho hd hn pl le so sn ta v bd ++ wm a' cI cJ cZ ty tm bd wo of n no nm un hn sa sl si sn tk) H) (hD : va_D A (wb a cI cJ cZ w o d n hw ho hd hn pl le so sn ta v bd ++ wm a' cI cJ cZ ty tm bd wo of n no nm un hn sa sl si sn tk)) (hS : va_S A s.heap H locs) : W p l e room_1 s m #[Value.ref b] below meth c H locs 24 4134 Q (F0 m 571 ls []) := by
  obtain ⟨hx, hb, hml, hown, hts⟩ := id S
  obtain ⟨j1, j2, j3, j4, j5, j6, j7, j8⟩ := id hJ
  have hv := hMW.1
  refine lv_aload_n hx hb dL_law_571 rfl (lv_at hl 2 rfl) ?_
  refine ld_arg (k := 1) hx hb hX hbl hbA hS hl dL_law_572 dL_law_573 dL_law_574 dL_law_575 dL_law_576 (by decide) (by omega) hL ?_
  refine c_Vi (As := [.int (xs (nI (i + 1)).toNatClampNeg)]) (rest := []) (ci := 3) (q0 := 0) S (c_X4_fit l dC dI cI cJ cZ a w o d n hw ho hd hn pl le so sn ta v bd V O E HW HO HE SA SL SI j1 j2 hSS hv hbd (xs (nI (i + 1)).toNatClampNeg)) (cwV 1 hts gL_law_X4_fit rfl rfl rfl (by decide +kernel) ⟨Nat.le_of_ble_eq_true rfl, Nat.le_of_ble_eq_true rfl⟩) hK (hP.sub [0, 1, 2, 3, 4, 5, 6, 7, 8, 9, 10, 11, 12, 13] rfl) rfl rfl rfl hl.1 rfl (Nat.le_of_ble_eq_true rfl) dL_law_577 ⟨Nat.le_of_ble_eq_true rfl, Nat.le_of_ble_eq_true rfl⟩ ?_
  refine lv_aload_n hx hb dL_law_580 rfl (lv_at hl 1 rfl) ?_
  refine ld_arg (k := 1) hx hb hX hbl hbA hS hl dL_law_581 dL_law_582 dL_law_583 dL_law_584 dL_law_585 (by decide) (by omega) hL ?_
  refine m_Vi (As := [.int (xs (nI (i + 1)).toNatClampNeg)]) (rest := [.int (cl_fit V n SA SL SI sn (xs (nI (i + 1)).toNatClampNeg))]) (ci := 4) (q0 := 0) (wr := wb a cI cJ cZ w o d n hw ho hd hn pl le so sn ta v bd) S (c_X5_fit l dC dI cI cJ cZ a' ty tm bd wo of n no nm un hn sa sl si sn tk v V O K SA SL SI hMW j3 j4 hMS H.size (xs (nI (i + 1)).toNatClampNeg)) (cwV 1 hts gL_law_X5_fit rfl rfl rfl (by decide +kernel) ⟨Nat.le_of_ble_eq_true rfl, Nat.le_of_ble_eq_true rfl⟩) hK hP hD hS hA [14, 15, 16, 17, 18, 19, 20, 21, 22, 23] [0, 1, 2, 3, 4, 5, 6, 7, 8, 9, 10, 11, 12, 13] (hP.sub [14, 15, 16, 17, 18, 19, 20, 21, 22, 23] rfl) (hD.sub [14, 15, 16, 17, 18, 19, 20, 21, 22, 23] (by decide) rfl) rfl rfl (by decide) (by decide) rfl rfl rfl hl.1 rfl (Nat.le_of_ble_eq_true rfl) dL_law_586 ⟨Nat.le_of_ble_eq_true rfl, Nat.le_of_ble_eq_true rfl⟩ (fun r u H locs hu hP hD hS => ?_)
  have he : cl_fit V n SA SL SI sn (xs (nI (i + 1)).toNatClampNeg) = r := (an_fit (xs (nI (i + 1)).toNatClampNeg)).trans hu.symm
  refine lv_icmp_eq (tgt := 644) hx hb dL_law_589 (by decide) (fun cq => ?_) (fun cq => ?_)
  · exact kk w o d n hw ho hd hn pl le so sn ta v bd ty tm wo of no nm un sa sl si tk V O E K HW HO HE SA SL SI hbd hJ hMW hSS hMS H locs hP hD hS
  · exact absurd he cq
set_option maxHeartbeats 4000000 in
set_option maxRecDepth 100000 in
theorem cs_count (S : CallFix p m c code 4 s #[Value.ref b] wsL_law RL) (hK : va_K (dC, dI) vwCl (tysA cI cJ cZ) s) (hA : ∀ q, s.heap.size ≤ q → A q) (hX : va_X b L xs s s.heap) (hbl : b < s.heap.size) (hbA : ¬ A b) (hl : lv_has ls 4 [(3, .int (nI i)), (2, .ref (a' 0)), (1, .ref (a 0)), (0, .ref b)]) (hi : i + 4 ≤ L) (hL : L ≤ 2048) (kk : LK l p e s m b below meth c dC dI cI cJ cZ a a' A Q ls)
    (hbd : 2 ≤ bd ∧ bd ≤ 8) (hJ : bJ bd n V O E K nm w o d hw ho hd hn HW HO HE wo of no un) (hMW : bMW ty tm v) (hSS : bSS pl le so sn SA SL SI) (hMS : bMS sa sl si sn SA SL SI) (hP : va_P (dC, dI) vwCl (wb a cI cJ cZ w o d n hw ho hd hn pl le so sn ta v bd ++ wm a' cI cJ cZ ty tm bd wo of n no nm un hn sa sl si sn tk) H) (hD : va_D A (wb a cI cJ cZ w o d n hw ho hd hn pl le so sn ta v bd ++ wm a' cI cJ cZ ty tm bd wo of n no nm un hn sa sl si sn tk)) (hS : va_S A s.heap H locs) : W p l e room_1 s m #[Value.ref b] below meth c H locs 24 4134 Q (F0 m 607 ls []) := by
  obtain ⟨hx, hb, hml, hown, hts⟩ := id S
  obtain ⟨j1, j2, j3, j4, j5, j6, j7, j8⟩ := id hJ
  have hv := hMW.1
  refine lv_aload_n hx hb dL_law_607 rfl (lv_at hl 2 rfl) ?_
  refine ld_arg (k := 1) hx hb hX hbl hbA hS hl dL_law_608 dL_law_609 dL_law_610 dL_law_611 dL_law_612 (by decide) (by omega) hL ?_
  refine c_Vi (As := [.int (xs (nI (i + 1)).toNatClampNeg)]) (rest := []) (ci := 3) (q0 := 0) S (c_X4_count l dC dI cI cJ cZ a w o d n hw ho hd hn pl le so sn ta v bd V O E HW HO HE SA SL SI j1 j2 hSS hv hbd (xs (nI (i + 1)).toNatClampNeg)) (cwV 1 hts gL_law_X4_count rfl rfl rfl (by decide +kernel) ⟨Nat.le_of_ble_eq_true rfl, Nat.le_of_ble_eq_true rfl⟩) hK (hP.sub [0, 1, 2, 3, 4, 5, 6, 7, 8, 9, 10, 11, 12, 13] rfl) rfl rfl rfl hl.1 rfl (Nat.le_of_ble_eq_true rfl) dL_law_613 ⟨Nat.le_of_ble_eq_true rfl, Nat.le_of_ble_eq_true rfl⟩ ?_
  refine lv_aload_n hx hb dL_law_616 rfl (lv_at hl 1 rfl) ?_
  refine ld_arg (k := 1) hx hb hX hbl hbA hS hl dL_law_617 dL_law_618 dL_law_619 dL_law_620 dL_law_621 (by decide) (by omega) hL ?_
  refine m_Vi (As := [.int (xs (nI (i + 1)).toNatClampNeg)]) (rest := [.int (cl_count V O E n bd v hn (xs (nI (i + 1)).toNatClampNeg))]) (ci := 4) (q0 := 0) (wr := wb a cI cJ cZ w o d n hw ho hd hn pl le so sn ta v bd) S (c_X5_count l dC dI cI cJ cZ a' ty tm bd wo of n no nm un hn sa sl si sn tk v V O K SA SL SI hMW j3 j4 hMS H.size (xs (nI (i + 1)).toNatClampNeg)) (cwV 1 hts gL_law_X5_count rfl rfl rfl (by decide +kernel) ⟨Nat.le_of_ble_eq_true rfl, Nat.le_of_ble_eq_true rfl⟩) hK hP hD hS hA [14, 15, 16, 17, 18, 19, 20, 21, 22, 23] [0, 1, 2, 3, 4, 5, 6, 7, 8, 9, 10, 11, 12, 13] (hP.sub [14, 15, 16, 17, 18, 19, 20, 21, 22, 23] rfl) (hD.sub [14, 15, 16, 17, 18, 19, 20, 21, 22, 23] (by decide) rfl) rfl rfl (by decide) (by decide) rfl rfl rfl hl.1 rfl (Nat.le_of_ble_eq_true rfl) dL_law_622 ⟨Nat.le_of_ble_eq_true rfl, Nat.le_of_ble_eq_true rfl⟩ (fun r u H locs hu hP hD hS => ?_)
  have he : cl_count V O E n bd v hn (xs (nI (i + 1)).toNatClampNeg) = r := by rw [hu, hMW.2.1]; exact an_count hbd.1 j5 j6 j7 hn (xs (nI (i + 1)).toNatClampNeg)
  refine lv_icmp_eq (tgt := 644) hx hb dL_law_625 (by decide) (fun cq => ?_) (fun cq => ?_)
  · exact kk w o d n hw ho hd hn pl le so sn ta v bd ty tm wo of no nm un sa sl si tk V O E K HW HO HE SA SL SI hbd hJ hMW hSS hMS H locs hP hD hS
  · exact absurd he cq
set_option maxHeartbeats 4000000 in
set_option maxRecDepth 100000 in
theorem cs_digest (S : CallFix p m c code 4 s #[Value.ref b] wsL_law RL) (hK : va_K (dC, dI) vwCl (tysA cI cJ cZ) s) (hA : ∀ q, s.heap.size ≤ q → A q) (hX : va_X b L xs s s.heap) (hbl : b < s.heap.size) (hbA : ¬ A b) (hl : lv_has ls 4 [(3, .int (nI i)), (2, .ref (a' 0)), (1, .ref (a 0)), (0, .ref b)]) (hi : i + 4 ≤ L) (hL : L ≤ 2048) (kk : LK l p e s m b below meth c dC dI cI cJ cZ a a' A Q ls)
    (hbd : 2 ≤ bd ∧ bd ≤ 8) (hJ : bJ bd n V O E K nm w o d hw ho hd hn HW HO HE wo of no un) (hMW : bMW ty tm v) (hSS : bSS pl le so sn SA SL SI) (hMS : bMS sa sl si sn SA SL SI) (hP : va_P (dC, dI) vwCl (wb a cI cJ cZ w o d n hw ho hd hn pl le so sn ta v bd ++ wm a' cI cJ cZ ty tm bd wo of n no nm un hn sa sl si sn tk) H) (hD : va_D A (wb a cI cJ cZ w o d n hw ho hd hn pl le so sn ta v bd ++ wm a' cI cJ cZ ty tm bd wo of n no nm un hn sa sl si sn tk)) (hS : va_S A s.heap H locs) : W p l e room_1 s m #[Value.ref b] below meth c H locs 24 4134 Q (F0 m 630 ls []) := by
  obtain ⟨hx, hb, hml, hown, hts⟩ := id S
  obtain ⟨j1, j2, j3, j4, j5, j6, j7, j8⟩ := id hJ
  have hv := hMW.1
  refine lv_aload_n hx hb dL_law_630 rfl (lv_at hl 2 rfl) ?_
  refine c_Vl (As := []) (rest := []) (ci := 3) (q0 := 0) S (c_X4_digest l dC dI cI cJ cZ a w o d n hw ho hd hn pl le so sn ta v bd V O E HW HO HE SA SL SI j1 j2 hSS hv hbd ) (cwV 0 hts gL_law_X4_digest rfl rfl rfl (by decide +kernel) ⟨Nat.le_of_ble_eq_true rfl, Nat.le_of_ble_eq_true rfl⟩) hK (hP.sub [0, 1, 2, 3, 4, 5, 6, 7, 8, 9, 10, 11, 12, 13] rfl) rfl rfl rfl hl.1 rfl (Nat.le_of_ble_eq_true rfl) dL_law_631 ⟨Nat.le_of_ble_eq_true rfl, Nat.le_of_ble_eq_true rfl⟩ ?_
  refine lv_aload_n hx hb dL_law_634 rfl (lv_at hl 1 rfl) ?_
  refine m_Vl (As := []) (rest := [.long (cgo V O E n)]) (ci := 4) (q0 := 0) (wr := wb a cI cJ cZ w o d n hw ho hd hn pl le so sn ta v bd) S (c_X5_digest l dC dI cI cJ cZ a' ty tm bd wo of n no nm un hn sa sl si sn tk v V O K SA SL SI hMW j3 j4 hMS H.size ) (cwV 0 hts gL_law_X5_digest rfl rfl rfl (by decide +kernel) ⟨Nat.le_of_ble_eq_true rfl, Nat.le_of_ble_eq_true rfl⟩) hK hP hD hS hA [14, 15, 16, 17, 18, 19, 20, 21, 22, 23] [0, 1, 2, 3, 4, 5, 6, 7, 8, 9, 10, 11, 12, 13] (hP.sub [14, 15, 16, 17, 18, 19, 20, 21, 22, 23] rfl) (hD.sub [14, 15, 16, 17, 18, 19, 20, 21, 22, 23] (by decide) rfl) rfl rfl (by decide) (by decide) rfl rfl rfl hl.1 rfl (Nat.le_of_ble_eq_true rfl) dL_law_635 ⟨Nat.le_of_ble_eq_true rfl, Nat.le_of_ble_eq_true rfl⟩ (fun r u H locs hu hP hD hS => ?_)
  have he : cgo V O E n = r := (an_digest hbd.1 j5 j6 j7 (Nat.le_refl n)).trans hu.symm
  refine W.lcmp hx hb dL_law_638 (lv_if_eq (tgt := 644) hx hb dL_law_639 (by decide) (fun cq => ?_) (fun cq => ?_))
  · exact kk w o d n hw ho hd hn pl le so sn ta v bd ty tm wo of no nm un sa sl si tk V O E K HW HO HE SA SL SI hbd hJ hMW hSS hMS H locs hP hD hS
  · exact absurd ((lg_cmp_eq _ _).mpr he) cq
end LW
