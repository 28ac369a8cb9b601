/-! own rows: new rows, the constructors -/
section NW
variable {p : Program} {l : Launch} {e : Env} {R : Room} {s : State} {m : MethodId} {args : Array Value} {below : List Frame} {meth : Method} {c : Code} {H H0 : Heap} {locs : List Loc} {cells slots : Nat} {Q : State → Prop} {cc : ByteArray} {pc : Nat} {ls : Array Slot} {rest : List Value} {D : va_G} {cl : List vw_C} {ws : va_W} {A : Nat → Prop} {cI cJ cZ : ClassId}
theorem na_i (hexec : p.tables.exec = Jvm.exec) (hb : c.code = cc) (harr : (Cond.arrayClass .int).before args s = true) (hK : va_K D cl (tysA cI cJ cZ) s) (hP : va_P D cl ws H) (hD : va_D A ws) (hS : va_S A H0 H locs) (hA : ∀ q, H0.size ≤ q → A q) {k : Nat} (hk : k < 10000) (hcells : cells + 1 ≤ R.cells) (hslots : slots + k ≤ R.slots) (hdg : decode cc pc = .ok (.newarray .int, 2))
    (kk : ∀ (q : Nat) (H1 : Heap), va_P D cl (ws ++ [(q, .inl (cI, k, .inl (fun _ => 0)))]) H1 → va_D A (ws ++ [(q, .inl (cI, k, .inl (fun _ => 0)))]) → va_S A H0 H1 locs → W p l e R s m args below meth c H1 locs (cells + 1) (slots + k) Q (F0 m (pc + 2) ls (.ref q :: rest))) : W p l e R s m args below meth c H locs cells slots Q (F0 m pc ls (.int (nI k) :: rest)) := by
  have h31 : k < 2 ^ 31 := Nat.lt_trans hk (by decide)
  refine va_newa (atype := .int) (ty := .int) (a0 := (k, .inl (fun _ => 0))) hexec hb harr rfl hK hP hD hS hA (fun cA => rfl) (nI_pos h31) (nI_clamp h31) (by show k * 4 ≤ 536870912; omega) hcells hslots hdg (fun q cA H1 hK1 hP1 hD1 hS1 => ?_)
  have e1 : cA = cI := Option.some.inj (((hK1.2 3 (cA, .int) rfl).2 : s.vm.findClass ("[" ++ FieldType.int.toString) = some cA).symm.trans (hK.2 0 (cI, .int) rfl).2)
  subst e1
  exact kk q H1 hP1 hD1 hS1
theorem na_l (hexec : p.tables.exec = Jvm.exec) (hb : c.code = cc) (harr : (Cond.arrayClass .long).before args s = true) (hK : va_K D cl (tysA cI cJ cZ) s) (hP : va_P D cl ws H) (hD : va_D A ws) (hS : va_S A H0 H locs) (hA : ∀ q, H0.size ≤ q → A q) {k : Nat} (hk : k < 10000) (hcells : cells + 1 ≤ R.cells) (hslots : slots + k ≤ R.slots) (hdg : decode cc pc = .ok (.newarray .long, 2))
    (kk : ∀ (q : Nat) (H1 : Heap), va_P D cl (ws ++ [(q, .inl (cJ, k, .inr (.inl (fun _ => 0))))]) H1 → va_D A (ws ++ [(q, .inl (cJ, k, .inr (.inl (fun _ => 0))))]) → va_S A H0 H1 locs → W p l e R s m args below meth c H1 locs (cells + 1) (slots + k) Q (F0 m (pc + 2) ls (.ref q :: rest))) : W p l e R s m args below meth c H locs cells slots Q (F0 m pc ls (.int (nI k) :: rest)) := by
  have h31 : k < 2 ^ 31 := Nat.lt_trans hk (by decide)
  refine va_newa (atype := .long) (ty := .long) (a0 := (k, .inr (.inl (fun _ => 0)))) hexec hb harr rfl hK hP hD hS hA (fun cA => rfl) (nI_pos h31) (nI_clamp h31) (by show k * 8 ≤ 536870912; omega) hcells hslots hdg (fun q cA H1 hK1 hP1 hD1 hS1 => ?_)
  have e1 : cA = cJ := Option.some.inj (((hK1.2 3 (cA, .long) rfl).2 : s.vm.findClass ("[" ++ FieldType.long.toString) = some cA).symm.trans (hK.2 1 (cJ, .long) rfl).2)
  subst e1
  exact kk q H1 hP1 hD1 hS1
theorem na_z (hexec : p.tables.exec = Jvm.exec) (hb : c.code = cc) (harr : (Cond.arrayClass .boolean).before args s = true) (hK : va_K D cl (tysA cI cJ cZ) s) (hP : va_P D cl ws H) (hD : va_D A ws) (hS : va_S A H0 H locs) (hA : ∀ q, H0.size ≤ q → A q) {k : Nat} (hk : k < 10000) (hcells : cells + 1 ≤ R.cells) (hslots : slots + k ≤ R.slots) (hdg : decode cc pc = .ok (.newarray .boolean, 2))
    (kk : ∀ (q : Nat) (H1 : Heap), va_P D cl (ws ++ [(q, .inl (cZ, k, .inl (fun _ => 0)))]) H1 → va_D A (ws ++ [(q, .inl (cZ, k, .inl (fun _ => 0)))]) → va_S A H0 H1 locs → W p l e R s m args below meth c H1 locs (cells + 1) (slots + k) Q (F0 m (pc + 2) ls (.ref q :: rest))) : W p l e R s m args below meth c H locs cells slots Q (F0 m pc ls (.int (nI k) :: rest)) := by
  have h31 : k < 2 ^ 31 := Nat.lt_trans hk (by decide)
  refine va_newa (atype := .boolean) (ty := .boolean) (a0 := (k, .inl (fun _ => 0))) hexec hb harr rfl hK hP hD hS hA (fun cA => rfl) (nI_pos h31) (nI_clamp h31) (by show k * 1 ≤ 536870912; omega) hcells hslots hdg (fun q cA H1 hK1 hP1 hD1 hS1 => ?_)
  have e1 : cA = cZ := Option.some.inj (((hK1.2 3 (cA, .boolean) rfl).2 : s.vm.findClass ("[" ++ FieldType.boolean.toString) = some cA).symm.trans (hK.2 2 (cZ, .boolean) rfl).2)
  subst e1
  exact kk q H1 hP1 hD1 hS1
variable {nL index maxL mc ms : Nat} {Ts wsC : List Cond} {own host : String} {y : MethodName} {bytes : ByteArray} {rm : Room} {tys : List (ClassId × FieldType)} {wc wr : va_W} {b : Nat} {st0 : List Value}
/-- a nest mate's private constructor -/
theorem m_IN (S : CallFix p m c cc nL s args Ts own) {U : Type} {post : U → Prop} {W' : U → va_W} (hM : Met l y wsC rm (mPc D tys wc H.size [.ref b]) (mQv D post W' (va_A wc H.size)) mc ms (va_A wc H.size)) (cw : va_CN R s args own index y host bytes maxL none wsC rm mc ms 0 ∧ y.name = "<init>" ∧ (Cond.instanceMethod y).before args s = true) (hK : va_K D vwCl tys s) (hP : va_P D vwCl ws H) (hD : va_D A ws) (hS : va_S A H0 H locs) (hA : ∀ q, H0.size ≤ q → A q)
    (isC isR : List Nat) (hPc : va_P D vwCl wc H) (hDc : va_D A wc) (hC : isC.map (fun i => ws[i]?) = wc.map some) (hR : isR.map (fun i => ws[i]?) = wr.map some) (hn2 : va_nd isR = true) (hdis : ∀ i ∈ isR, i ∉ isC)
    (hsize : ls.size = nL) (hst : st0 = .ref b :: rest) (hW : (rest.map fun v => v.category).sum ≤ 8) (hdg : decode cc pc = .ok (.invokespecial index, 3)) (hf : cells + mc ≤ R.cells ∧ slots + ms ≤ R.slots)
    (kk : ∀ (u : U) (H1 : Heap) (locs1 : List Loc), post u → va_P D vwCl (wr ++ W' u) H1 → va_D A (wr ++ W' u) → va_S A H0 H1 locs1 → W p l e R s m args below meth c H1 locs1 (cells + mc) (slots + ms) Q (F0 m (pc + 3) ls rest)) : W p l e R s m args below meth c H locs cells slots Q (F0 m pc ls st0) := by
  have hFc := va_free (wc := wc) hD hS hA isC hC
  refine va_callv (va_runIN (As := []) (rest := rest) S hM cw ⟨md_blind, fun U hU hW => ⟨rfl, by rw [hU], by rw [hU]; exact hPc, va_K.moved hW.alike hK, hDc.weaken (fun _ _ _ _ => trivial)⟩⟩ rfl rfl hsize hst (lv_room hW) hdg hf) hS (fun q _ h => hFc q h) hFc (fun u t H1 locs1 ht hvm hw hB hz1 hk1 hS1 => ?_)
  obtain ⟨hP1, hD1⟩ := hB
  rw [ht] at hP1
  obtain ⟨hP2, hD2⟩ := va_join (wr := wr) (w1 := W' u) hP hD isC isR hC hR hn2 hdis hk1 hFc hP1 hD1
  exact kk u H1 locs1 hw hP2 hD2 hS1
end NW
abbrev rm_X0_init : Room := { frames := 1, cells := 3, slots := 120, locals := 12 }
set_option maxHeartbeats 4000000 in
set_option maxRecDepth 100000 in
theorem c_X0_init (l : Launch) (dC : Nat → ClassId) (dI : Nat → Nat → Nat) (cI cJ cZ : ClassId) (h0 sz : Nat) : Met l yX0_init wsX0_init rm_X0_init (mPc (dC, dI) (tysA cI cJ cZ) [(h0, .inr (0, [.null, .null, .null, .int (nI 0)]))] sz [.ref h0]) (mQv (dC, dI) (fun (u : Nat × Nat × Nat) => True) (fun u => wd h0 u.1 u.2.1 u.2.2 cI cJ (fun _ => 0) (fun _ => 0) (fun _ => 0) 0) (va_A [(h0, .inr (0, [.null, .null, .null, .int (nI 0)]))] sz)) 3 120 (va_A [(h0, .inr (0, [.null, .null, .null, .int (nI 0)]))] sz) := by
  refine met_m (cc := cX0_init) (maxL := 1) (ret := none) (own := RX0) (Qc := fun A => mQv (dC, dI) (fun (u : Nat × Nat × Nat) => True) (fun u => wd h0 u.1 u.2.1 u.2.2 cI cJ (fun _ => 0) (fun _ => 0) (fun _ => 0) 0) A) (by decide) rfl rfl (Nat.le_of_ble_eq_true rfl) ?_
  intro p e s m below meth c S hr hlocks hname hK A hA hP hD hS ls hl
  obtain ⟨hx, hb, hml, hown, hts⟩ := id S
  generalize hQQ : MQ below (mQv (dC, dI) (fun (u : Nat × Nat × Nat) => True) (fun u => wd h0 u.1 u.2.1 u.2.2 cI cJ (fun _ => 0) (fun _ => 0) (fun _ => 0) 0) A) ([.ref (h0)] : List Value).toArray s 3 120 A = QQ
  have hl : lv_has ls 1 [(0, .ref (h0))] := hl
  have hi : ∀ w ∈ wsX00, w ∈ wsX0_init := fun _ h => List.mem_cons_of_mem _ (List.mem_append_right _ h)
  have hin : meth.name = "<init>" := hname
  refine lv_aload_n hx hb dX0_init_0 rfl (lv_at hl 0 rfl) ?_
  refine W.objInit hx hb hown (hts (.methodLink RX0 3 objectInit) (by decide +kernel)) (hts (.instanceMethod objectInit) (by decide +kernel)) (hts _ (List.mem_cons_of_mem _ (List.mem_append_left _ (List.mem_of_getElem? (i := 2) rfl)))) rfl (by rw [hml]; exact hl.1) rfl dX0_init_1 (Nat.le_of_ble_eq_true rfl) (Nat.le_of_ble_eq_true rfl) ?_
  refine lv_aload_n hx hb dX0_init_4 rfl (lv_at hl 0 rfl) ?_
  refine lv_bipush (v := nI (40)) hx hb dX0_init_5 (by decide) ?_
  refine na_l (cI := cI) (cJ := cJ) (cZ := cZ) hx hb (hts (.arrayClass .long) (by decide +kernel)) hK hP hD hS hA (by decide) (Nat.le_of_ble_eq_true rfl) (Nat.le_of_ble_eq_true rfl) dX0_init_7 (fun q1 H hP hD hS => ?_)
  refine W.widen (k := 1) (n := 40) (by decide) (by decide) ?_
  have hP : va_P (dC, dI) vwCl [(h0, .inr (0, [.null, .null, .null, .int (nI 0)])), (q1, .inl (cJ, 40, .inr (.inl (fun _ => 0))))] H := hP
  have hD : va_D A [(h0, .inr (0, [.null, .null, .null, .int (nI 0)])), (q1, .inl (cJ, 40, .inr (.inl (fun _ => 0))))] := hD
  refine va_putF (D := (dC, dI)) (ci := 0) (v := .ref q1) (ty := .array .long) (C := RX0) (T := TX0) (N := 4) hx hb hts hi tyX0 tyX0_ok nmX0 hown hK hP hD hS 0 rfl rfl 0 (by decide) (hts (.fieldLink RX0 9 "BurstWords$Dictionary" "words" "[J") (by decide +kernel)) (fun _ h9 => h9) rfl hin rfl (by decide +kernel) rfl rfl (Nat.le_of_ble_eq_true rfl) dX0_init_9 (fun H locs hP hD hS => ?_)
  have hP : va_P (dC, dI) vwCl [(h0, .inr (0, [.ref q1, .null, .null, .int (nI 0)])), (q1, .inl (cJ, 40, .inr (.inl (fun _ => 0))))] H := hP
  have hD : va_D A [(h0, .inr (0, [.ref q1, .null, .null, .int (nI 0)])), (q1, .inl (cJ, 40, .inr (.inl (fun _ => 0))))] := hD
  refine lv_aload_n hx hb dX0_init_12 rfl (lv_at hl 0 rfl) ?_
  refine lv_bipush (v := nI (40)) hx hb dX0_init_13 (by decide) ?_
  refine na_i (cI := cI) (cJ := cJ) (cZ := cZ) hx hb (hts (.arrayClass .int) (by decide +kernel)) hK hP hD hS hA (by decide) (Nat.le_of_ble_eq_true rfl) (Nat.le_of_ble_eq_true rfl) dX0_init_15 (fun q2 H hP hD hS => ?_)
  refine W.widen (k := 2) (n := 80) (by decide) (by decide) ?_
  have hP : va_P (dC, dI) vwCl [(h0, .inr (0, [.ref q1, .null, .null, .int (nI 0)])), (q1, .inl (cJ, 40, .inr (.inl (fun _ => 0)))), (q2, .inl (cI, 40, .inl (fun _ => 0)))] H := hP
  have hD : va_D A [(h0, .inr (0, [.ref q1, .null, .null, .int (nI 0)])), (q1, .inl (cJ, 40, .inr (.inl (fun _ => 0)))), (q2, .inl (cI, 40, .inl (fun _ => 0)))] := hD
  refine va_putF (D := (dC, dI)) (ci := 0) (v := .ref q2) (ty := .array .int) (C := RX0) (T := TX0) (N := 4) hx hb hts hi tyX0 tyX0_ok nmX0 hown hK hP hD hS 0 rfl rfl 1 (by decide) (hts (.fieldLink RX0 15 "BurstWords$Dictionary" "often" "[I") (by decide +kernel)) (fun _ h9 => h9) rfl hin rfl (by decide +kernel) rfl rfl (Nat.le_of_ble_eq_true rfl) dX0_init_17 (fun H locs hP hD hS => ?_)
  have hP : va_P (dC, dI) vwCl [(h0, .inr (0, [.ref q1, .ref q2, .null, .int (nI 0)])), (q1, .inl (cJ, 40, .inr (.inl (fun _ => 0)))), (q2, .inl (cI, 40, .inl (fun _ => 0)))] H := hP
  have hD : va_D A [(h0, .inr (0, [.ref q1, .ref q2, .null, .int (nI 0)])), (q1, .inl (cJ, 40, .inr (.inl (fun _ => 0)))), (q2, .inl (cI, 40, .inl (fun _ => 0)))] := hD
  refine lv_aload_n hx hb dX0_init_20 rfl (lv_at hl 0 rfl) ?_
  refine lv_bipush (v := nI (40)) hx hb dX0_init_21 (by decide) ?_
  refine na_i (cI := cI) (cJ := cJ) (cZ := cZ) hx hb (hts (.arrayClass .int) (by decide +kernel)) hK hP hD hS hA (by decide) (Nat.le_of_ble_eq_true rfl) (Nat.le_of_ble_eq_true rfl) dX0_init_23 (fun q3 H hP hD hS => ?_)
  refine W.widen (k := 3) (n := 120) (by decide) (by decide) ?_
  have hP : va_P (dC, dI) vwCl [(h0, .inr (0, [.ref q1, .ref q2, .null, .int (nI 0)])), (q1, .inl (cJ, 40, .inr (.inl (fun _ => 0)))), (q2, .inl (cI, 40, .inl (fun _ => 0))), (q3, .inl (cI, 40, .inl (fun _ => 0)))] H := hP
  have hD : va_D A [(h0, .inr (0, [.ref q1, .ref q2, .null, .int (nI 0)])), (q1, .inl (cJ, 40, .inr (.inl (fun _ => 0)))), (q2, .inl (cI, 40, .inl (fun _ => 0))), (q3, .inl (cI, 40, .inl (fun _ => 0)))] := hD
  refine va_putF (D := (dC, dI)) (ci := 0) (v := .ref q3) (ty := .array .int) (C := RX0) (T := TX0) (N := 4) hx hb hts hi tyX0 tyX0_ok nmX0 hown hK hP hD hS 0 rfl rfl 2 (by decide) (hts (.fieldLink RX0 19 "BurstWords$Dictionary" "depths" "[I") (by decide +kernel)) (fun _ h9 => h9) rfl hin rfl (by decide +kernel) rfl rfl (Nat.le_of_ble_eq_true rfl) dX0_init_25 (fun H locs hP hD hS => ?_)
  have hP : va_P (dC, dI) vwCl [(h0, .inr (0, [.ref q1, .ref q2, .ref q3, .int (nI 0)])), (q1, .inl (cJ, 40, .inr (.inl (fun _ => 0)))), (q2, .inl (cI, 40, .inl (fun _ => 0))), (q3, .inl (cI, 40, .inl (fun _ => 0)))] H := hP
  have hD : va_D A [(h0, .inr (0, [.ref q1, .ref q2, .ref q3, .int (nI 0)])), (q1, .inl (cJ, 40, .inr (.inl (fun _ => 0)))), (q2, .inl (cI, 40, .inl (fun _ => 0))), (q3, .inl (cI, 40, .inl (fun _ => 0)))] := hD
  refine lv_aload_n hx hb dX0_init_28 rfl (lv_at hl 0 rfl) ?_
  refine lv_iconst (v := nI (0)) hx hb dX0_init_29 (by decide) ?_
  refine va_put (D := (dC, dI)) (ci := 0) (v := .int (nI (0))) (ty := .int) (C := RX0) (T := TX0) (N := 4) hx hb hts hi tyX0 tyX0_ok nmX0 hown hK hP hD hS 0 rfl rfl 3 (by decide) (hts (.fieldLink RX0 22 "BurstWords$Dictionary" "size" "I") (by decide +kernel)) (fun _ h9 => h9) rfl (by decide +kernel) rfl rfl (Nat.le_of_ble_eq_true rfl) dX0_init_30 (fun H locs hP hD hS => ?_)
  have hP : va_P (dC, dI) vwCl [(h0, .inr (0, [.ref q1, .ref q2, .ref q3, .int (nI 0)])), (q1, .inl (cJ, 40, .inr (.inl (fun _ => 0)))), (q2, .inl (cI, 40, .inl (fun _ => 0))), (q3, .inl (cI, 40, .inl (fun _ => 0)))] H := hP
  have hD : va_D A [(h0, .inr (0, [.ref q1, .ref q2, .ref q3, .int (nI 0)])), (q1, .inl (cJ, 40, .inr (.inl (fun _ => 0)))), (q2, .inl (cI, 40, .inl (fun _ => 0))), (q3, .inl (cI, 40, .inl (fun _ => 0)))] := hD
  rw [← hQQ]
  exact m_v (q1, q2, q3) hx hb hr hlocks trivial hP hD hS dX0_init_33
abbrev rm_X1_init : Room := { frames := 1, cells := 3, slots := 36, locals := 12 }
set_option maxHeartbeats 4000000 in
set_option maxRecDepth 100000 in
theorem c_X1_init (l : Launch) (dC : Nat → ClassId) (dI : Nat → Nat → Nat) (cI cJ cZ : ClassId) (h0 sz : Nat) : Met l yX1_init wsX1_init rm_X1_init (mPc (dC, dI) (tysA cI cJ cZ) [(h0, .inr (1, [.null, .null, .null, .int (nI 0)]))] sz [.ref h0]) (mQv (dC, dI) (fun (u : Nat × Nat × Nat) => True) (fun u => whi h0 u.1 u.2.1 u.2.2 cI cJ (fun _ => 0) (fun _ => 0) (fun _ => 0) 0) (va_A [(h0, .inr (1, [.null, .null, .null, .int (nI 0)]))] sz)) 3 36 (va_A [(h0, .inr (1, [.null, .null, .null, .int (nI 0)]))] sz) := by
  refine met_m (cc := cX1_init) (maxL := 1) (ret := none) (own := RX1) (Qc := fun A => mQv (dC, dI) (fun (u : Nat × Nat × Nat) => True) (fun u => whi h0 u.1 u.2.1 u.2.2 cI cJ (fun _ => 0) (fun _ => 0) (fun _ => 0) 0) A) (by decide) rfl rfl (Nat.le_of_ble_eq_true rfl) ?_
  intro p e s m below meth c S hr hlocks hname hK A hA hP hD hS ls hl
  obtain ⟨hx, hb, hml, hown, hts⟩ := id S
  generalize hQQ : MQ below (mQv (dC, dI) (fun (u : Nat × Nat × Nat) => True) (fun u => whi h0 u.1 u.2.1 u.2.2 cI cJ (fun _ => 0) (fun _ => 0) (fun _ => 0) 0) A) ([.ref (h0)] : List Value).toArray s 3 36 A = QQ
  have hl : lv_has ls 1 [(0, .ref (h0))] := hl
  have hi : ∀ w ∈ wsX10, w ∈ wsX1_init := fun _ h => List.mem_cons_of_mem _ (List.mem_append_right _ h)
  have hin : meth.name = "<init>" := hname
  refine lv_aload_n hx hb dX1_init_0 rfl (lv_at hl 0 rfl) ?_
  refine W.objInit hx hb hown (hts (.methodLink RX1 3 objectInit) (by decide +kernel)) (hts (.instanceMethod objectInit) (by decide +kernel)) (hts _ (List.mem_cons_of_mem _ (List.mem_append_left _ (List.mem_of_getElem? (i := 2) rfl)))) rfl (by rw [hml]; exact hl.1) rfl dX1_init_1 (Nat.le_of_ble_eq_true rfl) (Nat.le_of_ble_eq_true rfl) ?_
  refine lv_aload_n hx hb dX1_init_4 rfl (lv_at hl 0 rfl) ?_
  refine lv_bipush (v := nI (12)) hx hb dX1_init_5 (by decide) ?_
  refine na_l (cI := cI) (cJ := cJ) (cZ := cZ) hx hb (hts (.arrayClass .long) (by decide +kernel)) hK hP hD hS hA (by decide) (Nat.le_of_ble_eq_true rfl) (Nat.le_of_ble_eq_true rfl) dX1_init_7 (fun q1 H hP hD hS => ?_)
  refine W.widen (k := 1) (n := 12) (by decide) (by decide) ?_
  have hP : va_P (dC, dI) vwCl [(h0, .inr (1, [.null, .null, .null, .int (nI 0)])), (q1, .inl (cJ, 12, .inr (.inl (fun _ => 0))))] H := hP
  have hD : va_D A [(h0, .inr (1, [.null, .null, .null, .int (nI 0)])), (q1, .inl (cJ, 12, .inr (.inl (fun _ => 0))))] := hD
  refine va_putF (D := (dC, dI)) (ci := 1) (v := .ref q1) (ty := .array .long) (C := RX1) (T := TX1) (N := 4) hx hb hts hi tyX1 tyX1_ok nmX1 hown hK hP hD hS 0 rfl rfl 0 (by decide) (hts (.fieldLink RX1 9 "BurstWords$History" "words" "[J") (by decide +kernel)) (fun _ h9 => h9) rfl hin rfl (by decide +kernel) rfl rfl (Nat.le_of_ble_eq_true rfl) dX1_init_9 (fun H locs hP hD hS => ?_)
  have hP : va_P (dC, dI) vwCl [(h0, .inr (1, [.ref q1, .null, .null, .int (nI 0)])), (q1, .inl (cJ, 12, .inr (.inl (fun _ => 0))))] H := hP
  have hD : va_D A [(h0, .inr (1, [.ref q1, .null, .null, .int (nI 0)])), (q1, .inl (cJ, 12, .inr (.inl (fun _ => 0))))] := hD
  refine lv_aload_n hx hb dX1_init_12 rfl (lv_at hl 0 rfl) ?_
  refine lv_bipush (v := nI (12)) hx hb dX1_init_13 (by decide) ?_
  refine na_i (cI := cI) (cJ := cJ) (cZ := cZ) hx hb (hts (.arrayClass .int) (by decide +kernel)) hK hP hD hS hA (by decide) (Nat.le_of_ble_eq_true rfl) (Nat.le_of_ble_eq_true rfl) dX1_init_15 (fun q2 H hP hD hS => ?_)
  refine W.widen (k := 2) (n := 24) (by decide) (by decide) ?_
  have hP : va_P (dC, dI) vwCl [(h0, .inr (1, [.ref q1, .null, .null, .int (nI 0)])), (q1, .inl (cJ, 12, .inr (.inl (fun _ => 0)))), (q2, .inl (cI, 12, .inl (fun _ => 0)))] H := hP
  have hD : va_D A [(h0, .inr (1, [.ref q1, .null, .null, .int (nI 0)])), (q1, .inl (cJ, 12, .inr (.inl (fun _ => 0)))), (q2, .inl (cI, 12, .inl (fun _ => 0)))] := hD
  refine va_putF (D := (dC, dI)) (ci := 1) (v := .ref q2) (ty := .array .int) (C := RX1) (T := TX1) (N := 4) hx hb hts hi tyX1 tyX1_ok nmX1 hown hK hP hD hS 0 rfl rfl 1 (by decide) (hts (.fieldLink RX1 15 "BurstWords$History" "often" "[I") (by decide +kernel)) (fun _ h9 => h9) rfl hin rfl (by decide +kernel) rfl rfl (Nat.le_of_ble_eq_true rfl) dX1_init_17 (fun H locs hP hD hS => ?_)
  have hP : va_P (dC, dI) vwCl [(h0, .inr (1, [.ref q1, .ref q2, .null, .int (nI 0)])), (q1, .inl (cJ, 12, .inr (.inl (fun _ => 0)))), (q2, .inl (cI, 12, .inl (fun _ => 0)))] H := hP
  have hD : va_D A [(h0, .inr (1, [.ref q1, .ref q2, .null, .int (nI 0)])), (q1, .inl (cJ, 12, .inr (.inl (fun _ => 0)))), (q2, .inl (cI, 12, .inl (fun _ => 0)))] := hD
  refine lv_aload_n hx hb dX1_init_20 rfl (lv_at hl 0 rfl) ?_
  refine lv_bipush (v := nI (12)) hx hb dX1_init_21 (by decide) ?_
  refine na_i (cI := cI) (cJ := cJ) (cZ := cZ) hx hb (hts (.arrayClass .int) (by decide +kernel)) hK hP hD hS hA (by decide) (Nat.le_of_ble_eq_true rfl) (Nat.le_of_ble_eq_true rfl) dX1_init_23 (fun q3 H hP hD hS => ?_)
  refine W.widen (k := 3) (n := 36) (by decide) (by decide) ?_
  have hP : va_P (dC, dI) vwCl [(h0, .inr (1, [.ref q1, .ref q2, .null, .int (nI 0)])), (q1, .inl (cJ, 12, .inr (.inl (fun _ => 0)))), (q2, .inl (cI, 12, .inl (fun _ => 0))), (q3, .inl (cI, 12, .inl (fun _ => 0)))] H := hP
  have hD : va_D A [(h0, .inr (1, [.ref q1, .ref q2, .null, .int (nI 0)])), (q1, .inl (cJ, 12, .inr (.inl (fun _ => 0)))), (q2, .inl (cI, 12, .inl (fun _ => 0))), (q3, .inl (cI, 12, .inl (fun _ => 0)))] := hD
  refine va_putF (D := (dC, dI)) (ci := 1) (v := .ref q3) (ty := .array .int) (C := RX1) (T := TX1) (N := 4) hx hb hts hi tyX1 tyX1_ok nmX1 hown hK hP hD hS 0 rfl rfl 2 (by decide) (hts (.fieldLink RX1 19 "BurstWords$History" "depths" "[I") (by decide +kernel)) (fun _ h9 => h9) rfl hin rfl (by decide +kernel) rfl rfl (Nat.le_of_ble_eq_true rfl) dX1_init_25 (fun H locs hP hD hS => ?_)
  have hP : va_P (dC, dI) vwCl [(h0, .inr (1, [.ref q1, .ref q2, .ref q3, .int (nI 0)])), (q1, .inl (cJ, 12, .inr (.inl (fun _ => 0)))), (q2, .inl (cI, 12, .inl (fun _ => 0))), (q3, .inl (cI, 12, .inl (fun _ => 0)))] H := hP
  have hD : va_D A [(h0, .inr (1, [.ref q1, .ref q2, .ref q3, .int (nI 0)])), (q1, .inl (cJ, 12, .inr (.inl (fun _ => 0)))), (q2, .inl (cI, 12, .inl (fun _ => 0))), (q3, .inl (cI, 12, .inl (fun _ => 0)))] := hD
  refine lv_aload_n hx hb dX1_init_28 rfl (lv_at hl 0 rfl) ?_
  refine lv_iconst (v := nI (0)) hx hb dX1_init_29 (by decide) ?_
  refine va_put (D := (dC, dI)) (ci := 1) (v := .int (nI (0))) (ty := .int) (C := RX1) (T := TX1) (N := 4) hx hb hts hi tyX1 tyX1_ok nmX1 hown hK hP hD hS 0 rfl rfl 3 (by decide) (hts (.fieldLink RX1 22 "BurstWords$History" "size" "I") (by decide +kernel)) (fun _ h9 => h9) rfl (by decide +kernel) rfl rfl (Nat.le_of_ble_eq_true rfl) dX1_init_30 (fun H locs hP hD hS => ?_)
  have hP : va_P (dC, dI) vwCl [(h0, .inr (1, [.ref q1, .ref q2, .ref q3, .int (nI 0)])), (q1, .inl (cJ, 12, .inr (.inl (fun _ => 0)))), (q2, .inl (cI, 12, .inl (fun _ => 0))), (q3, .inl (cI, 12, .inl (fun _ => 0)))] H := hP
  have hD : va_D A [(h0, .inr (1, [.ref q1, .ref q2, .ref q3, .int (nI 0)])), (q1, .inl (cJ, 12, .inr (.inl (fun _ => 0)))), (q2, .inl (cI, 12, .inl (fun _ => 0))), (q3, .inl (cI, 12, .inl (fun _ => 0)))] := hD
  rw [← hQQ]
  exact m_v (q1, q2, q3) hx hb hr hlocks trivial hP hD hS dX1_init_33
abbrev rm_X2_init : Room := { frames := 1, cells := 3, slots := 24, locals := 12 }
set_option maxHeartbeats 4000000 in
set_option maxRecDepth 100000 in
theorem c_X2_init (l : Launch) (dC : Nat → ClassId) (dI : Nat → Nat → Nat) (cI cJ cZ : ClassId) (h0 sz : Nat) : Met l yX2_init wsX2_init rm_X2_init (mPc (dC, dI) (tysA cI cJ cZ) [(h0, .inr (2, [.null, .null, .null, .int (nI 0)]))] sz [.ref h0]) (mQv (dC, dI) (fun (u : Nat × Nat × Nat) => True) (fun u => wsi h0 u.1 u.2.1 u.2.2 cI cZ (fun _ => 0) (fun _ => 0) (fun _ => 0) 0) (va_A [(h0, .inr (2, [.null, .null, .null, .int (nI 0)]))] sz)) 3 24 (va_A [(h0, .inr (2, [.null, .null, .null, .int (nI 0)]))] sz) := by
  refine met_m (cc := cX2_init) (maxL := 1) (ret := none) (own := RX2) (Qc := fun A => mQv (dC, dI) (fun (u : Nat × Nat × Nat) => True) (fun u => wsi h0 u.1 u.2.1 u.2.2 cI cZ (fun _ => 0) (fun _ => 0) (fun _ => 0) 0) A) (by decide) rfl rfl (Nat.le_of_ble_eq_true rfl) ?_
  intro p e s m below meth c S hr hlocks hname hK A hA hP hD hS ls hl
  obtain ⟨hx, hb, hml, hown, hts⟩ := id S
  generalize hQQ : MQ below (mQv (dC, dI) (fun (u : Nat × Nat × Nat) => True) (fun u => wsi h0 u.1 u.2.1 u.2.2 cI cZ (fun _ => 0) (fun _ => 0) (fun _ => 0) 0) A) ([.ref (h0)] : List Value).toArray s 3 24 A = QQ
  have hl : lv_has ls 1 [(0, .ref (h0))] := hl
  have hi : ∀ w ∈ wsX20, w ∈ wsX2_init := fun _ h => List.mem_cons_of_mem _ (List.mem_append_right _ h)
  have hin : meth.name = "<init>" := hname
  refine lv_aload_n hx hb dX2_init_0 rfl (lv_at hl 0 rfl) ?_
  refine W.objInit hx hb hown (hts (.methodLink RX2 3 objectInit) (by decide +kernel)) (hts (.instanceMethod objectInit) (by decide +kernel)) (hts _ (List.mem_cons_of_mem _ (List.mem_append_left _ (List.mem_of_getElem? (i := 2) rfl)))) rfl (by rw [hml]; exact hl.1) rfl dX2_init_1 (Nat.le_of_ble_eq_true rfl) (Nat.le_of_ble_eq_true rfl) ?_
  refine lv_aload_n hx hb dX2_init_4 rfl (lv_at hl 0 rfl) ?_
  refine lv_bipush (v := nI (8)) hx hb dX2_init_5 (by decide) ?_
  refine na_i (cI := cI) (cJ := cJ) (cZ := cZ) hx hb (hts (.arrayClass .int) (by decide +kernel)) hK hP hD hS hA (by decide) (Nat.le_of_ble_eq_true rfl) (Nat.le_of_ble_eq_true rfl) dX2_init_7 (fun q1 H hP hD hS => ?_)
  refine W.widen (k := 1) (n := 8) (by decide) (by decide) ?_
  have hP : va_P (dC, dI) vwCl [(h0, .inr (2, [.null, .null, .null, .int (nI 0)])), (q1, .inl (cI, 8, .inl (fun _ => 0)))] H := hP
  have hD : va_D A [(h0, .inr (2, [.null, .null, .null, .int (nI 0)])), (q1, .inl (cI, 8, .inl (fun _ => 0)))] := hD
  refine va_putF (D := (dC, dI)) (ci := 2) (v := .ref q1) (ty := .array .int) (C := RX2) (T := TX2) (N := 4) hx hb hts hi tyX2 tyX2_ok nmX2 hown hK hP hD hS 0 rfl rfl 0 (by decide) (hts (.fieldLink RX2 9 "BurstWords$Sightings" "places" "[I") (by decide +kernel)) (fun _ h9 => h9) rfl hin rfl (by decide +kernel) rfl rfl (Nat.le_of_ble_eq_true rfl) dX2_init_9 (fun H locs hP hD hS => ?_)
  have hP : va_P (dC, dI) vwCl [(h0, .inr (2, [.ref q1, .null, .null, .int (nI 0)])), (q1, .inl (cI, 8, .inl (fun _ => 0)))] H := hP
  have hD : va_D A [(h0, .inr (2, [.ref q1, .null, .null, .int (nI 0)])), (q1, .inl (cI, 8, .inl (fun _ => 0)))] := hD
  refine lv_aload_n hx hb dX2_init_12 rfl (lv_at hl 0 rfl) ?_
  refine lv_bipush (v := nI (8)) hx hb dX2_init_13 (by decide) ?_
  refine na_i (cI := cI) (cJ := cJ) (cZ := cZ) hx hb (hts (.arrayClass .int) (by decide +kernel)) hK hP hD hS hA (by decide) (Nat.le_of_ble_eq_true rfl) (Nat.le_of_ble_eq_true rfl) dX2_init_15 (fun q2 H hP hD hS => ?_)
  refine W.widen (k := 2) (n := 16) (by decide) (by decide) ?_
  have hP : va_P (dC, dI) vwCl [(h0, .inr (2, [.ref q1, .null, .null, .int (nI 0)])), (q1, .inl (cI, 8, .inl (fun _ => 0))), (q2, .inl (cI, 8, .inl (fun _ => 0)))] H := hP
  have hD : va_D A [(h0, .inr (2, [.ref q1, .null, .null, .int (nI 0)])), (q1, .inl (cI, 8, .inl (fun _ => 0))), (q2, .inl (cI, 8, .inl (fun _ => 0)))] := hD
  refine va_putF (D := (dC, dI)) (ci := 2) (v := .ref q2) (ty := .array .int) (C := RX2) (T := TX2) (N := 4) hx hb hts hi tyX2 tyX2_ok nmX2 hown hK hP hD hS 0 rfl rfl 1 (by decide) (hts (.fieldLink RX2 15 "BurstWords$Sightings" "letters" "[I") (by decide +kernel)) (fun _ h9 => h9) rfl hin rfl (by decide +kernel) rfl rfl (Nat.le_of_ble_eq_true rfl) dX2_init_17 (fun H locs hP hD hS => ?_)
  have hP : va_P (dC, dI) vwCl [(h0, .inr (2, [.ref q1, .ref q2, .null, .int (nI 0)])), (q1, .inl (cI, 8, .inl (fun _ => 0))), (q2, .inl (cI, 8, .inl (fun _ => 0)))] H := hP
  have hD : va_D A [(h0, .inr (2, [.ref q1, .ref q2, .null, .int (nI 0)])), (q1, .inl (cI, 8, .inl (fun _ => 0))), (q2, .inl (cI, 8, .inl (fun _ => 0)))] := hD
  refine lv_aload_n hx hb dX2_init_20 rfl (lv_at hl 0 rfl) ?_
  refine lv_bipush (v := nI (8)) hx hb dX2_init_21 (by decide) ?_
  refine na_z (cI := cI) (cJ := cJ) (cZ := cZ) hx hb (hts (.arrayClass .boolean) (by decide +kernel)) hK hP hD hS hA (by decide) (Nat.le_of_ble_eq_true rfl) (Nat.le_of_ble_eq_true rfl) dX2_init_23 (fun q3 H hP hD hS => ?_)
  refine W.widen (k := 3) (n := 24) (by decide) (by decide) ?_
  have hP : va_P (dC, dI) vwCl [(h0, .inr (2, [.ref q1, .ref q2, .null, .int (nI 0)])), (q1, .inl (cI, 8, .inl (fun _ => 0))), (q2, .inl (cI, 8, .inl (fun _ => 0))), (q3, .inl (cZ, 8, .inl (fun _ => 0)))] H := hP
  have hD : va_D A [(h0, .inr (2, [.ref q1, .ref q2, .null, .int (nI 0)])), (q1, .inl (cI, 8, .inl (fun _ => 0))), (q2, .inl (cI, 8, .inl (fun _ => 0))), (q3, .inl (cZ, 8, .inl (fun _ => 0)))] := hD
  refine va_putF (D := (dC, dI)) (ci := 2) (v := .ref q3) (ty := .array .boolean) (C := RX2) (T := TX2) (N := 4) hx hb hts hi tyX2 tyX2_ok nmX2 hown hK hP hD hS 0 rfl rfl 2 (by decide) (hts (.fieldLink RX2 18 "BurstWords$Sightings" "so" "[Z") (by decide +kernel)) (fun _ h9 => h9) rfl hin rfl (by decide +kernel) rfl rfl (Nat.le_of_ble_eq_true rfl) dX2_init_25 (fun H locs hP hD hS => ?_)
  have hP : va_P (dC, dI) vwCl [(h0, .inr (2, [.ref q1, .ref q2, .ref q3, .int (nI 0)])), (q1, .inl (cI, 8, .inl (fun _ => 0))), (q2, .inl (cI, 8, .inl (fun _ => 0))), (q3, .inl (cZ, 8, .inl (fun _ => 0)))] H := hP
  have hD : va_D A [(h0, .inr (2, [.ref q1, .ref q2, .ref q3, .int (nI 0)])), (q1, .inl (cI, 8, .inl (fun _ => 0))), (q2, .inl (cI, 8, .inl (fun _ => 0))), (q3, .inl (cZ, 8, .inl (fun _ => 0)))] := hD
  refine lv_aload_n hx hb dX2_init_28 rfl (lv_at hl 0 rfl) ?_
  refine lv_iconst (v := nI (0)) hx hb dX2_init_29 (by decide) ?_
  refine va_put (D := (dC, dI)) (ci := 2) (v := .int (nI (0))) (ty := .int) (C := RX2) (T := TX2) (N := 4) hx hb hts hi tyX2 tyX2_ok nmX2 hown hK hP hD hS 0 rfl rfl 3 (by decide) (hts (.fieldLink RX2 22 "BurstWords$Sightings" "size" "I") (by decide +kernel)) (fun _ h9 => h9) rfl (by decide +kernel) rfl rfl (Nat.le_of_ble_eq_true rfl) dX2_init_30 (fun H locs hP hD hS => ?_)
  have hP : va_P (dC, dI) vwCl [(h0, .inr (2, [.ref q1, .ref q2, .ref q3, .int (nI 0)])), (q1, .inl (cI, 8, .inl (fun _ => 0))), (q2, .inl (cI, 8, .inl (fun _ => 0))), (q3, .inl (cZ, 8, .inl (fun _ => 0)))] H := hP
  have hD : va_D A [(h0, .inr (2, [.ref q1, .ref q2, .ref q3, .int (nI 0)])), (q1, .inl (cI, 8, .inl (fun _ => 0))), (q2, .inl (cI, 8, .inl (fun _ => 0))), (q3, .inl (cZ, 8, .inl (fun _ => 0)))] := hD
  rw [← hQQ]
  exact m_v (q1, q2, q3) hx hb hr hlocks trivial hP hD hS dX2_init_33
abbrev rm_X5_init : Room := { frames := 1, cells := 9, slots := 3738, locals := 12 }
set_option maxHeartbeats 4000000 in
set_option maxRecDepth 100000 in
theorem c_X5_init (l : Launch) (dC : Nat → ClassId) (dI : Nat → Nat → Nat) (cI cJ cZ : ClassId) (h0 sz : Nat) : Met l yX5_init wsX5_init rm_X5_init (mPc (dC, dI) (tysA cI cJ cZ) [(h0, .inr (4, [.int (nI 0), .null, .int (nI 0), .int (nI 0), .null, .null, .int (nI 0), .null, .int (nI 0), .null, .int (nI 0), .null, .null, .null, .int (nI 0), .null]))] sz [.ref h0]) (mQv (dC, dI) (fun (u : Nat → Nat) => u 0 = h0) (fun u => wm u cI cJ cZ (fun _ => 0) 0 4 (fun _ => 0) (fun _ => 0) 0 (fun _ => 0) 0 (fun _ => 0) 0 (fun _ => 0) (fun _ => 0) (fun _ => 0) 0 (fun _ => 0)) (va_A [(h0, .inr (4, [.int (nI 0), .null, .int (nI 0), .int (nI 0), .null, .null, .int (nI 0), .null, .int (nI 0), .null, .int (nI 0), .null, .null, .null, .int (nI 0), .null]))] sz)) 9 3738 (va_A [(h0, .inr (4, [.int (nI 0), .null, .int (nI 0), .int (nI 0), .null, .null, .int (nI 0), .null, .int (nI 0), .null, .int (nI 0), .null, .null, .null, .int (nI 0), .null]))] sz) := by
  refine met_m (cc := cX5_init) (maxL := 1) (ret := none) (own := RX5) (Qc := fun A => mQv (dC, dI) (fun (u : Nat → Nat) => u 0 = h0) (fun u => wm u cI cJ cZ (fun _ => 0) 0 4 (fun _ => 0) (fun _ => 0) 0 (fun _ => 0) 0 (fun _ => 0) 0 (fun _ => 0) (fun _ => 0) (fun _ => 0) 0 (fun _ => 0)) A) (by decide) rfl rfl (Nat.le_of_ble_eq_true rfl) ?_
  intro p e s m below meth c S hr hlocks hname hK A hA hP hD hS ls hl
  obtain ⟨hx, hb, hml, hown, hts⟩ := id S
  generalize hQQ : MQ below (mQv (dC, dI) (fun (u : Nat → Nat) => u 0 = h0) (fun u => wm u cI cJ cZ (fun _ => 0) 0 4 (fun _ => 0) (fun _ => 0) 0 (fun _ => 0) 0 (fun _ => 0) 0 (fun _ => 0) (fun _ => 0) (fun _ => 0) 0 (fun _ => 0)) A) ([.ref (h0)] : List Value).toArray s 9 3738 A = QQ
  have hl : lv_has ls 1 [(0, .ref (h0))] := hl
  have hi : ∀ w ∈ wsX50, w ∈ wsX5_init := fun _ h => List.mem_cons_of_mem _ (List.mem_append_right _ h)
  have hin : meth.name = "<init>" := hname
  refine lv_aload_n hx hb dX5_init_0 rfl (lv_at hl 0 rfl) ?_
  refine W.objInit hx hb hown (hts (.methodLink RX5 1 objectInit) (by decide +kernel)) (hts (.instanceMethod objectInit) (by decide +kernel)) (hts _ (List.mem_cons_of_mem _ (List.mem_append_left _ (List.mem_of_getElem? (i := 2) rfl)))) rfl (by rw [hml]; exact hl.1) rfl dX5_init_1 (Nat.le_of_ble_eq_true rfl) (Nat.le_of_ble_eq_true rfl) ?_
  refine lv_aload_n hx hb dX5_init_4 rfl (lv_at hl 0 rfl) ?_
  refine lv_bipush (v := nI (7)) hx hb dX5_init_5 (by decide) ?_
  refine na_i (cI := cI) (cJ := cJ) (cZ := cZ) hx hb (hts (.arrayClass .int) (by decide +kernel)) hK hP hD hS hA (by decide) (Nat.le_of_ble_eq_true rfl) (Nat.le_of_ble_eq_true rfl) dX5_init_7 (fun q1 H hP hD hS => ?_)
  refine W.widen (k := 1) (n := 7) (by decide) (by decide) ?_
  have hP : va_P (dC, dI) vwCl [(h0, .inr (4, [.int (nI 0), .null, .int (nI 0), .int (nI 0), .null, .null, .int (nI 0), .null, .int (nI 0), .null, .int (nI 0), .null, .null, .null, .int (nI 0), .null])), (q1, .inl (cI, 7, .inl (fun _ => 0)))] H := hP
  have hD : va_D A [(h0, .inr (4, [.int (nI 0), .null, .int (nI 0), .int (nI 0), .null, .null, .int (nI 0), .null, .int (nI 0), .null, .int (nI 0), .null, .null, .null, .int (nI 0), .null])), (q1, .inl (cI, 7, .inl (fun _ => 0)))] := hD
  refine va_putF (D := (dC, dI)) (ci := 4) (v := .ref q1) (ty := .array .int) (C := RX5) (T := TX5) (N := 16) hx hb hts hi tyX5 tyX5_ok nmX5 hown hK hP hD hS 0 rfl rfl 1 (by decide) (hts (.fieldLink RX5 7 "BurstWordsModel" "typed" "[I") (by decide +kernel)) (fun _ h9 => h9) rfl hin rfl (by decide +kernel) rfl rfl (Nat.le_of_ble_eq_true rfl) dX5_init_9 (fun H locs hP hD hS => ?_)
  have hP : va_P (dC, dI) vwCl [(h0, .inr (4, [.int (nI 0), .ref q1, .int (nI 0), .int (nI 0), .null, .null, .int (nI 0), .null, .int (nI 0), .null, .int (nI 0), .null, .null, .null, .int (nI 0), .null])), (q1, .inl (cI, 7, .inl (fun _ => 0)))] H := hP
  have hD : va_D A [(h0, .inr (4, [.int (nI 0), .ref q1, .int (nI 0), .int (nI 0), .null, .null, .int (nI 0), .null, .int (nI 0), .null, .int (nI 0), .null, .null, .null, .int (nI 0), .null])), (q1, .inl (cI, 7, .inl (fun _ => 0)))] := hD
  refine lv_aload_n hx hb dX5_init_12 rfl (lv_at hl 0 rfl) ?_
  refine lv_iconst (v := nI (4)) hx hb dX5_init_13 (by decide) ?_
  refine va_put (D := (dC, dI)) (ci := 4) (v := .int (nI (4))) (ty := .int) (C := RX5) (T := TX5) (N := 16) hx hb hts hi tyX5 tyX5_ok nmX5 hown hK hP hD hS 0 rfl rfl 3 (by decide) (hts (.fieldLink RX5 13 "BurstWordsModel" "b" "I") (by decide +kernel)) (fun _ h9 => h9) rfl (by decide +kernel) rfl rfl (Nat.le_of_ble_eq_true rfl) dX5_init_14 (fun H locs hP hD hS => ?_)
  have hP : va_P (dC, dI) vwCl [(h0, .inr (4, [.int (nI 0), .ref q1, .int (nI 0), .int (nI 4), .null, .null, .int (nI 0), .null, .int (nI 0), .null, .int (nI 0), .null, .null, .null, .int (nI 0), .null])), (q1, .inl (cI, 7, .inl (fun _ => 0)))] H := hP
  have hD : va_D A [(h0, .inr (4, [.int (nI 0), .ref q1, .int (nI 0), .int (nI 4), .null, .null, .int (nI 0), .null, .int (nI 0), .null, .int (nI 0), .null, .null, .null, .int (nI 0), .null])), (q1, .inl (cI, 7, .inl (fun _ => 0)))] := hD
  refine lv_aload_n hx hb dX5_init_17 rfl (lv_at hl 0 rfl) ?_
  refine lv_bipush (v := nI (41)) hx hb dX5_init_18 (by decide) ?_
  refine na_l (cI := cI) (cJ := cJ) (cZ := cZ) hx hb (hts (.arrayClass .long) (by decide +kernel)) hK hP hD hS hA (by decide) (Nat.le_of_ble_eq_true rfl) (Nat.le_of_ble_eq_true rfl) dX5_init_20 (fun q2 H hP hD hS => ?_)
  refine W.widen (k := 2) (n := 48) (by decide) (by decide) ?_
  have hP : va_P (dC, dI) vwCl [(h0, .inr (4, [.int (nI 0), .ref q1, .int (nI 0), .int (nI 4), .null, .null, .int (nI 0), .null, .int (nI 0), .null, .int (nI 0), .null, .null, .null, .int (nI 0), .null])), (q1, .inl (cI, 7, .inl (fun _ => 0))), (q2, .inl (cJ, 41, .inr (.inl (fun _ => 0))))] H := hP
  have hD : va_D A [(h0, .inr (4, [.int (nI 0), .ref q1, .int (nI 0), .int (nI 4), .null, .null, .int (nI 0), .null, .int (nI 0), .null, .int (nI 0), .null, .null, .null, .int (nI 0), .null])), (q1, .inl (cI, 7, .inl (fun _ => 0))), (q2, .inl (cJ, 41, .inr (.inl (fun _ => 0))))] := hD
  refine va_putF (D := (dC, dI)) (ci := 4) (v := .ref q2) (ty := .array .long) (C := RX5) (T := TX5) (N := 16) hx hb hts hi tyX5 tyX5_ok nmX5 hown hK hP hD hS 0 rfl rfl 4 (by decide) (hts (.fieldLink RX5 17 "BurstWordsModel" "word" "[J") (by decide +kernel)) (fun _ h9 => h9) rfl hin rfl (by decide +kernel) rfl rfl (Nat.le_of_ble_eq_true rfl) dX5_init_22 (fun H locs hP hD hS => ?_)
  have hP : va_P (dC, dI) vwCl [(h0, .inr (4, [.int (nI 0), .ref q1, .int (nI 0), .int (nI 4), .ref q2, .null, .int (nI 0), .null, .int (nI 0), .null, .int (nI 0), .null, .null, .null, .int (nI 0), .null])), (q1, .inl (cI, 7, .inl (fun _ => 0))), (q2, .inl (cJ, 41, .inr (.inl (fun _ => 0))))] H := hP
  have hD : va_D A [(h0, .inr (4, [.int (nI 0), .ref q1, .int (nI 0), .int (nI 4), .ref q2, .null, .int (nI 0), .null, .int (nI 0), .null, .int (nI 0), .null, .null, .null, .int (nI 0), .null])), (q1, .inl (cI, 7, .inl (fun _ => 0))), (q2, .inl (cJ, 41, .inr (.inl (fun _ => 0))))] := hD
  refine lv_aload_n hx hb dX5_init_25 rfl (lv_at hl 0 rfl) ?_
  refine lv_bipush (v := nI (41)) hx hb dX5_init_26 (by decide) ?_
  refine na_i (cI := cI) (cJ := cJ) (cZ := cZ) hx hb (hts (.arrayClass .int) (by decide +kernel)) hK hP hD hS hA (by decide) (Nat.le_of_ble_eq_true rfl) (Nat.le_of_ble_eq_true rfl) dX5_init_28 (fun q3 H hP hD hS => ?_)
  refine W.widen (k := 3) (n := 89) (by decide) (by decide) ?_
  have hP : va_P (dC, dI) vwCl [(h0, .inr (4, [.int (nI 0), .ref q1, .int (nI 0), .int (nI 4), .ref q2, .null, .int (nI 0), .null, .int (nI 0), .null, .int (nI 0), .null, .null, .null, .int (nI 0), .null])), (q1, .inl (cI, 7, .inl (fun _ => 0))), (q2, .inl (cJ, 41, .inr (.inl (fun _ => 0)))), (q3, .inl (cI, 41, .inl (fun _ => 0)))] H := hP
  have hD : va_D A [(h0, .inr (4, [.int (nI 0), .ref q1, .int (nI 0), .int (nI 4), .ref q2, .null, .int (nI 0), .null, .int (nI 0), .null, .int (nI 0), .null, .null, .null, .int (nI 0), .null])), (q1, .inl (cI, 7, .inl (fun _ => 0))), (q2, .inl (cJ, 41, .inr (.inl (fun _ => 0)))), (q3, .inl (cI, 41, .inl (fun _ => 0)))] := hD
  refine va_putF (D := (dC, dI)) (ci := 4) (v := .ref q3) (ty := .array .int) (C := RX5) (T := TX5) (N := 16) hx hb hts hi tyX5 tyX5_ok nmX5 hown hK hP hD hS 0 rfl rfl 5 (by decide) (hts (.fieldLink RX5 21 "BurstWordsModel" "often" "[I") (by decide +kernel)) (fun _ h9 => h9) rfl hin rfl (by decide +kernel) rfl rfl (Nat.le_of_ble_eq_true rfl) dX5_init_30 (fun H locs hP hD hS => ?_)
  have hP : va_P (dC, dI) vwCl [(h0, .inr (4, [.int (nI 0), .ref q1, .int (nI 0), .int (nI 4), .ref q2, .ref q3, .int (nI 0), .null, .int (nI 0), .null, .int (nI 0), .null, .null, .null, .int (nI 0), .null])), (q1, .inl (cI, 7, .inl (fun _ => 0))), (q2, .inl (cJ, 41, .inr (.inl (fun _ => 0)))), (q3, .inl (cI, 41, .inl (fun _ => 0)))] H := hP
  have hD : va_D A [(h0, .inr (4, [.int (nI 0), .ref q1, .int (nI 0), .int (nI 4), .ref q2, .ref q3, .int (nI 0), .null, .int (nI 0), .null, .int (nI 0), .null, .null, .null, .int (nI 0), .null])), (q1, .inl (cI, 7, .inl (fun _ => 0))), (q2, .inl (cJ, 41, .inr (.inl (fun _ => 0)))), (q3, .inl (cI, 41, .inl (fun _ => 0)))] := hD
  refine lv_aload_n hx hb dX5_init_33 rfl (lv_at hl 0 rfl) ?_
  refine lv_sipush (v := nI (200)) hx hb dX5_init_34 (by decide) ?_
  refine na_l (cI := cI) (cJ := cJ) (cZ := cZ) hx hb (hts (.arrayClass .long) (by decide +kernel)) hK hP hD hS hA (by decide) (Nat.le_of_ble_eq_true rfl) (Nat.le_of_ble_eq_true rfl) dX5_init_37 (fun q4 H hP hD hS => ?_)
  refine W.widen (k := 4) (n := 289) (by decide) (by decide) ?_
  have hP : va_P (dC, dI) vwCl [(h0, .inr (4, [.int (nI 0), .ref q1, .int (nI 0), .int (nI 4), .ref q2, .ref q3, .int (nI 0), .null, .int (nI 0), .null, .int (nI 0), .null, .null, .null, .int (nI 0), .null])), (q1, .inl (cI, 7, .inl (fun _ => 0))), (q2, .inl (cJ, 41, .inr (.inl (fun _ => 0)))), (q3, .inl (cI, 41, .inl (fun _ => 0))), (q4, .inl (cJ, 200, .inr (.inl (fun _ => 0))))] H := hP
  have hD : va_D A [(h0, .inr (4, [.int (nI 0), .ref q1, .int (nI 0), .int (nI 4), .ref q2, .ref q3, .int (nI 0), .null, .int (nI 0), .null, .int (nI 0), .null, .null, .null, .int (nI 0), .null])), (q1, .inl (cI, 7, .inl (fun _ => 0))), (q2, .inl (cJ, 41, .inr (.inl (fun _ => 0)))), (q3, .inl (cI, 41, .inl (fun _ => 0))), (q4, .inl (cJ, 200, .inr (.inl (fun _ => 0))))] := hD
  refine va_putF (D := (dC, dI)) (ci := 4) (v := .ref q4) (ty := .array .long) (C := RX5) (T := TX5) (N := 16) hx hb hts hi tyX5 tyX5_ok nmX5 hown hK hP hD hS 0 rfl rfl 7 (by decide) (hts (.fieldLink RX5 24 "BurstWordsModel" "node" "[J") (by decide +kernel)) (fun _ h9 => h9) rfl hin rfl (by decide +kernel) rfl rfl (Nat.le_of_ble_eq_true rfl) dX5_init_39 (fun H locs hP hD hS => ?_)
  have hP : va_P (dC, dI) vwCl [(h0, .inr (4, [.int (nI 0), .ref q1, .int (nI 0), .int (nI 4), .ref q2, .ref q3, .int (nI 0), .ref q4, .int (nI 0), .null, .int (nI 0), .null, .null, .null, .int (nI 0), .null])), (q1, .inl (cI, 7, .inl (fun _ => 0))), (q2, .inl (cJ, 41, .inr (.inl (fun _ => 0)))), (q3, .inl (cI, 41, .inl (fun _ => 0))), (q4, .inl (cJ, 200, .inr (.inl (fun _ => 0))))] H := hP
  have hD : va_D A [(h0, .inr (4, [.int (nI 0), .ref q1, .int (nI 0), .int (nI 4), .ref q2, .ref q3, .int (nI 0), .ref q4, .int (nI 0), .null, .int (nI 0), .null, .null, .null, .int (nI 0), .null])), (q1, .inl (cI, 7, .inl (fun _ => 0))), (q2, .inl (cJ, 41, .inr (.inl (fun _ => 0)))), (q3, .inl (cI, 41, .inl (fun _ => 0))), (q4, .inl (cJ, 200, .inr (.inl (fun _ => 0))))] := hD
  refine lv_aload_n hx hb dX5_init_42 rfl (lv_at hl 0 rfl) ?_
  refine lv_sipush (v := nI (3384)) hx hb dX5_init_43 (by decide) ?_
  refine na_l (cI := cI) (cJ := cJ) (cZ := cZ) hx hb (hts (.arrayClass .long) (by decide +kernel)) hK hP hD hS hA (by decide) (Nat.le_of_ble_eq_true rfl) (Nat.le_of_ble_eq_true rfl) dX5_init_46 (fun q5 H hP hD hS => ?_)
  refine W.widen (k := 5) (n := 3673) (by decide) (by decide) ?_
  have hP : va_P (dC, dI) vwCl [(h0, .inr (4, [.int (nI 0), .ref q1, .int (nI 0), .int (nI 4), .ref q2, .ref q3, .int (nI 0), .ref q4, .int (nI 0), .null, .int (nI 0), .null, .null, .null, .int (nI 0), .null])), (q1, .inl (cI, 7, .inl (fun _ => 0))), (q2, .inl (cJ, 41, .inr (.inl (fun _ => 0)))), (q3, .inl (cI, 41, .inl (fun _ => 0))), (q4, .inl (cJ, 200, .inr (.inl (fun _ => 0)))), (q5, .inl (cJ, 3384, .inr (.inl (fun _ => 0))))] H := hP
  have hD : va_D A [(h0, .inr (4, [.int (nI 0), .ref q1, .int (nI 0), .int (nI 4), .ref q2, .ref q3, .int (nI 0), .ref q4, .int (nI 0), .null, .int (nI 0), .null, .null, .null, .int (nI 0), .null])), (q1, .inl (cI, 7, .inl (fun _ => 0))), (q2, .inl (cJ, 41, .inr (.inl (fun _ => 0)))), (q3, .inl (cI, 41, .inl (fun _ => 0))), (q4, .inl (cJ, 200, .inr (.inl (fun _ => 0)))), (q5, .inl (cJ, 3384, .inr (.inl (fun _ => 0))))] := hD
  refine va_putF (D := (dC, dI)) (ci := 4) (v := .ref q5) (ty := .array .long) (C := RX5) (T := TX5) (N := 16) hx hb hts hi tyX5 tyX5_ok nmX5 hown hK hP hD hS 0 rfl rfl 9 (by decide) (hts (.fieldLink RX5 27 "BurstWordsModel" "undos" "[J") (by decide +kernel)) (fun _ h9 => h9) rfl hin rfl (by decide +kernel) rfl rfl (Nat.le_of_ble_eq_true rfl) dX5_init_48 (fun H locs hP hD hS => ?_)
  have hP : va_P (dC, dI) vwCl [(h0, .inr (4, [.int (nI 0), .ref q1, .int (nI 0), .int (nI 4), .ref q2, .ref q3, .int (nI 0), .ref q4, .int (nI 0), .ref q5, .int (nI 0), .null, .null, .null, .int (nI 0), .null])), (q1, .inl (cI, 7, .inl (fun _ => 0))), (q2, .inl (cJ, 41, .inr (.inl (fun _ => 0)))), (q3, .inl (cI, 41, .inl (fun _ => 0))), (q4, .inl (cJ, 200, .inr (.inl (fun _ => 0)))), (q5, .inl (cJ, 3384, .inr (.inl (fun _ => 0))))] H := hP
  have hD : va_D A [(h0, .inr (4, [.int (nI 0), .ref q1, .int (nI 0), .int (nI 4), .ref q2, .ref q3, .int (nI 0), .ref q4, .int (nI 0), .ref q5, .int (nI 0), .null, .null, .null, .int (nI 0), .null])), (q1, .inl (cI, 7, .inl (fun _ => 0))), (q2, .inl (cJ, 41, .inr (.inl (fun _ => 0)))), (q3, .inl (cI, 41, .inl (fun _ => 0))), (q4, .inl (cJ, 200, .inr (.inl (fun _ => 0)))), (q5, .inl (cJ, 3384, .inr (.inl (fun _ => 0))))] := hD
  refine lv_aload_n hx hb dX5_init_51 rfl (lv_at hl 0 rfl) ?_
  refine lv_bipush (v := nI (8)) hx hb dX5_init_52 (by decide) ?_
  refine na_i (cI := cI) (cJ := cJ) (cZ := cZ) hx hb (hts (.arrayClass .int) (by decide +kernel)) hK hP hD hS hA (by decide) (Nat.le_of_ble_eq_true rfl) (Nat.le_of_ble_eq_true rfl) dX5_init_54 (fun q6 H hP hD hS => ?_)
  refine W.widen (k := 6) (n := 3681) (by decide) (by decide) ?_
  have hP : va_P (dC, dI) vwCl [(h0, .inr (4, [.int (nI 0), .ref q1, .int (nI 0), .int (nI 4), .ref q2, .ref q3, .int (nI 0), .ref q4, .int (nI 0), .ref q5, .int (nI 0), .null, .null, .null, .int (nI 0), .null])), (q1, .inl (cI, 7, .inl (fun _ => 0))), (q2, .inl (cJ, 41, .inr (.inl (fun _ => 0)))), (q3, .inl (cI, 41, .inl (fun _ => 0))), (q4, .inl (cJ, 200, .inr (.inl (fun _ => 0)))), (q5, .inl (cJ, 3384, .inr (.inl (fun _ => 0)))), (q6, .inl (cI, 8, .inl (fun _ => 0)))] H := hP
  have hD : va_D A [(h0, .inr (4, [.int (nI 0), .ref q1, .int (nI 0), .int (nI 4), .ref q2, .ref q3, .int (nI 0), .ref q4, .int (nI 0), .ref q5, .int (nI 0), .null, .null, .null, .int (nI 0), .null])), (q1, .inl (cI, 7, .inl (fun _ => 0))), (q2, .inl (cJ, 41, .inr (.inl (fun _ => 0)))), (q3, .inl (cI, 41, .inl (fun _ => 0))), (q4, .inl (cJ, 200, .inr (.inl (fun _ => 0)))), (q5, .inl (cJ, 3384, .inr (.inl (fun _ => 0)))), (q6, .inl (cI, 8, .inl (fun _ => 0)))] := hD
  refine va_putF (D := (dC, dI)) (ci := 4) (v := .ref q6) (ty := .array .int) (C := RX5) (T := TX5) (N := 16) hx hb hts hi tyX5 tyX5_ok nmX5 hown hK hP hD hS 0 rfl rfl 11 (by decide) (hts (.fieldLink RX5 30 "BurstWordsModel" "seenAt" "[I") (by decide +kernel)) (fun _ h9 => h9) rfl hin rfl (by decide +kernel) rfl rfl (Nat.le_of_ble_eq_true rfl) dX5_init_56 (fun H locs hP hD hS => ?_)
  have hP : va_P (dC, dI) vwCl [(h0, .inr (4, [.int (nI 0), .ref q1, .int (nI 0), .int (nI 4), .ref q2, .ref q3, .int (nI 0), .ref q4, .int (nI 0), .ref q5, .int (nI 0), .ref q6, .null, .null, .int (nI 0), .null])), (q1, .inl (cI, 7, .inl (fun _ => 0))), (q2, .inl (cJ, 41, .inr (.inl (fun _ => 0)))), (q3, .inl (cI, 41, .inl (fun _ => 0))), (q4, .inl (cJ, 200, .inr (.inl (fun _ => 0)))), (q5, .inl (cJ, 3384, .inr (.inl (fun _ => 0)))), (q6, .inl (cI, 8, .inl (fun _ => 0)))] H := hP
  have hD : va_D A [(h0, .inr (4, [.int (nI 0), .ref q1, .int (nI 0), .int (nI 4), .ref q2, .ref q3, .int (nI 0), .ref q4, .int (nI 0), .ref q5, .int (nI 0), .ref q6, .null, .null, .int (nI 0), .null])), (q1, .inl (cI, 7, .inl (fun _ => 0))), (q2, .inl (cJ, 41, .inr (.inl (fun _ => 0)))), (q3, .inl (cI, 41, .inl (fun _ => 0))), (q4, .inl (cJ, 200, .inr (.inl (fun _ => 0)))), (q5, .inl (cJ, 3384, .inr (.inl (fun _ => 0)))), (q6, .inl (cI, 8, .inl (fun _ => 0)))] := hD
  refine lv_aload_n hx hb dX5_init_59 rfl (lv_at hl 0 rfl) ?_
  refine lv_bipush (v := nI (8)) hx hb dX5_init_60 (by decide) ?_
  refine na_i (cI := cI) (cJ := cJ) (cZ := cZ) hx hb (hts (.arrayClass .int) (by decide +kernel)) hK hP hD hS hA (by decide) (Nat.le_of_ble_eq_true rfl) (Nat.le_of_ble_eq_true rfl) dX5_init_62 (fun q7 H hP hD hS => ?_)
  refine W.widen (k := 7) (n := 3689) (by decide) (by decide) ?_
  have hP : va_P (dC, dI) vwCl [(h0, .inr (4, [.int (nI 0), .ref q1, .int (nI 0), .int (nI 4), .ref q2, .ref q3, .int (nI 0), .ref q4, .int (nI 0), .ref q5, .int (nI 0), .ref q6, .null, .null, .int (nI 0), .null])), (q1, .inl (cI, 7, .inl (fun _ => 0))), (q2, .inl (cJ, 41, .inr (.inl (fun _ => 0)))), (q3, .inl (cI, 41, .inl (fun _ => 0))), (q4, .inl (cJ, 200, .inr (.inl (fun _ => 0)))), (q5, .inl (cJ, 3384, .inr (.inl (fun _ => 0)))), (q6, .inl (cI, 8, .inl (fun _ => 0))), (q7, .inl (cI, 8, .inl (fun _ => 0)))] H := hP
  have hD : va_D A [(h0, .inr (4, [.int (nI 0), .ref q1, .int (nI 0), .int (nI 4), .ref q2, .ref q3, .int (nI 0), .ref q4, .int (nI 0), .ref q5, .int (nI 0), .ref q6, .null, .null, .int (nI 0), .null])), (q1, .inl (cI, 7, .inl (fun _ => 0))), (q2, .inl (cJ, 41, .inr (.inl (fun _ => 0)))), (q3, .inl (cI, 41, .inl (fun _ => 0))), (q4, .inl (cJ, 200, .inr (.inl (fun _ => 0)))), (q5, .inl (cJ, 3384, .inr (.inl (fun _ => 0)))), (q6, .inl (cI, 8, .inl (fun _ => 0))), (q7, .inl (cI, 8, .inl (fun _ => 0)))] := hD
  refine va_putF (D := (dC, dI)) (ci := 4) (v := .ref q7) (ty := .array .int) (C := RX5) (T := TX5) (N := 16) hx hb hts hi tyX5 tyX5_ok nmX5 hown hK hP hD hS 0 rfl rfl 12 (by decide) (hts (.fieldLink RX5 33 "BurstWordsModel" "seenLetter" "[I") (by decide +kernel)) (fun _ h9 => h9) rfl hin rfl (by decide +kernel) rfl rfl (Nat.le_of_ble_eq_true rfl) dX5_init_64 (fun H locs hP hD hS => ?_)
  have hP : va_P (dC, dI) vwCl [(h0, .inr (4, [.int (nI 0), .ref q1, .int (nI 0), .int (nI 4), .ref q2, .ref q3, .int (nI 0), .ref q4, .int (nI 0), .ref q5, .int (nI 0), .ref q6, .ref q7, .null, .int (nI 0), .null])), (q1, .inl (cI, 7, .inl (fun _ => 0))), (q2, .inl (cJ, 41, .inr (.inl (fun _ => 0)))), (q3, .inl (cI, 41, .inl (fun _ => 0))), (q4, .inl (cJ, 200, .inr (.inl (fun _ => 0)))), (q5, .inl (cJ, 3384, .inr (.inl (fun _ => 0)))), (q6, .inl (cI, 8, .inl (fun _ => 0))), (q7, .inl (cI, 8, .inl (fun _ => 0)))] H := hP
  have hD : va_D A [(h0, .inr (4, [.int (nI 0), .ref q1, .int (nI 0), .int (nI 4), .ref q2, .ref q3, .int (nI 0), .ref q4, .int (nI 0), .ref q5, .int (nI 0), .ref q6, .ref q7, .null, .int (nI 0), .null])), (q1, .inl (cI, 7, .inl (fun _ => 0))), (q2, .inl (cJ, 41, .inr (.inl (fun _ => 0)))), (q3, .inl (cI, 41, .inl (fun _ => 0))), (q4, .inl (cJ, 200, .inr (.inl (fun _ => 0)))), (q5, .inl (cJ, 3384, .inr (.inl (fun _ => 0)))), (q6, .inl (cI, 8, .inl (fun _ => 0))), (q7, .inl (cI, 8, .inl (fun _ => 0)))] := hD
  refine lv_aload_n hx hb dX5_init_67 rfl (lv_at hl 0 rfl) ?_
  refine lv_bipush (v := nI (8)) hx hb dX5_init_68 (by decide) ?_
  refine na_i (cI := cI) (cJ := cJ) (cZ := cZ) hx hb (hts (.arrayClass .int) (by decide +kernel)) hK hP hD hS hA (by decide) (Nat.le_of_ble_eq_true rfl) (Nat.le_of_ble_eq_true rfl) dX5_init_70 (fun q8 H hP hD hS => ?_)
  refine W.widen (k := 8) (n := 3697) (by decide) (by decide) ?_
  have hP : va_P (dC, dI) vwCl [(h0, .inr (4, [.int (nI 0), .ref q1, .int (nI 0), .int (nI 4), .ref q2, .ref q3, .int (nI 0), .ref q4, .int (nI 0), .ref q5, .int (nI 0), .ref q6, .ref q7, .null, .int (nI 0), .null])), (q1, .inl (cI, 7, .inl (fun _ => 0))), (q2, .inl (cJ, 41, .inr (.inl (fun _ => 0)))), (q3, .inl (cI, 41, .inl (fun _ => 0))), (q4, .inl (cJ, 200, .inr (.inl (fun _ => 0)))), (q5, .inl (cJ, 3384, .inr (.inl (fun _ => 0)))), (q6, .inl (cI, 8, .inl (fun _ => 0))), (q7, .inl (cI, 8, .inl (fun _ => 0))), (q8, .inl (cI, 8, .inl (fun _ => 0)))] H := hP
  have hD : va_D A [(h0, .inr (4, [.int (nI 0), .ref q1, .int (nI 0), .int (nI 4), .ref q2, .ref q3, .int (nI 0), .ref q4, .int (nI 0), .ref q5, .int (nI 0), .ref q6, .ref q7, .null, .int (nI 0), .null])), (q1, .inl (cI, 7, .inl (fun _ => 0))), (q2, .inl (cJ, 41, .inr (.inl (fun _ => 0)))), (q3, .inl (cI, 41, .inl (fun _ => 0))), (q4, .inl (cJ, 200, .inr (.inl (fun _ => 0)))), (q5, .inl (cJ, 3384, .inr (.inl (fun _ => 0)))), (q6, .inl (cI, 8, .inl (fun _ => 0))), (q7, .inl (cI, 8, .inl (fun _ => 0))), (q8, .inl (cI, 8, .inl (fun _ => 0)))] := hD
  refine va_putF (D := (dC, dI)) (ci := 4) (v := .ref q8) (ty := .array .int) (C := RX5) (T := TX5) (N := 16) hx hb hts hi tyX5 tyX5_ok nmX5 hown hK hP hD hS 0 rfl rfl 13 (by decide) (hts (.fieldLink RX5 36 "BurstWordsModel" "seenIs" "[I") (by decide +kernel)) (fun _ h9 => h9) rfl hin rfl (by decide +kernel) rfl rfl (Nat.le_of_ble_eq_true rfl) dX5_init_72 (fun H locs hP hD hS => ?_)
  have hP : va_P (dC, dI) vwCl [(h0, .inr (4, [.int (nI 0), .ref q1, .int (nI 0), .int (nI 4), .ref q2, .ref q3, .int (nI 0), .ref q4, .int (nI 0), .ref q5, .int (nI 0), .ref q6, .ref q7, .ref q8, .int (nI 0), .null])), (q1, .inl (cI, 7, .inl (fun _ => 0))), (q2, .inl (cJ, 41, .inr (.inl (fun _ => 0)))), (q3, .inl (cI, 41, .inl (fun _ => 0))), (q4, .inl (cJ, 200, .inr (.inl (fun _ => 0)))), (q5, .inl (cJ, 3384, .inr (.inl (fun _ => 0)))), (q6, .inl (cI, 8, .inl (fun _ => 0))), (q7, .inl (cI, 8, .inl (fun _ => 0))), (q8, .inl (cI, 8, .inl (fun _ => 0)))] H := hP
  have hD : va_D A [(h0, .inr (4, [.int (nI 0), .ref q1, .int (nI 0), .int (nI 4), .ref q2, .ref q3, .int (nI 0), .ref q4, .int (nI 0), .ref q5, .int (nI 0), .ref q6, .ref q7, .ref q8, .int (nI 0), .null])), (q1, .inl (cI, 7, .inl (fun _ => 0))), (q2, .inl (cJ, 41, .inr (.inl (fun _ => 0)))), (q3, .inl (cI, 41, .inl (fun _ => 0))), (q4, .inl (cJ, 200, .inr (.inl (fun _ => 0)))), (q5, .inl (cJ, 3384, .inr (.inl (fun _ => 0)))), (q6, .inl (cI, 8, .inl (fun _ => 0))), (q7, .inl (cI, 8, .inl (fun _ => 0))), (q8, .inl (cI, 8, .inl (fun _ => 0)))] := hD
  refine lv_aload_n hx hb dX5_init_75 rfl (lv_at hl 0 rfl) ?_
  refine lv_bipush (v := nI (41)) hx hb dX5_init_76 (by decide) ?_
  refine na_z (cI := cI) (cJ := cJ) (cZ := cZ) hx hb (hts (.arrayClass .boolean) (by decide +kernel)) hK hP hD hS hA (by decide) (Nat.le_of_ble_eq_true rfl) (Nat.le_of_ble_eq_true rfl) dX5_init_78 (fun q9 H hP hD hS => ?_)
  refine W.widen (k := 9) (n := 3738) (by decide) (by decide) ?_
  have hP : va_P (dC, dI) vwCl [(h0, .inr (4, [.int (nI 0), .ref q1, .int (nI 0), .int (nI 4), .ref q2, .ref q3, .int (nI 0), .ref q4, .int (nI 0), .ref q5, .int (nI 0), .ref q6, .ref q7, .ref q8, .int (nI 0), .null])), (q1, .inl (cI, 7, .inl (fun _ => 0))), (q2, .inl (cJ, 41, .inr (.inl (fun _ => 0)))), (q3, .inl (cI, 41, .inl (fun _ => 0))), (q4, .inl (cJ, 200, .inr (.inl (fun _ => 0)))), (q5, .inl (cJ, 3384, .inr (.inl (fun _ => 0)))), (q6, .inl (cI, 8, .inl (fun _ => 0))), (q7, .inl (cI, 8, .inl (fun _ => 0))), (q8, .inl (cI, 8, .inl (fun _ => 0))), (q9, .inl (cZ, 41, .inl (fun _ => 0)))] H := hP
  have hD : va_D A [(h0, .inr (4, [.int (nI 0), .ref q1, .int (nI 0), .int (nI 4), .ref q2, .ref q3, .int (nI 0), .ref q4, .int (nI 0), .ref q5, .int (nI 0), .ref q6, .ref q7, .ref q8, .int (nI 0), .null])), (q1, .inl (cI, 7, .inl (fun _ => 0))), (q2, .inl (cJ, 41, .inr (.inl (fun _ => 0)))), (q3, .inl (cI, 41, .inl (fun _ => 0))), (q4, .inl (cJ, 200, .inr (.inl (fun _ => 0)))), (q5, .inl (cJ, 3384, .inr (.inl (fun _ => 0)))), (q6, .inl (cI, 8, .inl (fun _ => 0))), (q7, .inl (cI, 8, .inl (fun _ => 0))), (q8, .inl (cI, 8, .inl (fun _ => 0))), (q9, .inl (cZ, 41, .inl (fun _ => 0)))] := hD
  refine va_putF (D := (dC, dI)) (ci := 4) (v := .ref q9) (ty := .array .boolean) (C := RX5) (T := TX5) (N := 16) hx hb hts hi tyX5 tyX5_ok nmX5 hown hK hP hD hS 0 rfl rfl 15 (by decide) (hts (.fieldLink RX5 39 "BurstWordsModel" "taken" "[Z") (by decide +kernel)) (fun _ h9 => h9) rfl hin rfl (by decide +kernel) rfl rfl (Nat.le_of_ble_eq_true rfl) dX5_init_80 (fun H locs hP hD hS => ?_)
  have hP : va_P (dC, dI) vwCl [(h0, .inr (4, [.int (nI 0), .ref q1, .int (nI 0), .int (nI 4), .ref q2, .ref q3, .int (nI 0), .ref q4, .int (nI 0), .ref q5, .int (nI 0), .ref q6, .ref q7, .ref q8, .int (nI 0), .ref q9])), (q1, .inl (cI, 7, .inl (fun _ => 0))), (q2, .inl (cJ, 41, .inr (.inl (fun _ => 0)))), (q3, .inl (cI, 41, .inl (fun _ => 0))), (q4, .inl (cJ, 200, .inr (.inl (fun _ => 0)))), (q5, .inl (cJ, 3384, .inr (.inl (fun _ => 0)))), (q6, .inl (cI, 8, .inl (fun _ => 0))), (q7, .inl (cI, 8, .inl (fun _ => 0))), (q8, .inl (cI, 8, .inl (fun _ => 0))), (q9, .inl (cZ, 41, .inl (fun _ => 0)))] H := hP
  have hD : va_D A [(h0, .inr (4, [.int (nI 0), .ref q1, .int (nI 0), .int (nI 4), .ref q2, .ref q3, .int (nI 0), .ref q4, .int (nI 0), .ref q5, .int (nI 0), .ref q6, .ref q7, .ref q8, .int (nI 0), .ref q9])), (q1, .inl (cI, 7, .inl (fun _ => 0))), (q2, .inl (cJ, 41, .inr (.inl (fun _ => 0)))), (q3, .inl (cI, 41, .inl (fun _ => 0))), (q4, .inl (cJ, 200, .inr (.inl (fun _ => 0)))), (q5, .inl (cJ, 3384, .inr (.inl (fun _ => 0)))), (q6, .inl (cI, 8, .inl (fun _ => 0))), (q7, .inl (cI, 8, .inl (fun _ => 0))), (q8, .inl (cI, 8, .inl (fun _ => 0))), (q9, .inl (cZ, 41, .inl (fun _ => 0)))] := hD
  refine lv_aload_n hx hb dX5_init_83 rfl (lv_at hl 0 rfl) ?_
  refine lv_iconst (v := nI (0)) hx hb dX5_init_84 (by decide) ?_
  refine va_put (D := (dC, dI)) (ci := 4) (v := .int (nI (0))) (ty := .int) (C := RX5) (T := TX5) (N := 16) hx hb hts hi tyX5 tyX5_ok nmX5 hown hK hP hD hS 0 rfl rfl 0 (by decide) (hts (.fieldLink RX5 43 "BurstWordsModel" "thrown" "I") (by decide +kernel)) (fun _ h9 => h9) rfl (by decide +kernel) rfl rfl (Nat.le_of_ble_eq_true rfl) dX5_init_85 (fun H locs hP hD hS => ?_)
  have hP : va_P (dC, dI) vwCl [(h0, .inr (4, [.int (nI 0), .ref q1, .int (nI 0), .int (nI 4), .ref q2, .ref q3, .int (nI 0), .ref q4, .int (nI 0), .ref q5, .int (nI 0), .ref q6, .ref q7, .ref q8, .int (nI 0), .ref q9])), (q1, .inl (cI, 7, .inl (fun _ => 0))), (q2, .inl (cJ, 41, .inr (.inl (fun _ => 0)))), (q3, .inl (cI, 41, .inl (fun _ => 0))), (q4, .inl (cJ, 200, .inr (.inl (fun _ => 0)))), (q5, .inl (cJ, 3384, .inr (.inl (fun _ => 0)))), (q6, .inl (cI, 8, .inl (fun _ => 0))), (q7, .inl (cI, 8, .inl (fun _ => 0))), (q8, .inl (cI, 8, .inl (fun _ => 0))), (q9, .inl (cZ, 41, .inl (fun _ => 0)))] H := hP
  have hD : va_D A [(h0, .inr (4, [.int (nI 0), .ref q1, .int (nI 0), .int (nI 4), .ref q2, .ref q3, .int (nI 0), .ref q4, .int (nI 0), .ref q5, .int (nI 0), .ref q6, .ref q7, .ref q8, .int (nI 0), .ref q9])), (q1, .inl (cI, 7, .inl (fun _ => 0))), (q2, .inl (cJ, 41, .inr (.inl (fun _ => 0)))), (q3, .inl (cI, 41, .inl (fun _ => 0))), (q4, .inl (cJ, 200, .inr (.inl (fun _ => 0)))), (q5, .inl (cJ, 3384, .inr (.inl (fun _ => 0)))), (q6, .inl (cI, 8, .inl (fun _ => 0))), (q7, .inl (cI, 8, .inl (fun _ => 0))), (q8, .inl (cI, 8, .inl (fun _ => 0))), (q9, .inl (cZ, 41, .inl (fun _ => 0)))] := hD
  rw [← hQQ]
  exact m_v (fun k => ([h0, q1, q2, q3, q4, q5, q6, q7, q8, q9] : List Nat).getD k 0) hx hb hr hlocks rfl hP hD hS dX5_init_88
