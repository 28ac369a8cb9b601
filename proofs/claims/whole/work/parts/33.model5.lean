/-- one scan: the place of the most frequent of those not taken, or n -/
def bse (O : Nat → Nat) (n : Nat) (T : Nat → Bool) : Nat → Nat
  | 0 => n
  | e + 1 => if (!T e && (bse O n T e == n || decide (O (bse O n T e) < O e))) = true then e else bse O n T e
def bkR (O : Nat → Nat) (n : Nat) (T0 : Nat → Bool) : Nat → Nat → Bool
  | 0 => T0
  | r + 1 => fun e => bkR O n T0 r e || (e == bse O n (bkR O n T0 r) n)
def bto (O : Nat → Nat) (n : Nat) (T0 : Nat → Bool) : Nat → Nat
  | 0 => n
  | r + 1 => bse O n (bkR O n T0 r) n
theorem bkR_s (O : Nat → Nat) (n : Nat) (T0 : Nat → Bool) (r e : Nat) : bkR O n T0 (r + 1) e = (bkR O n T0 r e || (e == bse O n (bkR O n T0 r) n)) := rfl
theorem bse_le (O : Nat → Nat) (n : Nat) (T : Nat → Bool) : ∀ e, bse O n T e ≤ max n e
  | 0 => Nat.le_max_left _ _
  | e + 1 => by
    have := bse_le O n T e
    unfold bse
    split <;> omega
theorem bto_le (O : Nat → Nat) (n : Nat) (T0 : Nat → Bool) : ∀ r, bto O n T0 r ≤ n
  | 0 => Nat.le_refl n
  | r + 1 => by have := bse_le O n (bkR O n T0 r) n; rw [Nat.max_self] at this; exact this
def mo_top (V O : Nat → Nat) (n v : Nat) (x y : Int32) : Int32 := if x < 0 then -1 else if bin y (-1) (nI 6) then (if n < x.toNatClampNeg then -9 else btl V n (bse O n (bkR O n (fun e => !(bhd (V e) (bln v) == v)) x.toNatClampNeg) n) (bgi y)) else -1
def bgr (n y : Nat) : Nat := if n - y < y then y else n - y
/-- one place, the letters 1 .. c: (what to ask, the greater part) -/
def bai (V : Nat → Nat) (n : Nat) (T : Nat → Bool) (f i : Nat) (s : Int32 × Nat) : Nat → Int32 × Nat
  | 0 => s
  | c + 1 => if bgr f (fb_ct (fun k => T k && (bsg (V k) i == c + 1)) n) < (bai V n T f i s c).2 then (nI (32 * i + (c + 1) - 1), bgr f (fb_ct (fun k => T k && (bsg (V k) i == c + 1)) n)) else bai V n T f i s c
def bao (V : Nat → Nat) (n : Nat) (T : Nat → Bool) (f : Nat) : Nat → Int32 × Nat
  | 0 => (-9, 99)
  | i + 1 => bai V n T f i (bao V n T f i) 26
theorem bai_n {V : Nat → Nat} {n : Nat} {T : Nat → Bool} {f i c : Nat} {s : Int32 × Nat} (hc : 1 ≤ c) (h : (bai V n T f i s (c - 1)).2 ≤ bgr f (fb_ct (fun k => T k && (bsg (V k) i == c)) n)) : bai V n T f i s (c + 1 - 1) = bai V n T f i s (c - 1) := by
  obtain ⟨d, rfl⟩ : ∃ d, c = d + 1 := ⟨c - 1, by omega⟩
  exact if_neg (Nat.not_lt.mpr h)
theorem bai_y {V : Nat → Nat} {n : Nat} {T : Nat → Bool} {f i c : Nat} {s : Int32 × Nat} (hc : 1 ≤ c) (h : bgr f (fb_ct (fun k => T k && (bsg (V k) i == c)) n) < (bai V n T f i s (c - 1)).2) : bai V n T f i s (c + 1 - 1) = (nI (32 * i + c - 1), bgr f (fb_ct (fun k => T k && (bsg (V k) i == c)) n)) := by
  obtain ⟨d, rfl⟩ : ∃ d, c = d + 1 := ⟨c - 1, by omega⟩
  exact if_pos h
theorem bai_le {V : Nat → Nat} {n : Nat} {T : Nat → Bool} {f i : Nat} {s : Int32 × Nat} (hf : f ≤ 99) (hs : s.2 ≤ 99) : ∀ {c}, (bai V n T f i s c).2 ≤ 99
  | 0 => hs
  | c + 1 => by
    have := bai_le (V := V) (n := n) (T := T) (i := i) hf hs (c := c)
    unfold bai
    split
    · next h => exact Nat.le_trans (Nat.le_of_lt h) this
    · exact this
theorem bao_le (V : Nat → Nat) (n : Nat) (T : Nat → Bool) (f : Nat) (hf : f ≤ 99) : ∀ i, (bao V n T f i).2 ≤ 99
  | 0 => Nat.le_refl 99
  | i + 1 => bai_le hf (bao_le V n T f hf i)
abbrev rm_X5_top : Room := { frames := 4, cells := 0, slots := 0, locals := 90 }
set_option maxHeartbeats 4000000 in
set_option maxRecDepth 100000 in
theorem c_X5_top (l : Launch) (dC : Nat → ClassId) (dI : Nat → Nat → Nat) (cI cJ cZ : ClassId) (a : Nat → Nat) (ty : Nat → Int32) (tm b : Nat) (wo : Nat → Int64) (of : Nat → Int32) (n : Nat) (no : Nat → Int64) (nm : Nat) (un : Nat → Int64) (um : Nat) (sa sl si : Nat → Int32) (sn : Nat) (tk : Nat → Int32) (v : Nat) (V O K SA SL SI : Nat → Nat) (hmw : bMW ty tm v) (hmd : bMD wo of n V O) (hmn : bMN no nm K) (hms : bMS sa sl si sn SA SL SI) (sz : Nat) (x : Int32) (y : Int32) : Met l yX5_top wsX5_top rm_X5_top (mPc (dC, dI) (tysA cI cJ cZ) (wm a cI cJ cZ ty tm b wo of n no nm un um sa sl si sn tk) sz [.ref (a 0), .int (x), .int (y)]) (mQi (dC, dI) (fun (r : Int32) (u : Nat → Int32) => r = mo_top V O n v x y) (fun u => wm a cI cJ cZ ty tm b wo of n no nm un um sa sl si sn u) (va_A (wm a cI cJ cZ ty tm b wo of n no nm un um sa sl si sn tk) sz)) 0 0 (va_A (wm a cI cJ cZ ty tm b wo of n no nm un um sa sl si sn tk) sz) := by
  refine met_m (cc := cX5_top) (maxL := 6) (ret := (some .int)) (own := RX5) (Qc := fun A => mQi (dC, dI) (fun (r : Int32) (u : Nat → Int32) => r = mo_top V O n v x y) (fun u => wm a cI cJ cZ ty tm b wo of n no nm un um sa sl si sn u) A) (by decide) rfl rfl (Nat.le_of_ble_eq_true rfl) ?_
  intro p e s m below meth c S hr hlocks hname hK A hA hP hD hS ls hl
  obtain ⟨hx, hb, hml, hown, hts⟩ := id S
  generalize hQQ : MQ below (mQi (dC, dI) (fun (r : Int32) (u : Nat → Int32) => r = mo_top V O n v x y) (fun u => wm a cI cJ cZ ty tm b wo of n no nm un um sa sl si sn u) A) ([.ref (a 0), .int (x), .int (y)] : List Value).toArray s 0 0 A = QQ
  have hl : lv_has ls 6 [(0, .ref (a 0)), (1, .int (x)), (2, .int (y))] := hl
  have hi5 : ∀ w ∈ wsX50, w ∈ wsX5_top := fun _ h => List.mem_cons_of_mem _ (List.mem_append_right _ h)
  obtain ⟨hvw, htm, hty⟩ := id hmw; obtain ⟨hn, hk⟩ := id hmd; obtain ⟨hnm, hkn⟩ := id hmn; obtain ⟨hsn, hks⟩ := id hms
  refine lv_aload_n hx hb dX5_top_0 rfl (lv_at hl 0 rfl) ?_
  refine lv_iconst (v := nI (0)) hx hb dX5_top_1 (by decide) ?_
  refine va_put (D := (dC, dI)) (ci := 4) (v := .int (nI (0))) (ty := .int) (C := RX5) (T := TX5) (N := 16) hx hb hts hi5 tyX5 tyX5_ok nmX5 hown hK hP hD hS 0 rfl rfl 0 (by decide) (hts (.fieldLink RX5 43 "BurstWordsModel" "thrown" "I") (by decide +kernel)) (fun _ h9 => h9) rfl (by decide +kernel) rfl rfl (Nat.le_of_ble_eq_true rfl) dX5_top_2 (fun H locs hP hD hS => ?_)
  have hP : va_P (dC, dI) vwCl (wm a cI cJ cZ ty tm b wo of n no nm un um sa sl si sn tk) H := hP
  have hD : va_D A (wm a cI cJ cZ ty tm b wo of n no nm un um sa sl si sn tk) := hD
  refine lv_iload_n hx hb dX5_top_5 rfl (lv_at hl 1 rfl) ?_
  refine lv_if_lt (tgt := 16) hx hb dX5_top_6 (by decide) (fun c_6 => ?_) (fun c_6 => ?_)
  · refine lv_iconst (v := (-1 : Int32)) hx hb dX5_top_16 (by decide) ?_
    rw [← hQQ]
    exact m_i (tk) hx hb hr hlocks (by rw [mo_top, if_pos c_6]) hP hD hS dX5_top_17
  · refine lv_iload_n hx hb dX5_top_9 rfl (lv_at hl 2 rfl) ?_
    refine c_Si (As := [.int (y)]) (rest := []) S (c_X5_isAt l (y)) (va_cwS 1 hts gX5_top_X5_isAt rfl rfl rfl (by decide +kernel) ⟨Nat.le_of_ble_eq_true rfl, Nat.le_of_ble_eq_true rfl⟩) rfl hl.1 rfl (Nat.le_of_ble_eq_true rfl) dX5_top_10 ⟨Nat.le_of_ble_eq_true rfl, Nat.le_of_ble_eq_true rfl⟩ ?_
    refine b_ne (tgt := 18) hx hb dX5_top_13 (by decide) (fun c_13 => ?_) (fun c_13 => ?_)
    · obtain ⟨k, hk31, hxk⟩ := nI_of c_6
      have hl := lv_cg (l' := [(0, .ref (a 0)), (1, .int (nI (k))), (2, .int (y))]) hl (by rw [hxk])
      obtain ⟨g, hg, hyg⟩ := bin_M c_13
      have hl := lv_cg (l' := [(0, .ref (a 0)), (1, .int (nI (k))), (2, .int (nM g))]) hl (by rw [hyg])
      refine lv_iconst (v := nI (0)) hx hb dX5_top_18 (by decide) ?_
      refine lv_istore_n (lv' := [(3, .int (nI (0))), (0, .ref (a 0)), (1, .int (nI (k))), (2, .int (nM g))]) hx hb dX5_top_19 rfl hl (by decide) rfl (fun ls hl => ?_)
      have lp_20 : ∀ (j_20 : Nat) (e1 : Nat) (tk1 : Nat → Int32), (e1 ≤ n) → (∀ q, q < e1 → tk1 q = bI ((fun e => !(bhd (V e) (bln v) == v)) q)) → (n - e1) < j_20 → ∀ (H : Heap) (locs : List Loc), va_P (dC, dI) vwCl (wm a cI cJ cZ ty tm b wo of n no nm un um sa sl si sn tk1) H → va_D A (wm a cI cJ cZ ty tm b wo of n no nm un um sa sl si sn tk1) → va_S A s.heap H locs → ∀ ls : Array Slot, lv_has ls 6 [(0, .ref (a 0)), (1, .int (nI (k))), (2, .int (nM g)), (3, .int (nI (e1)))] → W p l e rm_X5_top s m ([.ref (a 0), .int (x), .int (y)] : List Value).toArray below meth c H locs 0 0 QQ (F0 m 20 ls []) := by
        intro j_20
        induction j_20 with
        | zero => intro e1 tk1 _ _ h0; exact absurd h0 (Nat.not_lt_zero _)
        | succ j_20 ih_20 =>
          intro e1 tk1 he htk hf_20 H locs hP hD hS ls hl
          refine lv_iload_n hx hb dX5_top_20 rfl (lv_at hl 3 rfl) ?_
          refine lv_aload_n hx hb dX5_top_21 rfl (lv_at hl 0 rfl) ?_
          refine va_get (D := (dC, dI)) (ci := 4) (v := .int (nI (n))) (C := RX5) (T := TX5) (N := 16) hx hb hts hi5 hown hK hP 0 rfl rfl 6 (by decide) (hts (.fieldLink RX5 67 "BurstWordsModel" "many" "I") (by decide +kernel)) (fun _ h9 => h9) rfl dX5_top_22 ?_
          refine n_ge (tgt := 61) hx hb dX5_top_25 (by decide) (by omega) (by omega) (fun c_25 => ?_) (fun c_25 => ?_)
          · refine lv_aload_n hx hb dX5_top_61 rfl (lv_at hl 0 rfl) ?_
            refine va_get (D := (dC, dI)) (ci := 4) (v := .int (nI (n))) (C := RX5) (T := TX5) (N := 16) hx hb hts hi5 hown hK hP 0 rfl rfl 6 (by decide) (hts (.fieldLink RX5 67 "BurstWordsModel" "many" "I") (by decide +kernel)) (fun _ h9 => h9) rfl dX5_top_62 ?_
            refine lv_istore_n (lv' := [(3, .int (nI (n))), (0, .ref (a 0)), (1, .int (nI (k))), (2, .int (nM g))]) hx hb dX5_top_65 rfl hl (by decide) rfl (fun ls hl => ?_)
            refine lv_iconst (v := nI (0)) hx hb dX5_top_66 (by decide) ?_
            refine lv_istore (lv' := [(4, .int (nI (0))), (3, .int (nI (n))), (0, .ref (a 0)), (1, .int (nI (k))), (2, .int (nM g))]) hx hb dX5_top_67 hl (by decide) rfl (fun ls hl => ?_)
            have lp_69 : ∀ (j_69 : Nat) (r : Nat) (tk1 : Nat → Int32) (t : Nat), (r ≤ k + 1) → (r ≤ n + 1) → (t = bto O n (fun e => !(bhd (V e) (bln v) == v)) r) → (∀ q, q < n → tk1 q = bI (bkR O n (fun e => !(bhd (V e) (bln v) == v)) r q)) → (n + 1 - r) < j_69 → ∀ (H : Heap) (locs : List Loc), va_P (dC, dI) vwCl (wm a cI cJ cZ ty tm b wo of n no nm un um sa sl si sn tk1) H → va_D A (wm a cI cJ cZ ty tm b wo of n no nm un um sa sl si sn tk1) → va_S A s.heap H locs → ∀ ls : Array Slot, lv_has ls 6 [(0, .ref (a 0)), (1, .int (nI (k))), (2, .int (nM g)), (3, .int (nI (t))), (4, .int (nI (r)))] → W p l e rm_X5_top s m ([.ref (a 0), .int (x), .int (y)] : List Value).toArray below meth c H locs 0 0 QQ (F0 m 69 ls []) := by
              intro j_69
              induction j_69 with
              | zero => intro r tk1 t _ _ _ _ h0; exact absurd h0 (Nat.not_lt_zero _)
              | succ j_69 ih_69 =>
                intro r tk1 t hr1 hr2 ht htk hf_69 H locs hP hD hS ls hl
                have hto := bto_le O n (fun e => !(bhd (V e) (bln v) == v)) r
                refine lv_iload hx hb dX5_top_69 (lv_at hl 4 rfl) ?_
                refine lv_iload_n hx hb dX5_top_71 rfl (lv_at hl 1 rfl) ?_
                refine n_gt (tgt := 169) hx hb dX5_top_72 (by decide) (by omega) (by omega) (fun c_72 => ?_) (fun c_72 => ?_)
                · refine lv_iload_n hx hb dX5_top_169 rfl (lv_at hl 1 rfl) ?_
                  refine lv_aload_n hx hb dX5_top_170 rfl (lv_at hl 0 rfl) ?_
                  refine va_get (D := (dC, dI)) (ci := 4) (v := .int (nI (n))) (C := RX5) (T := TX5) (N := 16) hx hb hts hi5 hown hK hP 0 rfl rfl 6 (by decide) (hts (.fieldLink RX5 67 "BurstWordsModel" "many" "I") (by decide +kernel)) (fun _ h9 => h9) rfl dX5_top_171 ?_
                  refine n_le (tgt := 182) hx hb dX5_top_174 (by decide) (by omega) (by omega) (fun c_174 => ?_) (fun c_174 => ?_)
                  · refine lv_aload_n hx hb dX5_top_182 rfl (lv_at hl 0 rfl) ?_
                    refine lv_iload_n hx hb dX5_top_183 rfl (lv_at hl 3 rfl) ?_
                    refine lv_iload_n hx hb dX5_top_184 rfl (lv_at hl 2 rfl) ?_
                    refine c_Vi (As := [.int (nI (t)), .int (nM g)]) (rest := []) (ci := 4) (q0 := 0) S (c_X5_tells l dC dI cI cJ cZ a ty tm b wo of n no nm un um sa sl si sn tk1 v V O K SA SL SI hmw hmd hmn hms t (by omega) g hg) (cwV 2 hts gX5_top_X5_tells rfl rfl rfl (by decide +kernel) ⟨Nat.le_of_ble_eq_true rfl, Nat.le_of_ble_eq_true rfl⟩) hK hP rfl rfl rfl hl.1 rfl (Nat.le_of_ble_eq_true rfl) dX5_top_185 ⟨Nat.le_of_ble_eq_true rfl, Nat.le_of_ble_eq_true rfl⟩ ?_
                    rw [← hQQ]
                    exact m_i (tk1) hx hb hr hlocks (by rw [mo_top, if_neg c_6, if_pos c_13, hxk, hyg, nI_clamp hk31, bgi_M hg, if_neg (Nat.not_lt.mpr c_174), ht, show r = k + 1 by omega, bto]) hP hD hS dX5_top_188
                  · refine lv_bipush (v := (-9 : Int32)) hx hb dX5_top_177 (by decide) ?_
                    refine lv_goto (tgt := 188) hx hb dX5_top_179 (by decide) ?_
                    rw [← hQQ]
                    exact m_i (tk1) hx hb hr hlocks (by rw [mo_top, if_neg c_6, if_pos c_13, hxk, hyg, nI_clamp hk31, bgi_M hg, if_pos c_174]) hP hD hS dX5_top_188
                · refine lv_iload hx hb dX5_top_75 (lv_at hl 4 rfl) ?_
                  refine lv_aload_n hx hb dX5_top_77 rfl (lv_at hl 0 rfl) ?_
                  refine va_get (D := (dC, dI)) (ci := 4) (v := .int (nI (n))) (C := RX5) (T := TX5) (N := 16) hx hb hts hi5 hown hK hP 0 rfl rfl 6 (by decide) (hts (.fieldLink RX5 67 "BurstWordsModel" "many" "I") (by decide +kernel)) (fun _ h9 => h9) rfl dX5_top_78 ?_
                  refine n_gt (tgt := 169) hx hb dX5_top_81 (by decide) (by omega) (by omega) (fun c_81 => ?_) (fun c_81 => ?_)
                  · refine lv_iload_n hx hb dX5_top_169 rfl (lv_at hl 1 rfl) ?_
                    refine lv_aload_n hx hb dX5_top_170 rfl (lv_at hl 0 rfl) ?_
                    refine va_get (D := (dC, dI)) (ci := 4) (v := .int (nI (n))) (C := RX5) (T := TX5) (N := 16) hx hb hts hi5 hown hK hP 0 rfl rfl 6 (by decide) (hts (.fieldLink RX5 67 "BurstWordsModel" "many" "I") (by decide +kernel)) (fun _ h9 => h9) rfl dX5_top_171 ?_
                    refine n_le (tgt := 182) hx hb dX5_top_174 (by decide) (by omega) (by omega) (fun c_174 => ?_) (fun c_174 => ?_)
                    · refine lv_aload_n hx hb dX5_top_182 rfl (lv_at hl 0 rfl) ?_
                      refine lv_iload_n hx hb dX5_top_183 rfl (lv_at hl 3 rfl) ?_
                      refine lv_iload_n hx hb dX5_top_184 rfl (lv_at hl 2 rfl) ?_
                      refine c_Vi (As := [.int (nI (t)), .int (nM g)]) (rest := []) (ci := 4) (q0 := 0) S (c_X5_tells l dC dI cI cJ cZ a ty tm b wo of n no nm un um sa sl si sn tk1 v V O K SA SL SI hmw hmd hmn hms t (by omega) g hg) (cwV 2 hts gX5_top_X5_tells rfl rfl rfl (by decide +kernel) ⟨Nat.le_of_ble_eq_true rfl, Nat.le_of_ble_eq_true rfl⟩) hK hP rfl rfl rfl hl.1 rfl (Nat.le_of_ble_eq_true rfl) dX5_top_185 ⟨Nat.le_of_ble_eq_true rfl, Nat.le_of_ble_eq_true rfl⟩ ?_
                      rw [← hQQ]
                      exact m_i (tk1) hx hb hr hlocks (by rw [mo_top, if_neg c_6, if_pos c_13, hxk, hyg, nI_clamp hk31, bgi_M hg, if_neg (Nat.not_lt.mpr c_174), ht, show r = k + 1 by omega, bto]) hP hD hS dX5_top_188
                    · refine lv_bipush (v := (-9 : Int32)) hx hb dX5_top_177 (by decide) ?_
                      refine lv_goto (tgt := 188) hx hb dX5_top_179 (by decide) ?_
                      rw [← hQQ]
                      exact m_i (tk1) hx hb hr hlocks (by rw [mo_top, if_neg c_6, if_pos c_13, hxk, hyg, nI_clamp hk31, bgi_M hg, if_pos c_174]) hP hD hS dX5_top_188
                  · refine lv_aload_n hx hb dX5_top_84 rfl (lv_at hl 0 rfl) ?_
                    refine va_get (D := (dC, dI)) (ci := 4) (v := .int (nI (n))) (C := RX5) (T := TX5) (N := 16) hx hb hts hi5 hown hK hP 0 rfl rfl 6 (by decide) (hts (.fieldLink RX5 67 "BurstWordsModel" "many" "I") (by decide +kernel)) (fun _ h9 => h9) rfl dX5_top_85 ?_
                    refine lv_istore_n (lv' := [(3, .int (nI (n))), (0, .ref (a 0)), (1, .int (nI (k))), (2, .int (nM g)), (4, .int (nI (r)))]) hx hb dX5_top_88 rfl hl (by decide) rfl (fun ls hl => ?_)
                    refine lv_iconst (v := nI (0)) hx hb dX5_top_89 (by decide) ?_
                    refine lv_istore (lv' := [(5, .int (nI (0))), (3, .int (nI (n))), (0, .ref (a 0)), (1, .int (nI (k))), (2, .int (nM g)), (4, .int (nI (r)))]) hx hb dX5_top_90 hl (by decide) rfl (fun ls hl => ?_)
                    have lp_92 : ∀ (j_92 : Nat) (j : Nat), (j ≤ n) → (n - j) < j_92 → ∀ ls : Array Slot, lv_has ls 6 [(0, .ref (a 0)), (1, .int (nI (k))), (2, .int (nM g)), (3, .int (nI (bse O n (bkR O n (fun e => !(bhd (V e) (bln v) == v)) r) j))), (4, .int (nI (r))), (5, .int (nI (j)))] → W p l e rm_X5_top s m ([.ref (a 0), .int (x), .int (y)] : List Value).toArray below meth c H locs 0 0 QQ (F0 m 92 ls []) := by
                      intro j_92
                      induction j_92 with
                      | zero => intro j _ h0; exact absurd h0 (Nat.not_lt_zero _)
                      | succ j_92 ih_92 =>
                        intro j hj hf_92 ls hl
                        refine lv_iload hx hb dX5_top_92 (lv_at hl 5 rfl) ?_
                        refine lv_aload_n hx hb dX5_top_94 rfl (lv_at hl 0 rfl) ?_
                        refine va_get (D := (dC, dI)) (ci := 4) (v := .int (nI (n))) (C := RX5) (T := TX5) (N := 16) hx hb hts hi5 hown hK hP 0 rfl rfl 6 (by decide) (hts (.fieldLink RX5 67 "BurstWordsModel" "many" "I") (by decide +kernel)) (fun _ h9 => h9) rfl dX5_top_95 ?_
                        refine n_ge (tgt := 148) hx hb dX5_top_98 (by decide) (by omega) (by omega) (fun c_98 => ?_) (fun c_98 => ?_)
                        · refine lv_iload_n hx hb dX5_top_148 rfl (lv_at hl 3 rfl) ?_
                          refine lv_aload_n hx hb dX5_top_149 rfl (lv_at hl 0 rfl) ?_
                          refine va_get (D := (dC, dI)) (ci := 4) (v := .int (nI (n))) (C := RX5) (T := TX5) (N := 16) hx hb hts hi5 hown hK hP 0 rfl rfl 6 (by decide) (hts (.fieldLink RX5 67 "BurstWordsModel" "many" "I") (by decide +kernel)) (fun _ h9 => h9) rfl dX5_top_150 ?_
                          refine n_ge (tgt := 163) hx hb dX5_top_153 (by decide) (Nat.lt_of_le_of_lt (bse_le _ _ _ _) (by omega)) (by omega) (fun c_153 => ?_) (fun c_153 => ?_)
                          · refine lv_iinc (v := nI (r + 1)) (lv' := [(4, .int (nI (r + 1))), (0, .ref (a 0)), (1, .int (nI (k))), (2, .int (nM g)), (3, .int (nI (bse O n (bkR O n (fun e => !(bhd (V e) (bln v) == v)) r) j))), (5, .int (nI (j)))]) hx hb dX5_top_163 hl (k := 4) rfl (inc1 _) (by decide) rfl (fun ls hl => ?_)
                            refine lv_goto (tgt := 69) hx hb dX5_top_166 (by decide) ?_
                            exact ih_69 (r + 1) (tk1) (bse O n (bkR O n (fun e => !(bhd (V e) (bln v) == v)) r) j) (by omega) (by omega) (by rw [show j = n by omega]; rfl) (fun q hq => by rw [htk q hq, bkR_s]; have e : bse O n (bkR O n (fun e => !(bhd (V e) (bln v) == v)) r) n = n := (by have := bse_le O n (bkR O n (fun e => !(bhd (V e) (bln v) == v)) r) n; have e2 : j = n := (by omega); rw [e2] at c_153; omega); rw [e, show (q == n) = false by simp; omega, Bool.or_false]) (by omega) _ _ hP hD hS ls (lv_sub hl [1, 2, 3, 4, 0] rfl)
                          · refine lv_aload_n hx hb dX5_top_156 rfl (lv_at hl 0 rfl) ?_
                            refine va_get (D := (dC, dI)) (ci := 4) (v := .ref (a 9)) (C := RX5) (T := TX5) (N := 16) hx hb hts hi5 hown hK hP 0 rfl rfl 15 (by decide) (hts (.fieldLink RX5 39 "BurstWordsModel" "taken" "[Z") (by decide +kernel)) (fun _ h9 => h9) rfl dX5_top_157 ?_
                            refine lv_iload_n hx hb dX5_top_160 rfl (lv_at hl 3 rfl) ?_
                            refine lv_iconst (v := nI (1)) hx hb dX5_top_161 (by decide) ?_
                            refine s_z (k := bse O n (bkR O n (fun e => !(bhd (V e) (bln v) == v)) r) j) (z := true) (hz := rfl) hx hb hK hP hD hS 9 2 rfl rfl (hin := (by omega)) (hn := by decide) (hdg := dX5_top_162) (fun H locs hP hD hS => ?_)
                            have hP : va_P (dC, dI) vwCl (wm a cI cJ cZ ty tm b wo of n no nm un um sa sl si sn (upd tk1 (bse O n (bkR O n (fun e => !(bhd (V e) (bln v) == v)) r) j) (bI (true)))) H := hP
                            have hD : va_D A (wm a cI cJ cZ ty tm b wo of n no nm un um sa sl si sn (upd tk1 (bse O n (bkR O n (fun e => !(bhd (V e) (bln v) == v)) r) j) (bI (true)))) := hD
                            refine lv_iinc (v := nI (r + 1)) (lv' := [(4, .int (nI (r + 1))), (0, .ref (a 0)), (1, .int (nI (k))), (2, .int (nM g)), (3, .int (nI (bse O n (bkR O n (fun e => !(bhd (V e) (bln v) == v)) r) j))), (5, .int (nI (j)))]) hx hb dX5_top_163 hl (k := 4) rfl (inc1 _) (by decide) rfl (fun ls hl => ?_)
                            refine lv_goto (tgt := 69) hx hb dX5_top_166 (by decide) ?_
                            exact ih_69 (r + 1) (upd tk1 (bse O n (bkR O n (fun e => !(bhd (V e) (bln v) == v)) r) j) (bI (true))) (bse O n (bkR O n (fun e => !(bhd (V e) (bln v) == v)) r) j) (by omega) (by omega) (by rw [show j = n by omega]; rfl) (fun q hq => by have e2 : j = n := (by omega); rw [e2, bkR_s]; by_cases e : q = bse O n (bkR O n (fun e => !(bhd (V e) (bln v) == v)) r) n; rw [e, pk_us, beq_self_eq_true, Bool.or_true]; rw [pk_un e, htk q hq, beq_false_of_ne e, Bool.or_false]) (by omega) _ _ hP hD hS ls (lv_sub hl [1, 2, 3, 4, 0] rfl)
                        · refine lv_aload_n hx hb dX5_top_101 rfl (lv_at hl 0 rfl) ?_
                          refine va_get (D := (dC, dI)) (ci := 4) (v := .ref (a 9)) (C := RX5) (T := TX5) (N := 16) hx hb hts hi5 hown hK hP 0 rfl rfl 15 (by decide) (hts (.fieldLink RX5 39 "BurstWordsModel" "taken" "[Z") (by decide +kernel)) (fun _ h9 => h9) rfl dX5_top_102 ?_
                          refine lv_iload hx hb dX5_top_105 (lv_at hl 5 rfl) ?_
                          refine g_z hx hb hK hP 9 2 rfl rfl (k := j) (by omega) (by decide) dX5_top_107 (v := bI (bkR O n (fun e => !(bhd (V e) (bln v) == v)) r j)) (htk _ (by omega)) ?_
                          refine b_ne (tgt := 140) hx hb dX5_top_108 (by decide) (fun c_108 => ?_) (fun c_108 => ?_)
                          · refine lv_iload_n hx hb dX5_top_140 rfl (lv_at hl 3 rfl) ?_
                            refine lv_istore_n (lv' := [(3, .int (nI (bse O n (bkR O n (fun e => !(bhd (V e) (bln v) == v)) r) j))), (0, .ref (a 0)), (1, .int (nI (k))), (2, .int (nM g)), (4, .int (nI (r))), (5, .int (nI (j)))]) hx hb dX5_top_141 rfl hl (by decide) rfl (fun ls hl => ?_)
                            refine lv_iinc (v := nI (j + 1)) (lv' := [(5, .int (nI (j + 1))), (3, .int (nI (bse O n (bkR O n (fun e => !(bhd (V e) (bln v) == v)) r) j))), (0, .ref (a 0)), (1, .int (nI (k))), (2, .int (nM g)), (4, .int (nI (r)))]) hx hb dX5_top_142 hl (k := 5) rfl (inc1 _) (by decide) rfl (fun ls hl => ?_)
                            refine lv_goto (tgt := 92) hx hb dX5_top_145 (by decide) ?_
                            exact ih_92 (j + 1) (by omega) (by omega) ls (lv_cg (l := [(0, .ref (a 0)), (1, .int (nI (k))), (2, .int (nM g)), (3, .int (nI (bse O n (bkR O n (fun e => !(bhd (V e) (bln v) == v)) r) j))), (4, .int (nI (r))), (5, .int (nI (j + 1)))]) (lv_sub hl [2, 3, 4, 1, 5, 0] rfl) (by rw [bse, if_neg (by simp [c_108])]))
                          · refine lv_iload_n hx hb dX5_top_111 rfl (lv_at hl 3 rfl) ?_
                            refine lv_aload_n hx hb dX5_top_112 rfl (lv_at hl 0 rfl) ?_
                            refine va_get (D := (dC, dI)) (ci := 4) (v := .int (nI (n))) (C := RX5) (T := TX5) (N := 16) hx hb hts hi5 hown hK hP 0 rfl rfl 6 (by decide) (hts (.fieldLink RX5 67 "BurstWordsModel" "many" "I") (by decide +kernel)) (fun _ h9 => h9) rfl dX5_top_113 ?_
                            refine n_eq (tgt := 135) hx hb dX5_top_116 (by decide) (Nat.lt_of_le_of_lt (bse_le _ _ _ _) (by omega)) (by omega) (fun c_116 => ?_) (fun c_116 => ?_)
                            · refine lv_iload hx hb dX5_top_135 (lv_at hl 5 rfl) ?_
                              refine lv_goto (tgt := 141) hx hb dX5_top_137 (by decide) ?_
                              refine lv_istore_n (lv' := [(3, .int (nI (j))), (0, .ref (a 0)), (1, .int (nI (k))), (2, .int (nM g)), (4, .int (nI (r))), (5, .int (nI (j)))]) hx hb dX5_top_141 rfl hl (by decide) rfl (fun ls hl => ?_)
                              refine lv_iinc (v := nI (j + 1)) (lv' := [(5, .int (nI (j + 1))), (3, .int (nI (j))), (0, .ref (a 0)), (1, .int (nI (k))), (2, .int (nM g)), (4, .int (nI (r)))]) hx hb dX5_top_142 hl (k := 5) rfl (inc1 _) (by decide) rfl (fun ls hl => ?_)
                              refine lv_goto (tgt := 92) hx hb dX5_top_145 (by decide) ?_
                              exact ih_92 (j + 1) (by omega) (by omega) ls (lv_cg (l := [(0, .ref (a 0)), (1, .int (nI (k))), (2, .int (nM g)), (3, .int (nI (j))), (4, .int (nI (r))), (5, .int (nI (j + 1)))]) (lv_sub hl [2, 3, 4, 1, 5, 0] rfl) (by rw [bse, if_pos (by simp [c_108, c_116])]))
                            · refine lv_aload_n hx hb dX5_top_119 rfl (lv_at hl 0 rfl) ?_
                              refine va_get (D := (dC, dI)) (ci := 4) (v := .ref (a 3)) (C := RX5) (T := TX5) (N := 16) hx hb hts hi5 hown hK hP 0 rfl rfl 5 (by decide) (hts (.fieldLink RX5 21 "BurstWordsModel" "often" "[I") (by decide +kernel)) (fun _ h9 => h9) rfl dX5_top_120 ?_
                              refine lv_iload hx hb dX5_top_123 (lv_at hl 5 rfl) ?_
                              refine g_i hx hb hK hP 3 0 rfl rfl (k := j) (by omega) (by decide) dX5_top_125 (v := nI (O j)) (hk _ (by omega)).2.2.2.1 ?_
                              refine lv_aload_n hx hb dX5_top_126 rfl (lv_at hl 0 rfl) ?_
                              refine va_get (D := (dC, dI)) (ci := 4) (v := .ref (a 3)) (C := RX5) (T := TX5) (N := 16) hx hb hts hi5 hown hK hP 0 rfl rfl 5 (by decide) (hts (.fieldLink RX5 21 "BurstWordsModel" "often" "[I") (by decide +kernel)) (fun _ h9 => h9) rfl dX5_top_127 ?_
                              refine lv_iload_n hx hb dX5_top_130 rfl (lv_at hl 3 rfl) ?_
                              refine g_i hx hb hK hP 3 0 rfl rfl (k := bse O n (bkR O n (fun e => !(bhd (V e) (bln v) == v)) r) j) (by have := bse_le O n (bkR O n (fun e => !(bhd (V e) (bln v) == v)) r) j; omega) (by decide) dX5_top_131 (v := nI (O (bse O n (bkR O n (fun e => !(bhd (V e) (bln v) == v)) r) j))) (hk _ (by have := bse_le O n (bkR O n (fun e => !(bhd (V e) (bln v) == v)) r) j; omega)).2.2.2.1 ?_
                              refine n_le (tgt := 140) hx hb dX5_top_132 (by decide) (Nat.lt_of_le_of_lt (hk _ (by omega)).2.2.2.2.2 (by decide)) (Nat.lt_of_le_of_lt (hk _ (by have := bse_le O n (bkR O n (fun e => !(bhd (V e) (bln v) == v)) r) j; omega)).2.2.2.2.2 (by decide)) (fun c_132 => ?_) (fun c_132 => ?_)
                              · refine lv_iload_n hx hb dX5_top_140 rfl (lv_at hl 3 rfl) ?_
                                refine lv_istore_n (lv' := [(3, .int (nI (bse O n (bkR O n (fun e => !(bhd (V e) (bln v) == v)) r) j))), (0, .ref (a 0)), (1, .int (nI (k))), (2, .int (nM g)), (4, .int (nI (r))), (5, .int (nI (j)))]) hx hb dX5_top_141 rfl hl (by decide) rfl (fun ls hl => ?_)
                                refine lv_iinc (v := nI (j + 1)) (lv' := [(5, .int (nI (j + 1))), (3, .int (nI (bse O n (bkR O n (fun e => !(bhd (V e) (bln v) == v)) r) j))), (0, .ref (a 0)), (1, .int (nI (k))), (2, .int (nM g)), (4, .int (nI (r)))]) hx hb dX5_top_142 hl (k := 5) rfl (inc1 _) (by decide) rfl (fun ls hl => ?_)
                                refine lv_goto (tgt := 92) hx hb dX5_top_145 (by decide) ?_
                                exact ih_92 (j + 1) (by omega) (by omega) ls (lv_cg (l := [(0, .ref (a 0)), (1, .int (nI (k))), (2, .int (nM g)), (3, .int (nI (bse O n (bkR O n (fun e => !(bhd (V e) (bln v) == v)) r) j))), (4, .int (nI (r))), (5, .int (nI (j + 1)))]) (lv_sub hl [2, 3, 4, 1, 5, 0] rfl) (by rw [bse, if_neg (by simp [c_116]; omega)]))
                              · refine lv_iload hx hb dX5_top_135 (lv_at hl 5 rfl) ?_
                                refine lv_goto (tgt := 141) hx hb dX5_top_137 (by decide) ?_
                                refine lv_istore_n (lv' := [(3, .int (nI (j))), (0, .ref (a 0)), (1, .int (nI (k))), (2, .int (nM g)), (4, .int (nI (r))), (5, .int (nI (j)))]) hx hb dX5_top_141 rfl hl (by decide) rfl (fun ls hl => ?_)
                                refine lv_iinc (v := nI (j + 1)) (lv' := [(5, .int (nI (j + 1))), (3, .int (nI (j))), (0, .ref (a 0)), (1, .int (nI (k))), (2, .int (nM g)), (4, .int (nI (r)))]) hx hb dX5_top_142 hl (k := 5) rfl (inc1 _) (by decide) rfl (fun ls hl => ?_)
                                refine lv_goto (tgt := 92) hx hb dX5_top_145 (by decide) ?_
                                exact ih_92 (j + 1) (by omega) (by omega) ls (lv_cg (l := [(0, .ref (a 0)), (1, .int (nI (k))), (2, .int (nM g)), (3, .int (nI (j))), (4, .int (nI (r))), (5, .int (nI (j + 1)))]) (lv_sub hl [2, 3, 4, 1, 5, 0] rfl) (by rw [bse, if_pos (by simp [c_108]; omega)]))
                    exact lp_92 _ (0) (by omega) (Nat.lt_succ_self _) ls (lv_sub hl [2, 3, 4, 1, 5, 0] rfl)
            exact lp_69 _ (0) (tk1) (n) (by omega) (by omega) rfl (fun q hq => htk q (by omega)) (Nat.lt_succ_self _) _ _ hP hD hS ls (lv_sub hl [2, 3, 4, 1, 0] rfl)
          · refine lv_aload_n hx hb dX5_top_28 rfl (lv_at hl 0 rfl) ?_
            refine va_get (D := (dC, dI)) (ci := 4) (v := .ref (a 9)) (C := RX5) (T := TX5) (N := 16) hx hb hts hi5 hown hK hP 0 rfl rfl 15 (by decide) (hts (.fieldLink RX5 39 "BurstWordsModel" "taken" "[Z") (by decide +kernel)) (fun _ h9 => h9) rfl dX5_top_29 ?_
            refine lv_iload_n hx hb dX5_top_32 rfl (lv_at hl 3 rfl) ?_
            refine lv_aload_n hx hb dX5_top_33 rfl (lv_at hl 0 rfl) ?_
            refine va_get (D := (dC, dI)) (ci := 4) (v := .ref (a 2)) (C := RX5) (T := TX5) (N := 16) hx hb hts hi5 hown hK hP 0 rfl rfl 4 (by decide) (hts (.fieldLink RX5 17 "BurstWordsModel" "word" "[J") (by decide +kernel)) (fun _ h9 => h9) rfl dX5_top_34 ?_
            refine lv_iload_n hx hb dX5_top_37 rfl (lv_at hl 3 rfl) ?_
            refine g_l hx hb hK hP 2 1 rfl rfl (k := e1) (by omega) (by decide) dX5_top_38 (v := lN (V e1)) (hk _ (by omega)).1 ?_
            refine lv_aload_n hx hb dX5_top_39 rfl (lv_at hl 0 rfl) ?_
            refine c_Vl (As := []) (rest := [.long (lN (V e1)), .int (nI (e1)), .ref (a 9)]) (ci := 4) (q0 := 0) S (c_X5_own l dC dI cI cJ cZ a ty tm b wo of n no nm un um sa sl si sn tk1 v V O K SA SL SI hmw hmd hmn hms ) (cwV 0 hts gX5_top_X5_own rfl rfl rfl (by decide +kernel) ⟨Nat.le_of_ble_eq_true rfl, Nat.le_of_ble_eq_true rfl⟩) hK hP rfl rfl rfl hl.1 rfl (Nat.le_of_ble_eq_true rfl) dX5_top_40 ⟨Nat.le_of_ble_eq_true rfl, Nat.le_of_ble_eq_true rfl⟩ ?_
            refine c_Si (As := [.long (lN (V e1)), .long (lN (v))]) (rest := [.int (nI (e1)), .ref (a 9)]) S (c_X5_begins l (V e1) v (w63 (hk _ (by omega)).2.1.1) (w63 hvw.1)) (va_cwS 2 hts gX5_top_X5_begins rfl rfl rfl (by decide +kernel) ⟨Nat.le_of_ble_eq_true rfl, Nat.le_of_ble_eq_true rfl⟩) rfl hl.1 rfl (Nat.le_of_ble_eq_true rfl) dX5_top_43 ⟨Nat.le_of_ble_eq_true rfl, Nat.le_of_ble_eq_true rfl⟩ ?_
            refine b_ne (tgt := 53) hx hb dX5_top_46 (by decide) (fun c_46 => ?_) (fun c_46 => ?_)
            · refine lv_iconst (v := nI (0)) hx hb dX5_top_53 (by decide) ?_
              refine s_z (k := e1) (z := false) (hz := rfl) hx hb hK hP hD hS 9 2 rfl rfl (hin := (by omega)) (hn := by decide) (hdg := dX5_top_54) (fun H locs hP hD hS => ?_)
              have hP : va_P (dC, dI) vwCl (wm a cI cJ cZ ty tm b wo of n no nm un um sa sl si sn (upd tk1 e1 (bI (false)))) H := hP
              have hD : va_D A (wm a cI cJ cZ ty tm b wo of n no nm un um sa sl si sn (upd tk1 e1 (bI (false)))) := hD
              refine lv_iinc (v := nI (e1 + 1)) (lv' := [(3, .int (nI (e1 + 1))), (0, .ref (a 0)), (1, .int (nI (k))), (2, .int (nM g))]) hx hb dX5_top_55 hl (k := 3) rfl (inc1 _) (by decide) rfl (fun ls hl => ?_)
              refine lv_goto (tgt := 20) hx hb dX5_top_58 (by decide) ?_
              exact ih_20 (e1 + 1) (upd tk1 e1 (bI (false))) (by omega) (lt_s (fun q hq => by rw [pk_un (by omega)]; exact htk q hq) (by rw [pk_us]; simp [c_46])) (by omega) _ _ hP hD hS ls (lv_sub hl [1, 2, 3, 0] rfl)
            · refine lv_iconst (v := nI (1)) hx hb dX5_top_49 (by decide) ?_
              refine lv_goto (tgt := 54) hx hb dX5_top_50 (by decide) ?_
              refine s_z (k := e1) (z := true) (hz := rfl) hx hb hK hP hD hS 9 2 rfl rfl (hin := (by omega)) (hn := by decide) (hdg := dX5_top_54) (fun H locs hP hD hS => ?_)
              have hP : va_P (dC, dI) vwCl (wm a cI cJ cZ ty tm b wo of n no nm un um sa sl si sn (upd tk1 e1 (bI (true)))) H := hP
              have hD : va_D A (wm a cI cJ cZ ty tm b wo of n no nm un um sa sl si sn (upd tk1 e1 (bI (true)))) := hD
              refine lv_iinc (v := nI (e1 + 1)) (lv' := [(3, .int (nI (e1 + 1))), (0, .ref (a 0)), (1, .int (nI (k))), (2, .int (nM g))]) hx hb dX5_top_55 hl (k := 3) rfl (inc1 _) (by decide) rfl (fun ls hl => ?_)
              refine lv_goto (tgt := 20) hx hb dX5_top_58 (by decide) ?_
              exact ih_20 (e1 + 1) (upd tk1 e1 (bI (true))) (by omega) (lt_s (fun q hq => by rw [pk_un (by omega)]; exact htk q hq) (by rw [pk_us]; simp [c_46])) (by omega) _ _ hP hD hS ls (lv_sub hl [1, 2, 3, 0] rfl)
      exact lp_20 _ (0) (tk) (by omega) lt_0 (Nat.lt_succ_self _) _ _ hP hD hS ls (lv_sub hl [1, 2, 3, 0] rfl)
    · refine lv_iconst (v := (-1 : Int32)) hx hb dX5_top_16 (by decide) ?_
      rw [← hQQ]
      exact m_i (tk) hx hb hr hlocks (by rw [mo_top, if_neg c_6, if_neg (nt c_13)]) hP hD hS dX5_top_17
abbrev rm_X5_ask : Room := { frames := 4, cells := 0, slots := 0, locals := 90 }
set_option maxHeartbeats 4000000 in
set_option maxRecDepth 100000 in
theorem c_X5_ask (l : Launch) (dC : Nat → ClassId) (dI : Nat → Nat → Nat) (cI cJ cZ : ClassId) (a : Nat → Nat) (ty : Nat → Int32) (tm b : Nat) (wo : Nat → Int64) (of : Nat → Int32) (n : Nat) (no : Nat → Int64) (nm : Nat) (un : Nat → Int64) (um : Nat) (sa sl si : Nat → Int32) (sn : Nat) (tk : Nat → Int32) (v : Nat) (V O K SA SL SI : Nat → Nat) (hmw : bMW ty tm v) (hmd : bMD wo of n V O) (hmn : bMN no nm K) (hms : bMS sa sl si sn SA SL SI) (sz : Nat) : Met l yX5_ask wsX5_ask rm_X5_ask (mPc (dC, dI) (tysA cI cJ cZ) (wm a cI cJ cZ ty tm b wo of n no nm un um sa sl si sn tk) sz [.ref (a 0)]) (mQi (dC, dI) (fun (r : Int32) (u : Nat → Int32) => r = (if 1 < fb_ct (fun k => bft (V k) SA SL SI sn) n then (bao V n (fun k => bft (V k) SA SL SI sn) (fb_ct (fun k => bft (V k) SA SL SI sn) n) 7).1 else -9)) (fun u => wm a cI cJ cZ ty tm b wo of n no nm un um sa sl si sn u) (va_A (wm a cI cJ cZ ty tm b wo of n no nm un um sa sl si sn tk) sz)) 0 0 (va_A (wm a cI cJ cZ ty tm b wo of n no nm un um sa sl si sn tk) sz) := by
  refine met_m (cc := cX5_ask) (maxL := 8) (ret := (some .int)) (own := RX5) (Qc := fun A => mQi (dC, dI) (fun (r : Int32) (u : Nat → Int32) => r = (if 1 < fb_ct (fun k => bft (V k) SA SL SI sn) n then (bao V n (fun k => bft (V k) SA SL SI sn) (fb_ct (fun k => bft (V k) SA SL SI sn) n) 7).1 else -9)) (fun u => wm a cI cJ cZ ty tm b wo of n no nm un um sa sl si sn u) A) (by decide) rfl rfl (Nat.le_of_ble_eq_true rfl) ?_
  intro p e s m below meth c S hr hlocks hname hK A hA hP hD hS ls hl
  obtain ⟨hx, hb, hml, hown, hts⟩ := id S
  generalize hQQ : MQ below (mQi (dC, dI) (fun (r : Int32) (u : Nat → Int32) => r = (if 1 < fb_ct (fun k => bft (V k) SA SL SI sn) n then (bao V n (fun k => bft (V k) SA SL SI sn) (fb_ct (fun k => bft (V k) SA SL SI sn) n) 7).1 else -9)) (fun u => wm a cI cJ cZ ty tm b wo of n no nm un um sa sl si sn u) A) ([.ref (a 0)] : List Value).toArray s 0 0 A = QQ
  have hl : lv_has ls 8 [(0, .ref (a 0))] := hl
  have hi5 : ∀ w ∈ wsX50, w ∈ wsX5_ask := fun _ h => List.mem_cons_of_mem _ (List.mem_append_right _ h)
  obtain ⟨hvw, htm, hty⟩ := id hmw; obtain ⟨hn, hk⟩ := id hmd; obtain ⟨hnm, hkn⟩ := id hmn; obtain ⟨hsn, hks⟩ := id hms
  have hFN : fb_ct (fun k => bft (V k) SA SL SI sn) n ≤ n := fb_ct_le _ n
  have hAO := bao_le V n (fun k => bft (V k) SA SL SI sn) (fb_ct (fun k => bft (V k) SA SL SI sn) n) (by omega)
  refine lv_aload_n hx hb dX5_ask_0 rfl (lv_at hl 0 rfl) ?_
  refine lv_iconst (v := nI (0)) hx hb dX5_ask_1 (by decide) ?_
  refine va_put (D := (dC, dI)) (ci := 4) (v := .int (nI (0))) (ty := .int) (C := RX5) (T := TX5) (N := 16) hx hb hts hi5 tyX5 tyX5_ok nmX5 hown hK hP hD hS 0 rfl rfl 0 (by decide) (hts (.fieldLink RX5 43 "BurstWordsModel" "thrown" "I") (by decide +kernel)) (fun _ h9 => h9) rfl (by decide +kernel) rfl rfl (Nat.le_of_ble_eq_true rfl) dX5_ask_2 (fun H locs hP hD hS => ?_)
  have hP : va_P (dC, dI) vwCl (wm a cI cJ cZ ty tm b wo of n no nm un um sa sl si sn tk) H := hP
  have hD : va_D A (wm a cI cJ cZ ty tm b wo of n no nm un um sa sl si sn tk) := hD
  refine lv_aload_n hx hb dX5_ask_5 rfl (lv_at hl 0 rfl) ?_
  refine c_Vi (As := []) (rest := []) (ci := 4) (q0 := 0) S (c_X5_fitMany l dC dI cI cJ cZ a ty tm b wo of n no nm un um sa sl si sn tk v V O K SA SL SI hmw hmd hmn hms ) (cwV 0 hts gX5_ask_X5_fitMany rfl rfl rfl (by decide +kernel) ⟨Nat.le_of_ble_eq_true rfl, Nat.le_of_ble_eq_true rfl⟩) hK hP rfl rfl rfl hl.1 rfl (Nat.le_of_ble_eq_true rfl) dX5_ask_6 ⟨Nat.le_of_ble_eq_true rfl, Nat.le_of_ble_eq_true rfl⟩ ?_
  refine lv_istore_n (lv' := [(1, .int (nI (fb_ct (fun k => bft (V k) SA SL SI sn) n))), (0, .ref (a 0))]) hx hb dX5_ask_9 rfl hl (by decide) rfl (fun ls hl => ?_)
  refine lv_bipush (v := (-9 : Int32)) hx hb dX5_ask_10 (by decide) ?_
  refine lv_istore_n (lv' := [(2, .int ((-9 : Int32))), (1, .int (nI (fb_ct (fun k => bft (V k) SA SL SI sn) n))), (0, .ref (a 0))]) hx hb dX5_ask_12 rfl hl (by decide) rfl (fun ls hl => ?_)
  refine lv_bipush (v := nI (99)) hx hb dX5_ask_13 (by decide) ?_
  refine lv_istore_n (lv' := [(3, .int (nI (99))), (2, .int ((-9 : Int32))), (1, .int (nI (fb_ct (fun k => bft (V k) SA SL SI sn) n))), (0, .ref (a 0))]) hx hb dX5_ask_15 rfl hl (by decide) rfl (fun ls hl => ?_)
  refine lv_iconst (v := nI (0)) hx hb dX5_ask_16 (by decide) ?_
  refine lv_istore (lv' := [(4, .int (nI (0))), (3, .int (nI (99))), (2, .int ((-9 : Int32))), (1, .int (nI (fb_ct (fun k => bft (V k) SA SL SI sn) n))), (0, .ref (a 0))]) hx hb dX5_ask_17 hl (by decide) rfl (fun ls hl => ?_)
  have lp_19 : ∀ (j_19 : Nat) (e1 : Nat) (tk1 : Nat → Int32), (e1 ≤ n) → (∀ q, q < e1 → tk1 q = bI ((fun k => bft (V k) SA SL SI sn) q)) → (n - e1) < j_19 → ∀ (H : Heap) (locs : List Loc), va_P (dC, dI) vwCl (wm a cI cJ cZ ty tm b wo of n no nm un um sa sl si sn tk1) H → va_D A (wm a cI cJ cZ ty tm b wo of n no nm un um sa sl si sn tk1) → va_S A s.heap H locs → ∀ ls : Array Slot, lv_has ls 8 [(0, .ref (a 0)), (1, .int (nI (fb_ct (fun k => bft (V k) SA SL SI sn) n))), (2, .int ((-9 : Int32))), (3, .int (nI (99))), (4, .int (nI (e1)))] → W p l e rm_X5_ask s m ([.ref (a 0)] : List Value).toArray below meth c H locs 0 0 QQ (F0 m 19 ls []) := by
    intro j_19
    induction j_19 with
    | zero => intro e1 tk1 _ _ h0; exact absurd h0 (Nat.not_lt_zero _)
    | succ j_19 ih_19 =>
      intro e1 tk1 he htk hf_19 H locs hP hD hS ls hl
      refine lv_iload hx hb dX5_ask_19 (lv_at hl 4 rfl) ?_
      refine lv_aload_n hx hb dX5_ask_21 rfl (lv_at hl 0 rfl) ?_
      refine va_get (D := (dC, dI)) (ci := 4) (v := .int (nI (n))) (C := RX5) (T := TX5) (N := 16) hx hb hts hi5 hown hK hP 0 rfl rfl 6 (by decide) (hts (.fieldLink RX5 67 "BurstWordsModel" "many" "I") (by decide +kernel)) (fun _ h9 => h9) rfl dX5_ask_22 ?_
      refine n_ge (tgt := 47) hx hb dX5_ask_25 (by decide) (by omega) (by omega) (fun c_25 => ?_) (fun c_25 => ?_)
      · refine lv_iconst (v := nI (0)) hx hb dX5_ask_47 (by decide) ?_
        refine lv_istore (lv' := [(4, .int (nI (0))), (0, .ref (a 0)), (1, .int (nI (fb_ct (fun k => bft (V k) SA SL SI sn) n))), (2, .int ((-9 : Int32))), (3, .int (nI (99)))]) hx hb dX5_ask_48 hl (by decide) rfl (fun ls hl => ?_)
        have lp_50 : ∀ (j_50 : Nat) (i : Nat), (i ≤ 7) → (i = 0 ∨ 1 < fb_ct (fun k => bft (V k) SA SL SI sn) n) → (7 - i) < j_50 → ∀ ls : Array Slot, lv_has ls 8 [(0, .ref (a 0)), (1, .int (nI (fb_ct (fun k => bft (V k) SA SL SI sn) n))), (2, .int ((bao V n (fun k => bft (V k) SA SL SI sn) (fb_ct (fun k => bft (V k) SA SL SI sn) n) i).1)), (3, .int (nI ((bao V n (fun k => bft (V k) SA SL SI sn) (fb_ct (fun k => bft (V k) SA SL SI sn) n) i).2))), (4, .int (nI (i)))] → W p l e rm_X5_ask s m ([.ref (a 0)] : List Value).toArray below meth c H locs 0 0 QQ (F0 m 50 ls []) := by
          intro j_50
          induction j_50 with
          | zero => intro i _ _ h0; exact absurd h0 (Nat.not_lt_zero _)
          | succ j_50 ih_50 =>
            intro i hi hi2 hf_50 ls hl
            refine lv_iload hx hb dX5_ask_50 (lv_at hl 4 rfl) ?_
            refine lv_bipush (v := nI (7)) hx hb dX5_ask_52 (by decide) ?_
            refine n_ge (tgt := 196) hx hb dX5_ask_54 (by decide) (by omega) (by omega) (fun c_54 => ?_) (fun c_54 => ?_)
            · refine lv_iload_n hx hb dX5_ask_196 rfl (lv_at hl 2 rfl) ?_
              rw [← hQQ]
              exact m_i (tk1) hx hb hr hlocks (by rw [if_pos (by omega), show i = 7 by omega]) hP hD hS dX5_ask_197
            · refine lv_iload_n hx hb dX5_ask_57 rfl (lv_at hl 1 rfl) ?_
              refine lv_iconst (v := nI (1)) hx hb dX5_ask_58 (by decide) ?_
              refine n_le (tgt := 196) hx hb dX5_ask_59 (by decide) (by omega) (by omega) (fun c_59 => ?_) (fun c_59 => ?_)
              · refine lv_iload_n hx hb dX5_ask_196 rfl (lv_at hl 2 rfl) ?_
                rw [← hQQ]
                exact m_i (tk1) hx hb hr hlocks (by rw [if_neg (by omega)]; rcases hi2 with e | e; rw [e]; rfl; exact absurd e (by omega)) hP hD hS dX5_ask_197
              · refine lv_iconst (v := nI (1)) hx hb dX5_ask_62 (by decide) ?_
                refine lv_istore (lv' := [(5, .int (nI (1))), (0, .ref (a 0)), (1, .int (nI (fb_ct (fun k => bft (V k) SA SL SI sn) n))), (2, .int ((bao V n (fun k => bft (V k) SA SL SI sn) (fb_ct (fun k => bft (V k) SA SL SI sn) n) i).1)), (3, .int (nI ((bao V n (fun k => bft (V k) SA SL SI sn) (fb_ct (fun k => bft (V k) SA SL SI sn) n) i).2))), (4, .int (nI (i)))]) hx hb dX5_ask_63 hl (by decide) rfl (fun ls hl => ?_)
                have lp_65 : ∀ (j_65 : Nat) (c1 : Nat), (1 ≤ c1) → (c1 ≤ 27) → (27 - c1) < j_65 → ∀ ls : Array Slot, lv_has ls 8 [(0, .ref (a 0)), (1, .int (nI (fb_ct (fun k => bft (V k) SA SL SI sn) n))), (2, .int ((bai V n (fun k => bft (V k) SA SL SI sn) (fb_ct (fun k => bft (V k) SA SL SI sn) n) i (bao V n (fun k => bft (V k) SA SL SI sn) (fb_ct (fun k => bft (V k) SA SL SI sn) n) i) (c1 - 1)).1)), (3, .int (nI ((bai V n (fun k => bft (V k) SA SL SI sn) (fb_ct (fun k => bft (V k) SA SL SI sn) n) i (bao V n (fun k => bft (V k) SA SL SI sn) (fb_ct (fun k => bft (V k) SA SL SI sn) n) i) (c1 - 1)).2))), (4, .int (nI (i))), (5, .int (nI (c1)))] → W p l e rm_X5_ask s m ([.ref (a 0)] : List Value).toArray below meth c H locs 0 0 QQ (F0 m 65 ls []) := by
                  intro j_65
                  induction j_65 with
                  | zero => intro c1 _ _ h0; exact absurd h0 (Nat.not_lt_zero _)
                  | succ j_65 ih_65 =>
                    intro c1 hc0 hc hf_65 ls hl
                    refine lv_iload hx hb dX5_ask_65 (lv_at hl 5 rfl) ?_
                    refine lv_bipush (v := nI (27)) hx hb dX5_ask_67 (by decide) ?_
                    refine n_ge (tgt := 190) hx hb dX5_ask_69 (by decide) (by omega) (by omega) (fun c_69 => ?_) (fun c_69 => ?_)
                    · refine lv_iinc (v := nI (i + 1)) (lv' := [(4, .int (nI (i + 1))), (0, .ref (a 0)), (1, .int (nI (fb_ct (fun k => bft (V k) SA SL SI sn) n))), (2, .int ((bai V n (fun k => bft (V k) SA SL SI sn) (fb_ct (fun k => bft (V k) SA SL SI sn) n) i (bao V n (fun k => bft (V k) SA SL SI sn) (fb_ct (fun k => bft (V k) SA SL SI sn) n) i) (c1 - 1)).1)), (3, .int (nI ((bai V n (fun k => bft (V k) SA SL SI sn) (fb_ct (fun k => bft (V k) SA SL SI sn) n) i (bao V n (fun k => bft (V k) SA SL SI sn) (fb_ct (fun k => bft (V k) SA SL SI sn) n) i) (c1 - 1)).2))), (5, .int (nI (c1)))]) hx hb dX5_ask_190 hl (k := 4) rfl (inc1 _) (by decide) rfl (fun ls hl => ?_)
                      refine lv_goto (tgt := 50) hx hb dX5_ask_193 (by decide) ?_
                      exact ih_50 (i + 1) (by omega) (Or.inr c_59) (by omega) ls (lv_cg (l := [(0, .ref (a 0)), (1, .int (nI (fb_ct (fun k => bft (V k) SA SL SI sn) n))), (2, .int ((bai V n (fun k => bft (V k) SA SL SI sn) (fb_ct (fun k => bft (V k) SA SL SI sn) n) i (bao V n (fun k => bft (V k) SA SL SI sn) (fb_ct (fun k => bft (V k) SA SL SI sn) n) i) (c1 - 1)).1)), (3, .int (nI ((bai V n (fun k => bft (V k) SA SL SI sn) (fb_ct (fun k => bft (V k) SA SL SI sn) n) i (bao V n (fun k => bft (V k) SA SL SI sn) (fb_ct (fun k => bft (V k) SA SL SI sn) n) i) (c1 - 1)).2))), (4, .int (nI (i + 1)))]) (lv_sub hl [1, 2, 3, 4, 0] rfl) (by rw [show c1 = 27 by omega]; rfl))
                    · refine lv_iconst (v := nI (0)) hx hb dX5_ask_72 (by decide) ?_
                      refine lv_istore (lv' := [(6, .int (nI (0))), (0, .ref (a 0)), (1, .int (nI (fb_ct (fun k => bft (V k) SA SL SI sn) n))), (2, .int ((bai V n (fun k => bft (V k) SA SL SI sn) (fb_ct (fun k => bft (V k) SA SL SI sn) n) i (bao V n (fun k => bft (V k) SA SL SI sn) (fb_ct (fun k => bft (V k) SA SL SI sn) n) i) (c1 - 1)).1)), (3, .int (nI ((bai V n (fun k => bft (V k) SA SL SI sn) (fb_ct (fun k => bft (V k) SA SL SI sn) n) i (bao V n (fun k => bft (V k) SA SL SI sn) (fb_ct (fun k => bft (V k) SA SL SI sn) n) i) (c1 - 1)).2))), (4, .int (nI (i))), (5, .int (nI (c1)))]) hx hb dX5_ask_73 hl (by decide) rfl (fun ls hl => ?_)
                      refine lv_iconst (v := nI (0)) hx hb dX5_ask_75 (by decide) ?_
                      refine lv_istore (lv' := [(7, .int (nI (0))), (6, .int (nI (0))), (0, .ref (a 0)), (1, .int (nI (fb_ct (fun k => bft (V k) SA SL SI sn) n))), (2, .int ((bai V n (fun k => bft (V k) SA SL SI sn) (fb_ct (fun k => bft (V k) SA SL SI sn) n) i (bao V n (fun k => bft (V k) SA SL SI sn) (fb_ct (fun k => bft (V k) SA SL SI sn) n) i) (c1 - 1)).1)), (3, .int (nI ((bai V n (fun k => bft (V k) SA SL SI sn) (fb_ct (fun k => bft (V k) SA SL SI sn) n) i (bao V n (fun k => bft (V k) SA SL SI sn) (fb_ct (fun k => bft (V k) SA SL SI sn) n) i) (c1 - 1)).2))), (4, .int (nI (i))), (5, .int (nI (c1)))]) hx hb dX5_ask_76 hl (by decide) rfl (fun ls hl => ?_)
                      have lp_78 : ∀ (j_78 : Nat) (j : Nat), (j ≤ n) → (n - j) < j_78 → ∀ ls : Array Slot, lv_has ls 8 [(0, .ref (a 0)), (1, .int (nI (fb_ct (fun k => bft (V k) SA SL SI sn) n))), (2, .int ((bai V n (fun k => bft (V k) SA SL SI sn) (fb_ct (fun k => bft (V k) SA SL SI sn) n) i (bao V n (fun k => bft (V k) SA SL SI sn) (fb_ct (fun k => bft (V k) SA SL SI sn) n) i) (c1 - 1)).1)), (3, .int (nI ((bai V n (fun k => bft (V k) SA SL SI sn) (fb_ct (fun k => bft (V k) SA SL SI sn) n) i (bao V n (fun k => bft (V k) SA SL SI sn) (fb_ct (fun k => bft (V k) SA SL SI sn) n) i) (c1 - 1)).2))), (4, .int (nI (i))), (5, .int (nI (c1))), (6, .int (nI (fb_ct (fun k => (fun k => bft (V k) SA SL SI sn) k && (bsg (V k) i == c1)) j))), (7, .int (nI (j)))] → W p l e rm_X5_ask s m ([.ref (a 0)] : List Value).toArray below meth c H locs 0 0 QQ (F0 m 78 ls []) := by
                        intro j_78
                        induction j_78 with
                        | zero => intro j _ h0; exact absurd h0 (Nat.not_lt_zero _)
                        | succ j_78 ih_78 =>
                          intro j hj hf_78 ls hl
                          refine lv_iload hx hb dX5_ask_78 (lv_at hl 7 rfl) ?_
                          refine lv_aload_n hx hb dX5_ask_80 rfl (lv_at hl 0 rfl) ?_
                          refine va_get (D := (dC, dI)) (ci := 4) (v := .int (nI (n))) (C := RX5) (T := TX5) (N := 16) hx hb hts hi5 hown hK hP 0 rfl rfl 6 (by decide) (hts (.fieldLink RX5 67 "BurstWordsModel" "many" "I") (by decide +kernel)) (fun _ h9 => h9) rfl dX5_ask_81 ?_
                          refine n_ge (tgt := 130) hx hb dX5_ask_84 (by decide) (by omega) (by omega) (fun c_84 => ?_) (fun c_84 => ?_)
                          · refine lv_iload hx hb dX5_ask_130 (lv_at hl 6 rfl) ?_
                            refine lv_iload_n hx hb dX5_ask_132 rfl (lv_at hl 1 rfl) ?_
                            refine lv_iload hx hb dX5_ask_133 (lv_at hl 6 rfl) ?_
                            refine lv_isub hx hb dX5_ask_135 ?_
                            refine tpi (pk_sub (Nat.le_trans (by have e : j = n := (by omega); rw [e]; exact fb_ct_sub (fun q _ h => by simp at h; exact h.1)) (Nat.le_refl _))) ?_
                            refine n_le (tgt := 144) hx hb dX5_ask_136 (by decide) (Nat.lt_of_le_of_lt (fb_ct_le _ j) (by omega)) (by omega) (fun c_136 => ?_) (fun c_136 => ?_)
                            · refine lv_iload_n hx hb dX5_ask_144 rfl (lv_at hl 1 rfl) ?_
                              refine lv_iload hx hb dX5_ask_145 (lv_at hl 6 rfl) ?_
                              refine lv_isub hx hb dX5_ask_147 ?_
                              refine tpi (pk_sub (Nat.le_trans (by have e : j = n := (by omega); rw [e]; exact fb_ct_sub (fun q _ h => by simp at h; exact h.1)) (Nat.le_refl _))) ?_
                              refine lv_istore (lv' := [(7, .int (nI ((fb_ct (fun k => bft (V k) SA SL SI sn) n) - (fb_ct (fun k => (fun k => bft (V k) SA SL SI sn) k && (bsg (V k) i == c1)) j)))), (0, .ref (a 0)), (1, .int (nI (fb_ct (fun k => bft (V k) SA SL SI sn) n))), (2, .int ((bai V n (fun k => bft (V k) SA SL SI sn) (fb_ct (fun k => bft (V k) SA SL SI sn) n) i (bao V n (fun k => bft (V k) SA SL SI sn) (fb_ct (fun k => bft (V k) SA SL SI sn) n) i) (c1 - 1)).1)), (3, .int (nI ((bai V n (fun k => bft (V k) SA SL SI sn) (fb_ct (fun k => bft (V k) SA SL SI sn) n) i (bao V n (fun k => bft (V k) SA SL SI sn) (fb_ct (fun k => bft (V k) SA SL SI sn) n) i) (c1 - 1)).2))), (4, .int (nI (i))), (5, .int (nI (c1))), (6, .int (nI (fb_ct (fun k => (fun k => bft (V k) SA SL SI sn) k && (bsg (V k) i == c1)) j)))]) hx hb dX5_ask_148 hl (by decide) rfl (fun ls hl => ?_)
                              refine lv_iload hx hb dX5_ask_150 (lv_at hl 0 rfl) ?_
                              refine lv_iload_n hx hb dX5_ask_152 rfl (lv_at hl 4 rfl) ?_
                              refine n_ge (tgt := 169) hx hb dX5_ask_153 (by decide) (by have := fb_ct_le (fun k => (fun k => bft (V k) SA SL SI sn) k && (bsg (V k) i == c1)) j; omega) (Nat.lt_of_le_of_lt (bai_le (by omega) (hAO i)) (by decide)) (fun c_153 => ?_) (fun c_153 => ?_)
                              · refine lv_iload_n hx hb dX5_ask_169 rfl (lv_at hl 3 rfl) ?_
                                refine lv_istore_n (lv' := [(2, .int ((bai V n (fun k => bft (V k) SA SL SI sn) (fb_ct (fun k => bft (V k) SA SL SI sn) n) i (bao V n (fun k => bft (V k) SA SL SI sn) (fb_ct (fun k => bft (V k) SA SL SI sn) n) i) (c1 - 1)).1)), (7, .int (nI ((fb_ct (fun k => bft (V k) SA SL SI sn) n) - (fb_ct (fun k => (fun k => bft (V k) SA SL SI sn) k && (bsg (V k) i == c1)) j)))), (0, .ref (a 0)), (1, .int (nI (fb_ct (fun k => bft (V k) SA SL SI sn) n))), (3, .int (nI ((bai V n (fun k => bft (V k) SA SL SI sn) (fb_ct (fun k => bft (V k) SA SL SI sn) n) i (bao V n (fun k => bft (V k) SA SL SI sn) (fb_ct (fun k => bft (V k) SA SL SI sn) n) i) (c1 - 1)).2))), (4, .int (nI (i))), (5, .int (nI (c1))), (6, .int (nI (fb_ct (fun k => (fun k => bft (V k) SA SL SI sn) k && (bsg (V k) i == c1)) j)))]) hx hb dX5_ask_170 rfl hl (by decide) rfl (fun ls hl => ?_)
                                refine lv_iload hx hb dX5_ask_171 (lv_at hl 1 rfl) ?_
                                refine lv_iload_n hx hb dX5_ask_173 rfl (lv_at hl 4 rfl) ?_
                                refine n_ge (tgt := 182) hx hb dX5_ask_174 (by decide) (by have := fb_ct_le (fun k => (fun k => bft (V k) SA SL SI sn) k && (bsg (V k) i == c1)) j; omega) (Nat.lt_of_le_of_lt (bai_le (by omega) (hAO i)) (by decide)) (fun c_174 => ?_) (fun c_174 => ?_)
                                · refine lv_iload_n hx hb dX5_ask_182 rfl (lv_at hl 4 rfl) ?_
                                  refine lv_istore_n (lv' := [(3, .int (nI ((bai V n (fun k => bft (V k) SA SL SI sn) (fb_ct (fun k => bft (V k) SA SL SI sn) n) i (bao V n (fun k => bft (V k) SA SL SI sn) (fb_ct (fun k => bft (V k) SA SL SI sn) n) i) (c1 - 1)).2))), (2, .int ((bai V n (fun k => bft (V k) SA SL SI sn) (fb_ct (fun k => bft (V k) SA SL SI sn) n) i (bao V n (fun k => bft (V k) SA SL SI sn) (fb_ct (fun k => bft (V k) SA SL SI sn) n) i) (c1 - 1)).1)), (7, .int (nI ((fb_ct (fun k => bft (V k) SA SL SI sn) n) - (fb_ct (fun k => (fun k => bft (V k) SA SL SI sn) k && (bsg (V k) i == c1)) j)))), (0, .ref (a 0)), (1, .int (nI (fb_ct (fun k => bft (V k) SA SL SI sn) n))), (4, .int (nI (i))), (5, .int (nI (c1))), (6, .int (nI (fb_ct (fun k => (fun k => bft (V k) SA SL SI sn) k && (bsg (V k) i == c1)) j)))]) hx hb dX5_ask_183 rfl hl (by decide) rfl (fun ls hl => ?_)
                                  refine lv_iinc (v := nI (c1 + 1)) (lv' := [(5, .int (nI (c1 + 1))), (3, .int (nI ((bai V n (fun k => bft (V k) SA SL SI sn) (fb_ct (fun k => bft (V k) SA SL SI sn) n) i (bao V n (fun k => bft (V k) SA SL SI sn) (fb_ct (fun k => bft (V k) SA SL SI sn) n) i) (c1 - 1)).2))), (2, .int ((bai V n (fun k => bft (V k) SA SL SI sn) (fb_ct (fun k => bft (V k) SA SL SI sn) n) i (bao V n (fun k => bft (V k) SA SL SI sn) (fb_ct (fun k => bft (V k) SA SL SI sn) n) i) (c1 - 1)).1)), (7, .int (nI ((fb_ct (fun k => bft (V k) SA SL SI sn) n) - (fb_ct (fun k => (fun k => bft (V k) SA SL SI sn) k && (bsg (V k) i == c1)) j)))), (0, .ref (a 0)), (1, .int (nI (fb_ct (fun k => bft (V k) SA SL SI sn) n))), (4, .int (nI (i))), (6, .int (nI (fb_ct (fun k => (fun k => bft (V k) SA SL SI sn) k && (bsg (V k) i == c1)) j)))]) hx hb dX5_ask_184 hl (k := 6) rfl (inc1 _) (by decide) rfl (fun ls hl => ?_)
                                  refine lv_goto (tgt := 65) hx hb dX5_ask_187 (by decide) ?_
                                  exact ih_65 (c1 + 1) (by omega) (by omega) (by omega) ls (lv_cg (l := [(0, .ref (a 0)), (1, .int (nI (fb_ct (fun k => bft (V k) SA SL SI sn) n))), (2, .int ((bai V n (fun k => bft (V k) SA SL SI sn) (fb_ct (fun k => bft (V k) SA SL SI sn) n) i (bao V n (fun k => bft (V k) SA SL SI sn) (fb_ct (fun k => bft (V k) SA SL SI sn) n) i) (c1 - 1)).1)), (3, .int (nI ((bai V n (fun k => bft (V k) SA SL SI sn) (fb_ct (fun k => bft (V k) SA SL SI sn) n) i (bao V n (fun k => bft (V k) SA SL SI sn) (fb_ct (fun k => bft (V k) SA SL SI sn) n) i) (c1 - 1)).2))), (4, .int (nI (i))), (5, .int (nI (c1 + 1)))]) (lv_sub hl [4, 5, 2, 1, 6, 0] rfl) (by have e : j = n := (by omega); rw [e] at c_136 c_153; have hg : bgr (fb_ct (fun k => bft (V k) SA SL SI sn) n) (fb_ct (fun k => (fun k => bft (V k) SA SL SI sn) k && (bsg (V k) i == c1)) n) = fb_ct (fun k => bft (V k) SA SL SI sn) n - fb_ct (fun k => (fun k => bft (V k) SA SL SI sn) k && (bsg (V k) i == c1)) n := if_neg (Nat.not_lt.mpr c_136); rw [bai_n hc0 (by rw [hg]; exact c_153)]))
                                · exact absurd c_174 (by omega)
                              · refine lv_bipush (v := nI (32)) hx hb dX5_ask_156 (by decide) ?_
                                refine lv_iload hx hb dX5_ask_158 (lv_at hl 5 rfl) ?_
                                refine lv_imul hx hb dX5_ask_160 ?_
                                refine tpi (pk_mul _ _) ?_
                                refine lv_iload hx hb dX5_ask_161 (lv_at hl 6 rfl) ?_
                                refine lv_iadd hx hb dX5_ask_163 ?_
                                refine tpi (nI_add _ _) ?_
                                refine lv_iconst (v := nI (1)) hx hb dX5_ask_164 (by decide) ?_
                                refine lv_isub hx hb dX5_ask_165 ?_
                                refine tpi (pk_sub (by omega)) ?_
                                refine lv_goto (tgt := 170) hx hb dX5_ask_166 (by decide) ?_
                                refine lv_istore_n (lv' := [(2, .int (nI (((32 * i) + c1) - 1))), (7, .int (nI ((fb_ct (fun k => bft (V k) SA SL SI sn) n) - (fb_ct (fun k => (fun k => bft (V k) SA SL SI sn) k && (bsg (V k) i == c1)) j)))), (0, .ref (a 0)), (1, .int (nI (fb_ct (fun k => bft (V k) SA SL SI sn) n))), (3, .int (nI ((bai V n (fun k => bft (V k) SA SL SI sn) (fb_ct (fun k => bft (V k) SA SL SI sn) n) i (bao V n (fun k => bft (V k) SA SL SI sn) (fb_ct (fun k => bft (V k) SA SL SI sn) n) i) (c1 - 1)).2))), (4, .int (nI (i))), (5, .int (nI (c1))), (6, .int (nI (fb_ct (fun k => (fun k => bft (V k) SA SL SI sn) k && (bsg (V k) i == c1)) j)))]) hx hb dX5_ask_170 rfl hl (by decide) rfl (fun ls hl => ?_)
                                refine lv_iload hx hb dX5_ask_171 (lv_at hl 1 rfl) ?_
                                refine lv_iload_n hx hb dX5_ask_173 rfl (lv_at hl 4 rfl) ?_
                                refine n_ge (tgt := 182) hx hb dX5_ask_174 (by decide) (by have := fb_ct_le (fun k => (fun k => bft (V k) SA SL SI sn) k && (bsg (V k) i == c1)) j; omega) (Nat.lt_of_le_of_lt (bai_le (by omega) (hAO i)) (by decide)) (fun c_174 => ?_) (fun c_174 => ?_)
                                · exact absurd c_174 (by omega)
                                · refine lv_iload hx hb dX5_ask_177 (lv_at hl 1 rfl) ?_
                                  refine lv_goto (tgt := 183) hx hb dX5_ask_179 (by decide) ?_
                                  refine lv_istore_n (lv' := [(3, .int (nI ((fb_ct (fun k => bft (V k) SA SL SI sn) n) - (fb_ct (fun k => (fun k => bft (V k) SA SL SI sn) k && (bsg (V k) i == c1)) j)))), (2, .int (nI (((32 * i) + c1) - 1))), (7, .int (nI ((fb_ct (fun k => bft (V k) SA SL SI sn) n) - (fb_ct (fun k => (fun k => bft (V k) SA SL SI sn) k && (bsg (V k) i == c1)) j)))), (0, .ref (a 0)), (1, .int (nI (fb_ct (fun k => bft (V k) SA SL SI sn) n))), (4, .int (nI (i))), (5, .int (nI (c1))), (6, .int (nI (fb_ct (fun k => (fun k => bft (V k) SA SL SI sn) k && (bsg (V k) i == c1)) j)))]) hx hb dX5_ask_183 rfl hl (by decide) rfl (fun ls hl => ?_)
                                  refine lv_iinc (v := nI (c1 + 1)) (lv' := [(5, .int (nI (c1 + 1))), (3, .int (nI ((fb_ct (fun k => bft (V k) SA SL SI sn) n) - (fb_ct (fun k => (fun k => bft (V k) SA SL SI sn) k && (bsg (V k) i == c1)) j)))), (2, .int (nI (((32 * i) + c1) - 1))), (7, .int (nI ((fb_ct (fun k => bft (V k) SA SL SI sn) n) - (fb_ct (fun k => (fun k => bft (V k) SA SL SI sn) k && (bsg (V k) i == c1)) j)))), (0, .ref (a 0)), (1, .int (nI (fb_ct (fun k => bft (V k) SA SL SI sn) n))), (4, .int (nI (i))), (6, .int (nI (fb_ct (fun k => (fun k => bft (V k) SA SL SI sn) k && (bsg (V k) i == c1)) j)))]) hx hb dX5_ask_184 hl (k := 6) rfl (inc1 _) (by decide) rfl (fun ls hl => ?_)
                                  refine lv_goto (tgt := 65) hx hb dX5_ask_187 (by decide) ?_
                                  exact ih_65 (c1 + 1) (by omega) (by omega) (by omega) ls (lv_cg (l := [(0, .ref (a 0)), (1, .int (nI (fb_ct (fun k => bft (V k) SA SL SI sn) n))), (2, .int (nI (((32 * i) + c1) - 1))), (3, .int (nI ((fb_ct (fun k => bft (V k) SA SL SI sn) n) - (fb_ct (fun k => (fun k => bft (V k) SA SL SI sn) k && (bsg (V k) i == c1)) j)))), (4, .int (nI (i))), (5, .int (nI (c1 + 1)))]) (lv_sub hl [4, 5, 2, 1, 6, 0] rfl) (by have e : j = n := (by omega); rw [e] at c_136 c_153; have hg : bgr (fb_ct (fun k => bft (V k) SA SL SI sn) n) (fb_ct (fun k => (fun k => bft (V k) SA SL SI sn) k && (bsg (V k) i == c1)) n) = fb_ct (fun k => bft (V k) SA SL SI sn) n - fb_ct (fun k => (fun k => bft (V k) SA SL SI sn) k && (bsg (V k) i == c1)) n := if_neg (Nat.not_lt.mpr c_136); rw [bai_y hc0 (by rw [hg]; exact c_153), hg, e]))
                            · refine lv_iload hx hb dX5_ask_139 (lv_at hl 6 rfl) ?_
                              refine lv_goto (tgt := 148) hx hb dX5_ask_141 (by decide) ?_
                              refine lv_istore (lv' := [(7, .int (nI (fb_ct (fun k => (fun k => bft (V k) SA SL SI sn) k && (bsg (V k) i == c1)) j))), (0, .ref (a 0)), (1, .int (nI (fb_ct (fun k => bft (V k) SA SL SI sn) n))), (2, .int ((bai V n (fun k => bft (V k) SA SL SI sn) (fb_ct (fun k => bft (V k) SA SL SI sn) n) i (bao V n (fun k => bft (V k) SA SL SI sn) (fb_ct (fun k => bft (V k) SA SL SI sn) n) i) (c1 - 1)).1)), (3, .int (nI ((bai V n (fun k => bft (V k) SA SL SI sn) (fb_ct (fun k => bft (V k) SA SL SI sn) n) i (bao V n (fun k => bft (V k) SA SL SI sn) (fb_ct (fun k => bft (V k) SA SL SI sn) n) i) (c1 - 1)).2))), (4, .int (nI (i))), (5, .int (nI (c1))), (6, .int (nI (fb_ct (fun k => (fun k => bft (V k) SA SL SI sn) k && (bsg (V k) i == c1)) j)))]) hx hb dX5_ask_148 hl (by decide) rfl (fun ls hl => ?_)
                              refine lv_iload hx hb dX5_ask_150 (lv_at hl 0 rfl) ?_
                              refine lv_iload_n hx hb dX5_ask_152 rfl (lv_at hl 4 rfl) ?_
                              refine n_ge (tgt := 169) hx hb dX5_ask_153 (by decide) (by have := fb_ct_le (fun k => (fun k => bft (V k) SA SL SI sn) k && (bsg (V k) i == c1)) j; omega) (Nat.lt_of_le_of_lt (bai_le (by omega) (hAO i)) (by decide)) (fun c_153 => ?_) (fun c_153 => ?_)
                              · refine lv_iload_n hx hb dX5_ask_169 rfl (lv_at hl 3 rfl) ?_
                                refine lv_istore_n (lv' := [(2, .int ((bai V n (fun k => bft (V k) SA SL SI sn) (fb_ct (fun k => bft (V k) SA SL SI sn) n) i (bao V n (fun k => bft (V k) SA SL SI sn) (fb_ct (fun k => bft (V k) SA SL SI sn) n) i) (c1 - 1)).1)), (7, .int (nI (fb_ct (fun k => (fun k => bft (V k) SA SL SI sn) k && (bsg (V k) i == c1)) j))), (0, .ref (a 0)), (1, .int (nI (fb_ct (fun k => bft (V k) SA SL SI sn) n))), (3, .int (nI ((bai V n (fun k => bft (V k) SA SL SI sn) (fb_ct (fun k => bft (V k) SA SL SI sn) n) i (bao V n (fun k => bft (V k) SA SL SI sn) (fb_ct (fun k => bft (V k) SA SL SI sn) n) i) (c1 - 1)).2))), (4, .int (nI (i))), (5, .int (nI (c1))), (6, .int (nI (fb_ct (fun k => (fun k => bft (V k) SA SL SI sn) k && (bsg (V k) i == c1)) j)))]) hx hb dX5_ask_170 rfl hl (by decide) rfl (fun ls hl => ?_)
                                refine lv_iload hx hb dX5_ask_171 (lv_at hl 1 rfl) ?_
                                refine lv_iload_n hx hb dX5_ask_173 rfl (lv_at hl 4 rfl) ?_
                                refine n_ge (tgt := 182) hx hb dX5_ask_174 (by decide) (by have := fb_ct_le (fun k => (fun k => bft (V k) SA SL SI sn) k && (bsg (V k) i == c1)) j; omega) (Nat.lt_of_le_of_lt (bai_le (by omega) (hAO i)) (by decide)) (fun c_174 => ?_) (fun c_174 => ?_)
                                · refine lv_iload_n hx hb dX5_ask_182 rfl (lv_at hl 4 rfl) ?_
                                  refine lv_istore_n (lv' := [(3, .int (nI ((bai V n (fun k => bft (V k) SA SL SI sn) (fb_ct (fun k => bft (V k) SA SL SI sn) n) i (bao V n (fun k => bft (V k) SA SL SI sn) (fb_ct (fun k => bft (V k) SA SL SI sn) n) i) (c1 - 1)).2))), (2, .int ((bai V n (fun k => bft (V k) SA SL SI sn) (fb_ct (fun k => bft (V k) SA SL SI sn) n) i (bao V n (fun k => bft (V k) SA SL SI sn) (fb_ct (fun k => bft (V k) SA SL SI sn) n) i) (c1 - 1)).1)), (7, .int (nI (fb_ct (fun k => (fun k => bft (V k) SA SL SI sn) k && (bsg (V k) i == c1)) j))), (0, .ref (a 0)), (1, .int (nI (fb_ct (fun k => bft (V k) SA SL SI sn) n))), (4, .int (nI (i))), (5, .int (nI (c1))), (6, .int (nI (fb_ct (fun k => (fun k => bft (V k) SA SL SI sn) k && (bsg (V k) i == c1)) j)))]) hx hb dX5_ask_183 rfl hl (by decide) rfl (fun ls hl => ?_)
                                  refine lv_iinc (v := nI (c1 + 1)) (lv' := [(5, .int (nI (c1 + 1))), (3, .int (nI ((bai V n (fun k => bft (V k) SA SL SI sn) (fb_ct (fun k => bft (V k) SA SL SI sn) n) i (bao V n (fun k => bft (V k) SA SL SI sn) (fb_ct (fun k => bft (V k) SA SL SI sn) n) i) (c1 - 1)).2))), (2, .int ((bai V n (fun k => bft (V k) SA SL SI sn) (fb_ct (fun k => bft (V k) SA SL SI sn) n) i (bao V n (fun k => bft (V k) SA SL SI sn) (fb_ct (fun k => bft (V k) SA SL SI sn) n) i) (c1 - 1)).1)), (7, .int (nI (fb_ct (fun k => (fun k => bft (V k) SA SL SI sn) k && (bsg (V k) i == c1)) j))), (0, .ref (a 0)), (1, .int (nI (fb_ct (fun k => bft (V k) SA SL SI sn) n))), (4, .int (nI (i))), (6, .int (nI (fb_ct (fun k => (fun k => bft (V k) SA SL SI sn) k && (bsg (V k) i == c1)) j)))]) hx hb dX5_ask_184 hl (k := 6) rfl (inc1 _) (by decide) rfl (fun ls hl => ?_)
                                  refine lv_goto (tgt := 65) hx hb dX5_ask_187 (by decide) ?_
                                  exact ih_65 (c1 + 1) (by omega) (by omega) (by omega) ls (lv_cg (l := [(0, .ref (a 0)), (1, .int (nI (fb_ct (fun k => bft (V k) SA SL SI sn) n))), (2, .int ((bai V n (fun k => bft (V k) SA SL SI sn) (fb_ct (fun k => bft (V k) SA SL SI sn) n) i (bao V n (fun k => bft (V k) SA SL SI sn) (fb_ct (fun k => bft (V k) SA SL SI sn) n) i) (c1 - 1)).1)), (3, .int (nI ((bai V n (fun k => bft (V k) SA SL SI sn) (fb_ct (fun k => bft (V k) SA SL SI sn) n) i (bao V n (fun k => bft (V k) SA SL SI sn) (fb_ct (fun k => bft (V k) SA SL SI sn) n) i) (c1 - 1)).2))), (4, .int (nI (i))), (5, .int (nI (c1 + 1)))]) (lv_sub hl [4, 5, 2, 1, 6, 0] rfl) (by have e : j = n := (by omega); rw [e] at c_136 c_153; have hg : bgr (fb_ct (fun k => bft (V k) SA SL SI sn) n) (fb_ct (fun k => (fun k => bft (V k) SA SL SI sn) k && (bsg (V k) i == c1)) n) = fb_ct (fun k => (fun k => bft (V k) SA SL SI sn) k && (bsg (V k) i == c1)) n := if_pos c_136; rw [bai_n hc0 (by rw [hg]; exact c_153)]))
                                · exact absurd c_174 (by omega)
                              · refine lv_bipush (v := nI (32)) hx hb dX5_ask_156 (by decide) ?_
                                refine lv_iload hx hb dX5_ask_158 (lv_at hl 5 rfl) ?_
                                refine lv_imul hx hb dX5_ask_160 ?_
                                refine tpi (pk_mul _ _) ?_
                                refine lv_iload hx hb dX5_ask_161 (lv_at hl 6 rfl) ?_
                                refine lv_iadd hx hb dX5_ask_163 ?_
                                refine tpi (nI_add _ _) ?_
                                refine lv_iconst (v := nI (1)) hx hb dX5_ask_164 (by decide) ?_
                                refine lv_isub hx hb dX5_ask_165 ?_
                                refine tpi (pk_sub (by omega)) ?_
                                refine lv_goto (tgt := 170) hx hb dX5_ask_166 (by decide) ?_
                                refine lv_istore_n (lv' := [(2, .int (nI (((32 * i) + c1) - 1))), (7, .int (nI (fb_ct (fun k => (fun k => bft (V k) SA SL SI sn) k && (bsg (V k) i == c1)) j))), (0, .ref (a 0)), (1, .int (nI (fb_ct (fun k => bft (V k) SA SL SI sn) n))), (3, .int (nI ((bai V n (fun k => bft (V k) SA SL SI sn) (fb_ct (fun k => bft (V k) SA SL SI sn) n) i (bao V n (fun k => bft (V k) SA SL SI sn) (fb_ct (fun k => bft (V k) SA SL SI sn) n) i) (c1 - 1)).2))), (4, .int (nI (i))), (5, .int (nI (c1))), (6, .int (nI (fb_ct (fun k => (fun k => bft (V k) SA SL SI sn) k && (bsg (V k) i == c1)) j)))]) hx hb dX5_ask_170 rfl hl (by decide) rfl (fun ls hl => ?_)
                                refine lv_iload hx hb dX5_ask_171 (lv_at hl 1 rfl) ?_
                                refine lv_iload_n hx hb dX5_ask_173 rfl (lv_at hl 4 rfl) ?_
                                refine n_ge (tgt := 182) hx hb dX5_ask_174 (by decide) (by have := fb_ct_le (fun k => (fun k => bft (V k) SA SL SI sn) k && (bsg (V k) i == c1)) j; omega) (Nat.lt_of_le_of_lt (bai_le (by omega) (hAO i)) (by decide)) (fun c_174 => ?_) (fun c_174 => ?_)
                                · exact absurd c_174 (by omega)
                                · refine lv_iload hx hb dX5_ask_177 (lv_at hl 1 rfl) ?_
                                  refine lv_goto (tgt := 183) hx hb dX5_ask_179 (by decide) ?_
                                  refine lv_istore_n (lv' := [(3, .int (nI (fb_ct (fun k => (fun k => bft (V k) SA SL SI sn) k && (bsg (V k) i == c1)) j))), (2, .int (nI (((32 * i) + c1) - 1))), (7, .int (nI (fb_ct (fun k => (fun k => bft (V k) SA SL SI sn) k && (bsg (V k) i == c1)) j))), (0, .ref (a 0)), (1, .int (nI (fb_ct (fun k => bft (V k) SA SL SI sn) n))), (4, .int (nI (i))), (5, .int (nI (c1))), (6, .int (nI (fb_ct (fun k => (fun k => bft (V k) SA SL SI sn) k && (bsg (V k) i == c1)) j)))]) hx hb dX5_ask_183 rfl hl (by decide) rfl (fun ls hl => ?_)
                                  refine lv_iinc (v := nI (c1 + 1)) (lv' := [(5, .int (nI (c1 + 1))), (3, .int (nI (fb_ct (fun k => (fun k => bft (V k) SA SL SI sn) k && (bsg (V k) i == c1)) j))), (2, .int (nI (((32 * i) + c1) - 1))), (7, .int (nI (fb_ct (fun k => (fun k => bft (V k) SA SL SI sn) k && (bsg (V k) i == c1)) j))), (0, .ref (a 0)), (1, .int (nI (fb_ct (fun k => bft (V k) SA SL SI sn) n))), (4, .int (nI (i))), (6, .int (nI (fb_ct (fun k => (fun k => bft (V k) SA SL SI sn) k && (bsg (V k) i == c1)) j)))]) hx hb dX5_ask_184 hl (k := 6) rfl (inc1 _) (by decide) rfl (fun ls hl => ?_)
                                  refine lv_goto (tgt := 65) hx hb dX5_ask_187 (by decide) ?_
                                  exact ih_65 (c1 + 1) (by omega) (by omega) (by omega) ls (lv_cg (l := [(0, .ref (a 0)), (1, .int (nI (fb_ct (fun k => bft (V k) SA SL SI sn) n))), (2, .int (nI (((32 * i) + c1) - 1))), (3, .int (nI (fb_ct (fun k => (fun k => bft (V k) SA SL SI sn) k && (bsg (V k) i == c1)) j))), (4, .int (nI (i))), (5, .int (nI (c1 + 1)))]) (lv_sub hl [4, 5, 2, 1, 6, 0] rfl) (by have e : j = n := (by omega); rw [e] at c_136 c_153; have hg : bgr (fb_ct (fun k => bft (V k) SA SL SI sn) n) (fb_ct (fun k => (fun k => bft (V k) SA SL SI sn) k && (bsg (V k) i == c1)) n) = fb_ct (fun k => (fun k => bft (V k) SA SL SI sn) k && (bsg (V k) i == c1)) n := if_pos c_136; rw [bai_y hc0 (by rw [hg]; exact c_153), hg, e]))
                          · refine lv_iload hx hb dX5_ask_87 (lv_at hl 6 rfl) ?_
                            refine lv_aload_n hx hb dX5_ask_89 rfl (lv_at hl 0 rfl) ?_
                            refine va_get (D := (dC, dI)) (ci := 4) (v := .ref (a 9)) (C := RX5) (T := TX5) (N := 16) hx hb hts hi5 hown hK hP 0 rfl rfl 15 (by decide) (hts (.fieldLink RX5 39 "BurstWordsModel" "taken" "[Z") (by decide +kernel)) (fun _ h9 => h9) rfl dX5_ask_90 ?_
                            refine lv_iload hx hb dX5_ask_93 (lv_at hl 7 rfl) ?_
                            refine g_z hx hb hK hP 9 2 rfl rfl (k := j) (by omega) (by decide) dX5_ask_95 (v := bI ((fun k => bft (V k) SA SL SI sn) j)) (htk _ (by omega)) ?_
                            refine b_eq (tgt := 120) hx hb dX5_ask_96 (by decide) (fun c_96 => ?_) (fun c_96 => ?_)
                            · refine lv_iconst (v := nI (0)) hx hb dX5_ask_120 (by decide) ?_
                              refine lv_iadd hx hb dX5_ask_121 ?_
                              refine tpi (nI_add _ _) ?_
                              refine lv_istore (lv' := [(6, .int (nI ((fb_ct (fun k => (fun k => bft (V k) SA SL SI sn) k && (bsg (V k) i == c1)) j) + 0))), (0, .ref (a 0)), (1, .int (nI (fb_ct (fun k => bft (V k) SA SL SI sn) n))), (2, .int ((bai V n (fun k => bft (V k) SA SL SI sn) (fb_ct (fun k => bft (V k) SA SL SI sn) n) i (bao V n (fun k => bft (V k) SA SL SI sn) (fb_ct (fun k => bft (V k) SA SL SI sn) n) i) (c1 - 1)).1)), (3, .int (nI ((bai V n (fun k => bft (V k) SA SL SI sn) (fb_ct (fun k => bft (V k) SA SL SI sn) n) i (bao V n (fun k => bft (V k) SA SL SI sn) (fb_ct (fun k => bft (V k) SA SL SI sn) n) i) (c1 - 1)).2))), (4, .int (nI (i))), (5, .int (nI (c1))), (7, .int (nI (j)))]) hx hb dX5_ask_122 hl (by decide) rfl (fun ls hl => ?_)
                              refine lv_iinc (v := nI (j + 1)) (lv' := [(7, .int (nI (j + 1))), (6, .int (nI ((fb_ct (fun k => (fun k => bft (V k) SA SL SI sn) k && (bsg (V k) i == c1)) j) + 0))), (0, .ref (a 0)), (1, .int (nI (fb_ct (fun k => bft (V k) SA SL SI sn) n))), (2, .int ((bai V n (fun k => bft (V k) SA SL SI sn) (fb_ct (fun k => bft (V k) SA SL SI sn) n) i (bao V n (fun k => bft (V k) SA SL SI sn) (fb_ct (fun k => bft (V k) SA SL SI sn) n) i) (c1 - 1)).1)), (3, .int (nI ((bai V n (fun k => bft (V k) SA SL SI sn) (fb_ct (fun k => bft (V k) SA SL SI sn) n) i (bao V n (fun k => bft (V k) SA SL SI sn) (fb_ct (fun k => bft (V k) SA SL SI sn) n) i) (c1 - 1)).2))), (4, .int (nI (i))), (5, .int (nI (c1)))]) hx hb dX5_ask_124 hl (k := 7) rfl (inc1 _) (by decide) rfl (fun ls hl => ?_)
                              refine lv_goto (tgt := 78) hx hb dX5_ask_127 (by decide) ?_
                              exact ih_78 (j + 1) (by omega) (by omega) ls (lv_cg (l := [(0, .ref (a 0)), (1, .int (nI (fb_ct (fun k => bft (V k) SA SL SI sn) n))), (2, .int ((bai V n (fun k => bft (V k) SA SL SI sn) (fb_ct (fun k => bft (V k) SA SL SI sn) n) i (bao V n (fun k => bft (V k) SA SL SI sn) (fb_ct (fun k => bft (V k) SA SL SI sn) n) i) (c1 - 1)).1)), (3, .int (nI ((bai V n (fun k => bft (V k) SA SL SI sn) (fb_ct (fun k => bft (V k) SA SL SI sn) n) i (bao V n (fun k => bft (V k) SA SL SI sn) (fb_ct (fun k => bft (V k) SA SL SI sn) n) i) (c1 - 1)).2))), (4, .int (nI (i))), (5, .int (nI (c1))), (6, .int (nI ((fb_ct (fun k => (fun k => bft (V k) SA SL SI sn) k && (bsg (V k) i == c1)) j) + 0))), (7, .int (nI (j + 1)))]) (lv_sub hl [2, 3, 4, 5, 6, 7, 1, 0] rfl) (by rw [ct_n (p := (fun k => (fun k => bft (V k) SA SL SI sn) k && (bsg (V k) i == c1))) (n := j) (by simp [c_96])]; simp only [Nat.add_zero]))
                            · refine lv_aload_n hx hb dX5_ask_99 rfl (lv_at hl 0 rfl) ?_
                              refine va_get (D := (dC, dI)) (ci := 4) (v := .ref (a 2)) (C := RX5) (T := TX5) (N := 16) hx hb hts hi5 hown hK hP 0 rfl rfl 4 (by decide) (hts (.fieldLink RX5 17 "BurstWordsModel" "word" "[J") (by decide +kernel)) (fun _ h9 => h9) rfl dX5_ask_100 ?_
                              refine lv_iload hx hb dX5_ask_103 (lv_at hl 7 rfl) ?_
                              refine g_l hx hb hK hP 2 1 rfl rfl (k := j) (by omega) (by decide) dX5_ask_105 (v := lN (V j)) (hk _ (by omega)).1 ?_
                              refine lv_iload hx hb dX5_ask_106 (lv_at hl 4 rfl) ?_
                              refine c_Si (As := [.long (lN (V j)), .int (nI (i))]) (rest := [.int (nI (fb_ct (fun k => (fun k => bft (V k) SA SL SI sn) k && (bsg (V k) i == c1)) j))]) S (c_X5_sign l (V j) i (w63 (hk _ (by omega)).2.1.1) (by omega)) (va_cwS 2 hts gX5_ask_X5_sign rfl rfl rfl (by decide +kernel) ⟨Nat.le_of_ble_eq_true rfl, Nat.le_of_ble_eq_true rfl⟩) rfl hl.1 rfl (Nat.le_of_ble_eq_true rfl) dX5_ask_108 ⟨Nat.le_of_ble_eq_true rfl, Nat.le_of_ble_eq_true rfl⟩ ?_
                              refine lv_iload hx hb dX5_ask_111 (lv_at hl 5 rfl) ?_
                              refine n_ne (tgt := 120) hx hb dX5_ask_113 (by decide) (Nat.lt_trans (bsg_lt _ _) (by decide)) (by omega) (fun c_113 => ?_) (fun c_113 => ?_)
                              · refine lv_iconst (v := nI (0)) hx hb dX5_ask_120 (by decide) ?_
                                refine lv_iadd hx hb dX5_ask_121 ?_
                                refine tpi (nI_add _ _) ?_
                                refine lv_istore (lv' := [(6, .int (nI ((fb_ct (fun k => (fun k => bft (V k) SA SL SI sn) k && (bsg (V k) i == c1)) j) + 0))), (0, .ref (a 0)), (1, .int (nI (fb_ct (fun k => bft (V k) SA SL SI sn) n))), (2, .int ((bai V n (fun k => bft (V k) SA SL SI sn) (fb_ct (fun k => bft (V k) SA SL SI sn) n) i (bao V n (fun k => bft (V k) SA SL SI sn) (fb_ct (fun k => bft (V k) SA SL SI sn) n) i) (c1 - 1)).1)), (3, .int (nI ((bai V n (fun k => bft (V k) SA SL SI sn) (fb_ct (fun k => bft (V k) SA SL SI sn) n) i (bao V n (fun k => bft (V k) SA SL SI sn) (fb_ct (fun k => bft (V k) SA SL SI sn) n) i) (c1 - 1)).2))), (4, .int (nI (i))), (5, .int (nI (c1))), (7, .int (nI (j)))]) hx hb dX5_ask_122 hl (by decide) rfl (fun ls hl => ?_)
                                refine lv_iinc (v := nI (j + 1)) (lv' := [(7, .int (nI (j + 1))), (6, .int (nI ((fb_ct (fun k => (fun k => bft (V k) SA SL SI sn) k && (bsg (V k) i == c1)) j) + 0))), (0, .ref (a 0)), (1, .int (nI (fb_ct (fun k => bft (V k) SA SL SI sn) n))), (2, .int ((bai V n (fun k => bft (V k) SA SL SI sn) (fb_ct (fun k => bft (V k) SA SL SI sn) n) i (bao V n (fun k => bft (V k) SA SL SI sn) (fb_ct (fun k => bft (V k) SA SL SI sn) n) i) (c1 - 1)).1)), (3, .int (nI ((bai V n (fun k => bft (V k) SA SL SI sn) (fb_ct (fun k => bft (V k) SA SL SI sn) n) i (bao V n (fun k => bft (V k) SA SL SI sn) (fb_ct (fun k => bft (V k) SA SL SI sn) n) i) (c1 - 1)).2))), (4, .int (nI (i))), (5, .int (nI (c1)))]) hx hb dX5_ask_124 hl (k := 7) rfl (inc1 _) (by decide) rfl (fun ls hl => ?_)
                                refine lv_goto (tgt := 78) hx hb dX5_ask_127 (by decide) ?_
                                exact ih_78 (j + 1) (by omega) (by omega) ls (lv_cg (l := [(0, .ref (a 0)), (1, .int (nI (fb_ct (fun k => bft (V k) SA SL SI sn) n))), (2, .int ((bai V n (fun k => bft (V k) SA SL SI sn) (fb_ct (fun k => bft (V k) SA SL SI sn) n) i (bao V n (fun k => bft (V k) SA SL SI sn) (fb_ct (fun k => bft (V k) SA SL SI sn) n) i) (c1 - 1)).1)), (3, .int (nI ((bai V n (fun k => bft (V k) SA SL SI sn) (fb_ct (fun k => bft (V k) SA SL SI sn) n) i (bao V n (fun k => bft (V k) SA SL SI sn) (fb_ct (fun k => bft (V k) SA SL SI sn) n) i) (c1 - 1)).2))), (4, .int (nI (i))), (5, .int (nI (c1))), (6, .int (nI ((fb_ct (fun k => (fun k => bft (V k) SA SL SI sn) k && (bsg (V k) i == c1)) j) + 0))), (7, .int (nI (j + 1)))]) (lv_sub hl [2, 3, 4, 5, 6, 7, 1, 0] rfl) (by rw [ct_n (p := (fun k => (fun k => bft (V k) SA SL SI sn) k && (bsg (V k) i == c1))) (n := j) (by simp [c_113])]; simp only [Nat.add_zero]))
                              · refine lv_iconst (v := nI (1)) hx hb dX5_ask_116 (by decide) ?_
                                refine lv_goto (tgt := 121) hx hb dX5_ask_117 (by decide) ?_
                                refine lv_iadd hx hb dX5_ask_121 ?_
                                refine tpi (nI_add _ _) ?_
                                refine lv_istore (lv' := [(6, .int (nI ((fb_ct (fun k => (fun k => bft (V k) SA SL SI sn) k && (bsg (V k) i == c1)) j) + 1))), (0, .ref (a 0)), (1, .int (nI (fb_ct (fun k => bft (V k) SA SL SI sn) n))), (2, .int ((bai V n (fun k => bft (V k) SA SL SI sn) (fb_ct (fun k => bft (V k) SA SL SI sn) n) i (bao V n (fun k => bft (V k) SA SL SI sn) (fb_ct (fun k => bft (V k) SA SL SI sn) n) i) (c1 - 1)).1)), (3, .int (nI ((bai V n (fun k => bft (V k) SA SL SI sn) (fb_ct (fun k => bft (V k) SA SL SI sn) n) i (bao V n (fun k => bft (V k) SA SL SI sn) (fb_ct (fun k => bft (V k) SA SL SI sn) n) i) (c1 - 1)).2))), (4, .int (nI (i))), (5, .int (nI (c1))), (7, .int (nI (j)))]) hx hb dX5_ask_122 hl (by decide) rfl (fun ls hl => ?_)
                                refine lv_iinc (v := nI (j + 1)) (lv' := [(7, .int (nI (j + 1))), (6, .int (nI ((fb_ct (fun k => (fun k => bft (V k) SA SL SI sn) k && (bsg (V k) i == c1)) j) + 1))), (0, .ref (a 0)), (1, .int (nI (fb_ct (fun k => bft (V k) SA SL SI sn) n))), (2, .int ((bai V n (fun k => bft (V k) SA SL SI sn) (fb_ct (fun k => bft (V k) SA SL SI sn) n) i (bao V n (fun k => bft (V k) SA SL SI sn) (fb_ct (fun k => bft (V k) SA SL SI sn) n) i) (c1 - 1)).1)), (3, .int (nI ((bai V n (fun k => bft (V k) SA SL SI sn) (fb_ct (fun k => bft (V k) SA SL SI sn) n) i (bao V n (fun k => bft (V k) SA SL SI sn) (fb_ct (fun k => bft (V k) SA SL SI sn) n) i) (c1 - 1)).2))), (4, .int (nI (i))), (5, .int (nI (c1)))]) hx hb dX5_ask_124 hl (k := 7) rfl (inc1 _) (by decide) rfl (fun ls hl => ?_)
                                refine lv_goto (tgt := 78) hx hb dX5_ask_127 (by decide) ?_
                                exact ih_78 (j + 1) (by omega) (by omega) ls (lv_cg (l := [(0, .ref (a 0)), (1, .int (nI (fb_ct (fun k => bft (V k) SA SL SI sn) n))), (2, .int ((bai V n (fun k => bft (V k) SA SL SI sn) (fb_ct (fun k => bft (V k) SA SL SI sn) n) i (bao V n (fun k => bft (V k) SA SL SI sn) (fb_ct (fun k => bft (V k) SA SL SI sn) n) i) (c1 - 1)).1)), (3, .int (nI ((bai V n (fun k => bft (V k) SA SL SI sn) (fb_ct (fun k => bft (V k) SA SL SI sn) n) i (bao V n (fun k => bft (V k) SA SL SI sn) (fb_ct (fun k => bft (V k) SA SL SI sn) n) i) (c1 - 1)).2))), (4, .int (nI (i))), (5, .int (nI (c1))), (6, .int (nI ((fb_ct (fun k => (fun k => bft (V k) SA SL SI sn) k && (bsg (V k) i == c1)) j) + 1))), (7, .int (nI (j + 1)))]) (lv_sub hl [2, 3, 4, 5, 6, 7, 1, 0] rfl) (by rw [ct_y (p := (fun k => (fun k => bft (V k) SA SL SI sn) k && (bsg (V k) i == c1))) (n := j) (by simp [c_96, c_113])]))
                      exact lp_78 _ (0) (by omega) (Nat.lt_succ_self _) ls (lv_sub hl [2, 3, 4, 5, 6, 7, 1, 0] rfl)
                exact lp_65 _ (1) (by omega) (by omega) (Nat.lt_succ_self _) ls (lv_sub hl [1, 2, 3, 4, 5, 0] rfl)
        exact lp_50 _ (0) (by omega) (Or.inl rfl) (Nat.lt_succ_self _) ls (lv_sub hl [1, 2, 3, 4, 0] rfl)
      · refine lv_aload_n hx hb dX5_ask_28 rfl (lv_at hl 0 rfl) ?_
        refine va_get (D := (dC, dI)) (ci := 4) (v := .ref (a 9)) (C := RX5) (T := TX5) (N := 16) hx hb hts hi5 hown hK hP 0 rfl rfl 15 (by decide) (hts (.fieldLink RX5 39 "BurstWordsModel" "taken" "[Z") (by decide +kernel)) (fun _ h9 => h9) rfl dX5_ask_29 ?_
        refine lv_iload hx hb dX5_ask_32 (lv_at hl 4 rfl) ?_
        refine lv_aload_n hx hb dX5_ask_34 rfl (lv_at hl 0 rfl) ?_
        refine lv_iload hx hb dX5_ask_35 (lv_at hl 4 rfl) ?_
        refine c_Vi (As := [.int (nI (e1))]) (rest := [.int (nI (e1)), .ref (a 9)]) (ci := 4) (q0 := 0) S (c_X5_fits l dC dI cI cJ cZ a ty tm b wo of n no nm un um sa sl si sn tk1 v V O K SA SL SI hmw hmd hmn hms e1 (by omega)) (cwV 1 hts gX5_ask_X5_fits rfl rfl rfl (by decide +kernel) ⟨Nat.le_of_ble_eq_true rfl, Nat.le_of_ble_eq_true rfl⟩) hK hP rfl rfl rfl hl.1 rfl (Nat.le_of_ble_eq_true rfl) dX5_ask_37 ⟨Nat.le_of_ble_eq_true rfl, Nat.le_of_ble_eq_true rfl⟩ ?_
        refine s_z (k := e1) (z := bft (V e1) SA SL SI sn) (hz := rfl) hx hb hK hP hD hS 9 2 rfl rfl (hin := (by omega)) (hn := by decide) (hdg := dX5_ask_40) (fun H locs hP hD hS => ?_)
        have hP : va_P (dC, dI) vwCl (wm a cI cJ cZ ty tm b wo of n no nm un um sa sl si sn (upd tk1 e1 (bI (bft (V e1) SA SL SI sn)))) H := hP
        have hD : va_D A (wm a cI cJ cZ ty tm b wo of n no nm un um sa sl si sn (upd tk1 e1 (bI (bft (V e1) SA SL SI sn)))) := hD
        refine lv_iinc (v := nI (e1 + 1)) (lv' := [(4, .int (nI (e1 + 1))), (0, .ref (a 0)), (1, .int (nI (fb_ct (fun k => bft (V k) SA SL SI sn) n))), (2, .int ((-9 : Int32))), (3, .int (nI (99)))]) hx hb dX5_ask_41 hl (k := 4) rfl (inc1 _) (by decide) rfl (fun ls hl => ?_)
        refine lv_goto (tgt := 19) hx hb dX5_ask_44 (by decide) ?_
        exact ih_19 (e1 + 1) (upd tk1 e1 (bI (bft (V e1) SA SL SI sn))) (by omega) (lt_s (fun q hq => by rw [pk_un (by omega)]; exact htk q hq) pk_us) (by omega) _ _ hP hD hS ls (lv_sub hl [1, 2, 3, 4, 0] rfl)
  exact lp_19 _ (0) (tk) (by omega) lt_0 (Nat.lt_succ_self _) _ _ hP hD hS ls (lv_sub hl [4, 3, 2, 1, 0] rfl)
