theorem bin_N {x : Int32} {g : Nat} (hg : g < 2 ^ 31) (h : bin x (nI 0) (nI g) = true) : ∃ k, k ≤ g ∧ x = nI k := by
  simp only [Bool.and_eq_true, Bool.not_eq_true', decide_eq_false_iff_not] at h
  obtain ⟨k, hk, rfl⟩ := nI_of h.1
  exact ⟨k, Nat.not_lt.mp fun q => h.2 ((nI_ltI hg hk).mpr q), rfl⟩
theorem bin_R {x : Int32} {a g : Nat} (ha : a < 2 ^ 31) (hg : g < 2 ^ 31) (h : bin x (nI a) (nI g) = true) : ∃ k, a ≤ k ∧ k ≤ g ∧ x = nI k := by
  simp only [Bool.and_eq_true, Bool.not_eq_true', decide_eq_false_iff_not] at h
  have h0 : ¬ x < 0 := fun q => h.1 (by
    rw [Int32.lt_iff_toInt_lt, nI_toInt ha]
    rw [Int32.lt_iff_toInt_lt] at q
    have : (0 : Int32).toInt = 0 := by decide
    omega)
  obtain ⟨k, hk, rfl⟩ := nI_of h0
  exact ⟨k, Nat.not_lt.mp fun q => h.1 ((nI_ltI hk ha).mpr q), Nat.not_lt.mp fun q => h.2 ((nI_ltI hg hk).mpr q), rfl⟩
theorem bin_L {x : Int32} (h : bin x (nI 97) (nI 122) = true) : ∃ k, 97 ≤ k ∧ k ≤ 122 ∧ x = nI k := bin_R (by decide) (by decide) h
theorem bin_M {x : Int32} (h : bin x (-1) (nI 6) = true) : ∃ g, g ≤ 7 ∧ x = nM g := by
  simp only [Bool.and_eq_true, Bool.not_eq_true', decide_eq_false_iff_not] at h
  have m1 : (-1 : Int32).toInt = -1 := by decide
  have h1 := h.1
  have h2 := h.2
  rw [Int32.lt_iff_toInt_lt, m1] at h1
  rw [Int32.lt_iff_toInt_lt, nI_toInt (by decide)] at h2
  obtain ⟨g, hg⟩ : ∃ g : Nat, x.toInt = (g : Int) - 1 := ⟨(x.toInt + 1).toNat, by omega⟩
  refine ⟨g, by omega, ?_⟩
  apply Int32.toInt_inj.mp
  rw [nM_toInt (by omega), hg]
def bgi (y : Int32) : Nat := (y + 1).toNatClampNeg
theorem bgi_M {g : Nat} (h : g ≤ 7) : bgi (nM g) = g := by unfold bgi; rw [nM_1, nI_clamp (by omega)]
theorem sm_99 {f : Nat → Nat} {n : Nat} (hn : n ≤ 40) (h : ∀ k, k < n → f k ≤ 99) : fb_sm f n ≤ 3960 := Nat.le_trans (fb_sm_bound h) (by omega)
def mo_like (V : Nat → Nat) (n v tm : Nat) (x : Int32) : Int32 := if bin x (nI 0) (nI 7) then nI (fb_ct (fun k => (bln (V k) == tm) && decide (fb_ct (fun t => bsg (V k) t != bsg v t) tm ≤ x.toNatClampNeg)) n) else -1
def mo_od (w p : Nat) (x : Int32) : Int32 := if x = 0 then nI (p / Nat.gcd w p) else nI (w / Nat.gcd w p)
def mo_odds (O : Nat → Nat) (n p : Nat) (x : Int32) : Int32 := if bin x (nI 0) (nI 1) then mo_od (if fb_sm O n = 0 then 1 else fb_sm O n) p x else -1
def mo_kth (V O : Nat → Nat) (n : Nat) (x y : Int32) : Int32 := if x < 0 then -1 else if bin y (-1) (nI 6) then btl V n (bfs (fun j => decide (x.toNatClampNeg < fb_sm O (j + 1))) n) (bgi y) else -1
def mo_unlike (V : Nat → Nat) (n : Nat) (x y : Int32) : Int32 := if x < 0 then -1 else if bin y (-1) (nI 6) then btl V n x.toNatClampNeg (bgi y) else -1
def mo_next (V : Nat → Nat) (n v : Nat) (y : Int32) : Int32 := if bin y (-1) (nI 6) then btl V n (bfs (fun j => decide (v < V j)) n) (bgi y) else -1
def mo_fit (V : Nat → Nat) (n : Nat) (SA SL SI : Nat → Nat) (sn : Nat) (x : Int32) : Int32 := if bin x (nI 0) (nI 1) then (if x = 0 then nI (fb_ct (fun k => bft (V k) SA SL SI sn) n) else if bfs (fun k => bft (V k) SA SL SI sn) n = n then -9 else nI (bfs (fun k => bft (V k) SA SL SI sn) n)) else -1
def mo_cn (V O : Nat → Nat) (n : Nat) (K : Nat → Nat) (nm b tm um : Nat) : Nat → Int32
  | 0 => nI n
  | 1 => nI (fb_sm O n)
  | 2 => nI nm
  | 3 => nI (fb_ct (bco K nm V) n)
  | 4 => nI (bmx (fun k => if bcs K nm (V k) < bln (V k) + 1 then bbg V n (bhd (V k) (bcs K nm (V k))) else 0) n)
  | 5 => nI (bmx (fun k => bde K nm (V k)) n)
  | 6 => nI (fb_sm (fun k => if bcs K nm (V k) < bln (V k) + 1 then bln (V k) - bcs K nm (V k) else 0) n)
  | 7 => bsd true (n - 1) (fun k => bsh (V k) (V (k + 1)))
  | 8 => bsd false (n - 1) (fun k => bsh (V k) (V (k + 1)))
  | 9 => nI b
  | 10 => nI tm
  | _ => nI um
def mo_count (V O : Nat → Nat) (n : Nat) (K : Nat → Nat) (nm b tm um : Nat) (x : Int32) : Int32 := if bin x (nI 0) (nI 11) then mo_cn V O n K nm b tm um x.toNatClampNeg else -1
def dgl (v : Nat) (h : Int64) : Nat → Int64
  | 0 => h
  | i + 1 => lN 31 * dgl v h i + lN (bsg v i) + lN 97 - lN 1
def dgo (V O E : Nat → Nat) : Nat → Int64
  | 0 => lN 17
  | k + 1 => lN 31 * (lN 31 * dgl (V k) (dgo V O E k) (bln (V k)) + lN (O k)) + lN (E k)
theorem bMW_type {ty : Nat → Int32} {tm v k : Nat} (h : bMW ty tm v) (h7 : tm < 7) (h1 : 97 ≤ k) (h2 : k ≤ 122) : bMW (upd ty tm (nI (k - 97 + 1))) (tm + 1) (bxt v (k - 96)) := by
  obtain ⟨hv, rfl, ht⟩ := h
  refine ⟨bxt_wf hv h7 (by omega) (by omega), (bxt_len hv h7 (by omega) (by omega)).symm, fun j hj => ?_⟩
  rw [bxt_sg hv h7 (by omega) j (by omega)]
  by_cases e : j = bln v
  · rw [e, pk_us, if_pos rfl]
    exact congrArg nI (by omega)
  · rw [pk_un e, if_neg e]
    exact ht j (by omega)
theorem bMS_add {sa sl si : Nat → Int32} {sn : Nat} {SA SL SI : Nat → Nat} {i k t : Nat} (h : bMS sa sl si sn SA SL SI) (h8 : sn < 8) (hi : i ≤ 6) (h1 : 97 ≤ k) (h2 : k ≤ 122) (ht : t ≤ 1) : bMS (upd sa sn (nI i)) (upd sl sn (nI (k - 97 + 1))) (upd si sn (nI t)) (sn + 1) (va_up SA sn i) (va_up SL sn (k - 96)) (va_up SI sn t) := by
  refine ⟨by omega, fun j hj => ?_⟩
  by_cases e : j = sn
  · subst e
    rw [pk_us, pk_us, pk_us, va_up_self, va_up_self, va_up_self]
    exact ⟨rfl, by omega, congrArg nI (by omega), by omega, rfl, ht⟩
  · rw [pk_un e, pk_un e, pk_un e, va_up_ne _ _ e, va_up_ne _ _ e, va_up_ne _ _ e]
    exact h.2 j (by omega)
abbrev rm_X5_like : Room := { frames := 3, cells := 0, slots := 0, locals := 67 }
set_option maxHeartbeats 4000000 in
set_option maxRecDepth 100000 in
theorem c_X5_like (l : Launch) (dC : Nat → ClassId) (dI : Nat → Nat → Nat) (cI cJ cZ : ClassId) (a : Nat → Nat) (ty : Nat → Int32) (tm b : Nat) (wo : Nat → Int64) (of : Nat → Int32) (n : Nat) (no : Nat → Int64) (nm : Nat) (un : Nat → Int64) (um : Nat) (sa sl si : Nat → Int32) (sn : Nat) (tk : Nat → Int32) (v : Nat) (V O K SA SL SI : Nat → Nat) (hmw : bMW ty tm v) (hmd : bMD wo of n V O) (hmn : bMN no nm K) (hms : bMS sa sl si sn SA SL SI) (sz : Nat) (x : Int32) : Met l yX5_like wsX5_like rm_X5_like (mPc (dC, dI) (tysA cI cJ cZ) (wm a cI cJ cZ ty tm b wo of n no nm un um sa sl si sn tk) sz [.ref (a 0), .int (x)]) (mQi (dC, dI) (fun (r : Int32) (u : Unit) => r = mo_like V n v tm x) (fun u => wm a cI cJ cZ ty tm b wo of n no nm un um sa sl si sn tk) (va_A (wm a cI cJ cZ ty tm b wo of n no nm un um sa sl si sn tk) sz)) 0 0 (va_A (wm a cI cJ cZ ty tm b wo of n no nm un um sa sl si sn tk) sz) := by
  refine met_m (cc := cX5_like) (maxL := 6) (ret := (some .int)) (own := RX5) (Qc := fun A => mQi (dC, dI) (fun (r : Int32) (u : Unit) => r = mo_like V n v tm x) (fun u => wm a cI cJ cZ ty tm b wo of n no nm un um sa sl si sn tk) A) (by decide) rfl rfl (Nat.le_of_ble_eq_true rfl) ?_
  intro p e s m below meth c S hr hlocks hname hK A hA hP hD hS ls hl
  obtain ⟨hx, hb, hml, hown, hts⟩ := id S
  generalize hQQ : MQ below (mQi (dC, dI) (fun (r : Int32) (u : Unit) => r = mo_like V n v tm x) (fun u => wm a cI cJ cZ ty tm b wo of n no nm un um sa sl si sn tk) A) ([.ref (a 0), .int (x)] : List Value).toArray s 0 0 A = QQ
  have hl : lv_has ls 6 [(0, .ref (a 0)), (1, .int (x))] := hl
  have hi5 : ∀ w ∈ wsX50, w ∈ wsX5_like := fun _ h => List.mem_cons_of_mem _ (List.mem_append_right _ h)
  obtain ⟨hvw, htm, hty⟩ := id hmw; obtain ⟨hn, hk⟩ := id hmd; obtain ⟨hnm, hkn⟩ := id hmn; obtain ⟨hsn, hks⟩ := id hms
  have hlv := bln_le v
  refine lv_aload_n hx hb dX5_like_0 rfl (lv_at hl 0 rfl) ?_
  refine lv_iconst (v := nI (0)) hx hb dX5_like_1 (by decide) ?_
  refine va_put (D := (dC, dI)) (ci := 4) (v := .int (nI (0))) (ty := .int) (C := RX5) (T := TX5) (N := 16) hx hb hts hi5 tyX5 tyX5_ok nmX5 hown hK hP hD hS 0 rfl rfl 0 (by decide) (hts (.fieldLink RX5 43 "BurstWordsModel" "thrown" "I") (by decide +kernel)) (fun _ h9 => h9) rfl (by decide +kernel) rfl rfl (Nat.le_of_ble_eq_true rfl) dX5_like_2 (fun H locs hP hD hS => ?_)
  have hP : va_P (dC, dI) vwCl (wm a cI cJ cZ ty tm b wo of n no nm un um sa sl si sn tk) H := hP
  have hD : va_D A (wm a cI cJ cZ ty tm b wo of n no nm un um sa sl si sn tk) := hD
  refine lv_iload_n hx hb dX5_like_5 rfl (lv_at hl 1 rfl) ?_
  refine lv_iconst (v := nI (0)) hx hb dX5_like_6 (by decide) ?_
  refine lv_bipush (v := nI (7)) hx hb dX5_like_7 (by decide) ?_
  refine c_Si (As := [.int (x), .int (nI (0)), .int (nI (7))]) (rest := []) S (c_X5_in l (x) (nI (0)) (nI (7))) (va_cwS 3 hts gX5_like_X5_in rfl rfl rfl (by decide +kernel) ⟨Nat.le_of_ble_eq_true rfl, Nat.le_of_ble_eq_true rfl⟩) rfl hl.1 rfl (Nat.le_of_ble_eq_true rfl) dX5_like_9 ⟨Nat.le_of_ble_eq_true rfl, Nat.le_of_ble_eq_true rfl⟩ ?_
  refine b_ne (tgt := 17) hx hb dX5_like_12 (by decide) (fun c_12 => ?_) (fun c_12 => ?_)
  · obtain ⟨g, hg, hxg⟩ := bin_N (by decide) c_12
    have hl := lv_cg (l' := [(0, .ref (a 0)), (1, .int (nI (g)))]) hl (by rw [hxg])
    refine lv_iconst (v := nI (0)) hx hb dX5_like_17 (by decide) ?_
    refine lv_istore_n (lv' := [(2, .int (nI (0))), (0, .ref (a 0)), (1, .int (nI (g)))]) hx hb dX5_like_18 rfl hl (by decide) rfl (fun ls hl => ?_)
    refine lv_iconst (v := nI (0)) hx hb dX5_like_19 (by decide) ?_
    refine lv_istore_n (lv' := [(3, .int (nI (0))), (2, .int (nI (0))), (0, .ref (a 0)), (1, .int (nI (g)))]) hx hb dX5_like_20 rfl hl (by decide) rfl (fun ls hl => ?_)
    have lp_21 : ∀ (j_21 : Nat) (i : Nat), (i ≤ n) → (n - i) < j_21 → ∀ ls : Array Slot, lv_has ls 6 [(0, .ref (a 0)), (1, .int (nI (g))), (2, .int (nI (fb_ct (fun k => (bln (V k) == tm) && decide (fb_ct (fun t => bsg (V k) t != bsg v t) tm ≤ g)) i))), (3, .int (nI (i)))] → W p l e rm_X5_like s m ([.ref (a 0), .int (x)] : List Value).toArray below meth c H locs 0 0 QQ (F0 m 21 ls []) := by
      intro j_21
      induction j_21 with
      | zero => intro i _ h0; exact absurd h0 (Nat.not_lt_zero _)
      | succ j_21 ih_21 =>
        intro i hi hf_21 ls hl
        refine lv_iload_n hx hb dX5_like_21 rfl (lv_at hl 3 rfl) ?_
        refine lv_aload_n hx hb dX5_like_22 rfl (lv_at hl 0 rfl) ?_
        refine va_get (D := (dC, dI)) (ci := 4) (v := .int (nI (n))) (C := RX5) (T := TX5) (N := 16) hx hb hts hi5 hown hK hP 0 rfl rfl 6 (by decide) (hts (.fieldLink RX5 67 "BurstWordsModel" "many" "I") (by decide +kernel)) (fun _ h9 => h9) rfl dX5_like_23 ?_
        refine n_ge (tgt := 117) hx hb dX5_like_26 (by decide) (by omega) (by omega) (fun c_26 => ?_) (fun c_26 => ?_)
        · refine lv_iload_n hx hb dX5_like_117 rfl (lv_at hl 2 rfl) ?_
          rw [← hQQ]
          exact m_i () hx hb hr hlocks (by rw [mo_like, if_pos c_12, hxg, nI_clamp (by omega), show n = i by omega]) hP hD hS dX5_like_118
        · refine lv_iconst (v := nI (0)) hx hb dX5_like_29 (by decide) ?_
          refine lv_istore (lv' := [(4, .int (nI (0))), (0, .ref (a 0)), (1, .int (nI (g))), (2, .int (nI (fb_ct (fun k => (bln (V k) == tm) && decide (fb_ct (fun t => bsg (V k) t != bsg v t) tm ≤ g)) i))), (3, .int (nI (i)))]) hx hb dX5_like_30 hl (by decide) rfl (fun ls hl => ?_)
          refine lv_iconst (v := nI (0)) hx hb dX5_like_32 (by decide) ?_
          refine lv_istore (lv' := [(5, .int (nI (0))), (4, .int (nI (0))), (0, .ref (a 0)), (1, .int (nI (g))), (2, .int (nI (fb_ct (fun k => (bln (V k) == tm) && decide (fb_ct (fun t => bsg (V k) t != bsg v t) tm ≤ g)) i))), (3, .int (nI (i)))]) hx hb dX5_like_33 hl (by decide) rfl (fun ls hl => ?_)
          have lp_35 : ∀ (j_35 : Nat) (j : Nat), (j ≤ tm) → (tm - j) < j_35 → ∀ ls : Array Slot, lv_has ls 6 [(0, .ref (a 0)), (1, .int (nI (g))), (2, .int (nI (fb_ct (fun k => (bln (V k) == tm) && decide (fb_ct (fun t => bsg (V k) t != bsg v t) tm ≤ g)) i))), (3, .int (nI (i))), (4, .int (nI (fb_ct (fun t => bsg (V i) t != bsg v t) j))), (5, .int (nI (j)))] → W p l e rm_X5_like s m ([.ref (a 0), .int (x)] : List Value).toArray below meth c H locs 0 0 QQ (F0 m 35 ls []) := by
            intro j_35
            induction j_35 with
            | zero => intro j _ h0; exact absurd h0 (Nat.not_lt_zero _)
            | succ j_35 ih_35 =>
              intro j hj hf_35 ls hl
              refine lv_iload hx hb dX5_like_35 (lv_at hl 5 rfl) ?_
              refine lv_aload_n hx hb dX5_like_37 rfl (lv_at hl 0 rfl) ?_
              refine va_get (D := (dC, dI)) (ci := 4) (v := .int (nI (tm))) (C := RX5) (T := TX5) (N := 16) hx hb hts hi5 hown hK hP 0 rfl rfl 2 (by decide) (hts (.fieldLink RX5 56 "BurstWordsModel" "typedMany" "I") (by decide +kernel)) (fun _ h9 => h9) rfl dX5_like_38 ?_
              refine n_ge (tgt := 81) hx hb dX5_like_41 (by decide) (by omega) (by omega) (fun c_41 => ?_) (fun c_41 => ?_)
              · refine lv_iload_n hx hb dX5_like_81 rfl (lv_at hl 2 rfl) ?_
                refine lv_aload_n hx hb dX5_like_82 rfl (lv_at hl 0 rfl) ?_
                refine va_get (D := (dC, dI)) (ci := 4) (v := .ref (a 2)) (C := RX5) (T := TX5) (N := 16) hx hb hts hi5 hown hK hP 0 rfl rfl 4 (by decide) (hts (.fieldLink RX5 17 "BurstWordsModel" "word" "[J") (by decide +kernel)) (fun _ h9 => h9) rfl dX5_like_83 ?_
                refine lv_iload_n hx hb dX5_like_86 rfl (lv_at hl 3 rfl) ?_
                refine g_l hx hb hK hP 2 1 rfl rfl (k := i) (by omega) (by decide) dX5_like_87 (v := lN (V i)) (hk _ (by omega)).1 ?_
                refine c_Si (As := [.long (lN (V i))]) (rest := [.int (nI (fb_ct (fun k => (bln (V k) == tm) && decide (fb_ct (fun t => bsg (V k) t != bsg v t) tm ≤ g)) i))]) S (c_X5_size l (V i) (w63 (hk _ (by omega)).2.1.1)) (va_cwS 1 hts gX5_like_X5_size rfl rfl rfl (by decide +kernel) ⟨Nat.le_of_ble_eq_true rfl, Nat.le_of_ble_eq_true rfl⟩) rfl hl.1 rfl (Nat.le_of_ble_eq_true rfl) dX5_like_88 ⟨Nat.le_of_ble_eq_true rfl, Nat.le_of_ble_eq_true rfl⟩ ?_
                refine lv_aload_n hx hb dX5_like_91 rfl (lv_at hl 0 rfl) ?_
                refine va_get (D := (dC, dI)) (ci := 4) (v := .int (nI (tm))) (C := RX5) (T := TX5) (N := 16) hx hb hts hi5 hown hK hP 0 rfl rfl 2 (by decide) (hts (.fieldLink RX5 56 "BurstWordsModel" "typedMany" "I") (by decide +kernel)) (fun _ h9 => h9) rfl dX5_like_92 ?_
                refine n_ne (tgt := 108) hx hb dX5_like_95 (by decide) (Nat.lt_of_le_of_lt (bln_le _) (by decide)) (by omega) (fun c_95 => ?_) (fun c_95 => ?_)
                · refine lv_iconst (v := nI (0)) hx hb dX5_like_108 (by decide) ?_
                  refine lv_iadd hx hb dX5_like_109 ?_
                  refine tpi (nI_add _ _) ?_
                  refine lv_istore_n (lv' := [(2, .int (nI ((fb_ct (fun k => (bln (V k) == tm) && decide (fb_ct (fun t => bsg (V k) t != bsg v t) tm ≤ g)) i) + 0))), (0, .ref (a 0)), (1, .int (nI (g))), (3, .int (nI (i))), (4, .int (nI (fb_ct (fun t => bsg (V i) t != bsg v t) j))), (5, .int (nI (j)))]) hx hb dX5_like_110 rfl hl (by decide) rfl (fun ls hl => ?_)
                  refine lv_iinc (v := nI (i + 1)) (lv' := [(3, .int (nI (i + 1))), (2, .int (nI ((fb_ct (fun k => (bln (V k) == tm) && decide (fb_ct (fun t => bsg (V k) t != bsg v t) tm ≤ g)) i) + 0))), (0, .ref (a 0)), (1, .int (nI (g))), (4, .int (nI (fb_ct (fun t => bsg (V i) t != bsg v t) j))), (5, .int (nI (j)))]) hx hb dX5_like_111 hl (k := 3) rfl (inc1 _) (by decide) rfl (fun ls hl => ?_)
                  refine lv_goto (tgt := 21) hx hb dX5_like_114 (by decide) ?_
                  exact ih_21 (i + 1) (by omega) (by omega) ls (lv_cg (l := [(0, .ref (a 0)), (1, .int (nI (g))), (2, .int (nI ((fb_ct (fun k => (bln (V k) == tm) && decide (fb_ct (fun t => bsg (V k) t != bsg v t) tm ≤ g)) i) + 0))), (3, .int (nI (i + 1)))]) (lv_sub hl [2, 3, 1, 0] rfl) (by rw [ct_n (p := (fun k => (bln (V k) == tm) && decide (fb_ct (fun t => bsg (V k) t != bsg v t) tm ≤ g))) (n := i) (by simp [c_95])]; simp only [Nat.add_zero]))
                · refine lv_iload hx hb dX5_like_98 (lv_at hl 4 rfl) ?_
                  refine lv_iload_n hx hb dX5_like_100 rfl (lv_at hl 1 rfl) ?_
                  refine n_gt (tgt := 108) hx hb dX5_like_101 (by decide) (Nat.lt_of_le_of_lt (fb_ct_le _ j) (by omega)) (by omega) (fun c_101 => ?_) (fun c_101 => ?_)
                  · refine lv_iconst (v := nI (0)) hx hb dX5_like_108 (by decide) ?_
                    refine lv_iadd hx hb dX5_like_109 ?_
                    refine tpi (nI_add _ _) ?_
                    refine lv_istore_n (lv' := [(2, .int (nI ((fb_ct (fun k => (bln (V k) == tm) && decide (fb_ct (fun t => bsg (V k) t != bsg v t) tm ≤ g)) i) + 0))), (0, .ref (a 0)), (1, .int (nI (g))), (3, .int (nI (i))), (4, .int (nI (fb_ct (fun t => bsg (V i) t != bsg v t) j))), (5, .int (nI (j)))]) hx hb dX5_like_110 rfl hl (by decide) rfl (fun ls hl => ?_)
                    refine lv_iinc (v := nI (i + 1)) (lv' := [(3, .int (nI (i + 1))), (2, .int (nI ((fb_ct (fun k => (bln (V k) == tm) && decide (fb_ct (fun t => bsg (V k) t != bsg v t) tm ≤ g)) i) + 0))), (0, .ref (a 0)), (1, .int (nI (g))), (4, .int (nI (fb_ct (fun t => bsg (V i) t != bsg v t) j))), (5, .int (nI (j)))]) hx hb dX5_like_111 hl (k := 3) rfl (inc1 _) (by decide) rfl (fun ls hl => ?_)
                    refine lv_goto (tgt := 21) hx hb dX5_like_114 (by decide) ?_
                    exact ih_21 (i + 1) (by omega) (by omega) ls (lv_cg (l := [(0, .ref (a 0)), (1, .int (nI (g))), (2, .int (nI ((fb_ct (fun k => (bln (V k) == tm) && decide (fb_ct (fun t => bsg (V k) t != bsg v t) tm ≤ g)) i) + 0))), (3, .int (nI (i + 1)))]) (lv_sub hl [2, 3, 1, 0] rfl) (by rw [ct_n (p := (fun k => (bln (V k) == tm) && decide (fb_ct (fun t => bsg (V k) t != bsg v t) tm ≤ g))) (n := i) (by have e : j = tm := (by omega); rw [e] at c_101; simp; omega)]; simp only [Nat.add_zero]))
                  · refine lv_iconst (v := nI (1)) hx hb dX5_like_104 (by decide) ?_
                    refine lv_goto (tgt := 109) hx hb dX5_like_105 (by decide) ?_
                    refine lv_iadd hx hb dX5_like_109 ?_
                    refine tpi (nI_add _ _) ?_
                    refine lv_istore_n (lv' := [(2, .int (nI ((fb_ct (fun k => (bln (V k) == tm) && decide (fb_ct (fun t => bsg (V k) t != bsg v t) tm ≤ g)) i) + 1))), (0, .ref (a 0)), (1, .int (nI (g))), (3, .int (nI (i))), (4, .int (nI (fb_ct (fun t => bsg (V i) t != bsg v t) j))), (5, .int (nI (j)))]) hx hb dX5_like_110 rfl hl (by decide) rfl (fun ls hl => ?_)
                    refine lv_iinc (v := nI (i + 1)) (lv' := [(3, .int (nI (i + 1))), (2, .int (nI ((fb_ct (fun k => (bln (V k) == tm) && decide (fb_ct (fun t => bsg (V k) t != bsg v t) tm ≤ g)) i) + 1))), (0, .ref (a 0)), (1, .int (nI (g))), (4, .int (nI (fb_ct (fun t => bsg (V i) t != bsg v t) j))), (5, .int (nI (j)))]) hx hb dX5_like_111 hl (k := 3) rfl (inc1 _) (by decide) rfl (fun ls hl => ?_)
                    refine lv_goto (tgt := 21) hx hb dX5_like_114 (by decide) ?_
                    exact ih_21 (i + 1) (by omega) (by omega) ls (lv_cg (l := [(0, .ref (a 0)), (1, .int (nI (g))), (2, .int (nI ((fb_ct (fun k => (bln (V k) == tm) && decide (fb_ct (fun t => bsg (V k) t != bsg v t) tm ≤ g)) i) + 1))), (3, .int (nI (i + 1)))]) (lv_sub hl [2, 3, 1, 0] rfl) (by rw [ct_y (p := (fun k => (bln (V k) == tm) && decide (fb_ct (fun t => bsg (V k) t != bsg v t) tm ≤ g))) (n := i) (by have e : j = tm := (by omega); rw [e] at c_101; simp [c_95]; omega)]))
              · refine lv_iload hx hb dX5_like_44 (lv_at hl 4 rfl) ?_
                refine lv_aload_n hx hb dX5_like_46 rfl (lv_at hl 0 rfl) ?_
                refine va_get (D := (dC, dI)) (ci := 4) (v := .ref (a 2)) (C := RX5) (T := TX5) (N := 16) hx hb hts hi5 hown hK hP 0 rfl rfl 4 (by decide) (hts (.fieldLink RX5 17 "BurstWordsModel" "word" "[J") (by decide +kernel)) (fun _ h9 => h9) rfl dX5_like_47 ?_
                refine lv_iload_n hx hb dX5_like_50 rfl (lv_at hl 3 rfl) ?_
                refine g_l hx hb hK hP 2 1 rfl rfl (k := i) (by omega) (by decide) dX5_like_51 (v := lN (V i)) (hk _ (by omega)).1 ?_
                refine lv_iload hx hb dX5_like_52 (lv_at hl 5 rfl) ?_
                refine c_Si (As := [.long (lN (V i)), .int (nI (j))]) (rest := [.int (nI (fb_ct (fun t => bsg (V i) t != bsg v t) j))]) S (c_X5_sign l (V i) j (w63 (hk _ (by omega)).2.1.1) (by omega)) (va_cwS 2 hts gX5_like_X5_sign rfl rfl rfl (by decide +kernel) ⟨Nat.le_of_ble_eq_true rfl, Nat.le_of_ble_eq_true rfl⟩) rfl hl.1 rfl (Nat.le_of_ble_eq_true rfl) dX5_like_54 ⟨Nat.le_of_ble_eq_true rfl, Nat.le_of_ble_eq_true rfl⟩ ?_
                refine lv_aload_n hx hb dX5_like_57 rfl (lv_at hl 0 rfl) ?_
                refine va_get (D := (dC, dI)) (ci := 4) (v := .ref (a 1)) (C := RX5) (T := TX5) (N := 16) hx hb hts hi5 hown hK hP 0 rfl rfl 1 (by decide) (hts (.fieldLink RX5 7 "BurstWordsModel" "typed" "[I") (by decide +kernel)) (fun _ h9 => h9) rfl dX5_like_58 ?_
                refine lv_iload hx hb dX5_like_61 (lv_at hl 5 rfl) ?_
                refine g_i hx hb hK hP 1 0 rfl rfl (k := j) (by omega) (by decide) dX5_like_63 (v := nI (bsg v j)) (hty _ (by omega)) ?_
                refine n_ne (tgt := 71) hx hb dX5_like_64 (by decide) (Nat.lt_trans (bsg_lt _ _) (by decide)) (Nat.lt_trans (bsg_lt _ _) (by decide)) (fun c_64 => ?_) (fun c_64 => ?_)
                · refine lv_iconst (v := nI (1)) hx hb dX5_like_71 (by decide) ?_
                  refine lv_iadd hx hb dX5_like_72 ?_
                  refine tpi (nI_add _ _) ?_
                  refine lv_istore (lv' := [(4, .int (nI ((fb_ct (fun t => bsg (V i) t != bsg v t) j) + 1))), (0, .ref (a 0)), (1, .int (nI (g))), (2, .int (nI (fb_ct (fun k => (bln (V k) == tm) && decide (fb_ct (fun t => bsg (V k) t != bsg v t) tm ≤ g)) i))), (3, .int (nI (i))), (5, .int (nI (j)))]) hx hb dX5_like_73 hl (by decide) rfl (fun ls hl => ?_)
                  refine lv_iinc (v := nI (j + 1)) (lv' := [(5, .int (nI (j + 1))), (4, .int (nI ((fb_ct (fun t => bsg (V i) t != bsg v t) j) + 1))), (0, .ref (a 0)), (1, .int (nI (g))), (2, .int (nI (fb_ct (fun k => (bln (V k) == tm) && decide (fb_ct (fun t => bsg (V k) t != bsg v t) tm ≤ g)) i))), (3, .int (nI (i)))]) hx hb dX5_like_75 hl (k := 5) rfl (inc1 _) (by decide) rfl (fun ls hl => ?_)
                  refine lv_goto (tgt := 35) hx hb dX5_like_78 (by decide) ?_
                  exact ih_35 (j + 1) (by omega) (by omega) ls (lv_cg (l := [(0, .ref (a 0)), (1, .int (nI (g))), (2, .int (nI (fb_ct (fun k => (bln (V k) == tm) && decide (fb_ct (fun t => bsg (V k) t != bsg v t) tm ≤ g)) i))), (3, .int (nI (i))), (4, .int (nI ((fb_ct (fun t => bsg (V i) t != bsg v t) j) + 1))), (5, .int (nI (j + 1)))]) (lv_sub hl [2, 3, 4, 5, 1, 0] rfl) (by rw [ct_y (p := (fun t => bsg (V i) t != bsg v t)) (n := j) (by simp [c_64])]))
                · refine lv_iconst (v := nI (0)) hx hb dX5_like_67 (by decide) ?_
                  refine lv_goto (tgt := 72) hx hb dX5_like_68 (by decide) ?_
                  refine lv_iadd hx hb dX5_like_72 ?_
                  refine tpi (nI_add _ _) ?_
                  refine lv_istore (lv' := [(4, .int (nI ((fb_ct (fun t => bsg (V i) t != bsg v t) j) + 0))), (0, .ref (a 0)), (1, .int (nI (g))), (2, .int (nI (fb_ct (fun k => (bln (V k) == tm) && decide (fb_ct (fun t => bsg (V k) t != bsg v t) tm ≤ g)) i))), (3, .int (nI (i))), (5, .int (nI (j)))]) hx hb dX5_like_73 hl (by decide) rfl (fun ls hl => ?_)
                  refine lv_iinc (v := nI (j + 1)) (lv' := [(5, .int (nI (j + 1))), (4, .int (nI ((fb_ct (fun t => bsg (V i) t != bsg v t) j) + 0))), (0, .ref (a 0)), (1, .int (nI (g))), (2, .int (nI (fb_ct (fun k => (bln (V k) == tm) && decide (fb_ct (fun t => bsg (V k) t != bsg v t) tm ≤ g)) i))), (3, .int (nI (i)))]) hx hb dX5_like_75 hl (k := 5) rfl (inc1 _) (by decide) rfl (fun ls hl => ?_)
                  refine lv_goto (tgt := 35) hx hb dX5_like_78 (by decide) ?_
                  exact ih_35 (j + 1) (by omega) (by omega) ls (lv_cg (l := [(0, .ref (a 0)), (1, .int (nI (g))), (2, .int (nI (fb_ct (fun k => (bln (V k) == tm) && decide (fb_ct (fun t => bsg (V k) t != bsg v t) tm ≤ g)) i))), (3, .int (nI (i))), (4, .int (nI ((fb_ct (fun t => bsg (V i) t != bsg v t) j) + 0))), (5, .int (nI (j + 1)))]) (lv_sub hl [2, 3, 4, 5, 1, 0] rfl) (by rw [ct_n (p := (fun t => bsg (V i) t != bsg v t)) (n := j) (by simp [c_64])]; simp only [Nat.add_zero]))
          exact lp_35 _ (0) (by omega) (Nat.lt_succ_self _) ls (lv_sub hl [2, 3, 4, 5, 1, 0] rfl)
    exact lp_21 _ (0) (by omega) (Nat.lt_succ_self _) ls (lv_sub hl [2, 3, 1, 0] rfl)
  · refine lv_iconst (v := (-1 : Int32)) hx hb dX5_like_15 (by decide) ?_
    rw [← hQQ]
    exact m_i () hx hb hr hlocks (by rw [mo_like, if_neg (nt c_12)]) hP hD hS dX5_like_16
abbrev rm_X5_odds : Room := { frames := 5, cells := 0, slots := 0, locals := 114 }
set_option maxHeartbeats 4000000 in
set_option maxRecDepth 100000 in
theorem c_X5_odds (l : Launch) (dC : Nat → ClassId) (dI : Nat → Nat → Nat) (cI cJ cZ : ClassId) (a : Nat → Nat) (ty : Nat → Int32) (tm b : Nat) (wo : Nat → Int64) (of : Nat → Int32) (n : Nat) (no : Nat → Int64) (nm : Nat) (un : Nat → Int64) (um : Nat) (sa sl si : Nat → Int32) (sn : Nat) (tk : Nat → Int32) (v : Nat) (V O K SA SL SI : Nat → Nat) (hmw : bMW ty tm v) (hmd : bMD wo of n V O) (hmn : bMN no nm K) (hms : bMS sa sl si sn SA SL SI) (sz : Nat) (x : Int32) : Met l yX5_odds wsX5_odds rm_X5_odds (mPc (dC, dI) (tysA cI cJ cZ) (wm a cI cJ cZ ty tm b wo of n no nm un um sa sl si sn tk) sz [.ref (a 0), .int (x)]) (mQi (dC, dI) (fun (r : Int32) (u : Unit) => r = mo_odds O n (fb_sm (fun k => if bhd (V k) (bln v) == v then O k else 0) n) x) (fun u => wm a cI cJ cZ ty tm b wo of n no nm un um sa sl si sn tk) (va_A (wm a cI cJ cZ ty tm b wo of n no nm un um sa sl si sn tk) sz)) 0 0 (va_A (wm a cI cJ cZ ty tm b wo of n no nm un um sa sl si sn tk) sz) := by
  refine met_m (cc := cX5_odds) (maxL := 5) (ret := (some .int)) (own := RX5) (Qc := fun A => mQi (dC, dI) (fun (r : Int32) (u : Unit) => r = mo_odds O n (fb_sm (fun k => if bhd (V k) (bln v) == v then O k else 0) n) x) (fun u => wm a cI cJ cZ ty tm b wo of n no nm un um sa sl si sn tk) A) (by decide) rfl rfl (Nat.le_of_ble_eq_true rfl) ?_
  intro p e s m below meth c S hr hlocks hname hK A hA hP hD hS ls hl
  obtain ⟨hx, hb, hml, hown, hts⟩ := id S
  generalize hQQ : MQ below (mQi (dC, dI) (fun (r : Int32) (u : Unit) => r = mo_odds O n (fb_sm (fun k => if bhd (V k) (bln v) == v then O k else 0) n) x) (fun u => wm a cI cJ cZ ty tm b wo of n no nm un um sa sl si sn tk) A) ([.ref (a 0), .int (x)] : List Value).toArray s 0 0 A = QQ
  have hl : lv_has ls 5 [(0, .ref (a 0)), (1, .int (x))] := hl
  have hi5 : ∀ w ∈ wsX50, w ∈ wsX5_odds := fun _ h => List.mem_cons_of_mem _ (List.mem_append_right _ h)
  obtain ⟨hvw, htm, hty⟩ := id hmw; obtain ⟨hn, hk⟩ := id hmd; obtain ⟨hnm, hkn⟩ := id hmn; obtain ⟨hsn, hks⟩ := id hms
  have hsm : fb_sm O n ≤ 3960 := sm_99 hn (fun k h => (hk k h).2.2.2.2.2)
  have hsb : fb_sm (fun k => if bhd (V k) (bln v) == v then O k else 0) n ≤ 3960 := sm_99 hn (fun k h => by have := (hk k h).2.2.2.2.2; split <;> omega)
  refine lv_aload_n hx hb dX5_odds_0 rfl (lv_at hl 0 rfl) ?_
  refine lv_iconst (v := nI (0)) hx hb dX5_odds_1 (by decide) ?_
  refine va_put (D := (dC, dI)) (ci := 4) (v := .int (nI (0))) (ty := .int) (C := RX5) (T := TX5) (N := 16) hx hb hts hi5 tyX5 tyX5_ok nmX5 hown hK hP hD hS 0 rfl rfl 0 (by decide) (hts (.fieldLink RX5 43 "BurstWordsModel" "thrown" "I") (by decide +kernel)) (fun _ h9 => h9) rfl (by decide +kernel) rfl rfl (Nat.le_of_ble_eq_true rfl) dX5_odds_2 (fun H locs hP hD hS => ?_)
  have hP : va_P (dC, dI) vwCl (wm a cI cJ cZ ty tm b wo of n no nm un um sa sl si sn tk) H := hP
  have hD : va_D A (wm a cI cJ cZ ty tm b wo of n no nm un um sa sl si sn tk) := hD
  refine lv_iload_n hx hb dX5_odds_5 rfl (lv_at hl 1 rfl) ?_
  refine lv_iconst (v := nI (0)) hx hb dX5_odds_6 (by decide) ?_
  refine lv_iconst (v := nI (1)) hx hb dX5_odds_7 (by decide) ?_
  refine c_Si (As := [.int (x), .int (nI (0)), .int (nI (1))]) (rest := []) S (c_X5_in l (x) (nI (0)) (nI (1))) (va_cwS 3 hts gX5_odds_X5_in rfl rfl rfl (by decide +kernel) ⟨Nat.le_of_ble_eq_true rfl, Nat.le_of_ble_eq_true rfl⟩) rfl hl.1 rfl (Nat.le_of_ble_eq_true rfl) dX5_odds_8 ⟨Nat.le_of_ble_eq_true rfl, Nat.le_of_ble_eq_true rfl⟩ ?_
  refine b_ne (tgt := 16) hx hb dX5_odds_11 (by decide) (fun c_11 => ?_) (fun c_11 => ?_)
  · refine lv_aload_n hx hb dX5_odds_16 rfl (lv_at hl 0 rfl) ?_
    refine c_Vi (As := []) (rest := []) (ci := 4) (q0 := 0) S (c_X5_all l dC dI cI cJ cZ a ty tm b wo of n no nm un um sa sl si sn tk v V O K SA SL SI hmw hmd hmn hms ) (cwV 0 hts gX5_odds_X5_all rfl rfl rfl (by decide +kernel) ⟨Nat.le_of_ble_eq_true rfl, Nat.le_of_ble_eq_true rfl⟩) hK hP rfl rfl rfl hl.1 rfl (Nat.le_of_ble_eq_true rfl) dX5_odds_17 ⟨Nat.le_of_ble_eq_true rfl, Nat.le_of_ble_eq_true rfl⟩ ?_
    refine z_ne (tgt := 27) hx hb dX5_odds_20 (by decide) (by omega) (fun c_20 => ?_) (fun c_20 => ?_)
    · refine lv_aload_n hx hb dX5_odds_27 rfl (lv_at hl 0 rfl) ?_
      refine c_Vi (As := []) (rest := []) (ci := 4) (q0 := 0) S (c_X5_all l dC dI cI cJ cZ a ty tm b wo of n no nm un um sa sl si sn tk v V O K SA SL SI hmw hmd hmn hms ) (cwV 0 hts gX5_odds_X5_all rfl rfl rfl (by decide +kernel) ⟨Nat.le_of_ble_eq_true rfl, Nat.le_of_ble_eq_true rfl⟩) hK hP rfl rfl rfl hl.1 rfl (Nat.le_of_ble_eq_true rfl) dX5_odds_28 ⟨Nat.le_of_ble_eq_true rfl, Nat.le_of_ble_eq_true rfl⟩ ?_
      refine lv_istore_n (lv' := [(2, .int (nI (fb_sm O n))), (0, .ref (a 0)), (1, .int (x))]) hx hb dX5_odds_31 rfl hl (by decide) rfl (fun ls hl => ?_)
      refine lv_aload_n hx hb dX5_odds_32 rfl (lv_at hl 1 rfl) ?_
      refine lv_aload_n hx hb dX5_odds_33 rfl (lv_at hl 1 rfl) ?_
      refine c_Vl (As := []) (rest := [.ref (a 0)]) (ci := 4) (q0 := 0) S (c_X5_own l dC dI cI cJ cZ a ty tm b wo of n no nm un um sa sl si sn tk v V O K SA SL SI hmw hmd hmn hms ) (cwV 0 hts gX5_odds_X5_own rfl rfl rfl (by decide +kernel) ⟨Nat.le_of_ble_eq_true rfl, Nat.le_of_ble_eq_true rfl⟩) hK hP rfl rfl rfl hl.1 rfl (Nat.le_of_ble_eq_true rfl) dX5_odds_34 ⟨Nat.le_of_ble_eq_true rfl, Nat.le_of_ble_eq_true rfl⟩ ?_
      refine c_Vi (As := [.long (lN (v))]) (rest := []) (ci := 4) (q0 := 0) S (c_X5_beginOf l dC dI cI cJ cZ a ty tm b wo of n no nm un um sa sl si sn tk v V O K SA SL SI hmw hmd hmn hms v (w63 hvw.1)) (cwV 1 hts gX5_odds_X5_beginOf rfl rfl rfl (by decide +kernel) ⟨Nat.le_of_ble_eq_true rfl, Nat.le_of_ble_eq_true rfl⟩) hK hP rfl rfl rfl hl.1 rfl (Nat.le_of_ble_eq_true rfl) dX5_odds_37 ⟨Nat.le_of_ble_eq_true rfl, Nat.le_of_ble_eq_true rfl⟩ ?_
      refine lv_istore_n (lv' := [(3, .int (nI (fb_sm (fun k => if bhd (V k) (bln v) == v then O k else 0) n))), (2, .int (nI (fb_sm O n))), (0, .ref (a 0)), (1, .int (x))]) hx hb dX5_odds_40 rfl hl (by decide) rfl (fun ls hl => ?_)
      refine lv_iload_n hx hb dX5_odds_41 rfl (lv_at hl 0 rfl) ?_
      refine lv_iload_n hx hb dX5_odds_42 rfl (lv_at hl 1 rfl) ?_
      refine c_Si (As := [.int (nI (fb_sm (fun k => if bhd (V k) (bln v) == v then O k else 0) n)), .int (nI (fb_sm O n))]) (rest := []) S (c_X5_gcd l (fb_sm (fun k => if bhd (V k) (bln v) == v then O k else 0) n) (fb_sm O n) (by omega) (by omega)) (va_cwS 2 hts gX5_odds_X5_gcd rfl rfl rfl (by decide +kernel) ⟨Nat.le_of_ble_eq_true rfl, Nat.le_of_ble_eq_true rfl⟩) rfl hl.1 rfl (Nat.le_of_ble_eq_true rfl) dX5_odds_43 ⟨Nat.le_of_ble_eq_true rfl, Nat.le_of_ble_eq_true rfl⟩ ?_
      refine lv_istore (lv' := [(4, .int (nI (Nat.gcd (fb_sm O n) (fb_sm (fun k => if bhd (V k) (bln v) == v then O k else 0) n)))), (3, .int (nI (fb_sm (fun k => if bhd (V k) (bln v) == v then O k else 0) n))), (2, .int (nI (fb_sm O n))), (0, .ref (a 0)), (1, .int (x))]) hx hb dX5_odds_46 hl (by decide) rfl (fun ls hl => ?_)
      refine lv_iload_n hx hb dX5_odds_48 rfl (lv_at hl 4 rfl) ?_
      refine lv_if_ne (tgt := 59) hx hb dX5_odds_49 (by decide) (fun c_49 => ?_) (fun c_49 => ?_)
      · refine lv_iload_n hx hb dX5_odds_59 rfl (lv_at hl 2 rfl) ?_
        refine lv_iload hx hb dX5_odds_60 (lv_at hl 0 rfl) ?_
        refine lv_idiv hx hb dX5_odds_62 (nI_ne0 (Nat.gcd_pos_of_pos_left _ (by omega)) (Nat.lt_of_le_of_lt (Nat.gcd_le_left _ (by omega)) (by omega))) ?_
        refine tpi (pk_div (by omega) (Nat.gcd_pos_of_pos_left _ (by omega)) (Nat.lt_of_le_of_lt (Nat.gcd_le_left _ (by omega)) (by omega))) ?_
        rw [← hQQ]
        exact m_i () hx hb hr hlocks (by rw [mo_odds, if_pos c_11, if_neg (Nat.pos_iff_ne_zero.mp c_20), mo_od, if_neg c_49]) hP hD hS dX5_odds_63
      · refine lv_iload_n hx hb dX5_odds_52 rfl (lv_at hl 1 rfl) ?_
        refine lv_iload hx hb dX5_odds_53 (lv_at hl 0 rfl) ?_
        refine lv_idiv hx hb dX5_odds_55 (nI_ne0 (Nat.gcd_pos_of_pos_left _ (by omega)) (Nat.lt_of_le_of_lt (Nat.gcd_le_left _ (by omega)) (by omega))) ?_
        refine tpi (pk_div (by omega) (Nat.gcd_pos_of_pos_left _ (by omega)) (Nat.lt_of_le_of_lt (Nat.gcd_le_left _ (by omega)) (by omega))) ?_
        refine lv_goto (tgt := 63) hx hb dX5_odds_56 (by decide) ?_
        rw [← hQQ]
        exact m_i () hx hb hr hlocks (by rw [mo_odds, if_pos c_11, if_neg (Nat.pos_iff_ne_zero.mp c_20), mo_od, if_pos c_49]) hP hD hS dX5_odds_63
    · refine lv_iconst (v := nI (1)) hx hb dX5_odds_23 (by decide) ?_
      refine lv_goto (tgt := 31) hx hb dX5_odds_24 (by decide) ?_
      refine lv_istore_n (lv' := [(2, .int (nI (1))), (0, .ref (a 0)), (1, .int (x))]) hx hb dX5_odds_31 rfl hl (by decide) rfl (fun ls hl => ?_)
      refine lv_aload_n hx hb dX5_odds_32 rfl (lv_at hl 1 rfl) ?_
      refine lv_aload_n hx hb dX5_odds_33 rfl (lv_at hl 1 rfl) ?_
      refine c_Vl (As := []) (rest := [.ref (a 0)]) (ci := 4) (q0 := 0) S (c_X5_own l dC dI cI cJ cZ a ty tm b wo of n no nm un um sa sl si sn tk v V O K SA SL SI hmw hmd hmn hms ) (cwV 0 hts gX5_odds_X5_own rfl rfl rfl (by decide +kernel) ⟨Nat.le_of_ble_eq_true rfl, Nat.le_of_ble_eq_true rfl⟩) hK hP rfl rfl rfl hl.1 rfl (Nat.le_of_ble_eq_true rfl) dX5_odds_34 ⟨Nat.le_of_ble_eq_true rfl, Nat.le_of_ble_eq_true rfl⟩ ?_
      refine c_Vi (As := [.long (lN (v))]) (rest := []) (ci := 4) (q0 := 0) S (c_X5_beginOf l dC dI cI cJ cZ a ty tm b wo of n no nm un um sa sl si sn tk v V O K SA SL SI hmw hmd hmn hms v (w63 hvw.1)) (cwV 1 hts gX5_odds_X5_beginOf rfl rfl rfl (by decide +kernel) ⟨Nat.le_of_ble_eq_true rfl, Nat.le_of_ble_eq_true rfl⟩) hK hP rfl rfl rfl hl.1 rfl (Nat.le_of_ble_eq_true rfl) dX5_odds_37 ⟨Nat.le_of_ble_eq_true rfl, Nat.le_of_ble_eq_true rfl⟩ ?_
      refine lv_istore_n (lv' := [(3, .int (nI (fb_sm (fun k => if bhd (V k) (bln v) == v then O k else 0) n))), (2, .int (nI (1))), (0, .ref (a 0)), (1, .int (x))]) hx hb dX5_odds_40 rfl hl (by decide) rfl (fun ls hl => ?_)
      refine lv_iload_n hx hb dX5_odds_41 rfl (lv_at hl 0 rfl) ?_
      refine lv_iload_n hx hb dX5_odds_42 rfl (lv_at hl 1 rfl) ?_
      refine c_Si (As := [.int (nI (fb_sm (fun k => if bhd (V k) (bln v) == v then O k else 0) n)), .int (nI (1))]) (rest := []) S (c_X5_gcd l (fb_sm (fun k => if bhd (V k) (bln v) == v then O k else 0) n) 1 (by omega) (by omega)) (va_cwS 2 hts gX5_odds_X5_gcd rfl rfl rfl (by decide +kernel) ⟨Nat.le_of_ble_eq_true rfl, Nat.le_of_ble_eq_true rfl⟩) rfl hl.1 rfl (Nat.le_of_ble_eq_true rfl) dX5_odds_43 ⟨Nat.le_of_ble_eq_true rfl, Nat.le_of_ble_eq_true rfl⟩ ?_
      refine lv_istore (lv' := [(4, .int (nI (Nat.gcd 1 (fb_sm (fun k => if bhd (V k) (bln v) == v then O k else 0) n)))), (3, .int (nI (fb_sm (fun k => if bhd (V k) (bln v) == v then O k else 0) n))), (2, .int (nI (1))), (0, .ref (a 0)), (1, .int (x))]) hx hb dX5_odds_46 hl (by decide) rfl (fun ls hl => ?_)
      refine lv_iload_n hx hb dX5_odds_48 rfl (lv_at hl 4 rfl) ?_
      refine lv_if_ne (tgt := 59) hx hb dX5_odds_49 (by decide) (fun c_49 => ?_) (fun c_49 => ?_)
      · refine lv_iload_n hx hb dX5_odds_59 rfl (lv_at hl 2 rfl) ?_
        refine lv_iload hx hb dX5_odds_60 (lv_at hl 0 rfl) ?_
        refine lv_idiv hx hb dX5_odds_62 (nI_ne0 (Nat.gcd_pos_of_pos_left _ (by omega)) (Nat.lt_of_le_of_lt (Nat.gcd_le_left _ (by omega)) (by omega))) ?_
        refine tpi (pk_div (by omega) (Nat.gcd_pos_of_pos_left _ (by omega)) (Nat.lt_of_le_of_lt (Nat.gcd_le_left _ (by omega)) (by omega))) ?_
        rw [← hQQ]
        exact m_i () hx hb hr hlocks (by rw [mo_odds, if_pos c_11, if_pos c_20, mo_od, if_neg c_49]) hP hD hS dX5_odds_63
      · refine lv_iload_n hx hb dX5_odds_52 rfl (lv_at hl 1 rfl) ?_
        refine lv_iload hx hb dX5_odds_53 (lv_at hl 0 rfl) ?_
        refine lv_idiv hx hb dX5_odds_55 (nI_ne0 (Nat.gcd_pos_of_pos_left _ (by omega)) (Nat.lt_of_le_of_lt (Nat.gcd_le_left _ (by omega)) (by omega))) ?_
        refine tpi (pk_div (by omega) (Nat.gcd_pos_of_pos_left _ (by omega)) (Nat.lt_of_le_of_lt (Nat.gcd_le_left _ (by omega)) (by omega))) ?_
        refine lv_goto (tgt := 63) hx hb dX5_odds_56 (by decide) ?_
        rw [← hQQ]
        exact m_i () hx hb hr hlocks (by rw [mo_odds, if_pos c_11, if_pos c_20, mo_od, if_pos c_49]) hP hD hS dX5_odds_63
  · refine lv_iconst (v := (-1 : Int32)) hx hb dX5_odds_14 (by decide) ?_
    rw [← hQQ]
    exact m_i () hx hb hr hlocks (by rw [mo_odds, if_neg (nt c_11)]) hP hD hS dX5_odds_15
abbrev rm_X5_kth : Room := { frames := 4, cells := 0, slots := 0, locals := 89 }
set_option maxHeartbeats 4000000 in
set_option maxRecDepth 100000 in
theorem c_X5_kth (l : Launch) (dC : Nat → ClassId) (dI : Nat → Nat → Nat) (cI cJ cZ : ClassId) (a : Nat → Nat) (ty : Nat → Int32) (tm b : Nat) (wo : Nat → Int64) (of : Nat → Int32) (n : Nat) (no : Nat → Int64) (nm : Nat) (un : Nat → Int64) (um : Nat) (sa sl si : Nat → Int32) (sn : Nat) (tk : Nat → Int32) (v : Nat) (V O K SA SL SI : Nat → Nat) (hmw : bMW ty tm v) (hmd : bMD wo of n V O) (hmn : bMN no nm K) (hms : bMS sa sl si sn SA SL SI) (sz : Nat) (x : Int32) (y : Int32) : Met l yX5_kth wsX5_kth rm_X5_kth (mPc (dC, dI) (tysA cI cJ cZ) (wm a cI cJ cZ ty tm b wo of n no nm un um sa sl si sn tk) sz [.ref (a 0), .int (x), .int (y)]) (mQi (dC, dI) (fun (r : Int32) (u : Unit) => r = mo_kth V O n x y) (fun u => wm a cI cJ cZ ty tm b wo of n no nm un um sa sl si sn tk) (va_A (wm a cI cJ cZ ty tm b wo of n no nm un um sa sl si sn tk) sz)) 0 0 (va_A (wm a cI cJ cZ ty tm b wo of n no nm un um sa sl si sn tk) sz) := by
  refine met_m (cc := cX5_kth) (maxL := 5) (ret := (some .int)) (own := RX5) (Qc := fun A => mQi (dC, dI) (fun (r : Int32) (u : Unit) => r = mo_kth V O n x y) (fun u => wm a cI cJ cZ ty tm b wo of n no nm un um sa sl si sn tk) A) (by decide) rfl rfl (Nat.le_of_ble_eq_true rfl) ?_
  intro p e s m below meth c S hr hlocks hname hK A hA hP hD hS ls hl
  obtain ⟨hx, hb, hml, hown, hts⟩ := id S
  generalize hQQ : MQ below (mQi (dC, dI) (fun (r : Int32) (u : Unit) => r = mo_kth V O n x y) (fun u => wm a cI cJ cZ ty tm b wo of n no nm un um sa sl si sn tk) A) ([.ref (a 0), .int (x), .int (y)] : List Value).toArray s 0 0 A = QQ
  have hl : lv_has ls 5 [(0, .ref (a 0)), (1, .int (x)), (2, .int (y))] := hl
  have hi5 : ∀ w ∈ wsX50, w ∈ wsX5_kth := fun _ h => List.mem_cons_of_mem _ (List.mem_append_right _ h)
  obtain ⟨hvw, htm, hty⟩ := id hmw; obtain ⟨hn, hk⟩ := id hmd; obtain ⟨hnm, hkn⟩ := id hmn; obtain ⟨hsn, hks⟩ := id hms
  refine lv_aload_n hx hb dX5_kth_0 rfl (lv_at hl 0 rfl) ?_
  refine lv_iconst (v := nI (0)) hx hb dX5_kth_1 (by decide) ?_
  refine va_put (D := (dC, dI)) (ci := 4) (v := .int (nI (0))) (ty := .int) (C := RX5) (T := TX5) (N := 16) hx hb hts hi5 tyX5 tyX5_ok nmX5 hown hK hP hD hS 0 rfl rfl 0 (by decide) (hts (.fieldLink RX5 43 "BurstWordsModel" "thrown" "I") (by decide +kernel)) (fun _ h9 => h9) rfl (by decide +kernel) rfl rfl (Nat.le_of_ble_eq_true rfl) dX5_kth_2 (fun H locs hP hD hS => ?_)
  have hP : va_P (dC, dI) vwCl (wm a cI cJ cZ ty tm b wo of n no nm un um sa sl si sn tk) H := hP
  have hD : va_D A (wm a cI cJ cZ ty tm b wo of n no nm un um sa sl si sn tk) := hD
  refine lv_iload_n hx hb dX5_kth_5 rfl (lv_at hl 1 rfl) ?_
  refine lv_if_lt (tgt := 16) hx hb dX5_kth_6 (by decide) (fun c_6 => ?_) (fun c_6 => ?_)
  · refine lv_iconst (v := (-1 : Int32)) hx hb dX5_kth_16 (by decide) ?_
    rw [← hQQ]
    exact m_i () hx hb hr hlocks (by rw [mo_kth, if_pos c_6]) hP hD hS dX5_kth_17
  · refine lv_iload_n hx hb dX5_kth_9 rfl (lv_at hl 2 rfl) ?_
    refine c_Si (As := [.int (y)]) (rest := []) S (c_X5_isAt l (y)) (va_cwS 1 hts gX5_kth_X5_isAt rfl rfl rfl (by decide +kernel) ⟨Nat.le_of_ble_eq_true rfl, Nat.le_of_ble_eq_true rfl⟩) rfl hl.1 rfl (Nat.le_of_ble_eq_true rfl) dX5_kth_10 ⟨Nat.le_of_ble_eq_true rfl, Nat.le_of_ble_eq_true rfl⟩ ?_
    refine b_ne (tgt := 18) hx hb dX5_kth_13 (by decide) (fun c_13 => ?_) (fun c_13 => ?_)
    · obtain ⟨k, hk31, hxk⟩ := nI_of c_6
      have hl := lv_cg (l' := [(0, .ref (a 0)), (1, .int (nI (k))), (2, .int (y))]) hl (by rw [hxk])
      obtain ⟨g, hg, hyg⟩ := bin_M c_13
      have hl := lv_cg (l' := [(0, .ref (a 0)), (1, .int (nI (k))), (2, .int (nM g))]) hl (by rw [hyg])
      refine lv_iload_n hx hb dX5_kth_18 rfl (lv_at hl 1 rfl) ?_
      refine lv_istore_n (lv' := [(3, .int (nI (k))), (0, .ref (a 0)), (1, .int (nI (k))), (2, .int (nM g))]) hx hb dX5_kth_19 rfl hl (by decide) rfl (fun ls hl => ?_)
      refine lv_iconst (v := nI (0)) hx hb dX5_kth_20 (by decide) ?_
      refine lv_istore (lv' := [(4, .int (nI (0))), (3, .int (nI (k))), (0, .ref (a 0)), (1, .int (nI (k))), (2, .int (nM g))]) hx hb dX5_kth_21 hl (by decide) rfl (fun ls hl => ?_)
      have lp_23 : ∀ (j_23 : Nat) (i : Nat), (i ≤ n) → (fb_sm O i ≤ k) → (∀ j, j < i → fb_sm O (j + 1) ≤ k) → (n - i) < j_23 → ∀ ls : Array Slot, lv_has ls 5 [(0, .ref (a 0)), (2, .int (nM g)), (3, .int (nI (k - fb_sm O i))), (4, .int (nI (i)))] → W p l e rm_X5_kth s m ([.ref (a 0), .int (x), .int (y)] : List Value).toArray below meth c H locs 0 0 QQ (F0 m 23 ls []) := by
        intro j_23
        induction j_23 with
        | zero => intro i _ _ _ h0; exact absurd h0 (Nat.not_lt_zero _)
        | succ j_23 ih_23 =>
          intro i hi hs hz hf_23 ls hl
          refine lv_iload hx hb dX5_kth_23 (lv_at hl 3 rfl) ?_
          refine lv_aload_n hx hb dX5_kth_25 rfl (lv_at hl 0 rfl) ?_
          refine va_get (D := (dC, dI)) (ci := 4) (v := .int (nI (n))) (C := RX5) (T := TX5) (N := 16) hx hb hts hi5 hown hK hP 0 rfl rfl 6 (by decide) (hts (.fieldLink RX5 67 "BurstWordsModel" "many" "I") (by decide +kernel)) (fun _ h9 => h9) rfl dX5_kth_26 ?_
          refine n_ge (tgt := 59) hx hb dX5_kth_29 (by decide) (by omega) (by omega) (fun c_29 => ?_) (fun c_29 => ?_)
          · refine lv_aload_n hx hb dX5_kth_59 rfl (lv_at hl 0 rfl) ?_
            refine lv_iload hx hb dX5_kth_60 (lv_at hl 3 rfl) ?_
            refine lv_iload_n hx hb dX5_kth_62 rfl (lv_at hl 1 rfl) ?_
            refine c_Vi (As := [.int (nI (i)), .int (nM g)]) (rest := []) (ci := 4) (q0 := 0) S (c_X5_tells l dC dI cI cJ cZ a ty tm b wo of n no nm un um sa sl si sn tk v V O K SA SL SI hmw hmd hmn hms i (by omega) g hg) (cwV 2 hts gX5_kth_X5_tells rfl rfl rfl (by decide +kernel) ⟨Nat.le_of_ble_eq_true rfl, Nat.le_of_ble_eq_true rfl⟩) hK hP rfl rfl rfl hl.1 rfl (Nat.le_of_ble_eq_true rfl) dX5_kth_63 ⟨Nat.le_of_ble_eq_true rfl, Nat.le_of_ble_eq_true rfl⟩ ?_
            rw [← hQQ]
            exact m_i () hx hb hr hlocks (by rw [mo_kth, if_neg c_6, if_pos c_13, hxk, hyg, nI_clamp hk31, bgi_M hg, show bfs (fun j => decide (k < fb_sm O (j + 1))) n = i from bfs_eq hi (fun j h => by simpa using hz j h) (fun h => absurd h (by omega))]) hP hD hS dX5_kth_66
          · refine lv_iload_n hx hb dX5_kth_32 rfl (lv_at hl 2 rfl) ?_
            refine lv_aload_n hx hb dX5_kth_33 rfl (lv_at hl 0 rfl) ?_
            refine va_get (D := (dC, dI)) (ci := 4) (v := .ref (a 3)) (C := RX5) (T := TX5) (N := 16) hx hb hts hi5 hown hK hP 0 rfl rfl 5 (by decide) (hts (.fieldLink RX5 21 "BurstWordsModel" "often" "[I") (by decide +kernel)) (fun _ h9 => h9) rfl dX5_kth_34 ?_
            refine lv_iload hx hb dX5_kth_37 (lv_at hl 3 rfl) ?_
            refine g_i hx hb hK hP 3 0 rfl rfl (k := i) (by omega) (by decide) dX5_kth_39 (v := nI (O i)) (hk _ (by omega)).2.2.2.1 ?_
            refine n_lt (tgt := 59) hx hb dX5_kth_40 (by decide) (by omega) (Nat.lt_of_le_of_lt (hk _ (by omega)).2.2.2.2.2 (by decide)) (fun c_40 => ?_) (fun c_40 => ?_)
            · refine lv_aload_n hx hb dX5_kth_59 rfl (lv_at hl 0 rfl) ?_
              refine lv_iload hx hb dX5_kth_60 (lv_at hl 3 rfl) ?_
              refine lv_iload_n hx hb dX5_kth_62 rfl (lv_at hl 1 rfl) ?_
              refine c_Vi (As := [.int (nI (i)), .int (nM g)]) (rest := []) (ci := 4) (q0 := 0) S (c_X5_tells l dC dI cI cJ cZ a ty tm b wo of n no nm un um sa sl si sn tk v V O K SA SL SI hmw hmd hmn hms i (by omega) g hg) (cwV 2 hts gX5_kth_X5_tells rfl rfl rfl (by decide +kernel) ⟨Nat.le_of_ble_eq_true rfl, Nat.le_of_ble_eq_true rfl⟩) hK hP rfl rfl rfl hl.1 rfl (Nat.le_of_ble_eq_true rfl) dX5_kth_63 ⟨Nat.le_of_ble_eq_true rfl, Nat.le_of_ble_eq_true rfl⟩ ?_
              rw [← hQQ]
              exact m_i () hx hb hr hlocks (by rw [mo_kth, if_neg c_6, if_pos c_13, hxk, hyg, nI_clamp hk31, bgi_M hg, show bfs (fun j => decide (k < fb_sm O (j + 1))) n = i from bfs_eq hi (fun j h => by simpa using hz j h) (fun h => by rw [fb_sm_succ]; simp; omega)]) hP hD hS dX5_kth_66
            · refine lv_iload_n hx hb dX5_kth_43 rfl (lv_at hl 2 rfl) ?_
              refine lv_aload_n hx hb dX5_kth_44 rfl (lv_at hl 0 rfl) ?_
              refine va_get (D := (dC, dI)) (ci := 4) (v := .ref (a 3)) (C := RX5) (T := TX5) (N := 16) hx hb hts hi5 hown hK hP 0 rfl rfl 5 (by decide) (hts (.fieldLink RX5 21 "BurstWordsModel" "often" "[I") (by decide +kernel)) (fun _ h9 => h9) rfl dX5_kth_45 ?_
              refine lv_iload hx hb dX5_kth_48 (lv_at hl 3 rfl) ?_
              refine g_i hx hb hK hP 3 0 rfl rfl (k := i) (by omega) (by decide) dX5_kth_50 (v := nI (O i)) (hk _ (by omega)).2.2.2.1 ?_
              refine lv_isub hx hb dX5_kth_51 ?_
              refine tpi (pk_sub (by omega)) ?_
              refine lv_istore_n (lv' := [(3, .int (nI ((k - fb_sm O i) - (O i)))), (0, .ref (a 0)), (2, .int (nM g)), (4, .int (nI (i)))]) hx hb dX5_kth_52 rfl hl (by decide) rfl (fun ls hl => ?_)
              refine lv_iinc (v := nI (i + 1)) (lv' := [(4, .int (nI (i + 1))), (3, .int (nI ((k - fb_sm O i) - (O i)))), (0, .ref (a 0)), (2, .int (nM g))]) hx hb dX5_kth_53 hl (k := 3) rfl (inc1 _) (by decide) rfl (fun ls hl => ?_)
              refine lv_goto (tgt := 23) hx hb dX5_kth_56 (by decide) ?_
              exact ih_23 (i + 1) (by omega) (by rw [fb_sm_succ]; omega) (lt_s hz (by rw [fb_sm_succ]; omega)) (by omega) ls (lv_cg (l := [(0, .ref (a 0)), (2, .int (nM g)), (3, .int (nI ((k - fb_sm O i) - (O i)))), (4, .int (nI (i + 1)))]) (lv_sub hl [2, 3, 1, 0] rfl) (by rw [fb_sm_succ, Nat.sub_sub]))
      exact lp_23 _ (0) (by omega) (Nat.zero_le _) lt_0 (Nat.lt_succ_self _) ls (lv_sub hl [2, 4, 1, 0] rfl)
    · refine lv_iconst (v := (-1 : Int32)) hx hb dX5_kth_16 (by decide) ?_
      rw [← hQQ]
      exact m_i () hx hb hr hlocks (by rw [mo_kth, if_neg c_6, if_neg (nt c_13)]) hP hD hS dX5_kth_17
abbrev rm_X5_unlike : Room := { frames := 4, cells := 0, slots := 0, locals := 89 }
set_option maxHeartbeats 4000000 in
set_option maxRecDepth 100000 in
theorem c_X5_unlike (l : Launch) (dC : Nat → ClassId) (dI : Nat → Nat → Nat) (cI cJ cZ : ClassId) (a : Nat → Nat) (ty : Nat → Int32) (tm b : Nat) (wo : Nat → Int64) (of : Nat → Int32) (n : Nat) (no : Nat → Int64) (nm : Nat) (un : Nat → Int64) (um : Nat) (sa sl si : Nat → Int32) (sn : Nat) (tk : Nat → Int32) (v : Nat) (V O K SA SL SI : Nat → Nat) (hmw : bMW ty tm v) (hmd : bMD wo of n V O) (hmn : bMN no nm K) (hms : bMS sa sl si sn SA SL SI) (sz : Nat) (x : Int32) (y : Int32) : Met l yX5_unlike wsX5_unlike rm_X5_unlike (mPc (dC, dI) (tysA cI cJ cZ) (wm a cI cJ cZ ty tm b wo of n no nm un um sa sl si sn tk) sz [.ref (a 0), .int (x), .int (y)]) (mQi (dC, dI) (fun (r : Int32) (u : Unit) => r = mo_unlike V n x y) (fun u => wm a cI cJ cZ ty tm b wo of n no nm un um sa sl si sn tk) (va_A (wm a cI cJ cZ ty tm b wo of n no nm un um sa sl si sn tk) sz)) 0 0 (va_A (wm a cI cJ cZ ty tm b wo of n no nm un um sa sl si sn tk) sz) := by
  refine met_m (cc := cX5_unlike) (maxL := 3) (ret := (some .int)) (own := RX5) (Qc := fun A => mQi (dC, dI) (fun (r : Int32) (u : Unit) => r = mo_unlike V n x y) (fun u => wm a cI cJ cZ ty tm b wo of n no nm un um sa sl si sn tk) A) (by decide) rfl rfl (Nat.le_of_ble_eq_true rfl) ?_
  intro p e s m below meth c S hr hlocks hname hK A hA hP hD hS ls hl
  obtain ⟨hx, hb, hml, hown, hts⟩ := id S
  generalize hQQ : MQ below (mQi (dC, dI) (fun (r : Int32) (u : Unit) => r = mo_unlike V n x y) (fun u => wm a cI cJ cZ ty tm b wo of n no nm un um sa sl si sn tk) A) ([.ref (a 0), .int (x), .int (y)] : List Value).toArray s 0 0 A = QQ
  have hl : lv_has ls 3 [(0, .ref (a 0)), (1, .int (x)), (2, .int (y))] := hl
  have hi5 : ∀ w ∈ wsX50, w ∈ wsX5_unlike := fun _ h => List.mem_cons_of_mem _ (List.mem_append_right _ h)
  obtain ⟨hvw, htm, hty⟩ := id hmw; obtain ⟨hn, hk⟩ := id hmd; obtain ⟨hnm, hkn⟩ := id hmn; obtain ⟨hsn, hks⟩ := id hms
  refine lv_aload_n hx hb dX5_unlike_0 rfl (lv_at hl 0 rfl) ?_
  refine lv_iconst (v := nI (0)) hx hb dX5_unlike_1 (by decide) ?_
  refine va_put (D := (dC, dI)) (ci := 4) (v := .int (nI (0))) (ty := .int) (C := RX5) (T := TX5) (N := 16) hx hb hts hi5 tyX5 tyX5_ok nmX5 hown hK hP hD hS 0 rfl rfl 0 (by decide) (hts (.fieldLink RX5 43 "BurstWordsModel" "thrown" "I") (by decide +kernel)) (fun _ h9 => h9) rfl (by decide +kernel) rfl rfl (Nat.le_of_ble_eq_true rfl) dX5_unlike_2 (fun H locs hP hD hS => ?_)
  have hP : va_P (dC, dI) vwCl (wm a cI cJ cZ ty tm b wo of n no nm un um sa sl si sn tk) H := hP
  have hD : va_D A (wm a cI cJ cZ ty tm b wo of n no nm un um sa sl si sn tk) := hD
  refine lv_iload_n hx hb dX5_unlike_5 rfl (lv_at hl 1 rfl) ?_
  refine lv_if_lt (tgt := 16) hx hb dX5_unlike_6 (by decide) (fun c_6 => ?_) (fun c_6 => ?_)
  · refine lv_iconst (v := (-1 : Int32)) hx hb dX5_unlike_16 (by decide) ?_
    refine lv_goto (tgt := 26) hx hb dX5_unlike_17 (by decide) ?_
    rw [← hQQ]
    exact m_i () hx hb hr hlocks (by rw [mo_unlike, if_pos c_6]) hP hD hS dX5_unlike_26
  · refine lv_iload_n hx hb dX5_unlike_9 rfl (lv_at hl 2 rfl) ?_
    refine c_Si (As := [.int (y)]) (rest := []) S (c_X5_isAt l (y)) (va_cwS 1 hts gX5_unlike_X5_isAt rfl rfl rfl (by decide +kernel) ⟨Nat.le_of_ble_eq_true rfl, Nat.le_of_ble_eq_true rfl⟩) rfl hl.1 rfl (Nat.le_of_ble_eq_true rfl) dX5_unlike_10 ⟨Nat.le_of_ble_eq_true rfl, Nat.le_of_ble_eq_true rfl⟩ ?_
    refine b_ne (tgt := 20) hx hb dX5_unlike_13 (by decide) (fun c_13 => ?_) (fun c_13 => ?_)
    · obtain ⟨k, hk31, hxk⟩ := nI_of c_6
      have hl := lv_cg (l' := [(0, .ref (a 0)), (1, .int (nI (k))), (2, .int (y))]) hl (by rw [hxk])
      obtain ⟨g, hg, hyg⟩ := bin_M c_13
      have hl := lv_cg (l' := [(0, .ref (a 0)), (1, .int (nI (k))), (2, .int (nM g))]) hl (by rw [hyg])
      refine lv_aload_n hx hb dX5_unlike_20 rfl (lv_at hl 0 rfl) ?_
      refine lv_iload_n hx hb dX5_unlike_21 rfl (lv_at hl 1 rfl) ?_
      refine lv_iload_n hx hb dX5_unlike_22 rfl (lv_at hl 2 rfl) ?_
      refine c_Vi (As := [.int (nI (k)), .int (nM g)]) (rest := []) (ci := 4) (q0 := 0) S (c_X5_tells l dC dI cI cJ cZ a ty tm b wo of n no nm un um sa sl si sn tk v V O K SA SL SI hmw hmd hmn hms k (by omega) g hg) (cwV 2 hts gX5_unlike_X5_tells rfl rfl rfl (by decide +kernel) ⟨Nat.le_of_ble_eq_true rfl, Nat.le_of_ble_eq_true rfl⟩) hK hP rfl rfl rfl hl.1 rfl (Nat.le_of_ble_eq_true rfl) dX5_unlike_23 ⟨Nat.le_of_ble_eq_true rfl, Nat.le_of_ble_eq_true rfl⟩ ?_
      rw [← hQQ]
      exact m_i () hx hb hr hlocks (by rw [mo_unlike, if_neg c_6, if_pos c_13, hxk, hyg, nI_clamp hk31, bgi_M hg]) hP hD hS dX5_unlike_26
    · refine lv_iconst (v := (-1 : Int32)) hx hb dX5_unlike_16 (by decide) ?_
      refine lv_goto (tgt := 26) hx hb dX5_unlike_17 (by decide) ?_
      rw [← hQQ]
      exact m_i () hx hb hr hlocks (by rw [mo_unlike, if_neg c_6, if_neg (nt c_13)]) hP hD hS dX5_unlike_26
abbrev rm_X5_next : Room := { frames := 4, cells := 0, slots := 0, locals := 89 }
set_option maxHeartbeats 4000000 in
set_option maxRecDepth 100000 in
theorem c_X5_next (l : Launch) (dC : Nat → ClassId) (dI : Nat → Nat → Nat) (cI cJ cZ : ClassId) (a : Nat → Nat) (ty : Nat → Int32) (tm b : Nat) (wo : Nat → Int64) (of : Nat → Int32) (n : Nat) (no : Nat → Int64) (nm : Nat) (un : Nat → Int64) (um : Nat) (sa sl si : Nat → Int32) (sn : Nat) (tk : Nat → Int32) (v : Nat) (V O K SA SL SI : Nat → Nat) (hmw : bMW ty tm v) (hmd : bMD wo of n V O) (hmn : bMN no nm K) (hms : bMS sa sl si sn SA SL SI) (sz : Nat) (y : Int32) : Met l yX5_next wsX5_next rm_X5_next (mPc (dC, dI) (tysA cI cJ cZ) (wm a cI cJ cZ ty tm b wo of n no nm un um sa sl si sn tk) sz [.ref (a 0), .int (y)]) (mQi (dC, dI) (fun (r : Int32) (u : Unit) => r = mo_next V n v y) (fun u => wm a cI cJ cZ ty tm b wo of n no nm un um sa sl si sn tk) (va_A (wm a cI cJ cZ ty tm b wo of n no nm un um sa sl si sn tk) sz)) 0 0 (va_A (wm a cI cJ cZ ty tm b wo of n no nm un um sa sl si sn tk) sz) := by
  refine met_m (cc := cX5_next) (maxL := 3) (ret := (some .int)) (own := RX5) (Qc := fun A => mQi (dC, dI) (fun (r : Int32) (u : Unit) => r = mo_next V n v y) (fun u => wm a cI cJ cZ ty tm b wo of n no nm un um sa sl si sn tk) A) (by decide) rfl rfl (Nat.le_of_ble_eq_true rfl) ?_
  intro p e s m below meth c S hr hlocks hname hK A hA hP hD hS ls hl
  obtain ⟨hx, hb, hml, hown, hts⟩ := id S
  generalize hQQ : MQ below (mQi (dC, dI) (fun (r : Int32) (u : Unit) => r = mo_next V n v y) (fun u => wm a cI cJ cZ ty tm b wo of n no nm un um sa sl si sn tk) A) ([.ref (a 0), .int (y)] : List Value).toArray s 0 0 A = QQ
  have hl : lv_has ls 3 [(0, .ref (a 0)), (1, .int (y))] := hl
  have hi5 : ∀ w ∈ wsX50, w ∈ wsX5_next := fun _ h => List.mem_cons_of_mem _ (List.mem_append_right _ h)
  obtain ⟨hvw, htm, hty⟩ := id hmw; obtain ⟨hn, hk⟩ := id hmd; obtain ⟨hnm, hkn⟩ := id hmn; obtain ⟨hsn, hks⟩ := id hms
  refine lv_aload_n hx hb dX5_next_0 rfl (lv_at hl 0 rfl) ?_
  refine lv_iconst (v := nI (0)) hx hb dX5_next_1 (by decide) ?_
  refine va_put (D := (dC, dI)) (ci := 4) (v := .int (nI (0))) (ty := .int) (C := RX5) (T := TX5) (N := 16) hx hb hts hi5 tyX5 tyX5_ok nmX5 hown hK hP hD hS 0 rfl rfl 0 (by decide) (hts (.fieldLink RX5 43 "BurstWordsModel" "thrown" "I") (by decide +kernel)) (fun _ h9 => h9) rfl (by decide +kernel) rfl rfl (Nat.le_of_ble_eq_true rfl) dX5_next_2 (fun H locs hP hD hS => ?_)
  have hP : va_P (dC, dI) vwCl (wm a cI cJ cZ ty tm b wo of n no nm un um sa sl si sn tk) H := hP
  have hD : va_D A (wm a cI cJ cZ ty tm b wo of n no nm un um sa sl si sn tk) := hD
  refine lv_iload_n hx hb dX5_next_5 rfl (lv_at hl 1 rfl) ?_
  refine c_Si (As := [.int (y)]) (rest := []) S (c_X5_isAt l (y)) (va_cwS 1 hts gX5_next_X5_isAt rfl rfl rfl (by decide +kernel) ⟨Nat.le_of_ble_eq_true rfl, Nat.le_of_ble_eq_true rfl⟩) rfl hl.1 rfl (Nat.le_of_ble_eq_true rfl) dX5_next_6 ⟨Nat.le_of_ble_eq_true rfl, Nat.le_of_ble_eq_true rfl⟩ ?_
  refine b_ne (tgt := 14) hx hb dX5_next_9 (by decide) (fun c_9 => ?_) (fun c_9 => ?_)
  · obtain ⟨g, hg, hyg⟩ := bin_M c_9
    have hl := lv_cg (l' := [(0, .ref (a 0)), (1, .int (nM g))]) hl (by rw [hyg])
    refine lv_iconst (v := nI (0)) hx hb dX5_next_14 (by decide) ?_
    refine lv_istore_n (lv' := [(2, .int (nI (0))), (0, .ref (a 0)), (1, .int (nM g))]) hx hb dX5_next_15 rfl hl (by decide) rfl (fun ls hl => ?_)
    have lp_16 : ∀ (j_16 : Nat) (i : Nat), (i ≤ n) → (∀ j, j < i → V j ≤ v) → (n - i) < j_16 → ∀ ls : Array Slot, lv_has ls 3 [(0, .ref (a 0)), (1, .int (nM g)), (2, .int (nI (i)))] → W p l e rm_X5_next s m ([.ref (a 0), .int (y)] : List Value).toArray below meth c H locs 0 0 QQ (F0 m 16 ls []) := by
      intro j_16
      induction j_16 with
      | zero => intro i _ _ h0; exact absurd h0 (Nat.not_lt_zero _)
      | succ j_16 ih_16 =>
        intro i hi hz hf_16 ls hl
        refine lv_iload_n hx hb dX5_next_16 rfl (lv_at hl 2 rfl) ?_
        refine lv_aload_n hx hb dX5_next_17 rfl (lv_at hl 0 rfl) ?_
        refine va_get (D := (dC, dI)) (ci := 4) (v := .int (nI (n))) (C := RX5) (T := TX5) (N := 16) hx hb hts hi5 hown hK hP 0 rfl rfl 6 (by decide) (hts (.fieldLink RX5 67 "BurstWordsModel" "many" "I") (by decide +kernel)) (fun _ h9 => h9) rfl dX5_next_18 ?_
        refine n_ge (tgt := 44) hx hb dX5_next_21 (by decide) (by omega) (by omega) (fun c_21 => ?_) (fun c_21 => ?_)
        · refine lv_aload_n hx hb dX5_next_44 rfl (lv_at hl 0 rfl) ?_
          refine lv_iload_n hx hb dX5_next_45 rfl (lv_at hl 2 rfl) ?_
          refine lv_iload_n hx hb dX5_next_46 rfl (lv_at hl 1 rfl) ?_
          refine c_Vi (As := [.int (nI (i)), .int (nM g)]) (rest := []) (ci := 4) (q0 := 0) S (c_X5_tells l dC dI cI cJ cZ a ty tm b wo of n no nm un um sa sl si sn tk v V O K SA SL SI hmw hmd hmn hms i (by omega) g hg) (cwV 2 hts gX5_next_X5_tells rfl rfl rfl (by decide +kernel) ⟨Nat.le_of_ble_eq_true rfl, Nat.le_of_ble_eq_true rfl⟩) hK hP rfl rfl rfl hl.1 rfl (Nat.le_of_ble_eq_true rfl) dX5_next_47 ⟨Nat.le_of_ble_eq_true rfl, Nat.le_of_ble_eq_true rfl⟩ ?_
          rw [← hQQ]
          exact m_i () hx hb hr hlocks (by rw [mo_next, if_pos c_9, hyg, bgi_M hg, show bfs (fun j => decide (v < V j)) n = i from bfs_eq hi (fun j h => by simpa using hz j h) (fun h => absurd h (by omega))]) hP hD hS dX5_next_50
        · refine lv_aload_n hx hb dX5_next_24 rfl (lv_at hl 0 rfl) ?_
          refine va_get (D := (dC, dI)) (ci := 4) (v := .ref (a 2)) (C := RX5) (T := TX5) (N := 16) hx hb hts hi5 hown hK hP 0 rfl rfl 4 (by decide) (hts (.fieldLink RX5 17 "BurstWordsModel" "word" "[J") (by decide +kernel)) (fun _ h9 => h9) rfl dX5_next_25 ?_
          refine lv_iload_n hx hb dX5_next_28 rfl (lv_at hl 2 rfl) ?_
          refine g_l hx hb hK hP 2 1 rfl rfl (k := i) (by omega) (by decide) dX5_next_29 (v := lN (V i)) (hk _ (by omega)).1 ?_
          refine lv_aload_n hx hb dX5_next_30 rfl (lv_at hl 0 rfl) ?_
          refine c_Vl (As := []) (rest := [.long (lN (V i))]) (ci := 4) (q0 := 0) S (c_X5_own l dC dI cI cJ cZ a ty tm b wo of n no nm un um sa sl si sn tk v V O K SA SL SI hmw hmd hmn hms ) (cwV 0 hts gX5_next_X5_own rfl rfl rfl (by decide +kernel) ⟨Nat.le_of_ble_eq_true rfl, Nat.le_of_ble_eq_true rfl⟩) hK hP rfl rfl rfl hl.1 rfl (Nat.le_of_ble_eq_true rfl) dX5_next_31 ⟨Nat.le_of_ble_eq_true rfl, Nat.le_of_ble_eq_true rfl⟩ ?_
          refine q_gt (tgt := 44) hx hb dX5_next_34 dX5_next_35 (by decide) (w63 (hk _ (by omega)).2.1.1) (w63 hvw.1) (fun c_34 => ?_) (fun c_34 => ?_)
          · refine lv_aload_n hx hb dX5_next_44 rfl (lv_at hl 0 rfl) ?_
            refine lv_iload_n hx hb dX5_next_45 rfl (lv_at hl 2 rfl) ?_
            refine lv_iload_n hx hb dX5_next_46 rfl (lv_at hl 1 rfl) ?_
            refine c_Vi (As := [.int (nI (i)), .int (nM g)]) (rest := []) (ci := 4) (q0 := 0) S (c_X5_tells l dC dI cI cJ cZ a ty tm b wo of n no nm un um sa sl si sn tk v V O K SA SL SI hmw hmd hmn hms i (by omega) g hg) (cwV 2 hts gX5_next_X5_tells rfl rfl rfl (by decide +kernel) ⟨Nat.le_of_ble_eq_true rfl, Nat.le_of_ble_eq_true rfl⟩) hK hP rfl rfl rfl hl.1 rfl (Nat.le_of_ble_eq_true rfl) dX5_next_47 ⟨Nat.le_of_ble_eq_true rfl, Nat.le_of_ble_eq_true rfl⟩ ?_
            rw [← hQQ]
            exact m_i () hx hb hr hlocks (by rw [mo_next, if_pos c_9, hyg, bgi_M hg, show bfs (fun j => decide (v < V j)) n = i from bfs_eq hi (fun j h => by simpa using hz j h) (fun h => by simpa using c_34)]) hP hD hS dX5_next_50
          · refine lv_iinc (v := nI (i + 1)) (lv' := [(2, .int (nI (i + 1))), (0, .ref (a 0)), (1, .int (nM g))]) hx hb dX5_next_38 hl (k := 2) rfl (inc1 _) (by decide) rfl (fun ls hl => ?_)
            refine lv_goto (tgt := 16) hx hb dX5_next_41 (by decide) ?_
            exact ih_16 (i + 1) (by omega) (lt_s hz c_34) (by omega) ls (lv_sub hl [1, 2, 0] rfl)
    exact lp_16 _ (0) (by omega) lt_0 (Nat.lt_succ_self _) ls (lv_sub hl [1, 2, 0] rfl)
  · refine lv_iconst (v := (-1 : Int32)) hx hb dX5_next_12 (by decide) ?_
    rw [← hQQ]
    exact m_i () hx hb hr hlocks (by rw [mo_next, if_neg (nt c_9)]) hP hD hS dX5_next_13
abbrev rm_X5_fit : Room := { frames := 4, cells := 0, slots := 0, locals := 90 }
set_option maxHeartbeats 4000000 in
set_option maxRecDepth 100000 in
theorem c_X5_fit (l : Launch) (dC : Nat → ClassId) (dI : Nat → Nat → Nat) (cI cJ cZ : ClassId) (a : Nat → Nat) (ty : Nat → Int32) (tm b : Nat) (wo : Nat → Int64) (of : Nat → Int32) (n : Nat) (no : Nat → Int64) (nm : Nat) (un : Nat → Int64) (um : Nat) (sa sl si : Nat → Int32) (sn : Nat) (tk : Nat → Int32) (v : Nat) (V O K SA SL SI : Nat → Nat) (hmw : bMW ty tm v) (hmd : bMD wo of n V O) (hmn : bMN no nm K) (hms : bMS sa sl si sn SA SL SI) (sz : Nat) (x : Int32) : Met l yX5_fit wsX5_fit rm_X5_fit (mPc (dC, dI) (tysA cI cJ cZ) (wm a cI cJ cZ ty tm b wo of n no nm un um sa sl si sn tk) sz [.ref (a 0), .int (x)]) (mQi (dC, dI) (fun (r : Int32) (u : Unit) => r = mo_fit V n SA SL SI sn x) (fun u => wm a cI cJ cZ ty tm b wo of n no nm un um sa sl si sn tk) (va_A (wm a cI cJ cZ ty tm b wo of n no nm un um sa sl si sn tk) sz)) 0 0 (va_A (wm a cI cJ cZ ty tm b wo of n no nm un um sa sl si sn tk) sz) := by
  refine met_m (cc := cX5_fit) (maxL := 3) (ret := (some .int)) (own := RX5) (Qc := fun A => mQi (dC, dI) (fun (r : Int32) (u : Unit) => r = mo_fit V n SA SL SI sn x) (fun u => wm a cI cJ cZ ty tm b wo of n no nm un um sa sl si sn tk) A) (by decide) rfl rfl (Nat.le_of_ble_eq_true rfl) ?_
  intro p e s m below meth c S hr hlocks hname hK A hA hP hD hS ls hl
  obtain ⟨hx, hb, hml, hown, hts⟩ := id S
  generalize hQQ : MQ below (mQi (dC, dI) (fun (r : Int32) (u : Unit) => r = mo_fit V n SA SL SI sn x) (fun u => wm a cI cJ cZ ty tm b wo of n no nm un um sa sl si sn tk) A) ([.ref (a 0), .int (x)] : List Value).toArray s 0 0 A = QQ
  have hl : lv_has ls 3 [(0, .ref (a 0)), (1, .int (x))] := hl
  have hi5 : ∀ w ∈ wsX50, w ∈ wsX5_fit := fun _ h => List.mem_cons_of_mem _ (List.mem_append_right _ h)
  obtain ⟨hvw, htm, hty⟩ := id hmw; obtain ⟨hn, hk⟩ := id hmd; obtain ⟨hnm, hkn⟩ := id hmn; obtain ⟨hsn, hks⟩ := id hms
  refine lv_aload_n hx hb dX5_fit_0 rfl (lv_at hl 0 rfl) ?_
  refine lv_iconst (v := nI (0)) hx hb dX5_fit_1 (by decide) ?_
  refine va_put (D := (dC, dI)) (ci := 4) (v := .int (nI (0))) (ty := .int) (C := RX5) (T := TX5) (N := 16) hx hb hts hi5 tyX5 tyX5_ok nmX5 hown hK hP hD hS 0 rfl rfl 0 (by decide) (hts (.fieldLink RX5 43 "BurstWordsModel" "thrown" "I") (by decide +kernel)) (fun _ h9 => h9) rfl (by decide +kernel) rfl rfl (Nat.le_of_ble_eq_true rfl) dX5_fit_2 (fun H locs hP hD hS => ?_)
  have hP : va_P (dC, dI) vwCl (wm a cI cJ cZ ty tm b wo of n no nm un um sa sl si sn tk) H := hP
  have hD : va_D A (wm a cI cJ cZ ty tm b wo of n no nm un um sa sl si sn tk) := hD
  refine lv_iload_n hx hb dX5_fit_5 rfl (lv_at hl 1 rfl) ?_
  refine lv_iconst (v := nI (0)) hx hb dX5_fit_6 (by decide) ?_
  refine lv_iconst (v := nI (1)) hx hb dX5_fit_7 (by decide) ?_
  refine c_Si (As := [.int (x), .int (nI (0)), .int (nI (1))]) (rest := []) S (c_X5_in l (x) (nI (0)) (nI (1))) (va_cwS 3 hts gX5_fit_X5_in rfl rfl rfl (by decide +kernel) ⟨Nat.le_of_ble_eq_true rfl, Nat.le_of_ble_eq_true rfl⟩) rfl hl.1 rfl (Nat.le_of_ble_eq_true rfl) dX5_fit_8 ⟨Nat.le_of_ble_eq_true rfl, Nat.le_of_ble_eq_true rfl⟩ ?_
  refine b_ne (tgt := 16) hx hb dX5_fit_11 (by decide) (fun c_11 => ?_) (fun c_11 => ?_)
  · refine lv_iconst (v := nI (0)) hx hb dX5_fit_16 (by decide) ?_
    refine lv_istore_n (lv' := [(2, .int (nI (0))), (0, .ref (a 0)), (1, .int (x))]) hx hb dX5_fit_17 rfl hl (by decide) rfl (fun ls hl => ?_)
    have lp_18 : ∀ (j_18 : Nat) (i : Nat), (i ≤ n) → (∀ j, j < i → bft (V j) SA SL SI sn = false) → (n - i) < j_18 → ∀ ls : Array Slot, lv_has ls 3 [(0, .ref (a 0)), (1, .int (x)), (2, .int (nI (i)))] → W p l e rm_X5_fit s m ([.ref (a 0), .int (x)] : List Value).toArray below meth c H locs 0 0 QQ (F0 m 18 ls []) := by
      intro j_18
      induction j_18 with
      | zero => intro i _ _ h0; exact absurd h0 (Nat.not_lt_zero _)
      | succ j_18 ih_18 =>
        intro i hi hz hf_18 ls hl
        refine lv_iload_n hx hb dX5_fit_18 rfl (lv_at hl 2 rfl) ?_
        refine lv_aload_n hx hb dX5_fit_19 rfl (lv_at hl 0 rfl) ?_
        refine va_get (D := (dC, dI)) (ci := 4) (v := .int (nI (n))) (C := RX5) (T := TX5) (N := 16) hx hb hts hi5 hown hK hP 0 rfl rfl 6 (by decide) (hts (.fieldLink RX5 67 "BurstWordsModel" "many" "I") (by decide +kernel)) (fun _ h9 => h9) rfl dX5_fit_20 ?_
        refine n_ge (tgt := 40) hx hb dX5_fit_23 (by decide) (by omega) (by omega) (fun c_23 => ?_) (fun c_23 => ?_)
        · refine lv_iload_n hx hb dX5_fit_40 rfl (lv_at hl 1 rfl) ?_
          refine lv_if_ne (tgt := 51) hx hb dX5_fit_41 (by decide) (fun c_41 => ?_) (fun c_41 => ?_)
          · refine lv_iload_n hx hb dX5_fit_51 rfl (lv_at hl 2 rfl) ?_
            refine lv_aload_n hx hb dX5_fit_52 rfl (lv_at hl 0 rfl) ?_
            refine va_get (D := (dC, dI)) (ci := 4) (v := .int (nI (n))) (C := RX5) (T := TX5) (N := 16) hx hb hts hi5 hown hK hP 0 rfl rfl 6 (by decide) (hts (.fieldLink RX5 67 "BurstWordsModel" "many" "I") (by decide +kernel)) (fun _ h9 => h9) rfl dX5_fit_53 ?_
            refine n_ne (tgt := 64) hx hb dX5_fit_56 (by decide) (by omega) (by omega) (fun c_56 => ?_) (fun c_56 => ?_)
            · refine lv_iload_n hx hb dX5_fit_64 rfl (lv_at hl 2 rfl) ?_
              rw [← hQQ]
              exact m_i () hx hb hr hlocks (by rw [mo_fit, if_pos c_11, if_neg c_41, show bfs (fun k => bft (V k) SA SL SI sn) n = i from bfs_eq hi (fun j h => hz j h) (fun h => absurd h (by omega)), if_neg c_56]) hP hD hS dX5_fit_65
            · refine lv_bipush (v := (-9 : Int32)) hx hb dX5_fit_59 (by decide) ?_
              refine lv_goto (tgt := 65) hx hb dX5_fit_61 (by decide) ?_
              rw [← hQQ]
              exact m_i () hx hb hr hlocks (by rw [mo_fit, if_pos c_11, if_neg c_41, show bfs (fun k => bft (V k) SA SL SI sn) n = i from bfs_eq hi (fun j h => hz j h) (fun h => absurd h (by omega)), if_pos c_56]) hP hD hS dX5_fit_65
          · refine lv_aload_n hx hb dX5_fit_44 rfl (lv_at hl 0 rfl) ?_
            refine c_Vi (As := []) (rest := []) (ci := 4) (q0 := 0) S (c_X5_fitMany l dC dI cI cJ cZ a ty tm b wo of n no nm un um sa sl si sn tk v V O K SA SL SI hmw hmd hmn hms ) (cwV 0 hts gX5_fit_X5_fitMany rfl rfl rfl (by decide +kernel) ⟨Nat.le_of_ble_eq_true rfl, Nat.le_of_ble_eq_true rfl⟩) hK hP rfl rfl rfl hl.1 rfl (Nat.le_of_ble_eq_true rfl) dX5_fit_45 ⟨Nat.le_of_ble_eq_true rfl, Nat.le_of_ble_eq_true rfl⟩ ?_
            refine lv_goto (tgt := 65) hx hb dX5_fit_48 (by decide) ?_
            rw [← hQQ]
            exact m_i () hx hb hr hlocks (by rw [mo_fit, if_pos c_11, if_pos c_41]) hP hD hS dX5_fit_65
        · refine lv_aload_n hx hb dX5_fit_26 rfl (lv_at hl 0 rfl) ?_
          refine lv_iload_n hx hb dX5_fit_27 rfl (lv_at hl 2 rfl) ?_
          refine c_Vi (As := [.int (nI (i))]) (rest := []) (ci := 4) (q0 := 0) S (c_X5_fits l dC dI cI cJ cZ a ty tm b wo of n no nm un um sa sl si sn tk v V O K SA SL SI hmw hmd hmn hms i (by omega)) (cwV 1 hts gX5_fit_X5_fits rfl rfl rfl (by decide +kernel) ⟨Nat.le_of_ble_eq_true rfl, Nat.le_of_ble_eq_true rfl⟩) hK hP rfl rfl rfl hl.1 rfl (Nat.le_of_ble_eq_true rfl) dX5_fit_28 ⟨Nat.le_of_ble_eq_true rfl, Nat.le_of_ble_eq_true rfl⟩ ?_
          refine b_ne (tgt := 40) hx hb dX5_fit_31 (by decide) (fun c_31 => ?_) (fun c_31 => ?_)
          · refine lv_iload_n hx hb dX5_fit_40 rfl (lv_at hl 1 rfl) ?_
            refine lv_if_ne (tgt := 51) hx hb dX5_fit_41 (by decide) (fun c_41 => ?_) (fun c_41 => ?_)
            · refine lv_iload_n hx hb dX5_fit_51 rfl (lv_at hl 2 rfl) ?_
              refine lv_aload_n hx hb dX5_fit_52 rfl (lv_at hl 0 rfl) ?_
              refine va_get (D := (dC, dI)) (ci := 4) (v := .int (nI (n))) (C := RX5) (T := TX5) (N := 16) hx hb hts hi5 hown hK hP 0 rfl rfl 6 (by decide) (hts (.fieldLink RX5 67 "BurstWordsModel" "many" "I") (by decide +kernel)) (fun _ h9 => h9) rfl dX5_fit_53 ?_
              refine n_ne (tgt := 64) hx hb dX5_fit_56 (by decide) (by omega) (by omega) (fun c_56 => ?_) (fun c_56 => ?_)
              · refine lv_iload_n hx hb dX5_fit_64 rfl (lv_at hl 2 rfl) ?_
                rw [← hQQ]
                exact m_i () hx hb hr hlocks (by rw [mo_fit, if_pos c_11, if_neg c_41, show bfs (fun k => bft (V k) SA SL SI sn) n = i from bfs_eq hi (fun j h => hz j h) (fun h => c_31), if_neg c_56]) hP hD hS dX5_fit_65
              · refine lv_bipush (v := (-9 : Int32)) hx hb dX5_fit_59 (by decide) ?_
                refine lv_goto (tgt := 65) hx hb dX5_fit_61 (by decide) ?_
                rw [← hQQ]
                exact m_i () hx hb hr hlocks (by rw [mo_fit, if_pos c_11, if_neg c_41, show bfs (fun k => bft (V k) SA SL SI sn) n = i from bfs_eq hi (fun j h => hz j h) (fun h => c_31), if_pos c_56]) hP hD hS dX5_fit_65
            · refine lv_aload_n hx hb dX5_fit_44 rfl (lv_at hl 0 rfl) ?_
              refine c_Vi (As := []) (rest := []) (ci := 4) (q0 := 0) S (c_X5_fitMany l dC dI cI cJ cZ a ty tm b wo of n no nm un um sa sl si sn tk v V O K SA SL SI hmw hmd hmn hms ) (cwV 0 hts gX5_fit_X5_fitMany rfl rfl rfl (by decide +kernel) ⟨Nat.le_of_ble_eq_true rfl, Nat.le_of_ble_eq_true rfl⟩) hK hP rfl rfl rfl hl.1 rfl (Nat.le_of_ble_eq_true rfl) dX5_fit_45 ⟨Nat.le_of_ble_eq_true rfl, Nat.le_of_ble_eq_true rfl⟩ ?_
              refine lv_goto (tgt := 65) hx hb dX5_fit_48 (by decide) ?_
              rw [← hQQ]
              exact m_i () hx hb hr hlocks (by rw [mo_fit, if_pos c_11, if_pos c_41]) hP hD hS dX5_fit_65
          · refine lv_iinc (v := nI (i + 1)) (lv' := [(2, .int (nI (i + 1))), (0, .ref (a 0)), (1, .int (x))]) hx hb dX5_fit_34 hl (k := 2) rfl (inc1 _) (by decide) rfl (fun ls hl => ?_)
            refine lv_goto (tgt := 18) hx hb dX5_fit_37 (by decide) ?_
            exact ih_18 (i + 1) (by omega) (lt_s hz c_31) (by omega) ls (lv_sub hl [1, 2, 0] rfl)
    exact lp_18 _ (0) (by omega) lt_0 (Nat.lt_succ_self _) ls (lv_sub hl [1, 2, 0] rfl)
  · refine lv_iconst (v := (-1 : Int32)) hx hb dX5_fit_14 (by decide) ?_
    rw [← hQQ]
    exact m_i () hx hb hr hlocks (by rw [mo_fit, if_neg (nt c_11)]) hP hD hS dX5_fit_15
abbrev rm_X5_count : Room := { frames := 6, cells := 0, slots := 0, locals := 138 }
set_option maxHeartbeats 4000000 in
set_option maxRecDepth 100000 in
theorem c_X5_count (l : Launch) (dC : Nat → ClassId) (dI : Nat → Nat → Nat) (cI cJ cZ : ClassId) (a : Nat → Nat) (ty : Nat → Int32) (tm b : Nat) (wo : Nat → Int64) (of : Nat → Int32) (n : Nat) (no : Nat → Int64) (nm : Nat) (un : Nat → Int64) (um : Nat) (sa sl si : Nat → Int32) (sn : Nat) (tk : Nat → Int32) (v : Nat) (V O K SA SL SI : Nat → Nat) (hmw : bMW ty tm v) (hmd : bMD wo of n V O) (hmn : bMN no nm K) (hms : bMS sa sl si sn SA SL SI) (sz : Nat) (x : Int32) : Met l yX5_count wsX5_count rm_X5_count (mPc (dC, dI) (tysA cI cJ cZ) (wm a cI cJ cZ ty tm b wo of n no nm un um sa sl si sn tk) sz [.ref (a 0), .int (x)]) (mQi (dC, dI) (fun (r : Int32) (u : Unit) => r = mo_count V O n K nm b tm um x) (fun u => wm a cI cJ cZ ty tm b wo of n no nm un um sa sl si sn tk) (va_A (wm a cI cJ cZ ty tm b wo of n no nm un um sa sl si sn tk) sz)) 0 0 (va_A (wm a cI cJ cZ ty tm b wo of n no nm un um sa sl si sn tk) sz) := by
  refine met_m (cc := cX5_count) (maxL := 2) (ret := (some .int)) (own := RX5) (Qc := fun A => mQi (dC, dI) (fun (r : Int32) (u : Unit) => r = mo_count V O n K nm b tm um x) (fun u => wm a cI cJ cZ ty tm b wo of n no nm un um sa sl si sn tk) A) (by decide) rfl rfl (Nat.le_of_ble_eq_true rfl) ?_
  intro p e s m below meth c S hr hlocks hname hK A hA hP hD hS ls hl
  obtain ⟨hx, hb, hml, hown, hts⟩ := id S
  generalize hQQ : MQ below (mQi (dC, dI) (fun (r : Int32) (u : Unit) => r = mo_count V O n K nm b tm um x) (fun u => wm a cI cJ cZ ty tm b wo of n no nm un um sa sl si sn tk) A) ([.ref (a 0), .int (x)] : List Value).toArray s 0 0 A = QQ
  have hl : lv_has ls 2 [(0, .ref (a 0)), (1, .int (x))] := hl
  have hi5 : ∀ w ∈ wsX50, w ∈ wsX5_count := fun _ h => List.mem_cons_of_mem _ (List.mem_append_right _ h)
  obtain ⟨hvw, htm, hty⟩ := id hmw; obtain ⟨hn, hk⟩ := id hmd; obtain ⟨hnm, hkn⟩ := id hmn; obtain ⟨hsn, hks⟩ := id hms
  refine lv_aload_n hx hb dX5_count_0 rfl (lv_at hl 0 rfl) ?_
  refine lv_iconst (v := nI (0)) hx hb dX5_count_1 (by decide) ?_
  refine va_put (D := (dC, dI)) (ci := 4) (v := .int (nI (0))) (ty := .int) (C := RX5) (T := TX5) (N := 16) hx hb hts hi5 tyX5 tyX5_ok nmX5 hown hK hP hD hS 0 rfl rfl 0 (by decide) (hts (.fieldLink RX5 43 "BurstWordsModel" "thrown" "I") (by decide +kernel)) (fun _ h9 => h9) rfl (by decide +kernel) rfl rfl (Nat.le_of_ble_eq_true rfl) dX5_count_2 (fun H locs hP hD hS => ?_)
  have hP : va_P (dC, dI) vwCl (wm a cI cJ cZ ty tm b wo of n no nm un um sa sl si sn tk) H := hP
  have hD : va_D A (wm a cI cJ cZ ty tm b wo of n no nm un um sa sl si sn tk) := hD
  refine lv_iload_n hx hb dX5_count_5 rfl (lv_at hl 1 rfl) ?_
  refine lv_iconst (v := nI (0)) hx hb dX5_count_6 (by decide) ?_
  refine lv_bipush (v := nI (11)) hx hb dX5_count_7 (by decide) ?_
  refine c_Si (As := [.int (x), .int (nI (0)), .int (nI (11))]) (rest := []) S (c_X5_in l (x) (nI (0)) (nI (11))) (va_cwS 3 hts gX5_count_X5_in rfl rfl rfl (by decide +kernel) ⟨Nat.le_of_ble_eq_true rfl, Nat.le_of_ble_eq_true rfl⟩) rfl hl.1 rfl (Nat.le_of_ble_eq_true rfl) dX5_count_9 ⟨Nat.le_of_ble_eq_true rfl, Nat.le_of_ble_eq_true rfl⟩ ?_
  refine b_ne (tgt := 17) hx hb dX5_count_12 (by decide) (fun c_12 => ?_) (fun c_12 => ?_)
  · obtain ⟨g, hg, hxg⟩ := bin_N (by decide) c_12
    have hl := lv_cg (l' := [(0, .ref (a 0)), (1, .int (nI (g)))]) hl (by rw [hxg])
    refine lv_iload_n hx hb dX5_count_17 rfl (lv_at hl 1 rfl) ?_
    refine lv_iconst (v := nI (4)) hx hb dX5_count_18 (by decide) ?_
    refine n_ge (tgt := 62) hx hb dX5_count_19 (by decide) (by omega) (by omega) (fun c_19 => ?_) (fun c_19 => ?_)
    · refine lv_iload_n hx hb dX5_count_62 rfl (lv_at hl 1 rfl) ?_
      refine lv_bipush (v := nI (7)) hx hb dX5_count_63 (by decide) ?_
      refine n_ge (tgt := 97) hx hb dX5_count_65 (by decide) (by omega) (by omega) (fun c_65 => ?_) (fun c_65 => ?_)
      · refine lv_iload_n hx hb dX5_count_97 rfl (lv_at hl 1 rfl) ?_
        refine lv_bipush (v := nI (9)) hx hb dX5_count_98 (by decide) ?_
        refine n_ge (tgt := 119) hx hb dX5_count_100 (by decide) (by omega) (by omega) (fun c_100 => ?_) (fun c_100 => ?_)
        · refine lv_iload_n hx hb dX5_count_119 rfl (lv_at hl 1 rfl) ?_
          refine lv_bipush (v := nI (9)) hx hb dX5_count_120 (by decide) ?_
          refine n_ne (tgt := 132) hx hb dX5_count_122 (by decide) (by omega) (by omega) (fun c_122 => ?_) (fun c_122 => ?_)
          · refine lv_iload_n hx hb dX5_count_132 rfl (lv_at hl 1 rfl) ?_
            refine lv_bipush (v := nI (10)) hx hb dX5_count_133 (by decide) ?_
            refine n_ne (tgt := 145) hx hb dX5_count_135 (by decide) (by omega) (by omega) (fun c_135 => ?_) (fun c_135 => ?_)
            · refine lv_aload_n hx hb dX5_count_145 rfl (lv_at hl 0 rfl) ?_
              refine va_get (D := (dC, dI)) (ci := 4) (v := .int (nI (um))) (C := RX5) (T := TX5) (N := 16) hx hb hts hi5 hown hK hP 0 rfl rfl 10 (by decide) (hts (.fieldLink RX5 85 "BurstWordsModel" "undoMany" "I") (by decide +kernel)) (fun _ h9 => h9) rfl dX5_count_146 ?_
              rw [← hQQ]
              exact m_i () hx hb hr hlocks (by rw [mo_count, if_pos c_12, hxg, nI_clamp (by omega)]; rw [show g = 11 by omega]; rfl) hP hD hS dX5_count_149
            · refine lv_aload_n hx hb dX5_count_138 rfl (lv_at hl 0 rfl) ?_
              refine va_get (D := (dC, dI)) (ci := 4) (v := .int (nI (tm))) (C := RX5) (T := TX5) (N := 16) hx hb hts hi5 hown hK hP 0 rfl rfl 2 (by decide) (hts (.fieldLink RX5 56 "BurstWordsModel" "typedMany" "I") (by decide +kernel)) (fun _ h9 => h9) rfl dX5_count_139 ?_
              refine lv_goto (tgt := 149) hx hb dX5_count_142 (by decide) ?_
              rw [← hQQ]
              exact m_i () hx hb hr hlocks (by rw [mo_count, if_pos c_12, hxg, nI_clamp (by omega)]; rw [show g = 10 by omega]; rfl) hP hD hS dX5_count_149
          · refine lv_aload_n hx hb dX5_count_125 rfl (lv_at hl 0 rfl) ?_
            refine va_get (D := (dC, dI)) (ci := 4) (v := .int (nI (b))) (C := RX5) (T := TX5) (N := 16) hx hb hts hi5 hown hK hP 0 rfl rfl 3 (by decide) (hts (.fieldLink RX5 13 "BurstWordsModel" "b" "I") (by decide +kernel)) (fun _ h9 => h9) rfl dX5_count_126 ?_
            refine lv_goto (tgt := 149) hx hb dX5_count_129 (by decide) ?_
            rw [← hQQ]
            exact m_i () hx hb hr hlocks (by rw [mo_count, if_pos c_12, hxg, nI_clamp (by omega)]; rw [show g = 9 by omega]; rfl) hP hD hS dX5_count_149
        · refine lv_aload_n hx hb dX5_count_103 rfl (lv_at hl 0 rfl) ?_
          refine lv_iload_n hx hb dX5_count_104 rfl (lv_at hl 1 rfl) ?_
          refine lv_bipush (v := nI (7)) hx hb dX5_count_105 (by decide) ?_
          refine n_ne (tgt := 114) hx hb dX5_count_107 (by decide) (by omega) (by omega) (fun c_107 => ?_) (fun c_107 => ?_)
          · refine lv_iconst (v := nI (0)) hx hb dX5_count_114 (by decide) ?_
            refine c_Vi (As := [.int (bI (false))]) (rest := []) (ci := 4) (q0 := 0) S (c_X5_shared l dC dI cI cJ cZ a ty tm b wo of n no nm un um sa sl si sn tk v V O K SA SL SI hmw hmd hmn hms (false)) (cwV 1 hts gX5_count_X5_shared rfl rfl rfl (by decide +kernel) ⟨Nat.le_of_ble_eq_true rfl, Nat.le_of_ble_eq_true rfl⟩) hK hP rfl rfl rfl hl.1 rfl (Nat.le_of_ble_eq_true rfl) dX5_count_115 ⟨Nat.le_of_ble_eq_true rfl, Nat.le_of_ble_eq_true rfl⟩ ?_
            rw [← hQQ]
            exact m_i () hx hb hr hlocks (by rw [mo_count, if_pos c_12, hxg, nI_clamp (by omega)]; rw [show g = 8 by omega]; rfl) hP hD hS dX5_count_118
          · refine lv_iconst (v := nI (1)) hx hb dX5_count_110 (by decide) ?_
            refine lv_goto (tgt := 115) hx hb dX5_count_111 (by decide) ?_
            refine c_Vi (As := [.int (bI (true))]) (rest := []) (ci := 4) (q0 := 0) S (c_X5_shared l dC dI cI cJ cZ a ty tm b wo of n no nm un um sa sl si sn tk v V O K SA SL SI hmw hmd hmn hms (true)) (cwV 1 hts gX5_count_X5_shared rfl rfl rfl (by decide +kernel) ⟨Nat.le_of_ble_eq_true rfl, Nat.le_of_ble_eq_true rfl⟩) hK hP rfl rfl rfl hl.1 rfl (Nat.le_of_ble_eq_true rfl) dX5_count_115 ⟨Nat.le_of_ble_eq_true rfl, Nat.le_of_ble_eq_true rfl⟩ ?_
            rw [← hQQ]
            exact m_i () hx hb hr hlocks (by rw [mo_count, if_pos c_12, hxg, nI_clamp (by omega)]; rw [show g = 7 by omega]; rfl) hP hD hS dX5_count_118
      · refine lv_iload_n hx hb dX5_count_68 rfl (lv_at hl 1 rfl) ?_
        refine lv_iconst (v := nI (4)) hx hb dX5_count_69 (by decide) ?_
        refine n_ne (tgt := 80) hx hb dX5_count_70 (by decide) (by omega) (by omega) (fun c_70 => ?_) (fun c_70 => ?_)
        · refine lv_iload_n hx hb dX5_count_80 rfl (lv_at hl 1 rfl) ?_
          refine lv_iconst (v := nI (5)) hx hb dX5_count_81 (by decide) ?_
          refine n_ne (tgt := 92) hx hb dX5_count_82 (by decide) (by omega) (by omega) (fun c_82 => ?_) (fun c_82 => ?_)
          · refine lv_aload_n hx hb dX5_count_92 rfl (lv_at hl 0 rfl) ?_
            refine c_Vi (As := []) (rest := []) (ci := 4) (q0 := 0) S (c_X5_letters l dC dI cI cJ cZ a ty tm b wo of n no nm un um sa sl si sn tk v V O K SA SL SI hmw hmd hmn hms ) (cwV 0 hts gX5_count_X5_letters rfl rfl rfl (by decide +kernel) ⟨Nat.le_of_ble_eq_true rfl, Nat.le_of_ble_eq_true rfl⟩) hK hP rfl rfl rfl hl.1 rfl (Nat.le_of_ble_eq_true rfl) dX5_count_93 ⟨Nat.le_of_ble_eq_true rfl, Nat.le_of_ble_eq_true rfl⟩ ?_
            rw [← hQQ]
            exact m_i () hx hb hr hlocks (by rw [mo_count, if_pos c_12, hxg, nI_clamp (by omega)]; rw [show g = 6 by omega]; rfl) hP hD hS dX5_count_96
          · refine lv_aload_n hx hb dX5_count_85 rfl (lv_at hl 0 rfl) ?_
            refine c_Vi (As := []) (rest := []) (ci := 4) (q0 := 0) S (c_X5_deepest l dC dI cI cJ cZ a ty tm b wo of n no nm un um sa sl si sn tk v V O K SA SL SI hmw hmd hmn hms ) (cwV 0 hts gX5_count_X5_deepest rfl rfl rfl (by decide +kernel) ⟨Nat.le_of_ble_eq_true rfl, Nat.le_of_ble_eq_true rfl⟩) hK hP rfl rfl rfl hl.1 rfl (Nat.le_of_ble_eq_true rfl) dX5_count_86 ⟨Nat.le_of_ble_eq_true rfl, Nat.le_of_ble_eq_true rfl⟩ ?_
            refine lv_goto (tgt := 96) hx hb dX5_count_89 (by decide) ?_
            rw [← hQQ]
            exact m_i () hx hb hr hlocks (by rw [mo_count, if_pos c_12, hxg, nI_clamp (by omega)]; rw [show g = 5 by omega]; rfl) hP hD hS dX5_count_96
        · refine lv_aload_n hx hb dX5_count_73 rfl (lv_at hl 0 rfl) ?_
          refine c_Vi (As := []) (rest := []) (ci := 4) (q0 := 0) S (c_X5_fullest l dC dI cI cJ cZ a ty tm b wo of n no nm un um sa sl si sn tk v V O K SA SL SI hmw hmd hmn hms ) (cwV 0 hts gX5_count_X5_fullest rfl rfl rfl (by decide +kernel) ⟨Nat.le_of_ble_eq_true rfl, Nat.le_of_ble_eq_true rfl⟩) hK hP rfl rfl rfl hl.1 rfl (Nat.le_of_ble_eq_true rfl) dX5_count_74 ⟨Nat.le_of_ble_eq_true rfl, Nat.le_of_ble_eq_true rfl⟩ ?_
          refine lv_goto (tgt := 96) hx hb dX5_count_77 (by decide) ?_
          rw [← hQQ]
          exact m_i () hx hb hr hlocks (by rw [mo_count, if_pos c_12, hxg, nI_clamp (by omega)]; rw [show g = 4 by omega]; rfl) hP hD hS dX5_count_96
    · refine lv_iload_n hx hb dX5_count_22 rfl (lv_at hl 1 rfl) ?_
      refine z_ne (tgt := 33) hx hb dX5_count_23 (by decide) (by omega) (fun c_23 => ?_) (fun c_23 => ?_)
      · refine lv_iload_n hx hb dX5_count_33 rfl (lv_at hl 1 rfl) ?_
        refine lv_iconst (v := nI (1)) hx hb dX5_count_34 (by decide) ?_
        refine n_ne (tgt := 45) hx hb dX5_count_35 (by decide) (by omega) (by omega) (fun c_35 => ?_) (fun c_35 => ?_)
        · refine lv_iload_n hx hb dX5_count_45 rfl (lv_at hl 1 rfl) ?_
          refine lv_iconst (v := nI (2)) hx hb dX5_count_46 (by decide) ?_
          refine n_ne (tgt := 57) hx hb dX5_count_47 (by decide) (by omega) (by omega) (fun c_47 => ?_) (fun c_47 => ?_)
          · refine lv_aload_n hx hb dX5_count_57 rfl (lv_at hl 0 rfl) ?_
            refine c_Vi (As := []) (rest := []) (ci := 4) (q0 := 0) S (c_X5_containers l dC dI cI cJ cZ a ty tm b wo of n no nm un um sa sl si sn tk v V O K SA SL SI hmw hmd hmn hms ) (cwV 0 hts gX5_count_X5_containers rfl rfl rfl (by decide +kernel) ⟨Nat.le_of_ble_eq_true rfl, Nat.le_of_ble_eq_true rfl⟩) hK hP rfl rfl rfl hl.1 rfl (Nat.le_of_ble_eq_true rfl) dX5_count_58 ⟨Nat.le_of_ble_eq_true rfl, Nat.le_of_ble_eq_true rfl⟩ ?_
            rw [← hQQ]
            exact m_i () hx hb hr hlocks (by rw [mo_count, if_pos c_12, hxg, nI_clamp (by omega)]; rw [show g = 3 by omega]; rfl) hP hD hS dX5_count_61
          · refine lv_aload_n hx hb dX5_count_50 rfl (lv_at hl 0 rfl) ?_
            refine va_get (D := (dC, dI)) (ci := 4) (v := .int (nI (nm))) (C := RX5) (T := TX5) (N := 16) hx hb hts hi5 hown hK hP 0 rfl rfl 8 (by decide) (hts (.fieldLink RX5 74 "BurstWordsModel" "nodeMany" "I") (by decide +kernel)) (fun _ h9 => h9) rfl dX5_count_51 ?_
            refine lv_goto (tgt := 61) hx hb dX5_count_54 (by decide) ?_
            rw [← hQQ]
            exact m_i () hx hb hr hlocks (by rw [mo_count, if_pos c_12, hxg, nI_clamp (by omega)]; rw [show g = 2 by omega]; rfl) hP hD hS dX5_count_61
        · refine lv_aload_n hx hb dX5_count_38 rfl (lv_at hl 0 rfl) ?_
          refine c_Vi (As := []) (rest := []) (ci := 4) (q0 := 0) S (c_X5_all l dC dI cI cJ cZ a ty tm b wo of n no nm un um sa sl si sn tk v V O K SA SL SI hmw hmd hmn hms ) (cwV 0 hts gX5_count_X5_all rfl rfl rfl (by decide +kernel) ⟨Nat.le_of_ble_eq_true rfl, Nat.le_of_ble_eq_true rfl⟩) hK hP rfl rfl rfl hl.1 rfl (Nat.le_of_ble_eq_true rfl) dX5_count_39 ⟨Nat.le_of_ble_eq_true rfl, Nat.le_of_ble_eq_true rfl⟩ ?_
          refine lv_goto (tgt := 61) hx hb dX5_count_42 (by decide) ?_
          rw [← hQQ]
          exact m_i () hx hb hr hlocks (by rw [mo_count, if_pos c_12, hxg, nI_clamp (by omega)]; rw [show g = 1 by omega]; rfl) hP hD hS dX5_count_61
      · refine lv_aload_n hx hb dX5_count_26 rfl (lv_at hl 0 rfl) ?_
        refine va_get (D := (dC, dI)) (ci := 4) (v := .int (nI (n))) (C := RX5) (T := TX5) (N := 16) hx hb hts hi5 hown hK hP 0 rfl rfl 6 (by decide) (hts (.fieldLink RX5 67 "BurstWordsModel" "many" "I") (by decide +kernel)) (fun _ h9 => h9) rfl dX5_count_27 ?_
        refine lv_goto (tgt := 61) hx hb dX5_count_30 (by decide) ?_
        rw [← hQQ]
        exact m_i () hx hb hr hlocks (by rw [mo_count, if_pos c_12, hxg, nI_clamp (by omega)]; rw [show g = 0 by omega]; rfl) hP hD hS dX5_count_61
  · refine lv_iconst (v := (-1 : Int32)) hx hb dX5_count_15 (by decide) ?_
    rw [← hQQ]
    exact m_i () hx hb hr hlocks (by rw [mo_count, if_neg (nt c_12)]) hP hD hS dX5_count_16
abbrev rm_X5_digest : Room := { frames := 4, cells := 0, slots := 0, locals := 91 }
set_option maxHeartbeats 4000000 in
set_option maxRecDepth 100000 in
theorem c_X5_digest (l : Launch) (dC : Nat → ClassId) (dI : Nat → Nat → Nat) (cI cJ cZ : ClassId) (a : Nat → Nat) (ty : Nat → Int32) (tm b : Nat) (wo : Nat → Int64) (of : Nat → Int32) (n : Nat) (no : Nat → Int64) (nm : Nat) (un : Nat → Int64) (um : Nat) (sa sl si : Nat → Int32) (sn : Nat) (tk : Nat → Int32) (v : Nat) (V O K SA SL SI : Nat → Nat) (hmw : bMW ty tm v) (hmd : bMD wo of n V O) (hmn : bMN no nm K) (hms : bMS sa sl si sn SA SL SI) (sz : Nat) : Met l yX5_digest wsX5_digest rm_X5_digest (mPc (dC, dI) (tysA cI cJ cZ) (wm a cI cJ cZ ty tm b wo of n no nm un um sa sl si sn tk) sz [.ref (a 0)]) (mQl (dC, dI) (fun (r : Int64) (u : Unit) => r = dgo V O (fun k => bde K nm (V k)) n) (fun u => wm a cI cJ cZ ty tm b wo of n no nm un um sa sl si sn tk) (va_A (wm a cI cJ cZ ty tm b wo of n no nm un um sa sl si sn tk) sz)) 0 0 (va_A (wm a cI cJ cZ ty tm b wo of n no nm un um sa sl si sn tk) sz) := by
  refine met_m (cc := cX5_digest) (maxL := 5) (ret := (some .long)) (own := RX5) (Qc := fun A => mQl (dC, dI) (fun (r : Int64) (u : Unit) => r = dgo V O (fun k => bde K nm (V k)) n) (fun u => wm a cI cJ cZ ty tm b wo of n no nm un um sa sl si sn tk) A) (by decide) rfl rfl (Nat.le_of_ble_eq_true rfl) ?_
  intro p e s m below meth c S hr hlocks hname hK A hA hP hD hS ls hl
  obtain ⟨hx, hb, hml, hown, hts⟩ := id S
  generalize hQQ : MQ below (mQl (dC, dI) (fun (r : Int64) (u : Unit) => r = dgo V O (fun k => bde K nm (V k)) n) (fun u => wm a cI cJ cZ ty tm b wo of n no nm un um sa sl si sn tk) A) ([.ref (a 0)] : List Value).toArray s 0 0 A = QQ
  have hl : lv_has ls 5 [(0, .ref (a 0))] := hl
  have hi5 : ∀ w ∈ wsX50, w ∈ wsX5_digest := fun _ h => List.mem_cons_of_mem _ (List.mem_append_right _ h)
  obtain ⟨hvw, htm, hty⟩ := id hmw; obtain ⟨hn, hk⟩ := id hmd; obtain ⟨hnm, hkn⟩ := id hmn; obtain ⟨hsn, hks⟩ := id hms
  have hln := bln_le
  refine lv_aload_n hx hb dX5_digest_0 rfl (lv_at hl 0 rfl) ?_
  refine lv_iconst (v := nI (0)) hx hb dX5_digest_1 (by decide) ?_
  refine va_put (D := (dC, dI)) (ci := 4) (v := .int (nI (0))) (ty := .int) (C := RX5) (T := TX5) (N := 16) hx hb hts hi5 tyX5 tyX5_ok nmX5 hown hK hP hD hS 0 rfl rfl 0 (by decide) (hts (.fieldLink RX5 43 "BurstWordsModel" "thrown" "I") (by decide +kernel)) (fun _ h9 => h9) rfl (by decide +kernel) rfl rfl (Nat.le_of_ble_eq_true rfl) dX5_digest_2 (fun H locs hP hD hS => ?_)
  have hP : va_P (dC, dI) vwCl (wm a cI cJ cZ ty tm b wo of n no nm un um sa sl si sn tk) H := hP
  have hD : va_D A (wm a cI cJ cZ ty tm b wo of n no nm un um sa sl si sn tk) := hD
  refine lv_ldc2 (v := lN (17)) hx hb hown (hts (.constantLong RX5 164 (17)) (by decide +kernel)) dX5_digest_5 ?_
  refine lv_lstore_n (lv' := [(1, .long (lN (17))), (0, .ref (a 0))]) hx hb dX5_digest_8 rfl hl (by decide) rfl (fun ls hl => ?_)
  refine lv_iconst (v := nI (0)) hx hb dX5_digest_9 (by decide) ?_
  refine lv_istore_n (lv' := [(3, .int (nI (0))), (1, .long (lN (17))), (0, .ref (a 0))]) hx hb dX5_digest_10 rfl hl (by decide) rfl (fun ls hl => ?_)
  have lp_11 : ∀ (j_11 : Nat) (i : Nat), (i ≤ n) → (n - i) < j_11 → ∀ ls : Array Slot, lv_has ls 5 [(0, .ref (a 0)), (1, .long (dgo V O (fun k => bde K nm (V k)) i)), (3, .int (nI (i)))] → W p l e rm_X5_digest s m ([.ref (a 0)] : List Value).toArray below meth c H locs 0 0 QQ (F0 m 11 ls []) := by
    intro j_11
    induction j_11 with
    | zero => intro i _ h0; exact absurd h0 (Nat.not_lt_zero _)
    | succ j_11 ih_11 =>
      intro i hi hf_11 ls hl
      refine lv_iload_n hx hb dX5_digest_11 rfl (lv_at hl 2 rfl) ?_
      refine lv_aload_n hx hb dX5_digest_12 rfl (lv_at hl 0 rfl) ?_
      refine va_get (D := (dC, dI)) (ci := 4) (v := .int (nI (n))) (C := RX5) (T := TX5) (N := 16) hx hb hts hi5 hown hK hP 0 rfl rfl 6 (by decide) (hts (.fieldLink RX5 67 "BurstWordsModel" "many" "I") (by decide +kernel)) (fun _ h9 => h9) rfl dX5_digest_13 ?_
      refine n_ge (tgt := 105) hx hb dX5_digest_16 (by decide) (by omega) (by omega) (fun c_16 => ?_) (fun c_16 => ?_)
      · refine lv_lload_n hx hb dX5_digest_105 rfl (lv_at hl 1 rfl) ?_
        rw [← hQQ]
        exact m_l () hx hb hr hlocks (by rw [show i = n by omega]) hP hD hS dX5_digest_106
      · refine lv_iconst (v := nI (0)) hx hb dX5_digest_19 (by decide) ?_
        refine lv_istore (lv' := [(4, .int (nI (0))), (0, .ref (a 0)), (1, .long (dgo V O (fun k => bde K nm (V k)) i)), (3, .int (nI (i)))]) hx hb dX5_digest_20 hl (by decide) rfl (fun ls hl => ?_)
        have lp_22 : ∀ (j_22 : Nat) (j : Nat), (j ≤ bln (V i)) → (bln (V i) - j) < j_22 → ∀ ls : Array Slot, lv_has ls 5 [(0, .ref (a 0)), (1, .long (dgl (V i) (dgo V O (fun k => bde K nm (V k)) i) j)), (3, .int (nI (i))), (4, .int (nI (j)))] → W p l e rm_X5_digest s m ([.ref (a 0)] : List Value).toArray below meth c H locs 0 0 QQ (F0 m 22 ls []) := by
          intro j_22
          induction j_22 with
          | zero => intro j _ h0; exact absurd h0 (Nat.not_lt_zero _)
          | succ j_22 ih_22 =>
            intro j hj hf_22 ls hl
            refine lv_iload hx hb dX5_digest_22 (lv_at hl 3 rfl) ?_
            refine lv_aload_n hx hb dX5_digest_24 rfl (lv_at hl 0 rfl) ?_
            refine va_get (D := (dC, dI)) (ci := 4) (v := .ref (a 2)) (C := RX5) (T := TX5) (N := 16) hx hb hts hi5 hown hK hP 0 rfl rfl 4 (by decide) (hts (.fieldLink RX5 17 "BurstWordsModel" "word" "[J") (by decide +kernel)) (fun _ h9 => h9) rfl dX5_digest_25 ?_
            refine lv_iload_n hx hb dX5_digest_28 rfl (lv_at hl 2 rfl) ?_
            refine g_l hx hb hK hP 2 1 rfl rfl (k := i) (by omega) (by decide) dX5_digest_29 (v := lN (V i)) (hk _ (by omega)).1 ?_
            refine c_Si (As := [.long (lN (V i))]) (rest := [.int (nI (j))]) S (c_X5_size l (V i) (w63 (hk _ (by omega)).2.1.1)) (va_cwS 1 hts gX5_digest_X5_size rfl rfl rfl (by decide +kernel) ⟨Nat.le_of_ble_eq_true rfl, Nat.le_of_ble_eq_true rfl⟩) rfl hl.1 rfl (Nat.le_of_ble_eq_true rfl) dX5_digest_30 ⟨Nat.le_of_ble_eq_true rfl, Nat.le_of_ble_eq_true rfl⟩ ?_
            refine n_ge (tgt := 67) hx hb dX5_digest_33 (by decide) (by have := hln (V i); omega) (Nat.lt_of_le_of_lt (bln_le _) (by decide)) (fun c_33 => ?_) (fun c_33 => ?_)
            · refine lv_ldc2 (v := lN (31)) hx hb hown (hts (.constantLong RX5 166 (31)) (by decide +kernel)) dX5_digest_67 ?_
              refine lv_lload_n hx hb dX5_digest_70 rfl (lv_at hl 1 rfl) ?_
              refine lv_lmul hx hb dX5_digest_71 ?_
              refine lv_aload_n hx hb dX5_digest_72 rfl (lv_at hl 0 rfl) ?_
              refine va_get (D := (dC, dI)) (ci := 4) (v := .ref (a 3)) (C := RX5) (T := TX5) (N := 16) hx hb hts hi5 hown hK hP 0 rfl rfl 5 (by decide) (hts (.fieldLink RX5 21 "BurstWordsModel" "often" "[I") (by decide +kernel)) (fun _ h9 => h9) rfl dX5_digest_73 ?_
              refine lv_iload_n hx hb dX5_digest_76 rfl (lv_at hl 2 rfl) ?_
              refine g_i hx hb hK hP 3 0 rfl rfl (k := i) (by omega) (by decide) dX5_digest_77 (v := nI (O i)) (hk _ (by omega)).2.2.2.1 ?_
              refine lv_i2l (v := lN (O i)) hx hb dX5_digest_78 (nI_l (Nat.lt_of_le_of_lt (hk _ (by omega)).2.2.2.2.2 (by decide))) ?_
              refine lv_ladd hx hb dX5_digest_79 ?_
              refine lv_lstore_n (lv' := [(1, .long (((lN (31)) * (dgl (V i) (dgo V O (fun k => bde K nm (V k)) i) j)) + (lN (O i)))), (0, .ref (a 0)), (3, .int (nI (i))), (4, .int (nI (j)))]) hx hb dX5_digest_80 rfl hl (by decide) rfl (fun ls hl => ?_)
              refine lv_ldc2 (v := lN (31)) hx hb hown (hts (.constantLong RX5 166 (31)) (by decide +kernel)) dX5_digest_81 ?_
              refine lv_lload_n hx hb dX5_digest_84 rfl (lv_at hl 0 rfl) ?_
              refine lv_lmul hx hb dX5_digest_85 ?_
              refine lv_aload_n hx hb dX5_digest_86 rfl (lv_at hl 1 rfl) ?_
              refine lv_aload_n hx hb dX5_digest_87 rfl (lv_at hl 1 rfl) ?_
              refine va_get (D := (dC, dI)) (ci := 4) (v := .ref (a 2)) (C := RX5) (T := TX5) (N := 16) hx hb hts hi5 hown hK hP 0 rfl rfl 4 (by decide) (hts (.fieldLink RX5 17 "BurstWordsModel" "word" "[J") (by decide +kernel)) (fun _ h9 => h9) rfl dX5_digest_88 ?_
              refine lv_iload_n hx hb dX5_digest_91 rfl (lv_at hl 2 rfl) ?_
              refine g_l hx hb hK hP 2 1 rfl rfl (k := i) (by omega) (by decide) dX5_digest_92 (v := lN (V i)) (hk _ (by omega)).1 ?_
              refine c_Vi (As := [.long (lN (V i))]) (rest := [.long ((lN (31)) * (((lN (31)) * (dgl (V i) (dgo V O (fun k => bde K nm (V k)) i) j)) + (lN (O i))))]) (ci := 4) (q0 := 0) S (c_X5_depthOf l dC dI cI cJ cZ a ty tm b wo of n no nm un um sa sl si sn tk v V O K SA SL SI hmw hmd hmn hms (V i) (w63 (hk _ (by omega)).2.1.1)) (cwV 1 hts gX5_digest_X5_depthOf rfl rfl rfl (by decide +kernel) ⟨Nat.le_of_ble_eq_true rfl, Nat.le_of_ble_eq_true rfl⟩) hK hP rfl rfl rfl hl.1 rfl (Nat.le_of_ble_eq_true rfl) dX5_digest_93 ⟨Nat.le_of_ble_eq_true rfl, Nat.le_of_ble_eq_true rfl⟩ ?_
              refine lv_i2l (v := lN (bde K nm (V i))) hx hb dX5_digest_96 (nI_l (Nat.lt_of_le_of_lt (bde_le _ _ _) (by decide))) ?_
              refine lv_ladd hx hb dX5_digest_97 ?_
              refine lv_lstore_n (lv' := [(1, .long (((lN (31)) * (((lN (31)) * (dgl (V i) (dgo V O (fun k => bde K nm (V k)) i) j)) + (lN (O i)))) + (lN (bde K nm (V i))))), (0, .ref (a 0)), (3, .int (nI (i))), (4, .int (nI (j)))]) hx hb dX5_digest_98 rfl hl (by decide) rfl (fun ls hl => ?_)
              refine lv_iinc (v := nI (i + 1)) (lv' := [(3, .int (nI (i + 1))), (1, .long (((lN (31)) * (((lN (31)) * (dgl (V i) (dgo V O (fun k => bde K nm (V k)) i) j)) + (lN (O i)))) + (lN (bde K nm (V i))))), (0, .ref (a 0)), (4, .int (nI (j)))]) hx hb dX5_digest_99 hl (k := 2) rfl (inc1 _) (by decide) rfl (fun ls hl => ?_)
              refine lv_goto (tgt := 11) hx hb dX5_digest_102 (by decide) ?_
              exact ih_11 (i + 1) (by omega) (by omega) ls (lv_cg (l := [(0, .ref (a 0)), (1, .long (((lN (31)) * (((lN (31)) * (dgl (V i) (dgo V O (fun k => bde K nm (V k)) i) j)) + (lN (O i)))) + (lN (bde K nm (V i))))), (3, .int (nI (i + 1)))]) (lv_sub hl [2, 1, 0] rfl) (by rw [dgo, show bln (V i) = j by omega]))
            · refine lv_ldc2 (v := lN (31)) hx hb hown (hts (.constantLong RX5 166 (31)) (by decide +kernel)) dX5_digest_36 ?_
              refine lv_lload_n hx hb dX5_digest_39 rfl (lv_at hl 1 rfl) ?_
              refine lv_lmul hx hb dX5_digest_40 ?_
              refine lv_aload_n hx hb dX5_digest_41 rfl (lv_at hl 0 rfl) ?_
              refine va_get (D := (dC, dI)) (ci := 4) (v := .ref (a 2)) (C := RX5) (T := TX5) (N := 16) hx hb hts hi5 hown hK hP 0 rfl rfl 4 (by decide) (hts (.fieldLink RX5 17 "BurstWordsModel" "word" "[J") (by decide +kernel)) (fun _ h9 => h9) rfl dX5_digest_42 ?_
              refine lv_iload_n hx hb dX5_digest_45 rfl (lv_at hl 2 rfl) ?_
              refine g_l hx hb hK hP 2 1 rfl rfl (k := i) (by omega) (by decide) dX5_digest_46 (v := lN (V i)) (hk _ (by omega)).1 ?_
              refine lv_iload hx hb dX5_digest_47 (lv_at hl 3 rfl) ?_
              refine c_Si (As := [.long (lN (V i)), .int (nI (j))]) (rest := [.long ((lN (31)) * (dgl (V i) (dgo V O (fun k => bde K nm (V k)) i) j))]) S (c_X5_sign l (V i) j (w63 (hk _ (by omega)).2.1.1) (by have := hln (V i); omega)) (va_cwS 2 hts gX5_digest_X5_sign rfl rfl rfl (by decide +kernel) ⟨Nat.le_of_ble_eq_true rfl, Nat.le_of_ble_eq_true rfl⟩) rfl hl.1 rfl (Nat.le_of_ble_eq_true rfl) dX5_digest_49 ⟨Nat.le_of_ble_eq_true rfl, Nat.le_of_ble_eq_true rfl⟩ ?_
              refine lv_i2l (v := lN (bsg (V i) j)) hx hb dX5_digest_52 (nI_l (Nat.lt_trans (bsg_lt _ _) (by decide))) ?_
              refine lv_ladd hx hb dX5_digest_53 ?_
              refine lv_ldc2 (v := lN (97)) hx hb hown (hts (.constantLong RX5 168 (97)) (by decide +kernel)) dX5_digest_54 ?_
              refine lv_ladd hx hb dX5_digest_57 ?_
              refine lv_lconst (v := lN (1)) hx hb dX5_digest_58 rfl ?_
              refine lv_lsub hx hb dX5_digest_59 ?_
              refine lv_lstore_n (lv' := [(1, .long (((((lN (31)) * (dgl (V i) (dgo V O (fun k => bde K nm (V k)) i) j)) + (lN (bsg (V i) j))) + (lN (97))) - (lN (1)))), (0, .ref (a 0)), (3, .int (nI (i))), (4, .int (nI (j)))]) hx hb dX5_digest_60 rfl hl (by decide) rfl (fun ls hl => ?_)
              refine lv_iinc (v := nI (j + 1)) (lv' := [(4, .int (nI (j + 1))), (1, .long (((((lN (31)) * (dgl (V i) (dgo V O (fun k => bde K nm (V k)) i) j)) + (lN (bsg (V i) j))) + (lN (97))) - (lN (1)))), (0, .ref (a 0)), (3, .int (nI (i)))]) hx hb dX5_digest_61 hl (k := 3) rfl (inc1 _) (by decide) rfl (fun ls hl => ?_)
              refine lv_goto (tgt := 22) hx hb dX5_digest_64 (by decide) ?_
              exact ih_22 (j + 1) (by omega) (by omega) ls (lv_sub hl [2, 1, 3, 0] rfl)
        exact lp_22 _ (0) (by omega) (Nat.lt_succ_self _) ls (lv_sub hl [1, 2, 3, 0] rfl)
  exact lp_11 _ (0) (by omega) (Nat.lt_succ_self _) ls (lv_sub hl [2, 1, 0] rfl)
abbrev rm_X5_type : Room := { frames := 1, cells := 0, slots := 0, locals := 22 }
set_option maxHeartbeats 4000000 in
set_option maxRecDepth 100000 in
theorem c_X5_type (l : Launch) (dC : Nat → ClassId) (dI : Nat → Nat → Nat) (cI cJ cZ : ClassId) (a : Nat → Nat) (ty : Nat → Int32) (tm b : Nat) (wo : Nat → Int64) (of : Nat → Int32) (n : Nat) (no : Nat → Int64) (nm : Nat) (un : Nat → Int64) (um : Nat) (sa sl si : Nat → Int32) (sn : Nat) (tk : Nat → Int32) (v : Nat) (V O K SA SL SI : Nat → Nat) (hmw : bMW ty tm v) (hmd : bMD wo of n V O) (hmn : bMN no nm K) (hms : bMS sa sl si sn SA SL SI) (sz : Nat) (x : Int32) : Met l yX5_type wsX5_type rm_X5_type (mPc (dC, dI) (tysA cI cJ cZ) (wm a cI cJ cZ ty tm b wo of n no nm un um sa sl si sn tk) sz [.ref (a 0), .int (x)]) (mQi (dC, dI) (fun (r : Int32) (u : (Nat → Int32) × (Nat)) => (bin x (nI 97) (nI 122) = false ∧ r = -1 ∧ u.2 = tm ∧ u.1 = ty) ∨ (bin x (nI 97) (nI 122) = true ∧ tm = 7 ∧ r = -3 ∧ u.2 = tm ∧ u.1 = ty) ∨ (∃ k, 97 ≤ k ∧ k ≤ 122 ∧ x = nI k ∧ tm < 7 ∧ r = nI (tm + 1) ∧ u.2 = tm + 1 ∧ bMW u.1 u.2 (bxt v (k - 96)))) (fun u => wm a cI cJ cZ u.1 u.2 b wo of n no nm un um sa sl si sn tk) (va_A (wm a cI cJ cZ ty tm b wo of n no nm un um sa sl si sn tk) sz)) 0 0 (va_A (wm a cI cJ cZ ty tm b wo of n no nm un um sa sl si sn tk) sz) := by
  refine met_m (cc := cX5_type) (maxL := 2) (ret := (some .int)) (own := RX5) (Qc := fun A => mQi (dC, dI) (fun (r : Int32) (u : (Nat → Int32) × (Nat)) => (bin x (nI 97) (nI 122) = false ∧ r = -1 ∧ u.2 = tm ∧ u.1 = ty) ∨ (bin x (nI 97) (nI 122) = true ∧ tm = 7 ∧ r = -3 ∧ u.2 = tm ∧ u.1 = ty) ∨ (∃ k, 97 ≤ k ∧ k ≤ 122 ∧ x = nI k ∧ tm < 7 ∧ r = nI (tm + 1) ∧ u.2 = tm + 1 ∧ bMW u.1 u.2 (bxt v (k - 96)))) (fun u => wm a cI cJ cZ u.1 u.2 b wo of n no nm un um sa sl si sn tk) A) (by decide) rfl rfl (Nat.le_of_ble_eq_true rfl) ?_
  intro p e s m below meth c S hr hlocks hname hK A hA hP hD hS ls hl
  obtain ⟨hx, hb, hml, hown, hts⟩ := id S
  generalize hQQ : MQ below (mQi (dC, dI) (fun (r : Int32) (u : (Nat → Int32) × (Nat)) => (bin x (nI 97) (nI 122) = false ∧ r = -1 ∧ u.2 = tm ∧ u.1 = ty) ∨ (bin x (nI 97) (nI 122) = true ∧ tm = 7 ∧ r = -3 ∧ u.2 = tm ∧ u.1 = ty) ∨ (∃ k, 97 ≤ k ∧ k ≤ 122 ∧ x = nI k ∧ tm < 7 ∧ r = nI (tm + 1) ∧ u.2 = tm + 1 ∧ bMW u.1 u.2 (bxt v (k - 96)))) (fun u => wm a cI cJ cZ u.1 u.2 b wo of n no nm un um sa sl si sn tk) A) ([.ref (a 0), .int (x)] : List Value).toArray s 0 0 A = QQ
  have hl : lv_has ls 2 [(0, .ref (a 0)), (1, .int (x))] := hl
  have hi5 : ∀ w ∈ wsX50, w ∈ wsX5_type := fun _ h => List.mem_cons_of_mem _ (List.mem_append_right _ h)
  obtain ⟨hvw, htm, hty⟩ := id hmw; obtain ⟨hn, hk⟩ := id hmd; obtain ⟨hnm, hkn⟩ := id hmn; obtain ⟨hsn, hks⟩ := id hms
  have hlv := bln_le v
  refine lv_aload_n hx hb dX5_type_0 rfl (lv_at hl 0 rfl) ?_
  refine lv_iconst (v := nI (0)) hx hb dX5_type_1 (by decide) ?_
  refine va_put (D := (dC, dI)) (ci := 4) (v := .int (nI (0))) (ty := .int) (C := RX5) (T := TX5) (N := 16) hx hb hts hi5 tyX5 tyX5_ok nmX5 hown hK hP hD hS 0 rfl rfl 0 (by decide) (hts (.fieldLink RX5 43 "BurstWordsModel" "thrown" "I") (by decide +kernel)) (fun _ h9 => h9) rfl (by decide +kernel) rfl rfl (Nat.le_of_ble_eq_true rfl) dX5_type_2 (fun H locs hP hD hS => ?_)
  have hP : va_P (dC, dI) vwCl (wm a cI cJ cZ ty tm b wo of n no nm un um sa sl si sn tk) H := hP
  have hD : va_D A (wm a cI cJ cZ ty tm b wo of n no nm un um sa sl si sn tk) := hD
  refine lv_iload_n hx hb dX5_type_5 rfl (lv_at hl 1 rfl) ?_
  refine lv_bipush (v := nI (97)) hx hb dX5_type_6 (by decide) ?_
  refine lv_bipush (v := nI (122)) hx hb dX5_type_8 (by decide) ?_
  refine c_Si (As := [.int (x), .int (nI (97)), .int (nI (122))]) (rest := []) S (c_X5_in l (x) (nI (97)) (nI (122))) (va_cwS 3 hts gX5_type_X5_in rfl rfl rfl (by decide +kernel) ⟨Nat.le_of_ble_eq_true rfl, Nat.le_of_ble_eq_true rfl⟩) rfl hl.1 rfl (Nat.le_of_ble_eq_true rfl) dX5_type_10 ⟨Nat.le_of_ble_eq_true rfl, Nat.le_of_ble_eq_true rfl⟩ ?_
  refine b_ne (tgt := 18) hx hb dX5_type_13 (by decide) (fun c_13 => ?_) (fun c_13 => ?_)
  · refine lv_aload_n hx hb dX5_type_18 rfl (lv_at hl 0 rfl) ?_
    refine va_get (D := (dC, dI)) (ci := 4) (v := .int (nI (tm))) (C := RX5) (T := TX5) (N := 16) hx hb hts hi5 hown hK hP 0 rfl rfl 2 (by decide) (hts (.fieldLink RX5 56 "BurstWordsModel" "typedMany" "I") (by decide +kernel)) (fun _ h9 => h9) rfl dX5_type_19 ?_
    refine lv_bipush (v := nI (7)) hx hb dX5_type_22 (by decide) ?_
    refine n_ne (tgt := 30) hx hb dX5_type_24 (by decide) (by omega) (by omega) (fun c_24 => ?_) (fun c_24 => ?_)
    · obtain ⟨k, hk1, hk2, hxk⟩ := bin_L c_13
      have hl := lv_cg (l' := [(0, .ref (a 0)), (1, .int (nI (k)))]) hl (by rw [hxk])
      refine lv_aload_n hx hb dX5_type_30 rfl (lv_at hl 0 rfl) ?_
      refine va_get (D := (dC, dI)) (ci := 4) (v := .ref (a 1)) (C := RX5) (T := TX5) (N := 16) hx hb hts hi5 hown hK hP 0 rfl rfl 1 (by decide) (hts (.fieldLink RX5 7 "BurstWordsModel" "typed" "[I") (by decide +kernel)) (fun _ h9 => h9) rfl dX5_type_31 ?_
      refine lv_aload_n hx hb dX5_type_34 rfl (lv_at hl 0 rfl) ?_
      refine va_get (D := (dC, dI)) (ci := 4) (v := .int (nI (tm))) (C := RX5) (T := TX5) (N := 16) hx hb hts hi5 hown hK hP 0 rfl rfl 2 (by decide) (hts (.fieldLink RX5 56 "BurstWordsModel" "typedMany" "I") (by decide +kernel)) (fun _ h9 => h9) rfl dX5_type_35 ?_
      refine lv_iload_n hx hb dX5_type_38 rfl (lv_at hl 1 rfl) ?_
      refine lv_bipush (v := nI (97)) hx hb dX5_type_39 (by decide) ?_
      refine lv_isub hx hb dX5_type_41 ?_
      refine tpi (pk_sub (by omega)) ?_
      refine lv_iconst (v := nI (1)) hx hb dX5_type_42 (by decide) ?_
      refine lv_iadd hx hb dX5_type_43 ?_
      refine tpi (nI_add _ _) ?_
      refine s_i (k := tm) hx hb hK hP hD hS 1 0 rfl rfl (hin := (by omega)) (hn := by decide) (hdg := dX5_type_44) (fun H locs hP hD hS => ?_)
      have hP : va_P (dC, dI) vwCl (wm a cI cJ cZ (upd ty tm (nI ((k - 97) + 1))) tm b wo of n no nm un um sa sl si sn tk) H := hP
      have hD : va_D A (wm a cI cJ cZ (upd ty tm (nI ((k - 97) + 1))) tm b wo of n no nm un um sa sl si sn tk) := hD
      refine lv_aload_n hx hb dX5_type_45 rfl (lv_at hl 0 rfl) ?_
      refine lv_dup hx hb dX5_type_46 rfl ?_
      refine va_get (D := (dC, dI)) (ci := 4) (v := .int (nI (tm))) (C := RX5) (T := TX5) (N := 16) hx hb hts hi5 hown hK hP 0 rfl rfl 2 (by decide) (hts (.fieldLink RX5 56 "BurstWordsModel" "typedMany" "I") (by decide +kernel)) (fun _ h9 => h9) rfl dX5_type_47 ?_
      refine lv_iconst (v := nI (1)) hx hb dX5_type_50 (by decide) ?_
      refine lv_iadd hx hb dX5_type_51 ?_
      refine tpi (nI_add _ _) ?_
      refine va_put (D := (dC, dI)) (ci := 4) (v := .int (nI (tm + 1))) (ty := .int) (C := RX5) (T := TX5) (N := 16) hx hb hts hi5 tyX5 tyX5_ok nmX5 hown hK hP hD hS 0 rfl rfl 2 (by decide) (hts (.fieldLink RX5 56 "BurstWordsModel" "typedMany" "I") (by decide +kernel)) (fun _ h9 => h9) rfl (by decide +kernel) rfl rfl (Nat.le_of_ble_eq_true rfl) dX5_type_52 (fun H locs hP hD hS => ?_)
      have hP : va_P (dC, dI) vwCl (wm a cI cJ cZ (upd ty tm (nI ((k - 97) + 1))) (tm + 1) b wo of n no nm un um sa sl si sn tk) H := hP
      have hD : va_D A (wm a cI cJ cZ (upd ty tm (nI ((k - 97) + 1))) (tm + 1) b wo of n no nm un um sa sl si sn tk) := hD
      refine lv_aload_n hx hb dX5_type_55 rfl (lv_at hl 0 rfl) ?_
      refine va_get (D := (dC, dI)) (ci := 4) (v := .int (nI (tm + 1))) (C := RX5) (T := TX5) (N := 16) hx hb hts hi5 hown hK hP 0 rfl rfl 2 (by decide) (hts (.fieldLink RX5 56 "BurstWordsModel" "typedMany" "I") (by decide +kernel)) (fun _ h9 => h9) rfl dX5_type_56 ?_
      rw [← hQQ]
      exact m_i (upd ty tm (nI ((k - 97) + 1)), tm + 1) hx hb hr hlocks (Or.inr (Or.inr ⟨k, hk1, hk2, hxk, by omega, rfl, rfl, bMW_type hmw (by omega) hk1 hk2⟩)) hP hD hS dX5_type_59
    · refine lv_bipush (v := (-3 : Int32)) hx hb dX5_type_27 (by decide) ?_
      rw [← hQQ]
      exact m_i (ty, tm) hx hb hr hlocks (Or.inr (Or.inl ⟨c_13, c_24, rfl, rfl, rfl⟩)) hP hD hS dX5_type_29
  · refine lv_iconst (v := (-1 : Int32)) hx hb dX5_type_16 (by decide) ?_
    rw [← hQQ]
    exact m_i (ty, tm) hx hb hr hlocks (Or.inl ⟨c_13, rfl, rfl, rfl⟩) hP hD hS dX5_type_17
abbrev rm_X5_clear : Room := { frames := 0, cells := 0, slots := 0, locals := 0 }
set_option maxHeartbeats 4000000 in
set_option maxRecDepth 100000 in
theorem c_X5_clear (l : Launch) (dC : Nat → ClassId) (dI : Nat → Nat → Nat) (cI cJ cZ : ClassId) (a : Nat → Nat) (ty : Nat → Int32) (tm b : Nat) (wo : Nat → Int64) (of : Nat → Int32) (n : Nat) (no : Nat → Int64) (nm : Nat) (un : Nat → Int64) (um : Nat) (sa sl si : Nat → Int32) (sn : Nat) (tk : Nat → Int32) (v : Nat) (V O K SA SL SI : Nat → Nat) (hmw : bMW ty tm v) (hmd : bMD wo of n V O) (hmn : bMN no nm K) (hms : bMS sa sl si sn SA SL SI) (sz : Nat) : Met l yX5_clear wsX5_clear rm_X5_clear (mPc (dC, dI) (tysA cI cJ cZ) (wm a cI cJ cZ ty tm b wo of n no nm un um sa sl si sn tk) sz [.ref (a 0)]) (mQi (dC, dI) (fun (r : Int32) (u : Nat) => r = nI tm ∧ u = 0) (fun u => wm a cI cJ cZ ty u b wo of n no nm un um sa sl si sn tk) (va_A (wm a cI cJ cZ ty tm b wo of n no nm un um sa sl si sn tk) sz)) 0 0 (va_A (wm a cI cJ cZ ty tm b wo of n no nm un um sa sl si sn tk) sz) := by
  refine met_m (cc := cX5_clear) (maxL := 2) (ret := (some .int)) (own := RX5) (Qc := fun A => mQi (dC, dI) (fun (r : Int32) (u : Nat) => r = nI tm ∧ u = 0) (fun u => wm a cI cJ cZ ty u b wo of n no nm un um sa sl si sn tk) A) (by decide) rfl rfl (Nat.le_of_ble_eq_true rfl) ?_
  intro p e s m below meth c S hr hlocks hname hK A hA hP hD hS ls hl
  obtain ⟨hx, hb, hml, hown, hts⟩ := id S
  generalize hQQ : MQ below (mQi (dC, dI) (fun (r : Int32) (u : Nat) => r = nI tm ∧ u = 0) (fun u => wm a cI cJ cZ ty u b wo of n no nm un um sa sl si sn tk) A) ([.ref (a 0)] : List Value).toArray s 0 0 A = QQ
  have hl : lv_has ls 2 [(0, .ref (a 0))] := hl
  have hi5 : ∀ w ∈ wsX50, w ∈ wsX5_clear := fun _ h => List.mem_cons_of_mem _ (List.mem_append_right _ h)
  obtain ⟨hvw, htm, hty⟩ := id hmw; obtain ⟨hn, hk⟩ := id hmd; obtain ⟨hnm, hkn⟩ := id hmn; obtain ⟨hsn, hks⟩ := id hms
  refine lv_aload_n hx hb dX5_clear_0 rfl (lv_at hl 0 rfl) ?_
  refine lv_iconst (v := nI (0)) hx hb dX5_clear_1 (by decide) ?_
  refine va_put (D := (dC, dI)) (ci := 4) (v := .int (nI (0))) (ty := .int) (C := RX5) (T := TX5) (N := 16) hx hb hts hi5 tyX5 tyX5_ok nmX5 hown hK hP hD hS 0 rfl rfl 0 (by decide) (hts (.fieldLink RX5 43 "BurstWordsModel" "thrown" "I") (by decide +kernel)) (fun _ h9 => h9) rfl (by decide +kernel) rfl rfl (Nat.le_of_ble_eq_true rfl) dX5_clear_2 (fun H locs hP hD hS => ?_)
  have hP : va_P (dC, dI) vwCl (wm a cI cJ cZ ty tm b wo of n no nm un um sa sl si sn tk) H := hP
  have hD : va_D A (wm a cI cJ cZ ty tm b wo of n no nm un um sa sl si sn tk) := hD
  refine lv_aload_n hx hb dX5_clear_5 rfl (lv_at hl 0 rfl) ?_
  refine va_get (D := (dC, dI)) (ci := 4) (v := .int (nI (tm))) (C := RX5) (T := TX5) (N := 16) hx hb hts hi5 hown hK hP 0 rfl rfl 2 (by decide) (hts (.fieldLink RX5 56 "BurstWordsModel" "typedMany" "I") (by decide +kernel)) (fun _ h9 => h9) rfl dX5_clear_6 ?_
  refine lv_istore_n (lv' := [(1, .int (nI (tm))), (0, .ref (a 0))]) hx hb dX5_clear_9 rfl hl (by decide) rfl (fun ls hl => ?_)
  refine lv_aload_n hx hb dX5_clear_10 rfl (lv_at hl 1 rfl) ?_
  refine lv_iconst (v := nI (0)) hx hb dX5_clear_11 (by decide) ?_
  refine va_put (D := (dC, dI)) (ci := 4) (v := .int (nI (0))) (ty := .int) (C := RX5) (T := TX5) (N := 16) hx hb hts hi5 tyX5 tyX5_ok nmX5 hown hK hP hD hS 0 rfl rfl 2 (by decide) (hts (.fieldLink RX5 56 "BurstWordsModel" "typedMany" "I") (by decide +kernel)) (fun _ h9 => h9) rfl (by decide +kernel) rfl rfl (Nat.le_of_ble_eq_true rfl) dX5_clear_12 (fun H locs hP hD hS => ?_)
  have hP : va_P (dC, dI) vwCl (wm a cI cJ cZ ty 0 b wo of n no nm un um sa sl si sn tk) H := hP
  have hD : va_D A (wm a cI cJ cZ ty 0 b wo of n no nm un um sa sl si sn tk) := hD
  refine lv_iload_n hx hb dX5_clear_15 rfl (lv_at hl 0 rfl) ?_
  rw [← hQQ]
  exact m_i (0) hx hb hr hlocks ⟨rfl, rfl⟩ hP hD hS dX5_clear_16
abbrev rm_X5_bounds : Room := { frames := 1, cells := 0, slots := 0, locals := 22 }
set_option maxHeartbeats 4000000 in
set_option maxRecDepth 100000 in
theorem c_X5_bounds (l : Launch) (dC : Nat → ClassId) (dI : Nat → Nat → Nat) (cI cJ cZ : ClassId) (a : Nat → Nat) (ty : Nat → Int32) (tm b : Nat) (wo : Nat → Int64) (of : Nat → Int32) (n : Nat) (no : Nat → Int64) (nm : Nat) (un : Nat → Int64) (um : Nat) (sa sl si : Nat → Int32) (sn : Nat) (tk : Nat → Int32) (v : Nat) (V O K SA SL SI : Nat → Nat) (hmw : bMW ty tm v) (hmd : bMD wo of n V O) (hmn : bMN no nm K) (hms : bMS sa sl si sn SA SL SI) (sz : Nat) (x : Int32) : Met l yX5_bounds wsX5_bounds rm_X5_bounds (mPc (dC, dI) (tysA cI cJ cZ) (wm a cI cJ cZ ty tm b wo of n no nm un um sa sl si sn tk) sz [.ref (a 0), .int (x)]) (mQi (dC, dI) (fun (r : Int32) (u : (Nat) × (Nat)) => (bin x (nI 2) (nI 8) = false ∧ r = -1 ∧ u.1 = b ∧ u.2 = um) ∨ (bin x (nI 2) (nI 8) = true ∧ 0 < n ∧ r = -2 ∧ u.1 = b ∧ u.2 = um) ∨ (∃ k, 2 ≤ k ∧ k ≤ 8 ∧ x = nI k ∧ n = 0 ∧ r = nI b ∧ u.1 = k ∧ u.2 = 0)) (fun u => wm a cI cJ cZ ty tm u.1 wo of n no nm un u.2 sa sl si sn tk) (va_A (wm a cI cJ cZ ty tm b wo of n no nm un um sa sl si sn tk) sz)) 0 0 (va_A (wm a cI cJ cZ ty tm b wo of n no nm un um sa sl si sn tk) sz) := by
  refine met_m (cc := cX5_bounds) (maxL := 3) (ret := (some .int)) (own := RX5) (Qc := fun A => mQi (dC, dI) (fun (r : Int32) (u : (Nat) × (Nat)) => (bin x (nI 2) (nI 8) = false ∧ r = -1 ∧ u.1 = b ∧ u.2 = um) ∨ (bin x (nI 2) (nI 8) = true ∧ 0 < n ∧ r = -2 ∧ u.1 = b ∧ u.2 = um) ∨ (∃ k, 2 ≤ k ∧ k ≤ 8 ∧ x = nI k ∧ n = 0 ∧ r = nI b ∧ u.1 = k ∧ u.2 = 0)) (fun u => wm a cI cJ cZ ty tm u.1 wo of n no nm un u.2 sa sl si sn tk) A) (by decide) rfl rfl (Nat.le_of_ble_eq_true rfl) ?_
  intro p e s m below meth c S hr hlocks hname hK A hA hP hD hS ls hl
  obtain ⟨hx, hb, hml, hown, hts⟩ := id S
  generalize hQQ : MQ below (mQi (dC, dI) (fun (r : Int32) (u : (Nat) × (Nat)) => (bin x (nI 2) (nI 8) = false ∧ r = -1 ∧ u.1 = b ∧ u.2 = um) ∨ (bin x (nI 2) (nI 8) = true ∧ 0 < n ∧ r = -2 ∧ u.1 = b ∧ u.2 = um) ∨ (∃ k, 2 ≤ k ∧ k ≤ 8 ∧ x = nI k ∧ n = 0 ∧ r = nI b ∧ u.1 = k ∧ u.2 = 0)) (fun u => wm a cI cJ cZ ty tm u.1 wo of n no nm un u.2 sa sl si sn tk) A) ([.ref (a 0), .int (x)] : List Value).toArray s 0 0 A = QQ
  have hl : lv_has ls 3 [(0, .ref (a 0)), (1, .int (x))] := hl
  have hi5 : ∀ w ∈ wsX50, w ∈ wsX5_bounds := fun _ h => List.mem_cons_of_mem _ (List.mem_append_right _ h)
  obtain ⟨hvw, htm, hty⟩ := id hmw; obtain ⟨hn, hk⟩ := id hmd; obtain ⟨hnm, hkn⟩ := id hmn; obtain ⟨hsn, hks⟩ := id hms
  refine lv_aload_n hx hb dX5_bounds_0 rfl (lv_at hl 0 rfl) ?_
  refine lv_iconst (v := nI (0)) hx hb dX5_bounds_1 (by decide) ?_
  refine va_put (D := (dC, dI)) (ci := 4) (v := .int (nI (0))) (ty := .int) (C := RX5) (T := TX5) (N := 16) hx hb hts hi5 tyX5 tyX5_ok nmX5 hown hK hP hD hS 0 rfl rfl 0 (by decide) (hts (.fieldLink RX5 43 "BurstWordsModel" "thrown" "I") (by decide +kernel)) (fun _ h9 => h9) rfl (by decide +kernel) rfl rfl (Nat.le_of_ble_eq_true rfl) dX5_bounds_2 (fun H locs hP hD hS => ?_)
  have hP : va_P (dC, dI) vwCl (wm a cI cJ cZ ty tm b wo of n no nm un um sa sl si sn tk) H := hP
  have hD : va_D A (wm a cI cJ cZ ty tm b wo of n no nm un um sa sl si sn tk) := hD
  refine lv_iload_n hx hb dX5_bounds_5 rfl (lv_at hl 1 rfl) ?_
  refine lv_iconst (v := nI (2)) hx hb dX5_bounds_6 (by decide) ?_
  refine lv_bipush (v := nI (8)) hx hb dX5_bounds_7 (by decide) ?_
  refine c_Si (As := [.int (x), .int (nI (2)), .int (nI (8))]) (rest := []) S (c_X5_in l (x) (nI (2)) (nI (8))) (va_cwS 3 hts gX5_bounds_X5_in rfl rfl rfl (by decide +kernel) ⟨Nat.le_of_ble_eq_true rfl, Nat.le_of_ble_eq_true rfl⟩) rfl hl.1 rfl (Nat.le_of_ble_eq_true rfl) dX5_bounds_9 ⟨Nat.le_of_ble_eq_true rfl, Nat.le_of_ble_eq_true rfl⟩ ?_
  refine b_ne (tgt := 17) hx hb dX5_bounds_12 (by decide) (fun c_12 => ?_) (fun c_12 => ?_)
  · refine lv_aload_n hx hb dX5_bounds_17 rfl (lv_at hl 0 rfl) ?_
    refine va_get (D := (dC, dI)) (ci := 4) (v := .int (nI (n))) (C := RX5) (T := TX5) (N := 16) hx hb hts hi5 hown hK hP 0 rfl rfl 6 (by decide) (hts (.fieldLink RX5 67 "BurstWordsModel" "many" "I") (by decide +kernel)) (fun _ h9 => h9) rfl dX5_bounds_18 ?_
    refine z_le (tgt := 27) hx hb dX5_bounds_21 (by decide) (by omega) (fun c_21 => ?_) (fun c_21 => ?_)
    · obtain ⟨k, hk1, hk2, hxk⟩ := bin_R (by decide) (by decide) c_12
      have hl := lv_cg (l' := [(0, .ref (a 0)), (1, .int (nI (k)))]) hl (by rw [hxk])
      refine lv_aload_n hx hb dX5_bounds_27 rfl (lv_at hl 0 rfl) ?_
      refine va_get (D := (dC, dI)) (ci := 4) (v := .int (nI (b))) (C := RX5) (T := TX5) (N := 16) hx hb hts hi5 hown hK hP 0 rfl rfl 3 (by decide) (hts (.fieldLink RX5 13 "BurstWordsModel" "b" "I") (by decide +kernel)) (fun _ h9 => h9) rfl dX5_bounds_28 ?_
      refine lv_istore_n (lv' := [(2, .int (nI (b))), (0, .ref (a 0)), (1, .int (nI (k)))]) hx hb dX5_bounds_31 rfl hl (by decide) rfl (fun ls hl => ?_)
      refine lv_aload_n hx hb dX5_bounds_32 rfl (lv_at hl 1 rfl) ?_
      refine lv_iload_n hx hb dX5_bounds_33 rfl (lv_at hl 2 rfl) ?_
      refine va_put (D := (dC, dI)) (ci := 4) (v := .int (nI (k))) (ty := .int) (C := RX5) (T := TX5) (N := 16) hx hb hts hi5 tyX5 tyX5_ok nmX5 hown hK hP hD hS 0 rfl rfl 3 (by decide) (hts (.fieldLink RX5 13 "BurstWordsModel" "b" "I") (by decide +kernel)) (fun _ h9 => h9) rfl (by decide +kernel) rfl rfl (Nat.le_of_ble_eq_true rfl) dX5_bounds_34 (fun H locs hP hD hS => ?_)
      have hP : va_P (dC, dI) vwCl (wm a cI cJ cZ ty tm k wo of n no nm un um sa sl si sn tk) H := hP
      have hD : va_D A (wm a cI cJ cZ ty tm k wo of n no nm un um sa sl si sn tk) := hD
      refine lv_aload_n hx hb dX5_bounds_37 rfl (lv_at hl 1 rfl) ?_
      refine lv_iconst (v := nI (0)) hx hb dX5_bounds_38 (by decide) ?_
      refine va_put (D := (dC, dI)) (ci := 4) (v := .int (nI (0))) (ty := .int) (C := RX5) (T := TX5) (N := 16) hx hb hts hi5 tyX5 tyX5_ok nmX5 hown hK hP hD hS 0 rfl rfl 10 (by decide) (hts (.fieldLink RX5 85 "BurstWordsModel" "undoMany" "I") (by decide +kernel)) (fun _ h9 => h9) rfl (by decide +kernel) rfl rfl (Nat.le_of_ble_eq_true rfl) dX5_bounds_39 (fun H locs hP hD hS => ?_)
      have hP : va_P (dC, dI) vwCl (wm a cI cJ cZ ty tm k wo of n no nm un 0 sa sl si sn tk) H := hP
      have hD : va_D A (wm a cI cJ cZ ty tm k wo of n no nm un 0 sa sl si sn tk) := hD
      refine lv_iload_n hx hb dX5_bounds_42 rfl (lv_at hl 0 rfl) ?_
      rw [← hQQ]
      exact m_i (k, 0) hx hb hr hlocks (Or.inr (Or.inr ⟨k, hk1, hk2, hxk, c_21, rfl, rfl, rfl⟩)) hP hD hS dX5_bounds_43
    · refine lv_bipush (v := (-2 : Int32)) hx hb dX5_bounds_24 (by decide) ?_
      rw [← hQQ]
      exact m_i (b, um) hx hb hr hlocks (Or.inr (Or.inl ⟨c_12, c_21, rfl, rfl, rfl⟩)) hP hD hS dX5_bounds_26
  · refine lv_iconst (v := (-1 : Int32)) hx hb dX5_bounds_15 (by decide) ?_
    rw [← hQQ]
    exact m_i (b, um) hx hb hr hlocks (Or.inl ⟨c_12, rfl, rfl, rfl⟩) hP hD hS dX5_bounds_16
abbrev rm_X5_sees : Room := { frames := 1, cells := 0, slots := 0, locals := 22 }
set_option maxHeartbeats 4000000 in
set_option maxRecDepth 100000 in
theorem c_X5_sees (l : Launch) (dC : Nat → ClassId) (dI : Nat → Nat → Nat) (cI cJ cZ : ClassId) (a : Nat → Nat) (ty : Nat → Int32) (tm b : Nat) (wo : Nat → Int64) (of : Nat → Int32) (n : Nat) (no : Nat → Int64) (nm : Nat) (un : Nat → Int64) (um : Nat) (sa sl si : Nat → Int32) (sn : Nat) (tk : Nat → Int32) (v : Nat) (V O K SA SL SI : Nat → Nat) (hmw : bMW ty tm v) (hmd : bMD wo of n V O) (hmn : bMN no nm K) (hms : bMS sa sl si sn SA SL SI) (sz : Nat) (x : Int32) (y : Int32) (z : Int32) : Met l yX5_sees wsX5_sees rm_X5_sees (mPc (dC, dI) (tysA cI cJ cZ) (wm a cI cJ cZ ty tm b wo of n no nm un um sa sl si sn tk) sz [.ref (a 0), .int (x), .int (y), .int (z)]) (mQi (dC, dI) (fun (r : Int32) (u : (Nat → Int32) × (Nat → Int32) × (Nat → Int32) × (Nat)) => ((bin x (nI 0) (nI 6) = false ∨ bin y (nI 97) (nI 122) = false ∨ bin z (nI 0) (nI 1) = false) ∧ r = -1 ∧ u = (sa, sl, si, sn)) ∨ ((bin x (nI 0) (nI 6) = true ∧ bin y (nI 97) (nI 122) = true ∧ bin z (nI 0) (nI 1) = true) ∧ sn = 8 ∧ r = -3 ∧ u = (sa, sl, si, sn)) ∨ (∃ i k t, i ≤ 6 ∧ x = nI i ∧ 97 ≤ k ∧ k ≤ 122 ∧ y = nI k ∧ t ≤ 1 ∧ z = nI t ∧ sn < 8 ∧ r = nI (sn + 1) ∧ u.2.2.2 = sn + 1 ∧ bMS u.1 u.2.1 u.2.2.1 (sn + 1) (va_up SA sn i) (va_up SL sn (k - 96)) (va_up SI sn t))) (fun u => wm a cI cJ cZ ty tm b wo of n no nm un um u.1 u.2.1 u.2.2.1 u.2.2.2 tk) (va_A (wm a cI cJ cZ ty tm b wo of n no nm un um sa sl si sn tk) sz)) 0 0 (va_A (wm a cI cJ cZ ty tm b wo of n no nm un um sa sl si sn tk) sz) := by
  refine met_m (cc := cX5_sees) (maxL := 4) (ret := (some .int)) (own := RX5) (Qc := fun A => mQi (dC, dI) (fun (r : Int32) (u : (Nat → Int32) × (Nat → Int32) × (Nat → Int32) × (Nat)) => ((bin x (nI 0) (nI 6) = false ∨ bin y (nI 97) (nI 122) = false ∨ bin z (nI 0) (nI 1) = false) ∧ r = -1 ∧ u = (sa, sl, si, sn)) ∨ ((bin x (nI 0) (nI 6) = true ∧ bin y (nI 97) (nI 122) = true ∧ bin z (nI 0) (nI 1) = true) ∧ sn = 8 ∧ r = -3 ∧ u = (sa, sl, si, sn)) ∨ (∃ i k t, i ≤ 6 ∧ x = nI i ∧ 97 ≤ k ∧ k ≤ 122 ∧ y = nI k ∧ t ≤ 1 ∧ z = nI t ∧ sn < 8 ∧ r = nI (sn + 1) ∧ u.2.2.2 = sn + 1 ∧ bMS u.1 u.2.1 u.2.2.1 (sn + 1) (va_up SA sn i) (va_up SL sn (k - 96)) (va_up SI sn t))) (fun u => wm a cI cJ cZ ty tm b wo of n no nm un um u.1 u.2.1 u.2.2.1 u.2.2.2 tk) A) (by decide) rfl rfl (Nat.le_of_ble_eq_true rfl) ?_
  intro p e s m below meth c S hr hlocks hname hK A hA hP hD hS ls hl
  obtain ⟨hx, hb, hml, hown, hts⟩ := id S
  generalize hQQ : MQ below (mQi (dC, dI) (fun (r : Int32) (u : (Nat → Int32) × (Nat → Int32) × (Nat → Int32) × (Nat)) => ((bin x (nI 0) (nI 6) = false ∨ bin y (nI 97) (nI 122) = false ∨ bin z (nI 0) (nI 1) = false) ∧ r = -1 ∧ u = (sa, sl, si, sn)) ∨ ((bin x (nI 0) (nI 6) = true ∧ bin y (nI 97) (nI 122) = true ∧ bin z (nI 0) (nI 1) = true) ∧ sn = 8 ∧ r = -3 ∧ u = (sa, sl, si, sn)) ∨ (∃ i k t, i ≤ 6 ∧ x = nI i ∧ 97 ≤ k ∧ k ≤ 122 ∧ y = nI k ∧ t ≤ 1 ∧ z = nI t ∧ sn < 8 ∧ r = nI (sn + 1) ∧ u.2.2.2 = sn + 1 ∧ bMS u.1 u.2.1 u.2.2.1 (sn + 1) (va_up SA sn i) (va_up SL sn (k - 96)) (va_up SI sn t))) (fun u => wm a cI cJ cZ ty tm b wo of n no nm un um u.1 u.2.1 u.2.2.1 u.2.2.2 tk) A) ([.ref (a 0), .int (x), .int (y), .int (z)] : List Value).toArray s 0 0 A = QQ
  have hl : lv_has ls 4 [(0, .ref (a 0)), (1, .int (x)), (2, .int (y)), (3, .int (z))] := hl
  have hi5 : ∀ w ∈ wsX50, w ∈ wsX5_sees := fun _ h => List.mem_cons_of_mem _ (List.mem_append_right _ h)
  obtain ⟨hvw, htm, hty⟩ := id hmw; obtain ⟨hn, hk⟩ := id hmd; obtain ⟨hnm, hkn⟩ := id hmn; obtain ⟨hsn, hks⟩ := id hms
  refine lv_aload_n hx hb dX5_sees_0 rfl (lv_at hl 0 rfl) ?_
  refine lv_iconst (v := nI (0)) hx hb dX5_sees_1 (by decide) ?_
  refine va_put (D := (dC, dI)) (ci := 4) (v := .int (nI (0))) (ty := .int) (C := RX5) (T := TX5) (N := 16) hx hb hts hi5 tyX5 tyX5_ok nmX5 hown hK hP hD hS 0 rfl rfl 0 (by decide) (hts (.fieldLink RX5 43 "BurstWordsModel" "thrown" "I") (by decide +kernel)) (fun _ h9 => h9) rfl (by decide +kernel) rfl rfl (Nat.le_of_ble_eq_true rfl) dX5_sees_2 (fun H locs hP hD hS => ?_)
  have hP : va_P (dC, dI) vwCl (wm a cI cJ cZ ty tm b wo of n no nm un um sa sl si sn tk) H := hP
  have hD : va_D A (wm a cI cJ cZ ty tm b wo of n no nm un um sa sl si sn tk) := hD
  refine lv_iload_n hx hb dX5_sees_5 rfl (lv_at hl 1 rfl) ?_
  refine lv_iconst (v := nI (0)) hx hb dX5_sees_6 (by decide) ?_
  refine lv_bipush (v := nI (6)) hx hb dX5_sees_7 (by decide) ?_
  refine c_Si (As := [.int (x), .int (nI (0)), .int (nI (6))]) (rest := []) S (c_X5_in l (x) (nI (0)) (nI (6))) (va_cwS 3 hts gX5_sees_X5_in rfl rfl rfl (by decide +kernel) ⟨Nat.le_of_ble_eq_true rfl, Nat.le_of_ble_eq_true rfl⟩) rfl hl.1 rfl (Nat.le_of_ble_eq_true rfl) dX5_sees_9 ⟨Nat.le_of_ble_eq_true rfl, Nat.le_of_ble_eq_true rfl⟩ ?_
  refine b_eq (tgt := 35) hx hb dX5_sees_12 (by decide) (fun c_12 => ?_) (fun c_12 => ?_)
  · refine lv_iconst (v := (-1 : Int32)) hx hb dX5_sees_35 (by decide) ?_
    rw [← hQQ]
    exact m_i (sa, sl, si, sn) hx hb hr hlocks (Or.inl ⟨Or.inl c_12, rfl, rfl⟩) hP hD hS dX5_sees_36
  · refine lv_iload_n hx hb dX5_sees_15 rfl (lv_at hl 2 rfl) ?_
    refine lv_bipush (v := nI (97)) hx hb dX5_sees_16 (by decide) ?_
    refine lv_bipush (v := nI (122)) hx hb dX5_sees_18 (by decide) ?_
    refine c_Si (As := [.int (y), .int (nI (97)), .int (nI (122))]) (rest := []) S (c_X5_in l (y) (nI (97)) (nI (122))) (va_cwS 3 hts gX5_sees_X5_in rfl rfl rfl (by decide +kernel) ⟨Nat.le_of_ble_eq_true rfl, Nat.le_of_ble_eq_true rfl⟩) rfl hl.1 rfl (Nat.le_of_ble_eq_true rfl) dX5_sees_20 ⟨Nat.le_of_ble_eq_true rfl, Nat.le_of_ble_eq_true rfl⟩ ?_
    refine b_eq (tgt := 35) hx hb dX5_sees_23 (by decide) (fun c_23 => ?_) (fun c_23 => ?_)
    · refine lv_iconst (v := (-1 : Int32)) hx hb dX5_sees_35 (by decide) ?_
      rw [← hQQ]
      exact m_i (sa, sl, si, sn) hx hb hr hlocks (Or.inl ⟨Or.inr (Or.inl c_23), rfl, rfl⟩) hP hD hS dX5_sees_36
    · refine lv_iload_n hx hb dX5_sees_26 rfl (lv_at hl 3 rfl) ?_
      refine lv_iconst (v := nI (0)) hx hb dX5_sees_27 (by decide) ?_
      refine lv_iconst (v := nI (1)) hx hb dX5_sees_28 (by decide) ?_
      refine c_Si (As := [.int (z), .int (nI (0)), .int (nI (1))]) (rest := []) S (c_X5_in l (z) (nI (0)) (nI (1))) (va_cwS 3 hts gX5_sees_X5_in rfl rfl rfl (by decide +kernel) ⟨Nat.le_of_ble_eq_true rfl, Nat.le_of_ble_eq_true rfl⟩) rfl hl.1 rfl (Nat.le_of_ble_eq_true rfl) dX5_sees_29 ⟨Nat.le_of_ble_eq_true rfl, Nat.le_of_ble_eq_true rfl⟩ ?_
      refine b_ne (tgt := 37) hx hb dX5_sees_32 (by decide) (fun c_32 => ?_) (fun c_32 => ?_)
      · refine lv_aload_n hx hb dX5_sees_37 rfl (lv_at hl 0 rfl) ?_
        refine va_get (D := (dC, dI)) (ci := 4) (v := .int (nI (sn))) (C := RX5) (T := TX5) (N := 16) hx hb hts hi5 hown hK hP 0 rfl rfl 14 (by decide) (hts (.fieldLink RX5 135 "BurstWordsModel" "seenMany" "I") (by decide +kernel)) (fun _ h9 => h9) rfl dX5_sees_38 ?_
        refine lv_bipush (v := nI (8)) hx hb dX5_sees_41 (by decide) ?_
        refine n_ne (tgt := 49) hx hb dX5_sees_43 (by decide) (by omega) (by omega) (fun c_43 => ?_) (fun c_43 => ?_)
        · obtain ⟨i, hi1, hxi⟩ := bin_N (by decide) c_12
          have hl := lv_cg (l' := [(0, .ref (a 0)), (1, .int (nI (i))), (2, .int (y)), (3, .int (z))]) hl (by rw [hxi])
          obtain ⟨k, hk1, hk2, hyk⟩ := bin_L c_23
          have hl := lv_cg (l' := [(0, .ref (a 0)), (1, .int (nI (i))), (2, .int (nI (k))), (3, .int (z))]) hl (by rw [hyk])
          obtain ⟨t, ht1, hzt⟩ := bin_N (by decide) c_32
          have hl := lv_cg (l' := [(0, .ref (a 0)), (1, .int (nI (i))), (2, .int (nI (k))), (3, .int (nI (t)))]) hl (by rw [hzt])
          refine lv_aload_n hx hb dX5_sees_49 rfl (lv_at hl 0 rfl) ?_
          refine va_get (D := (dC, dI)) (ci := 4) (v := .ref (a 6)) (C := RX5) (T := TX5) (N := 16) hx hb hts hi5 hown hK hP 0 rfl rfl 11 (by decide) (hts (.fieldLink RX5 30 "BurstWordsModel" "seenAt" "[I") (by decide +kernel)) (fun _ h9 => h9) rfl dX5_sees_50 ?_
          refine lv_aload_n hx hb dX5_sees_53 rfl (lv_at hl 0 rfl) ?_
          refine va_get (D := (dC, dI)) (ci := 4) (v := .int (nI (sn))) (C := RX5) (T := TX5) (N := 16) hx hb hts hi5 hown hK hP 0 rfl rfl 14 (by decide) (hts (.fieldLink RX5 135 "BurstWordsModel" "seenMany" "I") (by decide +kernel)) (fun _ h9 => h9) rfl dX5_sees_54 ?_
          refine lv_iload_n hx hb dX5_sees_57 rfl (lv_at hl 1 rfl) ?_
          refine s_i (k := sn) hx hb hK hP hD hS 6 0 rfl rfl (hin := (by omega)) (hn := by decide) (hdg := dX5_sees_58) (fun H locs hP hD hS => ?_)
          have hP : va_P (dC, dI) vwCl (wm a cI cJ cZ ty tm b wo of n no nm un um (upd sa sn (nI (i))) sl si sn tk) H := hP
          have hD : va_D A (wm a cI cJ cZ ty tm b wo of n no nm un um (upd sa sn (nI (i))) sl si sn tk) := hD
          refine lv_aload_n hx hb dX5_sees_59 rfl (lv_at hl 0 rfl) ?_
          refine va_get (D := (dC, dI)) (ci := 4) (v := .ref (a 7)) (C := RX5) (T := TX5) (N := 16) hx hb hts hi5 hown hK hP 0 rfl rfl 12 (by decide) (hts (.fieldLink RX5 33 "BurstWordsModel" "seenLetter" "[I") (by decide +kernel)) (fun _ h9 => h9) rfl dX5_sees_60 ?_
          refine lv_aload_n hx hb dX5_sees_63 rfl (lv_at hl 0 rfl) ?_
          refine va_get (D := (dC, dI)) (ci := 4) (v := .int (nI (sn))) (C := RX5) (T := TX5) (N := 16) hx hb hts hi5 hown hK hP 0 rfl rfl 14 (by decide) (hts (.fieldLink RX5 135 "BurstWordsModel" "seenMany" "I") (by decide +kernel)) (fun _ h9 => h9) rfl dX5_sees_64 ?_
          refine lv_iload_n hx hb dX5_sees_67 rfl (lv_at hl 2 rfl) ?_
          refine lv_bipush (v := nI (97)) hx hb dX5_sees_68 (by decide) ?_
          refine lv_isub hx hb dX5_sees_70 ?_
          refine tpi (pk_sub (by omega)) ?_
          refine lv_iconst (v := nI (1)) hx hb dX5_sees_71 (by decide) ?_
          refine lv_iadd hx hb dX5_sees_72 ?_
          refine tpi (nI_add _ _) ?_
          refine s_i (k := sn) hx hb hK hP hD hS 7 0 rfl rfl (hin := (by omega)) (hn := by decide) (hdg := dX5_sees_73) (fun H locs hP hD hS => ?_)
          have hP : va_P (dC, dI) vwCl (wm a cI cJ cZ ty tm b wo of n no nm un um (upd sa sn (nI (i))) (upd sl sn (nI ((k - 97) + 1))) si sn tk) H := hP
          have hD : va_D A (wm a cI cJ cZ ty tm b wo of n no nm un um (upd sa sn (nI (i))) (upd sl sn (nI ((k - 97) + 1))) si sn tk) := hD
          refine lv_aload_n hx hb dX5_sees_74 rfl (lv_at hl 0 rfl) ?_
          refine va_get (D := (dC, dI)) (ci := 4) (v := .ref (a 8)) (C := RX5) (T := TX5) (N := 16) hx hb hts hi5 hown hK hP 0 rfl rfl 13 (by decide) (hts (.fieldLink RX5 36 "BurstWordsModel" "seenIs" "[I") (by decide +kernel)) (fun _ h9 => h9) rfl dX5_sees_75 ?_
          refine lv_aload_n hx hb dX5_sees_78 rfl (lv_at hl 0 rfl) ?_
          refine va_get (D := (dC, dI)) (ci := 4) (v := .int (nI (sn))) (C := RX5) (T := TX5) (N := 16) hx hb hts hi5 hown hK hP 0 rfl rfl 14 (by decide) (hts (.fieldLink RX5 135 "BurstWordsModel" "seenMany" "I") (by decide +kernel)) (fun _ h9 => h9) rfl dX5_sees_79 ?_
          refine lv_iload_n hx hb dX5_sees_82 rfl (lv_at hl 3 rfl) ?_
          refine s_i (k := sn) hx hb hK hP hD hS 8 0 rfl rfl (hin := (by omega)) (hn := by decide) (hdg := dX5_sees_83) (fun H locs hP hD hS => ?_)
          have hP : va_P (dC, dI) vwCl (wm a cI cJ cZ ty tm b wo of n no nm un um (upd sa sn (nI (i))) (upd sl sn (nI ((k - 97) + 1))) (upd si sn (nI (t))) sn tk) H := hP
          have hD : va_D A (wm a cI cJ cZ ty tm b wo of n no nm un um (upd sa sn (nI (i))) (upd sl sn (nI ((k - 97) + 1))) (upd si sn (nI (t))) sn tk) := hD
          refine lv_aload_n hx hb dX5_sees_84 rfl (lv_at hl 0 rfl) ?_
          refine lv_dup hx hb dX5_sees_85 rfl ?_
          refine va_get (D := (dC, dI)) (ci := 4) (v := .int (nI (sn))) (C := RX5) (T := TX5) (N := 16) hx hb hts hi5 hown hK hP 0 rfl rfl 14 (by decide) (hts (.fieldLink RX5 135 "BurstWordsModel" "seenMany" "I") (by decide +kernel)) (fun _ h9 => h9) rfl dX5_sees_86 ?_
          refine lv_iconst (v := nI (1)) hx hb dX5_sees_89 (by decide) ?_
          refine lv_iadd hx hb dX5_sees_90 ?_
          refine tpi (nI_add _ _) ?_
          refine va_put (D := (dC, dI)) (ci := 4) (v := .int (nI (sn + 1))) (ty := .int) (C := RX5) (T := TX5) (N := 16) hx hb hts hi5 tyX5 tyX5_ok nmX5 hown hK hP hD hS 0 rfl rfl 14 (by decide) (hts (.fieldLink RX5 135 "BurstWordsModel" "seenMany" "I") (by decide +kernel)) (fun _ h9 => h9) rfl (by decide +kernel) rfl rfl (Nat.le_of_ble_eq_true rfl) dX5_sees_91 (fun H locs hP hD hS => ?_)
          have hP : va_P (dC, dI) vwCl (wm a cI cJ cZ ty tm b wo of n no nm un um (upd sa sn (nI (i))) (upd sl sn (nI ((k - 97) + 1))) (upd si sn (nI (t))) (sn + 1) tk) H := hP
          have hD : va_D A (wm a cI cJ cZ ty tm b wo of n no nm un um (upd sa sn (nI (i))) (upd sl sn (nI ((k - 97) + 1))) (upd si sn (nI (t))) (sn + 1) tk) := hD
          refine lv_aload_n hx hb dX5_sees_94 rfl (lv_at hl 0 rfl) ?_
          refine va_get (D := (dC, dI)) (ci := 4) (v := .int (nI (sn + 1))) (C := RX5) (T := TX5) (N := 16) hx hb hts hi5 hown hK hP 0 rfl rfl 14 (by decide) (hts (.fieldLink RX5 135 "BurstWordsModel" "seenMany" "I") (by decide +kernel)) (fun _ h9 => h9) rfl dX5_sees_95 ?_
          rw [← hQQ]
          exact m_i (upd sa sn (nI (i)), upd sl sn (nI ((k - 97) + 1)), upd si sn (nI (t)), sn + 1) hx hb hr hlocks (Or.inr (Or.inr ⟨i, k, t, hi1, hxi, hk1, hk2, hyk, ht1, hzt, by omega, rfl, rfl, bMS_add hms (by omega) hi1 hk1 hk2 ht1⟩)) hP hD hS dX5_sees_98
        · refine lv_bipush (v := (-3 : Int32)) hx hb dX5_sees_46 (by decide) ?_
          rw [← hQQ]
          exact m_i (sa, sl, si, sn) hx hb hr hlocks (Or.inr (Or.inl ⟨⟨c_12, c_23, c_32⟩, c_43, rfl, rfl⟩)) hP hD hS dX5_sees_48
      · refine lv_iconst (v := (-1 : Int32)) hx hb dX5_sees_35 (by decide) ?_
        rw [← hQQ]
        exact m_i (sa, sl, si, sn) hx hb hr hlocks (Or.inl ⟨Or.inr (Or.inr c_32), rfl, rfl⟩) hP hD hS dX5_sees_36
abbrev rm_X5_forget : Room := { frames := 0, cells := 0, slots := 0, locals := 0 }
set_option maxHeartbeats 4000000 in
set_option maxRecDepth 100000 in
theorem c_X5_forget (l : Launch) (dC : Nat → ClassId) (dI : Nat → Nat → Nat) (cI cJ cZ : ClassId) (a : Nat → Nat) (ty : Nat → Int32) (tm b : Nat) (wo : Nat → Int64) (of : Nat → Int32) (n : Nat) (no : Nat → Int64) (nm : Nat) (un : Nat → Int64) (um : Nat) (sa sl si : Nat → Int32) (sn : Nat) (tk : Nat → Int32) (v : Nat) (V O K SA SL SI : Nat → Nat) (hmw : bMW ty tm v) (hmd : bMD wo of n V O) (hmn : bMN no nm K) (hms : bMS sa sl si sn SA SL SI) (sz : Nat) : Met l yX5_forget wsX5_forget rm_X5_forget (mPc (dC, dI) (tysA cI cJ cZ) (wm a cI cJ cZ ty tm b wo of n no nm un um sa sl si sn tk) sz [.ref (a 0)]) (mQi (dC, dI) (fun (r : Int32) (u : Nat) => r = nI sn ∧ u = 0) (fun u => wm a cI cJ cZ ty tm b wo of n no nm un um sa sl si u tk) (va_A (wm a cI cJ cZ ty tm b wo of n no nm un um sa sl si sn tk) sz)) 0 0 (va_A (wm a cI cJ cZ ty tm b wo of n no nm un um sa sl si sn tk) sz) := by
  refine met_m (cc := cX5_forget) (maxL := 2) (ret := (some .int)) (own := RX5) (Qc := fun A => mQi (dC, dI) (fun (r : Int32) (u : Nat) => r = nI sn ∧ u = 0) (fun u => wm a cI cJ cZ ty tm b wo of n no nm un um sa sl si u tk) A) (by decide) rfl rfl (Nat.le_of_ble_eq_true rfl) ?_
  intro p e s m below meth c S hr hlocks hname hK A hA hP hD hS ls hl
  obtain ⟨hx, hb, hml, hown, hts⟩ := id S
  generalize hQQ : MQ below (mQi (dC, dI) (fun (r : Int32) (u : Nat) => r = nI sn ∧ u = 0) (fun u => wm a cI cJ cZ ty tm b wo of n no nm un um sa sl si u tk) A) ([.ref (a 0)] : List Value).toArray s 0 0 A = QQ
  have hl : lv_has ls 2 [(0, .ref (a 0))] := hl
  have hi5 : ∀ w ∈ wsX50, w ∈ wsX5_forget := fun _ h => List.mem_cons_of_mem _ (List.mem_append_right _ h)
  obtain ⟨hvw, htm, hty⟩ := id hmw; obtain ⟨hn, hk⟩ := id hmd; obtain ⟨hnm, hkn⟩ := id hmn; obtain ⟨hsn, hks⟩ := id hms
  refine lv_aload_n hx hb dX5_forget_0 rfl (lv_at hl 0 rfl) ?_
  refine lv_iconst (v := nI (0)) hx hb dX5_forget_1 (by decide) ?_
  refine va_put (D := (dC, dI)) (ci := 4) (v := .int (nI (0))) (ty := .int) (C := RX5) (T := TX5) (N := 16) hx hb hts hi5 tyX5 tyX5_ok nmX5 hown hK hP hD hS 0 rfl rfl 0 (by decide) (hts (.fieldLink RX5 43 "BurstWordsModel" "thrown" "I") (by decide +kernel)) (fun _ h9 => h9) rfl (by decide +kernel) rfl rfl (Nat.le_of_ble_eq_true rfl) dX5_forget_2 (fun H locs hP hD hS => ?_)
  have hP : va_P (dC, dI) vwCl (wm a cI cJ cZ ty tm b wo of n no nm un um sa sl si sn tk) H := hP
  have hD : va_D A (wm a cI cJ cZ ty tm b wo of n no nm un um sa sl si sn tk) := hD
  refine lv_aload_n hx hb dX5_forget_5 rfl (lv_at hl 0 rfl) ?_
  refine va_get (D := (dC, dI)) (ci := 4) (v := .int (nI (sn))) (C := RX5) (T := TX5) (N := 16) hx hb hts hi5 hown hK hP 0 rfl rfl 14 (by decide) (hts (.fieldLink RX5 135 "BurstWordsModel" "seenMany" "I") (by decide +kernel)) (fun _ h9 => h9) rfl dX5_forget_6 ?_
  refine lv_istore_n (lv' := [(1, .int (nI (sn))), (0, .ref (a 0))]) hx hb dX5_forget_9 rfl hl (by decide) rfl (fun ls hl => ?_)
  refine lv_aload_n hx hb dX5_forget_10 rfl (lv_at hl 1 rfl) ?_
  refine lv_iconst (v := nI (0)) hx hb dX5_forget_11 (by decide) ?_
  refine va_put (D := (dC, dI)) (ci := 4) (v := .int (nI (0))) (ty := .int) (C := RX5) (T := TX5) (N := 16) hx hb hts hi5 tyX5 tyX5_ok nmX5 hown hK hP hD hS 0 rfl rfl 14 (by decide) (hts (.fieldLink RX5 135 "BurstWordsModel" "seenMany" "I") (by decide +kernel)) (fun _ h9 => h9) rfl (by decide +kernel) rfl rfl (Nat.le_of_ble_eq_true rfl) dX5_forget_12 (fun H locs hP hD hS => ?_)
  have hP : va_P (dC, dI) vwCl (wm a cI cJ cZ ty tm b wo of n no nm un um sa sl si 0 tk) H := hP
  have hD : va_D A (wm a cI cJ cZ ty tm b wo of n no nm un um sa sl si 0 tk) := hD
  refine lv_iload_n hx hb dX5_forget_15 rfl (lv_at hl 0 rfl) ?_
  rw [← hQQ]
  exact m_i (0) hx hb hr hlocks ⟨rfl, rfl⟩ hP hD hS dX5_forget_16
