/-- a list with z put in at p -/
def bic (F : Nat → Nat) (p z k : Nat) : Nat := if k < p then F k else if k = p then z else F (k - 1)
theorem bMD_up {wo : Nat → Int64} {of : Nat → Int32} {n : Nat} {V O : Nat → Nat} {a : Nat} (h : bMD wo of n V O) (ha : a < n) (h2 : O a + 1 ≤ 99) : bMD wo (upd of a (nI (O a + 1))) n V (va_up O a (O a + 1)) := by
  refine ⟨h.1, fun k hk => ?_⟩
  have q := h.2 k hk
  by_cases e : k = a
  · subst e
    rw [pk_us, va_up_self]
    exact ⟨q.1, q.2.1, q.2.2.1, rfl, by omega, h2⟩
  · rw [pk_un e, va_up_ne _ _ e]
    exact q
theorem bMD_dn {wo : Nat → Int64} {of : Nat → Int32} {n : Nat} {V O : Nat → Nat} {a : Nat} (h : bMD wo of n V O) (ha : a < n) (h2 : 1 < O a) : bMD wo (upd of a (nI (O a - 1))) n V (va_up O a (O a - 1)) := by
  refine ⟨h.1, fun k hk => ?_⟩
  have q := h.2 k hk
  by_cases e : k = a
  · subst e
    rw [pk_us, va_up_self]
    exact ⟨q.1, q.2.1, q.2.2.1, rfl, by omega, by omega⟩
  · rw [pk_un e, va_up_ne _ _ e]
    exact q
theorem bMD_ins {wo wo1 : Nat → Int64} {of of1 : Nat → Int32} {n : Nat} {V O : Nat → Nat} {i v : Nat} (h : bMD wo of n V O) (hn : n < 40) (hi : i ≤ n) (hv : bwf v) (hv0 : 0 < bln v) (h1 : ∀ k, k < i → wo1 k = wo k ∧ of1 k = of k) (h2 : ∀ k, i < k → k ≤ n → wo1 k = wo (k - 1) ∧ of1 k = of (k - 1)) : bMD (vp_updL wo1 i (lN v)) (upd of1 i (nI 1)) (n + 1) (bic V i v) (bic O i 1) := by
  refine ⟨by omega, fun k hk => ?_⟩
  unfold bic
  by_cases e : k = i
  · subst e
    rw [pk_uLs, pk_us, if_neg (Nat.lt_irrefl k), if_pos rfl, if_neg (Nat.lt_irrefl k), if_pos rfl]
    refine ⟨rfl, hv, ?_, rfl, Nat.le_refl 1, by decide⟩
    rcases Nat.eq_zero_or_pos v with z | z
    · subst z
      exact absurd hv0 (by decide)
    · exact z
  · rw [pk_uLn e, pk_un e]
    by_cases q : k < i
    · rw [if_pos q, if_pos q, (h1 k q).1, (h1 k q).2]
      exact h.2 k (by omega)
    · rw [if_neg q, if_neg e, if_neg q, if_neg e, (h2 k (by omega) (by omega)).1, (h2 k (by omega) (by omega)).2]
      exact h.2 (k - 1) (by omega)
theorem bMD_rm {wo wo1 : Nat → Int64} {of of1 : Nat → Int32} {n : Nat} {V O : Nat → Nat} {a j : Nat} (h : bMD wo of n V O) (ha : a < n) (hj : n - 1 ≤ j) (hj1 : j ≤ n - 1) (h1 : ∀ k, k < j → wo1 k = lN (brm V a k) ∧ of1 k = nI (brm O a k)) : bMD wo1 of1 (n - 1) (brm V a) (brm O a) := by
  refine ⟨by have := h.1; omega, fun k hk => ?_⟩
  have q := h1 k (by omega)
  refine ⟨q.1, ?_⟩
  have z : ∃ t, t < n ∧ brm V a k = V t ∧ brm O a k = O t := by
    unfold brm
    by_cases e : k < a
    · exact ⟨k, by omega, by rw [if_pos e], by rw [if_pos e]⟩
    · exact ⟨k + 1, by omega, by rw [if_neg e], by rw [if_neg e]⟩
  obtain ⟨t, ht, e1, e2⟩ := z
  have w := h.2 t ht
  rw [e1, q.2, e2]
  exact ⟨w.2.1, w.2.2.1, rfl, w.2.2.2.2⟩
theorem bMD_sn {un wo1 : Nat → Int64} {of1 : Nat → Int32} {bs nt : Nat} {Vt Ot : Nat → Nat} (hnt : nt ≤ 40) (hV : ∀ k, k < nt → bwf (Vt k) ∧ 0 < Vt k ∧ 1 ≤ Ot k ∧ Ot k ≤ 99) (hs : ∀ k, k < nt → un (bs + 2 + k) = lN (Vt k) ∧ un (bs + 42 + k) = lN (Ot k)) (h1 : ∀ k, k < 40 → wo1 k = un (bs + 2 + k) ∧ of1 k = (un (bs + 42 + k)).toInt32) : bMD wo1 of1 nt Vt Ot := by
  refine ⟨hnt, fun k hk => ?_⟩
  have a := hs k hk
  have b := h1 k (by omega)
  have c := hV k hk
  exact ⟨b.1.trans a.1, c.1, c.2.1, by rw [b.2, a.2, lN_i], c.2.2⟩
theorem bMN_sn {un no1 : Nat → Int64} {bs nmt : Nat} {Kt : Nat → Nat} (hn : nmt ≤ 200) (hK : ∀ k, k < nmt → Kt k < 27 ^ 7) (hs : ∀ k, k < nmt → un (bs + 82 + k) = lN (Kt k)) (h1 : ∀ k, k < 200 → no1 k = un (bs + 82 + k)) : bMN no1 nmt Kt := ⟨hn, fun k hk => ⟨(h1 k (by omega)).trans (hs k hk), hK k hk⟩⟩
abbrev rm_X5_adds : Room := { frames := 6, cells := 0, slots := 0, locals := 137 }
set_option maxHeartbeats 4000000 in
set_option maxRecDepth 100000 in
theorem c_X5_adds (l : Launch) (dC : Nat → ClassId) (dI : Nat → Nat → Nat) (cI cJ cZ : ClassId) (a : Nat → Nat) (ty : Nat → Int32) (tm b : Nat) (wo : Nat → Int64) (of : Nat → Int32) (n : Nat) (no : Nat → Int64) (nm : Nat) (un : Nat → Int64) (um : Nat) (sa sl si : Nat → Int32) (sn : Nat) (tk : Nat → Int32) (v : Nat) (V O K SA SL SI : Nat → Nat) (hmw : bMW ty tm v) (hmd : bMD wo of n V O) (hmn : bMN no nm K) (hms : bMS sa sl si sn SA SL SI) (sz : Nat) (hum : um ≤ 12) (hclv : ∀ g, bcs K nm v ≤ g → g ≤ bln v → bnd K (bhd v g) nm = false) (hnm8 : nm ≤ 192) (hb8 : b ≤ 8) : Met l yX5_adds wsX5_adds rm_X5_adds (mPc (dC, dI) (tysA cI cJ cZ) (wm a cI cJ cZ ty tm b wo of n no nm un um sa sl si sn tk) sz [.ref (a 0)]) (mQi (dC, dI) (fun (r : Int32) (u : (Nat → Int64) × (Nat → Int32) × (Nat) × (Nat → Int64) × (Nat) × (Nat → Int64) × (Nat)) => (tm = 0 ∧ r = -1 ∧ u = (wo, of, n, no, nm, un, um)) ∨ (0 < tm ∧ ((blp V v n = 0 ∧ n = 40) ∨ (blp V v n ≠ 0 ∧ O (blp V v n - 1) = 99)) ∧ r = -3 ∧ u = (wo, of, n, no, nm, un, um)) ∨ (0 < tm ∧ blp V v n ≠ 0 ∧ O (blp V v n - 1) ≠ 99 ∧ r = nI (O (blp V v n - 1) + 1) ∧ u.1 = wo ∧ u.2.2.1 = n ∧ u.2.2.2.1 = no ∧ u.2.2.2.2.1 = nm ∧ bMD wo u.2.1 n V (va_up O (blp V v n - 1) (O (blp V v n - 1) + 1)) ∧ bNo un um u.2.2.2.2.2.1 u.2.2.2.2.2.2 n nm V O K) ∨ (0 < tm ∧ blp V v n = 0 ∧ n < 40 ∧ r = nI 1 ∧ u.2.2.1 = n + 1 ∧ (∃ i, i ≤ n ∧ (∀ k, i ≤ k → k < n → v < V k) ∧ (i = 0 ∨ V (i - 1) ≤ v) ∧ bMD u.1 u.2.1 (n + 1) (bic V i v) (bic O i 1) ∧ u.2.2.2.2.1 = nm + bfs (fun t => decide (bbg (bic V i v) (n + 1) (bhd v (bcs K nm v + t)) ≤ b)) (bln v + 1 - bcs K nm v)) ∧ bMN u.2.2.2.1 u.2.2.2.2.1 (bKx K nm v (bcs K nm v)) ∧ bNo un um u.2.2.2.2.2.1 u.2.2.2.2.2.2 n nm V O K)) (fun u => wm a cI cJ cZ ty tm b u.1 u.2.1 u.2.2.1 u.2.2.2.1 u.2.2.2.2.1 u.2.2.2.2.2.1 u.2.2.2.2.2.2 sa sl si sn tk) (va_A (wm a cI cJ cZ ty tm b wo of n no nm un um sa sl si sn tk) sz)) 0 0 (va_A (wm a cI cJ cZ ty tm b wo of n no nm un um sa sl si sn tk) sz) := by
  refine met_m (cc := cX5_adds) (maxL := 5) (ret := (some .int)) (own := RX5) (Qc := fun A => mQi (dC, dI) (fun (r : Int32) (u : (Nat → Int64) × (Nat → Int32) × (Nat) × (Nat → Int64) × (Nat) × (Nat → Int64) × (Nat)) => (tm = 0 ∧ r = -1 ∧ u = (wo, of, n, no, nm, un, um)) ∨ (0 < tm ∧ ((blp V v n = 0 ∧ n = 40) ∨ (blp V v n ≠ 0 ∧ O (blp V v n - 1) = 99)) ∧ r = -3 ∧ u = (wo, of, n, no, nm, un, um)) ∨ (0 < tm ∧ blp V v n ≠ 0 ∧ O (blp V v n - 1) ≠ 99 ∧ r = nI (O (blp V v n - 1) + 1) ∧ u.1 = wo ∧ u.2.2.1 = n ∧ u.2.2.2.1 = no ∧ u.2.2.2.2.1 = nm ∧ bMD wo u.2.1 n V (va_up O (blp V v n - 1) (O (blp V v n - 1) + 1)) ∧ bNo un um u.2.2.2.2.2.1 u.2.2.2.2.2.2 n nm V O K) ∨ (0 < tm ∧ blp V v n = 0 ∧ n < 40 ∧ r = nI 1 ∧ u.2.2.1 = n + 1 ∧ (∃ i, i ≤ n ∧ (∀ k, i ≤ k → k < n → v < V k) ∧ (i = 0 ∨ V (i - 1) ≤ v) ∧ bMD u.1 u.2.1 (n + 1) (bic V i v) (bic O i 1) ∧ u.2.2.2.2.1 = nm + bfs (fun t => decide (bbg (bic V i v) (n + 1) (bhd v (bcs K nm v + t)) ≤ b)) (bln v + 1 - bcs K nm v)) ∧ bMN u.2.2.2.1 u.2.2.2.2.1 (bKx K nm v (bcs K nm v)) ∧ bNo un um u.2.2.2.2.2.1 u.2.2.2.2.2.2 n nm V O K)) (fun u => wm a cI cJ cZ ty tm b u.1 u.2.1 u.2.2.1 u.2.2.2.1 u.2.2.2.2.1 u.2.2.2.2.2.1 u.2.2.2.2.2.2 sa sl si sn tk) A) (by decide) rfl rfl (Nat.le_of_ble_eq_true rfl) ?_
  intro p e s m below meth c S hr hlocks hname hK A hA hP hD hS ls hl
  obtain ⟨hx, hb, hml, hown, hts⟩ := id S
  generalize hQQ : MQ below (mQi (dC, dI) (fun (r : Int32) (u : (Nat → Int64) × (Nat → Int32) × (Nat) × (Nat → Int64) × (Nat) × (Nat → Int64) × (Nat)) => (tm = 0 ∧ r = -1 ∧ u = (wo, of, n, no, nm, un, um)) ∨ (0 < tm ∧ ((blp V v n = 0 ∧ n = 40) ∨ (blp V v n ≠ 0 ∧ O (blp V v n - 1) = 99)) ∧ r = -3 ∧ u = (wo, of, n, no, nm, un, um)) ∨ (0 < tm ∧ blp V v n ≠ 0 ∧ O (blp V v n - 1) ≠ 99 ∧ r = nI (O (blp V v n - 1) + 1) ∧ u.1 = wo ∧ u.2.2.1 = n ∧ u.2.2.2.1 = no ∧ u.2.2.2.2.1 = nm ∧ bMD wo u.2.1 n V (va_up O (blp V v n - 1) (O (blp V v n - 1) + 1)) ∧ bNo un um u.2.2.2.2.2.1 u.2.2.2.2.2.2 n nm V O K) ∨ (0 < tm ∧ blp V v n = 0 ∧ n < 40 ∧ r = nI 1 ∧ u.2.2.1 = n + 1 ∧ (∃ i, i ≤ n ∧ (∀ k, i ≤ k → k < n → v < V k) ∧ (i = 0 ∨ V (i - 1) ≤ v) ∧ bMD u.1 u.2.1 (n + 1) (bic V i v) (bic O i 1) ∧ u.2.2.2.2.1 = nm + bfs (fun t => decide (bbg (bic V i v) (n + 1) (bhd v (bcs K nm v + t)) ≤ b)) (bln v + 1 - bcs K nm v)) ∧ bMN u.2.2.2.1 u.2.2.2.2.1 (bKx K nm v (bcs K nm v)) ∧ bNo un um u.2.2.2.2.2.1 u.2.2.2.2.2.2 n nm V O K)) (fun u => wm a cI cJ cZ ty tm b u.1 u.2.1 u.2.2.1 u.2.2.2.1 u.2.2.2.2.1 u.2.2.2.2.2.1 u.2.2.2.2.2.2 sa sl si sn tk) A) ([.ref (a 0)] : List Value).toArray s 0 0 A = QQ
  have hl : lv_has ls 5 [(0, .ref (a 0))] := hl
  have hi5 : ∀ w ∈ wsX50, w ∈ wsX5_adds := fun _ h => List.mem_cons_of_mem _ (List.mem_append_right _ h)
  obtain ⟨hvw, htm, hty⟩ := id hmw; obtain ⟨hn, hk⟩ := id hmd; obtain ⟨hnm, hkn⟩ := id hmn; obtain ⟨hsn, hks⟩ := id hms
  have hbl := blp_le V v n
  have hlv := bln_le v
  refine lv_aload_n hx hb dX5_adds_0 rfl (lv_at hl 0 rfl) ?_
  refine lv_iconst (v := nI (0)) hx hb dX5_adds_1 (by decide) ?_
  refine va_put (D := (dC, dI)) (ci := 4) (v := .int (nI (0))) (ty := .int) (C := RX5) (T := TX5) (N := 16) hx hb hts hi5 tyX5 tyX5_ok nmX5 hown hK hP hD hS 0 rfl rfl 0 (by decide) (hts (.fieldLink RX5 43 "BurstWordsModel" "thrown" "I") (by decide +kernel)) (fun _ h9 => h9) rfl (by decide +kernel) rfl rfl (Nat.le_of_ble_eq_true rfl) dX5_adds_2 (fun H locs hP hD hS => ?_)
  have hP : va_P (dC, dI) vwCl (wm a cI cJ cZ ty tm b wo of n no nm un um sa sl si sn tk) H := hP
  have hD : va_D A (wm a cI cJ cZ ty tm b wo of n no nm un um sa sl si sn tk) := hD
  refine lv_aload_n hx hb dX5_adds_5 rfl (lv_at hl 0 rfl) ?_
  refine c_Vl (As := []) (rest := []) (ci := 4) (q0 := 0) S (c_X5_own l dC dI cI cJ cZ a ty tm b wo of n no nm un um sa sl si sn tk v V O K SA SL SI hmw hmd hmn hms ) (cwV 0 hts gX5_adds_X5_own rfl rfl rfl (by decide +kernel) ⟨Nat.le_of_ble_eq_true rfl, Nat.le_of_ble_eq_true rfl⟩) hK hP rfl rfl rfl hl.1 rfl (Nat.le_of_ble_eq_true rfl) dX5_adds_6 ⟨Nat.le_of_ble_eq_true rfl, Nat.le_of_ble_eq_true rfl⟩ ?_
  refine lv_lstore_n (lv' := [(1, .long (lN (v))), (0, .ref (a 0))]) hx hb dX5_adds_9 rfl hl (by decide) rfl (fun ls hl => ?_)
  refine lv_aload_n hx hb dX5_adds_10 rfl (lv_at hl 1 rfl) ?_
  refine lv_lload_n hx hb dX5_adds_11 rfl (lv_at hl 0 rfl) ?_
  refine c_Vi (As := [.long (lN (v))]) (rest := []) (ci := 4) (q0 := 0) S (c_X5_placeOf l dC dI cI cJ cZ a ty tm b wo of n no nm un um sa sl si sn tk v V O K SA SL SI hmw hmd hmn hms v (w63 hvw.1)) (cwV 1 hts gX5_adds_X5_placeOf rfl rfl rfl (by decide +kernel) ⟨Nat.le_of_ble_eq_true rfl, Nat.le_of_ble_eq_true rfl⟩) hK hP rfl rfl rfl hl.1 rfl (Nat.le_of_ble_eq_true rfl) dX5_adds_12 ⟨Nat.le_of_ble_eq_true rfl, Nat.le_of_ble_eq_true rfl⟩ ?_
  by_cases hpl : blp V v n = 0
  · refine tpi ((congrArg nM hpl).trans nM_0) ?_
    refine lv_istore_n (lv' := [(3, .int ((-1 : Int32))), (1, .long (lN (v))), (0, .ref (a 0))]) hx hb dX5_adds_15 rfl hl (by decide) rfl (fun ls hl => ?_)
    refine lv_aload_n hx hb dX5_adds_16 rfl (lv_at hl 2 rfl) ?_
    refine va_get (D := (dC, dI)) (ci := 4) (v := .int (nI (tm))) (C := RX5) (T := TX5) (N := 16) hx hb hts hi5 hown hK hP 0 rfl rfl 2 (by decide) (hts (.fieldLink RX5 56 "BurstWordsModel" "typedMany" "I") (by decide +kernel)) (fun _ h9 => h9) rfl dX5_adds_17 ?_
    refine z_ne (tgt := 25) hx hb dX5_adds_20 (by decide) (by omega) (fun c_20 => ?_) (fun c_20 => ?_)
    · refine lv_iload_n hx hb dX5_adds_25 rfl (lv_at hl 0 rfl) ?_
      refine lv_if_ge (tgt := 38) hx hb dX5_adds_26 (by decide) (fun q => absurd q (by decide)) (fun _ => ?_)
      refine lv_aload_n hx hb dX5_adds_29 rfl (lv_at hl 2 rfl) ?_
      refine va_get (D := (dC, dI)) (ci := 4) (v := .int (nI (n))) (C := RX5) (T := TX5) (N := 16) hx hb hts hi5 hown hK hP 0 rfl rfl 6 (by decide) (hts (.fieldLink RX5 67 "BurstWordsModel" "many" "I") (by decide +kernel)) (fun _ h9 => h9) rfl dX5_adds_30 ?_
      refine lv_bipush (v := nI (40)) hx hb dX5_adds_33 (by decide) ?_
      refine n_eq (tgt := 53) hx hb dX5_adds_35 (by decide) (by omega) (by omega) (fun c_35 => ?_) (fun c_35 => ?_)
      · refine lv_bipush (v := (-3 : Int32)) hx hb dX5_adds_53 (by decide) ?_
        rw [← hQQ]
        exact m_i (wo, of, n, no, nm, un, um) hx hb hr hlocks (Or.inr (Or.inl ⟨c_20, Or.inl ⟨hpl, c_35⟩, rfl, rfl⟩)) hP hD hS dX5_adds_55
      · refine lv_iload_n hx hb dX5_adds_38 rfl (lv_at hl 0 rfl) ?_
        refine lv_if_lt (tgt := 56) hx hb dX5_adds_39 (by decide) (fun _ => ?_) (fun q => absurd (by decide) q)
        refine lv_aload_n hx hb dX5_adds_56 rfl (lv_at hl 2 rfl) ?_
        refine m_Vv (As := []) (rest := []) (ci := 4) (q0 := 0) (wr := []) S (c_X5_notes l dC dI cI cJ cZ a ty tm b wo of n no nm un um sa sl si sn tk v V O K SA SL SI hmw hmd hmn hms H.size hum) (cwV 0 hts gX5_adds_X5_notes rfl rfl rfl (by decide +kernel) ⟨Nat.le_of_ble_eq_true rfl, Nat.le_of_ble_eq_true rfl⟩) hK hP hD hS hA [0, 1, 2, 3, 4, 5, 6, 7, 8, 9] [] hP hD rfl rfl (by decide) (by decide) rfl rfl rfl hl.1 rfl (Nat.le_of_ble_eq_true rfl) dX5_adds_57 ⟨Nat.le_of_ble_eq_true rfl, Nat.le_of_ble_eq_true rfl⟩ (fun u_57 H locs hu_57 hP hD hS => ?_)
        obtain ⟨un9, um9⟩ := u_57
        have hP : va_P (dC, dI) vwCl (wm a cI cJ cZ ty tm b wo of n no nm un9 um9 sa sl si sn tk) H := hP
        have hD : va_D A (wm a cI cJ cZ ty tm b wo of n no nm un9 um9 sa sl si sn tk) := hD
        refine lv_iload_n hx hb dX5_adds_60 rfl (lv_at hl 0 rfl) ?_
        refine lv_if_lt (tgt := 81) hx hb dX5_adds_61 (by decide) (fun _ => ?_) (fun q => absurd (by decide) q)
        refine lv_aload_n hx hb dX5_adds_81 rfl (lv_at hl 2 rfl) ?_
        refine va_get (D := (dC, dI)) (ci := 4) (v := .int (nI (n))) (C := RX5) (T := TX5) (N := 16) hx hb hts hi5 hown hK hP 0 rfl rfl 6 (by decide) (hts (.fieldLink RX5 67 "BurstWordsModel" "many" "I") (by decide +kernel)) (fun _ h9 => h9) rfl dX5_adds_82 ?_
        refine lv_istore (lv' := [(4, .int (nI (n))), (3, .int ((-1 : Int32))), (1, .long (lN (v))), (0, .ref (a 0))]) hx hb dX5_adds_85 hl (by decide) rfl (fun ls hl => ?_)
        have lp_87 : ∀ (j_87 : Nat) (i : Nat) (wo1 : Nat → Int64) (of1 : Nat → Int32), (i ≤ n) → (∀ k, k < i → wo1 k = wo k ∧ of1 k = of k) → (∀ k, i < k → k ≤ n → wo1 k = wo (k - 1) ∧ of1 k = of (k - 1)) → (∀ k, i ≤ k → k < n → v < V k) → (i) < j_87 → ∀ (H : Heap) (locs : List Loc), va_P (dC, dI) vwCl (wm a cI cJ cZ ty tm b wo1 of1 n no nm un9 um9 sa sl si sn tk) H → va_D A (wm a cI cJ cZ ty tm b wo1 of1 n no nm un9 um9 sa sl si sn tk) → va_S A s.heap H locs → ∀ ls : Array Slot, lv_has ls 5 [(0, .ref (a 0)), (1, .long (lN (v))), (3, .int ((-1 : Int32))), (4, .int (nI (i)))] → W p l e rm_X5_adds s m ([.ref (a 0)] : List Value).toArray below meth c H locs 0 0 QQ (F0 m 87 ls []) := by
          intro j_87
          induction j_87 with
          | zero => intro i wo1 of1 _ _ _ _ h0; exact absurd h0 (Nat.not_lt_zero _)
          | succ j_87 ih_87 =>
            intro i wo1 of1 hi h1 h2 h3 hf_87 H locs hP hD hS ls hl
            refine lv_iload hx hb dX5_adds_87 (lv_at hl 3 rfl) ?_
            refine z_le (tgt := 144) hx hb dX5_adds_89 (by decide) (by omega) (fun c_89 => ?_) (fun c_89 => ?_)
            · refine lv_aload_n hx hb dX5_adds_144 rfl (lv_at hl 0 rfl) ?_
              refine va_get (D := (dC, dI)) (ci := 4) (v := .ref (a 2)) (C := RX5) (T := TX5) (N := 16) hx hb hts hi5 hown hK hP 0 rfl rfl 4 (by decide) (hts (.fieldLink RX5 17 "BurstWordsModel" "word" "[J") (by decide +kernel)) (fun _ h9 => h9) rfl dX5_adds_145 ?_
              refine lv_iload hx hb dX5_adds_148 (lv_at hl 3 rfl) ?_
              refine lv_lload_n hx hb dX5_adds_150 rfl (lv_at hl 1 rfl) ?_
              refine s_l (k := i) hx hb hK hP hD hS 2 1 rfl rfl (hin := (by omega)) (hn := by decide) (hdg := dX5_adds_151) (fun H locs hP hD hS => ?_)
              have hP : va_P (dC, dI) vwCl (wm a cI cJ cZ ty tm b (vp_updL wo1 i (lN (v))) of1 n no nm un9 um9 sa sl si sn tk) H := hP
              have hD : va_D A (wm a cI cJ cZ ty tm b (vp_updL wo1 i (lN (v))) of1 n no nm un9 um9 sa sl si sn tk) := hD
              refine lv_aload_n hx hb dX5_adds_152 rfl (lv_at hl 0 rfl) ?_
              refine va_get (D := (dC, dI)) (ci := 4) (v := .ref (a 3)) (C := RX5) (T := TX5) (N := 16) hx hb hts hi5 hown hK hP 0 rfl rfl 5 (by decide) (hts (.fieldLink RX5 21 "BurstWordsModel" "often" "[I") (by decide +kernel)) (fun _ h9 => h9) rfl dX5_adds_153 ?_
              refine lv_iload hx hb dX5_adds_156 (lv_at hl 3 rfl) ?_
              refine lv_iconst (v := nI (1)) hx hb dX5_adds_158 (by decide) ?_
              refine s_i (k := i) hx hb hK hP hD hS 3 0 rfl rfl (hin := (by omega)) (hn := by decide) (hdg := dX5_adds_159) (fun H locs hP hD hS => ?_)
              have hP : va_P (dC, dI) vwCl (wm a cI cJ cZ ty tm b (vp_updL wo1 i (lN (v))) (upd of1 i (nI (1))) n no nm un9 um9 sa sl si sn tk) H := hP
              have hD : va_D A (wm a cI cJ cZ ty tm b (vp_updL wo1 i (lN (v))) (upd of1 i (nI (1))) n no nm un9 um9 sa sl si sn tk) := hD
              refine lv_aload_n hx hb dX5_adds_160 rfl (lv_at hl 0 rfl) ?_
              refine lv_dup hx hb dX5_adds_161 rfl ?_
              refine va_get (D := (dC, dI)) (ci := 4) (v := .int (nI (n))) (C := RX5) (T := TX5) (N := 16) hx hb hts hi5 hown hK hP 0 rfl rfl 6 (by decide) (hts (.fieldLink RX5 67 "BurstWordsModel" "many" "I") (by decide +kernel)) (fun _ h9 => h9) rfl dX5_adds_162 ?_
              refine lv_iconst (v := nI (1)) hx hb dX5_adds_165 (by decide) ?_
              refine lv_iadd hx hb dX5_adds_166 ?_
              refine tpi (nI_add _ _) ?_
              refine va_put (D := (dC, dI)) (ci := 4) (v := .int (nI (n + 1))) (ty := .int) (C := RX5) (T := TX5) (N := 16) hx hb hts hi5 tyX5 tyX5_ok nmX5 hown hK hP hD hS 0 rfl rfl 6 (by decide) (hts (.fieldLink RX5 67 "BurstWordsModel" "many" "I") (by decide +kernel)) (fun _ h9 => h9) rfl (by decide +kernel) rfl rfl (Nat.le_of_ble_eq_true rfl) dX5_adds_167 (fun H locs hP hD hS => ?_)
              have hP : va_P (dC, dI) vwCl (wm a cI cJ cZ ty tm b (vp_updL wo1 i (lN (v))) (upd of1 i (nI (1))) (n + 1) no nm un9 um9 sa sl si sn tk) H := hP
              have hD : va_D A (wm a cI cJ cZ ty tm b (vp_updL wo1 i (lN (v))) (upd of1 i (nI (1))) (n + 1) no nm un9 um9 sa sl si sn tk) := hD
              refine lv_aload_n hx hb dX5_adds_170 rfl (lv_at hl 0 rfl) ?_
              refine lv_lload_n hx hb dX5_adds_171 rfl (lv_at hl 1 rfl) ?_
              refine m_Vv (As := [.long (lN (v))]) (rest := []) (ci := 4) (q0 := 0) (wr := []) S (c_X5_bursts l dC dI cI cJ cZ a ty tm b (vp_updL wo1 i (lN (v))) (upd of1 i (nI (1))) (n + 1) no nm un9 um9 sa sl si sn tk v (bic V i v) (bic O i 1) K SA SL SI hmw (bMD_ins hmd (by omega) hi hvw (by rw [← htm]; exact c_20) h1 h2) hmn hms H.size v hvw hclv hnm8 hb8) (cwV 1 hts gX5_adds_X5_bursts rfl rfl rfl (by decide +kernel) ⟨Nat.le_of_ble_eq_true rfl, Nat.le_of_ble_eq_true rfl⟩) hK hP hD hS hA [0, 1, 2, 3, 4, 5, 6, 7, 8, 9] [] hP hD rfl rfl (by decide) (by decide) rfl rfl rfl hl.1 rfl (Nat.le_of_ble_eq_true rfl) dX5_adds_172 ⟨Nat.le_of_ble_eq_true rfl, Nat.le_of_ble_eq_true rfl⟩ (fun u_172 H locs hu_172 hP hD hS => ?_)
              obtain ⟨no9, nm9⟩ := u_172
              have hP : va_P (dC, dI) vwCl (wm a cI cJ cZ ty tm b (vp_updL wo1 i (lN (v))) (upd of1 i (nI (1))) (n + 1) no9 nm9 un9 um9 sa sl si sn tk) H := hP
              have hD : va_D A (wm a cI cJ cZ ty tm b (vp_updL wo1 i (lN (v))) (upd of1 i (nI (1))) (n + 1) no9 nm9 un9 um9 sa sl si sn tk) := hD
              refine lv_iconst (v := nI (1)) hx hb dX5_adds_175 (by decide) ?_
              rw [← hQQ]
              exact m_i (vp_updL wo1 i (lN (v)), upd of1 i (nI (1)), n + 1, no9, nm9, un9, um9) hx hb hr hlocks (Or.inr (Or.inr (Or.inr ⟨c_20, hpl, by omega, rfl, rfl, ⟨i, hi, h3, Or.inl c_89, bMD_ins hmd (by omega) hi hvw (by rw [← htm]; exact c_20) h1 h2, hu_172.1⟩, hu_172.2, hu_57⟩))) hP hD hS dX5_adds_176
            · refine lv_aload_n hx hb dX5_adds_92 rfl (lv_at hl 0 rfl) ?_
              refine va_get (D := (dC, dI)) (ci := 4) (v := .ref (a 2)) (C := RX5) (T := TX5) (N := 16) hx hb hts hi5 hown hK hP 0 rfl rfl 4 (by decide) (hts (.fieldLink RX5 17 "BurstWordsModel" "word" "[J") (by decide +kernel)) (fun _ h9 => h9) rfl dX5_adds_93 ?_
              refine lv_iload hx hb dX5_adds_96 (lv_at hl 3 rfl) ?_
              refine lv_iconst (v := nI (1)) hx hb dX5_adds_98 (by decide) ?_
              refine lv_isub hx hb dX5_adds_99 ?_
              refine tpi (pk_sub (by omega)) ?_
              refine g_l hx hb hK hP 2 1 rfl rfl (k := i - 1) (by omega) (by decide) dX5_adds_100 (v := lN (V (i - 1))) ((h1 _ (by omega)).1.trans (hk _ (by omega)).1) ?_
              refine lv_lload_n hx hb dX5_adds_101 rfl (lv_at hl 1 rfl) ?_
              refine q_le (tgt := 144) hx hb dX5_adds_102 dX5_adds_103 (by decide) (w63 (hk _ (by omega)).2.1.1) (w63 hvw.1) (fun c_102 => ?_) (fun c_102 => ?_)
              · refine lv_aload_n hx hb dX5_adds_144 rfl (lv_at hl 0 rfl) ?_
                refine va_get (D := (dC, dI)) (ci := 4) (v := .ref (a 2)) (C := RX5) (T := TX5) (N := 16) hx hb hts hi5 hown hK hP 0 rfl rfl 4 (by decide) (hts (.fieldLink RX5 17 "BurstWordsModel" "word" "[J") (by decide +kernel)) (fun _ h9 => h9) rfl dX5_adds_145 ?_
                refine lv_iload hx hb dX5_adds_148 (lv_at hl 3 rfl) ?_
                refine lv_lload_n hx hb dX5_adds_150 rfl (lv_at hl 1 rfl) ?_
                refine s_l (k := i) hx hb hK hP hD hS 2 1 rfl rfl (hin := (by omega)) (hn := by decide) (hdg := dX5_adds_151) (fun H locs hP hD hS => ?_)
                have hP : va_P (dC, dI) vwCl (wm a cI cJ cZ ty tm b (vp_updL wo1 i (lN (v))) of1 n no nm un9 um9 sa sl si sn tk) H := hP
                have hD : va_D A (wm a cI cJ cZ ty tm b (vp_updL wo1 i (lN (v))) of1 n no nm un9 um9 sa sl si sn tk) := hD
                refine lv_aload_n hx hb dX5_adds_152 rfl (lv_at hl 0 rfl) ?_
                refine va_get (D := (dC, dI)) (ci := 4) (v := .ref (a 3)) (C := RX5) (T := TX5) (N := 16) hx hb hts hi5 hown hK hP 0 rfl rfl 5 (by decide) (hts (.fieldLink RX5 21 "BurstWordsModel" "often" "[I") (by decide +kernel)) (fun _ h9 => h9) rfl dX5_adds_153 ?_
                refine lv_iload hx hb dX5_adds_156 (lv_at hl 3 rfl) ?_
                refine lv_iconst (v := nI (1)) hx hb dX5_adds_158 (by decide) ?_
                refine s_i (k := i) hx hb hK hP hD hS 3 0 rfl rfl (hin := (by omega)) (hn := by decide) (hdg := dX5_adds_159) (fun H locs hP hD hS => ?_)
                have hP : va_P (dC, dI) vwCl (wm a cI cJ cZ ty tm b (vp_updL wo1 i (lN (v))) (upd of1 i (nI (1))) n no nm un9 um9 sa sl si sn tk) H := hP
                have hD : va_D A (wm a cI cJ cZ ty tm b (vp_updL wo1 i (lN (v))) (upd of1 i (nI (1))) n no nm un9 um9 sa sl si sn tk) := hD
                refine lv_aload_n hx hb dX5_adds_160 rfl (lv_at hl 0 rfl) ?_
                refine lv_dup hx hb dX5_adds_161 rfl ?_
                refine va_get (D := (dC, dI)) (ci := 4) (v := .int (nI (n))) (C := RX5) (T := TX5) (N := 16) hx hb hts hi5 hown hK hP 0 rfl rfl 6 (by decide) (hts (.fieldLink RX5 67 "BurstWordsModel" "many" "I") (by decide +kernel)) (fun _ h9 => h9) rfl dX5_adds_162 ?_
                refine lv_iconst (v := nI (1)) hx hb dX5_adds_165 (by decide) ?_
                refine lv_iadd hx hb dX5_adds_166 ?_
                refine tpi (nI_add _ _) ?_
                refine va_put (D := (dC, dI)) (ci := 4) (v := .int (nI (n + 1))) (ty := .int) (C := RX5) (T := TX5) (N := 16) hx hb hts hi5 tyX5 tyX5_ok nmX5 hown hK hP hD hS 0 rfl rfl 6 (by decide) (hts (.fieldLink RX5 67 "BurstWordsModel" "many" "I") (by decide +kernel)) (fun _ h9 => h9) rfl (by decide +kernel) rfl rfl (Nat.le_of_ble_eq_true rfl) dX5_adds_167 (fun H locs hP hD hS => ?_)
                have hP : va_P (dC, dI) vwCl (wm a cI cJ cZ ty tm b (vp_updL wo1 i (lN (v))) (upd of1 i (nI (1))) (n + 1) no nm un9 um9 sa sl si sn tk) H := hP
                have hD : va_D A (wm a cI cJ cZ ty tm b (vp_updL wo1 i (lN (v))) (upd of1 i (nI (1))) (n + 1) no nm un9 um9 sa sl si sn tk) := hD
                refine lv_aload_n hx hb dX5_adds_170 rfl (lv_at hl 0 rfl) ?_
                refine lv_lload_n hx hb dX5_adds_171 rfl (lv_at hl 1 rfl) ?_
                refine m_Vv (As := [.long (lN (v))]) (rest := []) (ci := 4) (q0 := 0) (wr := []) S (c_X5_bursts l dC dI cI cJ cZ a ty tm b (vp_updL wo1 i (lN (v))) (upd of1 i (nI (1))) (n + 1) no nm un9 um9 sa sl si sn tk v (bic V i v) (bic O i 1) K SA SL SI hmw (bMD_ins hmd (by omega) hi hvw (by rw [← htm]; exact c_20) h1 h2) hmn hms H.size v hvw hclv hnm8 hb8) (cwV 1 hts gX5_adds_X5_bursts rfl rfl rfl (by decide +kernel) ⟨Nat.le_of_ble_eq_true rfl, Nat.le_of_ble_eq_true rfl⟩) hK hP hD hS hA [0, 1, 2, 3, 4, 5, 6, 7, 8, 9] [] hP hD rfl rfl (by decide) (by decide) rfl rfl rfl hl.1 rfl (Nat.le_of_ble_eq_true rfl) dX5_adds_172 ⟨Nat.le_of_ble_eq_true rfl, Nat.le_of_ble_eq_true rfl⟩ (fun u_172 H locs hu_172 hP hD hS => ?_)
                obtain ⟨no9, nm9⟩ := u_172
                have hP : va_P (dC, dI) vwCl (wm a cI cJ cZ ty tm b (vp_updL wo1 i (lN (v))) (upd of1 i (nI (1))) (n + 1) no9 nm9 un9 um9 sa sl si sn tk) H := hP
                have hD : va_D A (wm a cI cJ cZ ty tm b (vp_updL wo1 i (lN (v))) (upd of1 i (nI (1))) (n + 1) no9 nm9 un9 um9 sa sl si sn tk) := hD
                refine lv_iconst (v := nI (1)) hx hb dX5_adds_175 (by decide) ?_
                rw [← hQQ]
                exact m_i (vp_updL wo1 i (lN (v)), upd of1 i (nI (1)), n + 1, no9, nm9, un9, um9) hx hb hr hlocks (Or.inr (Or.inr (Or.inr ⟨c_20, hpl, by omega, rfl, rfl, ⟨i, hi, h3, Or.inr c_102, bMD_ins hmd (by omega) hi hvw (by rw [← htm]; exact c_20) h1 h2, hu_172.1⟩, hu_172.2, hu_57⟩))) hP hD hS dX5_adds_176
              · refine lv_aload_n hx hb dX5_adds_106 rfl (lv_at hl 0 rfl) ?_
                refine va_get (D := (dC, dI)) (ci := 4) (v := .ref (a 2)) (C := RX5) (T := TX5) (N := 16) hx hb hts hi5 hown hK hP 0 rfl rfl 4 (by decide) (hts (.fieldLink RX5 17 "BurstWordsModel" "word" "[J") (by decide +kernel)) (fun _ h9 => h9) rfl dX5_adds_107 ?_
                refine lv_iload hx hb dX5_adds_110 (lv_at hl 3 rfl) ?_
                refine lv_aload_n hx hb dX5_adds_112 rfl (lv_at hl 0 rfl) ?_
                refine va_get (D := (dC, dI)) (ci := 4) (v := .ref (a 2)) (C := RX5) (T := TX5) (N := 16) hx hb hts hi5 hown hK hP 0 rfl rfl 4 (by decide) (hts (.fieldLink RX5 17 "BurstWordsModel" "word" "[J") (by decide +kernel)) (fun _ h9 => h9) rfl dX5_adds_113 ?_
                refine lv_iload hx hb dX5_adds_116 (lv_at hl 3 rfl) ?_
                refine lv_iconst (v := nI (1)) hx hb dX5_adds_118 (by decide) ?_
                refine lv_isub hx hb dX5_adds_119 ?_
                refine tpi (pk_sub (by omega)) ?_
                refine g_l hx hb hK hP 2 1 rfl rfl (k := i - 1) (by omega) (by decide) dX5_adds_120 (v := lN (V (i - 1))) ((h1 _ (by omega)).1.trans (hk _ (by omega)).1) ?_
                refine s_l (k := i) hx hb hK hP hD hS 2 1 rfl rfl (hin := (by omega)) (hn := by decide) (hdg := dX5_adds_121) (fun H locs hP hD hS => ?_)
                have hP : va_P (dC, dI) vwCl (wm a cI cJ cZ ty tm b (vp_updL wo1 i (lN (V (i - 1)))) of1 n no nm un9 um9 sa sl si sn tk) H := hP
                have hD : va_D A (wm a cI cJ cZ ty tm b (vp_updL wo1 i (lN (V (i - 1)))) of1 n no nm un9 um9 sa sl si sn tk) := hD
                refine lv_aload_n hx hb dX5_adds_122 rfl (lv_at hl 0 rfl) ?_
                refine va_get (D := (dC, dI)) (ci := 4) (v := .ref (a 3)) (C := RX5) (T := TX5) (N := 16) hx hb hts hi5 hown hK hP 0 rfl rfl 5 (by decide) (hts (.fieldLink RX5 21 "BurstWordsModel" "often" "[I") (by decide +kernel)) (fun _ h9 => h9) rfl dX5_adds_123 ?_
                refine lv_iload hx hb dX5_adds_126 (lv_at hl 3 rfl) ?_
                refine lv_aload_n hx hb dX5_adds_128 rfl (lv_at hl 0 rfl) ?_
                refine va_get (D := (dC, dI)) (ci := 4) (v := .ref (a 3)) (C := RX5) (T := TX5) (N := 16) hx hb hts hi5 hown hK hP 0 rfl rfl 5 (by decide) (hts (.fieldLink RX5 21 "BurstWordsModel" "often" "[I") (by decide +kernel)) (fun _ h9 => h9) rfl dX5_adds_129 ?_
                refine lv_iload hx hb dX5_adds_132 (lv_at hl 3 rfl) ?_
                refine lv_iconst (v := nI (1)) hx hb dX5_adds_134 (by decide) ?_
                refine lv_isub hx hb dX5_adds_135 ?_
                refine tpi (pk_sub (by omega)) ?_
                refine g_i hx hb hK hP 3 0 rfl rfl (k := i - 1) (by omega) (by decide) dX5_adds_136 (v := nI (O (i - 1))) ((h1 _ (by omega)).2.trans (hk _ (by omega)).2.2.2.1) ?_
                refine s_i (k := i) hx hb hK hP hD hS 3 0 rfl rfl (hin := (by omega)) (hn := by decide) (hdg := dX5_adds_137) (fun H locs hP hD hS => ?_)
                have hP : va_P (dC, dI) vwCl (wm a cI cJ cZ ty tm b (vp_updL wo1 i (lN (V (i - 1)))) (upd of1 i (nI (O (i - 1)))) n no nm un9 um9 sa sl si sn tk) H := hP
                have hD : va_D A (wm a cI cJ cZ ty tm b (vp_updL wo1 i (lN (V (i - 1)))) (upd of1 i (nI (O (i - 1)))) n no nm un9 um9 sa sl si sn tk) := hD
                refine lv_iinc (v := nI ((i) - 1)) (lv' := [(4, .int (nI ((i) - 1))), (0, .ref (a 0)), (1, .long (lN (v))), (3, .int ((-1 : Int32)))]) hx hb dX5_adds_138 hl (k := 3) rfl (dec1 (by omega)) (by decide) rfl (fun ls hl => ?_)
                refine lv_goto (tgt := 87) hx hb dX5_adds_141 (by decide) ?_
                exact ih_87 ((i) - 1) (vp_updL wo1 i (lN (V (i - 1)))) (upd of1 i (nI (O (i - 1)))) (by omega) (fun k h => ⟨by rw [pk_uLn (by omega)]; exact (h1 k (by omega)).1, by rw [pk_un (by omega)]; exact (h1 k (by omega)).2⟩) (fun k h4 h5 => by by_cases e : k = i; rw [e, pk_uLs, pk_us]; exact ⟨(hk (i - 1) (by omega)).1.symm, (hk (i - 1) (by omega)).2.2.2.1.symm⟩; rw [pk_uLn e, pk_un e]; exact h2 k (by omega) h5) (fun k h4 h5 => by by_cases e : k = i - 1; rw [e]; exact c_102; exact h3 k (by omega) h5) (by omega) _ _ hP hD hS ls (lv_sub hl [1, 2, 3, 0] rfl)
        exact lp_87 _ (n) (wo) (of) (by omega) (fun _ _ => ⟨rfl, rfl⟩) (fun k h h0 => absurd h (by omega)) (fun k h h0 => absurd h (by omega)) (Nat.lt_succ_self _) _ _ hP hD hS ls (lv_sub hl [3, 2, 1, 0] rfl)
    · refine lv_iconst (v := (-1 : Int32)) hx hb dX5_adds_23 (by decide) ?_
      rw [← hQQ]
      exact m_i (wo, of, n, no, nm, un, um) hx hb hr hlocks (Or.inl ⟨c_20, rfl, rfl⟩) hP hD hS dX5_adds_24
  · refine tpi (nM_pos (Nat.pos_of_ne_zero hpl)) ?_
    refine lv_istore_n (lv' := [(3, .int (nI (blp V v n - 1))), (1, .long (lN (v))), (0, .ref (a 0))]) hx hb dX5_adds_15 rfl hl (by decide) rfl (fun ls hl => ?_)
    refine lv_aload_n hx hb dX5_adds_16 rfl (lv_at hl 2 rfl) ?_
    refine va_get (D := (dC, dI)) (ci := 4) (v := .int (nI (tm))) (C := RX5) (T := TX5) (N := 16) hx hb hts hi5 hown hK hP 0 rfl rfl 2 (by decide) (hts (.fieldLink RX5 56 "BurstWordsModel" "typedMany" "I") (by decide +kernel)) (fun _ h9 => h9) rfl dX5_adds_17 ?_
    refine z_ne (tgt := 25) hx hb dX5_adds_20 (by decide) (by omega) (fun c_20 => ?_) (fun c_20 => ?_)
    · refine lv_iload_n hx hb dX5_adds_25 rfl (lv_at hl 0 rfl) ?_
      refine z_ge (tgt := 38) hx hb dX5_adds_26 (by decide) (by omega) ?_
      refine lv_iload_n hx hb dX5_adds_38 rfl (lv_at hl 0 rfl) ?_
      refine z_lt (tgt := 56) hx hb dX5_adds_39 (by decide) (by omega) ?_
      refine lv_aload_n hx hb dX5_adds_42 rfl (lv_at hl 2 rfl) ?_
      refine va_get (D := (dC, dI)) (ci := 4) (v := .ref (a 3)) (C := RX5) (T := TX5) (N := 16) hx hb hts hi5 hown hK hP 0 rfl rfl 5 (by decide) (hts (.fieldLink RX5 21 "BurstWordsModel" "often" "[I") (by decide +kernel)) (fun _ h9 => h9) rfl dX5_adds_43 ?_
      refine lv_iload_n hx hb dX5_adds_46 rfl (lv_at hl 0 rfl) ?_
      refine g_i hx hb hK hP 3 0 rfl rfl (k := blp V v n - 1) (by omega) (by decide) dX5_adds_47 (v := nI (O (blp V v n - 1))) (hk _ (by omega)).2.2.2.1 ?_
      refine lv_bipush (v := nI (99)) hx hb dX5_adds_48 (by decide) ?_
      refine n_ne (tgt := 56) hx hb dX5_adds_50 (by decide) (Nat.lt_of_le_of_lt (hk _ (by omega)).2.2.2.2.2 (by decide)) (by omega) (fun c_50 => ?_) (fun c_50 => ?_)
      · refine lv_aload_n hx hb dX5_adds_56 rfl (lv_at hl 2 rfl) ?_
        refine m_Vv (As := []) (rest := []) (ci := 4) (q0 := 0) (wr := []) S (c_X5_notes l dC dI cI cJ cZ a ty tm b wo of n no nm un um sa sl si sn tk v V O K SA SL SI hmw hmd hmn hms H.size hum) (cwV 0 hts gX5_adds_X5_notes rfl rfl rfl (by decide +kernel) ⟨Nat.le_of_ble_eq_true rfl, Nat.le_of_ble_eq_true rfl⟩) hK hP hD hS hA [0, 1, 2, 3, 4, 5, 6, 7, 8, 9] [] hP hD rfl rfl (by decide) (by decide) rfl rfl rfl hl.1 rfl (Nat.le_of_ble_eq_true rfl) dX5_adds_57 ⟨Nat.le_of_ble_eq_true rfl, Nat.le_of_ble_eq_true rfl⟩ (fun u_57 H locs hu_57 hP hD hS => ?_)
        obtain ⟨un9, um9⟩ := u_57
        have hP : va_P (dC, dI) vwCl (wm a cI cJ cZ ty tm b wo of n no nm un9 um9 sa sl si sn tk) H := hP
        have hD : va_D A (wm a cI cJ cZ ty tm b wo of n no nm un9 um9 sa sl si sn tk) := hD
        refine lv_iload_n hx hb dX5_adds_60 rfl (lv_at hl 0 rfl) ?_
        refine z_lt (tgt := 81) hx hb dX5_adds_61 (by decide) (by omega) ?_
        refine lv_aload_n hx hb dX5_adds_64 rfl (lv_at hl 2 rfl) ?_
        refine va_get (D := (dC, dI)) (ci := 4) (v := .ref (a 3)) (C := RX5) (T := TX5) (N := 16) hx hb hts hi5 hown hK hP 0 rfl rfl 5 (by decide) (hts (.fieldLink RX5 21 "BurstWordsModel" "often" "[I") (by decide +kernel)) (fun _ h9 => h9) rfl dX5_adds_65 ?_
        refine lv_iload_n hx hb dX5_adds_68 rfl (lv_at hl 0 rfl) ?_
        refine lv_dup2_11 hx hb dX5_adds_69 rfl rfl ?_
        refine g_i hx hb hK hP 3 0 rfl rfl (k := blp V v n - 1) (by omega) (by decide) dX5_adds_70 (v := nI (O (blp V v n - 1))) (hk _ (by omega)).2.2.2.1 ?_
        refine lv_iconst (v := nI (1)) hx hb dX5_adds_71 (by decide) ?_
        refine lv_iadd hx hb dX5_adds_72 ?_
        refine tpi (nI_add _ _) ?_
        refine s_i (k := blp V v n - 1) hx hb hK hP hD hS 3 0 rfl rfl (hin := (by omega)) (hn := by decide) (hdg := dX5_adds_73) (fun H locs hP hD hS => ?_)
        have hP : va_P (dC, dI) vwCl (wm a cI cJ cZ ty tm b wo (upd of (blp V v n - 1) (nI ((O (blp V v n - 1)) + 1))) n no nm un9 um9 sa sl si sn tk) H := hP
        have hD : va_D A (wm a cI cJ cZ ty tm b wo (upd of (blp V v n - 1) (nI ((O (blp V v n - 1)) + 1))) n no nm un9 um9 sa sl si sn tk) := hD
        refine lv_aload_n hx hb dX5_adds_74 rfl (lv_at hl 2 rfl) ?_
        refine va_get (D := (dC, dI)) (ci := 4) (v := .ref (a 3)) (C := RX5) (T := TX5) (N := 16) hx hb hts hi5 hown hK hP 0 rfl rfl 5 (by decide) (hts (.fieldLink RX5 21 "BurstWordsModel" "often" "[I") (by decide +kernel)) (fun _ h9 => h9) rfl dX5_adds_75 ?_
        refine lv_iload_n hx hb dX5_adds_78 rfl (lv_at hl 0 rfl) ?_
        refine g_i hx hb hK hP 3 0 rfl rfl (k := blp V v n - 1) (by omega) (by decide) dX5_adds_79 (v := nI (O (blp V v n - 1) + 1)) pk_us ?_
        rw [← hQQ]
        exact m_i (wo, upd of (blp V v n - 1) (nI ((O (blp V v n - 1)) + 1)), n, no, nm, un9, um9) hx hb hr hlocks (Or.inr (Or.inr (Or.inl ⟨c_20, hpl, c_50, rfl, rfl, rfl, rfl, rfl, bMD_up hmd (by omega) (by have := (hk (blp V v n - 1) (by omega)).2.2.2.2.2; omega), hu_57⟩))) hP hD hS dX5_adds_80
      · refine lv_bipush (v := (-3 : Int32)) hx hb dX5_adds_53 (by decide) ?_
        rw [← hQQ]
        exact m_i (wo, of, n, no, nm, un, um) hx hb hr hlocks (Or.inr (Or.inl ⟨c_20, Or.inr ⟨hpl, c_50⟩, rfl, rfl⟩)) hP hD hS dX5_adds_55
    · refine lv_iconst (v := (-1 : Int32)) hx hb dX5_adds_23 (by decide) ?_
      rw [← hQQ]
      exact m_i (wo, of, n, no, nm, un, um) hx hb hr hlocks (Or.inl ⟨c_20, rfl, rfl⟩) hP hD hS dX5_adds_24
abbrev rm_X5_takes : Room := { frames := 6, cells := 0, slots := 0, locals := 140 }
set_option maxHeartbeats 4000000 in
set_option maxRecDepth 100000 in
theorem c_X5_takes (l : Launch) (dC : Nat → ClassId) (dI : Nat → Nat → Nat) (cI cJ cZ : ClassId) (a : Nat → Nat) (ty : Nat → Int32) (tm b : Nat) (wo : Nat → Int64) (of : Nat → Int32) (n : Nat) (no : Nat → Int64) (nm : Nat) (un : Nat → Int64) (um : Nat) (sa sl si : Nat → Int32) (sn : Nat) (tk : Nat → Int32) (v : Nat) (V O K SA SL SI : Nat → Nat) (hmw : bMW ty tm v) (hmd : bMD wo of n V O) (hmn : bMN no nm K) (hms : bMS sa sl si sn SA SL SI) (sz : Nat) (hum : um ≤ 12) (hcl2 : ∀ g, g ≤ bln v → (bnd K (bhd v g) nm = true ↔ g < bcs K nm v)) (hnd : bNd K nm) (hb8 : b ≤ 8) : Met l yX5_takes wsX5_takes rm_X5_takes (mPc (dC, dI) (tysA cI cJ cZ) (wm a cI cJ cZ ty tm b wo of n no nm un um sa sl si sn tk) sz [.ref (a 0)]) (mQi (dC, dI) (fun (r : Int32) (u : (Nat → Int64) × (Nat → Int32) × (Nat) × (Nat → Int64) × (Nat) × (Nat → Int64) × (Nat)) => (blp V v n = 0 ∧ r = -2 ∧ u = (wo, of, n, no, nm, un, um)) ∨ (blp V v n ≠ 0 ∧ 1 < O (blp V v n - 1) ∧ r = nI (O (blp V v n - 1) - 1) ∧ u.1 = wo ∧ u.2.2.1 = n ∧ u.2.2.2.1 = no ∧ u.2.2.2.2.1 = nm ∧ bMD wo u.2.1 n V (va_up O (blp V v n - 1) (O (blp V v n - 1) - 1)) ∧ bNo un um u.2.2.2.2.2.1 u.2.2.2.2.2.2 n nm V O K) ∨ (blp V v n ≠ 0 ∧ O (blp V v n - 1) = 1 ∧ r = nI 0 ∧ u.2.2.1 = n - 1 ∧ bMD u.1 u.2.1 (n - 1) (brm V (blp V v n - 1)) (brm O (blp V v n - 1)) ∧ (∃ K9, bMN u.2.2.2.1 u.2.2.2.2.1 K9 ∧ bShE K nm (brm V (blp V v n - 1)) (n - 1) v (b / 2) K9 u.2.2.2.2.1) ∧ bNo un um u.2.2.2.2.2.1 u.2.2.2.2.2.2 n nm V O K)) (fun u => wm a cI cJ cZ ty tm b u.1 u.2.1 u.2.2.1 u.2.2.2.1 u.2.2.2.2.1 u.2.2.2.2.2.1 u.2.2.2.2.2.2 sa sl si sn tk) (va_A (wm a cI cJ cZ ty tm b wo of n no nm un um sa sl si sn tk) sz)) 0 0 (va_A (wm a cI cJ cZ ty tm b wo of n no nm un um sa sl si sn tk) sz) := by
  refine met_m (cc := cX5_takes) (maxL := 6) (ret := (some .int)) (own := RX5) (Qc := fun A => mQi (dC, dI) (fun (r : Int32) (u : (Nat → Int64) × (Nat → Int32) × (Nat) × (Nat → Int64) × (Nat) × (Nat → Int64) × (Nat)) => (blp V v n = 0 ∧ r = -2 ∧ u = (wo, of, n, no, nm, un, um)) ∨ (blp V v n ≠ 0 ∧ 1 < O (blp V v n - 1) ∧ r = nI (O (blp V v n - 1) - 1) ∧ u.1 = wo ∧ u.2.2.1 = n ∧ u.2.2.2.1 = no ∧ u.2.2.2.2.1 = nm ∧ bMD wo u.2.1 n V (va_up O (blp V v n - 1) (O (blp V v n - 1) - 1)) ∧ bNo un um u.2.2.2.2.2.1 u.2.2.2.2.2.2 n nm V O K) ∨ (blp V v n ≠ 0 ∧ O (blp V v n - 1) = 1 ∧ r = nI 0 ∧ u.2.2.1 = n - 1 ∧ bMD u.1 u.2.1 (n - 1) (brm V (blp V v n - 1)) (brm O (blp V v n - 1)) ∧ (∃ K9, bMN u.2.2.2.1 u.2.2.2.2.1 K9 ∧ bShE K nm (brm V (blp V v n - 1)) (n - 1) v (b / 2) K9 u.2.2.2.2.1) ∧ bNo un um u.2.2.2.2.2.1 u.2.2.2.2.2.2 n nm V O K)) (fun u => wm a cI cJ cZ ty tm b u.1 u.2.1 u.2.2.1 u.2.2.2.1 u.2.2.2.2.1 u.2.2.2.2.2.1 u.2.2.2.2.2.2 sa sl si sn tk) A) (by decide) rfl rfl (Nat.le_of_ble_eq_true rfl) ?_
  intro p e s m below meth c S hr hlocks hname hK A hA hP hD hS ls hl
  obtain ⟨hx, hb, hml, hown, hts⟩ := id S
  generalize hQQ : MQ below (mQi (dC, dI) (fun (r : Int32) (u : (Nat → Int64) × (Nat → Int32) × (Nat) × (Nat → Int64) × (Nat) × (Nat → Int64) × (Nat)) => (blp V v n = 0 ∧ r = -2 ∧ u = (wo, of, n, no, nm, un, um)) ∨ (blp V v n ≠ 0 ∧ 1 < O (blp V v n - 1) ∧ r = nI (O (blp V v n - 1) - 1) ∧ u.1 = wo ∧ u.2.2.1 = n ∧ u.2.2.2.1 = no ∧ u.2.2.2.2.1 = nm ∧ bMD wo u.2.1 n V (va_up O (blp V v n - 1) (O (blp V v n - 1) - 1)) ∧ bNo un um u.2.2.2.2.2.1 u.2.2.2.2.2.2 n nm V O K) ∨ (blp V v n ≠ 0 ∧ O (blp V v n - 1) = 1 ∧ r = nI 0 ∧ u.2.2.1 = n - 1 ∧ bMD u.1 u.2.1 (n - 1) (brm V (blp V v n - 1)) (brm O (blp V v n - 1)) ∧ (∃ K9, bMN u.2.2.2.1 u.2.2.2.2.1 K9 ∧ bShE K nm (brm V (blp V v n - 1)) (n - 1) v (b / 2) K9 u.2.2.2.2.1) ∧ bNo un um u.2.2.2.2.2.1 u.2.2.2.2.2.2 n nm V O K)) (fun u => wm a cI cJ cZ ty tm b u.1 u.2.1 u.2.2.1 u.2.2.2.1 u.2.2.2.2.1 u.2.2.2.2.2.1 u.2.2.2.2.2.2 sa sl si sn tk) A) ([.ref (a 0)] : List Value).toArray s 0 0 A = QQ
  have hl : lv_has ls 6 [(0, .ref (a 0))] := hl
  have hi5 : ∀ w ∈ wsX50, w ∈ wsX5_takes := fun _ h => List.mem_cons_of_mem _ (List.mem_append_right _ h)
  obtain ⟨hvw, htm, hty⟩ := id hmw; obtain ⟨hn, hk⟩ := id hmd; obtain ⟨hnm, hkn⟩ := id hmn; obtain ⟨hsn, hks⟩ := id hms
  have hbl := blp_le V v n
  have hlv := bln_le v
  refine lv_aload_n hx hb dX5_takes_0 rfl (lv_at hl 0 rfl) ?_
  refine lv_iconst (v := nI (0)) hx hb dX5_takes_1 (by decide) ?_
  refine va_put (D := (dC, dI)) (ci := 4) (v := .int (nI (0))) (ty := .int) (C := RX5) (T := TX5) (N := 16) hx hb hts hi5 tyX5 tyX5_ok nmX5 hown hK hP hD hS 0 rfl rfl 0 (by decide) (hts (.fieldLink RX5 43 "BurstWordsModel" "thrown" "I") (by decide +kernel)) (fun _ h9 => h9) rfl (by decide +kernel) rfl rfl (Nat.le_of_ble_eq_true rfl) dX5_takes_2 (fun H locs hP hD hS => ?_)
  have hP : va_P (dC, dI) vwCl (wm a cI cJ cZ ty tm b wo of n no nm un um sa sl si sn tk) H := hP
  have hD : va_D A (wm a cI cJ cZ ty tm b wo of n no nm un um sa sl si sn tk) := hD
  refine lv_aload_n hx hb dX5_takes_5 rfl (lv_at hl 0 rfl) ?_
  refine c_Vl (As := []) (rest := []) (ci := 4) (q0 := 0) S (c_X5_own l dC dI cI cJ cZ a ty tm b wo of n no nm un um sa sl si sn tk v V O K SA SL SI hmw hmd hmn hms ) (cwV 0 hts gX5_takes_X5_own rfl rfl rfl (by decide +kernel) ⟨Nat.le_of_ble_eq_true rfl, Nat.le_of_ble_eq_true rfl⟩) hK hP rfl rfl rfl hl.1 rfl (Nat.le_of_ble_eq_true rfl) dX5_takes_6 ⟨Nat.le_of_ble_eq_true rfl, Nat.le_of_ble_eq_true rfl⟩ ?_
  refine lv_lstore_n (lv' := [(1, .long (lN (v))), (0, .ref (a 0))]) hx hb dX5_takes_9 rfl hl (by decide) rfl (fun ls hl => ?_)
  refine lv_aload_n hx hb dX5_takes_10 rfl (lv_at hl 1 rfl) ?_
  refine lv_lload_n hx hb dX5_takes_11 rfl (lv_at hl 0 rfl) ?_
  refine c_Vi (As := [.long (lN (v))]) (rest := []) (ci := 4) (q0 := 0) S (c_X5_placeOf l dC dI cI cJ cZ a ty tm b wo of n no nm un um sa sl si sn tk v V O K SA SL SI hmw hmd hmn hms v (w63 hvw.1)) (cwV 1 hts gX5_takes_X5_placeOf rfl rfl rfl (by decide +kernel) ⟨Nat.le_of_ble_eq_true rfl, Nat.le_of_ble_eq_true rfl⟩) hK hP rfl rfl rfl hl.1 rfl (Nat.le_of_ble_eq_true rfl) dX5_takes_12 ⟨Nat.le_of_ble_eq_true rfl, Nat.le_of_ble_eq_true rfl⟩ ?_
  by_cases hpl : blp V v n = 0
  · refine tpi ((congrArg nM hpl).trans nM_0) ?_
    refine lv_istore_n (lv' := [(3, .int ((-1 : Int32))), (1, .long (lN (v))), (0, .ref (a 0))]) hx hb dX5_takes_15 rfl hl (by decide) rfl (fun ls hl => ?_)
    refine lv_iload_n hx hb dX5_takes_16 rfl (lv_at hl 0 rfl) ?_
    refine lv_if_ge (tgt := 23) hx hb dX5_takes_17 (by decide) (fun q => absurd q (by decide)) (fun _ => ?_)
    refine lv_bipush (v := (-2 : Int32)) hx hb dX5_takes_20 (by decide) ?_
    rw [← hQQ]
    exact m_i (wo, of, n, no, nm, un, um) hx hb hr hlocks (Or.inl ⟨hpl, rfl, rfl⟩) hP hD hS dX5_takes_22
  · refine tpi (nM_pos (Nat.pos_of_ne_zero hpl)) ?_
    refine lv_istore_n (lv' := [(3, .int (nI (blp V v n - 1))), (1, .long (lN (v))), (0, .ref (a 0))]) hx hb dX5_takes_15 rfl hl (by decide) rfl (fun ls hl => ?_)
    refine lv_iload_n hx hb dX5_takes_16 rfl (lv_at hl 0 rfl) ?_
    refine z_ge (tgt := 23) hx hb dX5_takes_17 (by decide) (by omega) ?_
    refine lv_aload_n hx hb dX5_takes_23 rfl (lv_at hl 2 rfl) ?_
    refine m_Vv (As := []) (rest := []) (ci := 4) (q0 := 0) (wr := []) S (c_X5_notes l dC dI cI cJ cZ a ty tm b wo of n no nm un um sa sl si sn tk v V O K SA SL SI hmw hmd hmn hms H.size hum) (cwV 0 hts gX5_takes_X5_notes rfl rfl rfl (by decide +kernel) ⟨Nat.le_of_ble_eq_true rfl, Nat.le_of_ble_eq_true rfl⟩) hK hP hD hS hA [0, 1, 2, 3, 4, 5, 6, 7, 8, 9] [] hP hD rfl rfl (by decide) (by decide) rfl rfl rfl hl.1 rfl (Nat.le_of_ble_eq_true rfl) dX5_takes_24 ⟨Nat.le_of_ble_eq_true rfl, Nat.le_of_ble_eq_true rfl⟩ (fun u_24 H locs hu_24 hP hD hS => ?_)
    obtain ⟨un9, um9⟩ := u_24
    have hP : va_P (dC, dI) vwCl (wm a cI cJ cZ ty tm b wo of n no nm un9 um9 sa sl si sn tk) H := hP
    have hD : va_D A (wm a cI cJ cZ ty tm b wo of n no nm un9 um9 sa sl si sn tk) := hD
    refine lv_aload_n hx hb dX5_takes_27 rfl (lv_at hl 2 rfl) ?_
    refine va_get (D := (dC, dI)) (ci := 4) (v := .ref (a 3)) (C := RX5) (T := TX5) (N := 16) hx hb hts hi5 hown hK hP 0 rfl rfl 5 (by decide) (hts (.fieldLink RX5 21 "BurstWordsModel" "often" "[I") (by decide +kernel)) (fun _ h9 => h9) rfl dX5_takes_28 ?_
    refine lv_iload_n hx hb dX5_takes_31 rfl (lv_at hl 0 rfl) ?_
    refine lv_dup2_11 hx hb dX5_takes_32 rfl rfl ?_
    refine g_i hx hb hK hP 3 0 rfl rfl (k := blp V v n - 1) (by omega) (by decide) dX5_takes_33 (v := nI (O (blp V v n - 1))) (hk _ (by omega)).2.2.2.1 ?_
    refine lv_iconst (v := nI (1)) hx hb dX5_takes_34 (by decide) ?_
    refine lv_isub hx hb dX5_takes_35 ?_
    refine tpi (pk_sub (hk _ (by omega)).2.2.2.2.1) ?_
    refine s_i (k := blp V v n - 1) hx hb hK hP hD hS 3 0 rfl rfl (hin := (by omega)) (hn := by decide) (hdg := dX5_takes_36) (fun H locs hP hD hS => ?_)
    have hP : va_P (dC, dI) vwCl (wm a cI cJ cZ ty tm b wo (upd of (blp V v n - 1) (nI ((O (blp V v n - 1)) - 1))) n no nm un9 um9 sa sl si sn tk) H := hP
    have hD : va_D A (wm a cI cJ cZ ty tm b wo (upd of (blp V v n - 1) (nI ((O (blp V v n - 1)) - 1))) n no nm un9 um9 sa sl si sn tk) := hD
    refine lv_aload_n hx hb dX5_takes_37 rfl (lv_at hl 2 rfl) ?_
    refine va_get (D := (dC, dI)) (ci := 4) (v := .ref (a 3)) (C := RX5) (T := TX5) (N := 16) hx hb hts hi5 hown hK hP 0 rfl rfl 5 (by decide) (hts (.fieldLink RX5 21 "BurstWordsModel" "often" "[I") (by decide +kernel)) (fun _ h9 => h9) rfl dX5_takes_38 ?_
    refine lv_iload_n hx hb dX5_takes_41 rfl (lv_at hl 0 rfl) ?_
    refine g_i hx hb hK hP 3 0 rfl rfl (k := blp V v n - 1) (by omega) (by decide) dX5_takes_42 (v := nI (O (blp V v n - 1) - 1)) pk_us ?_
    refine lv_istore (lv' := [(4, .int (nI (O (blp V v n - 1) - 1))), (3, .int (nI (blp V v n - 1))), (1, .long (lN (v))), (0, .ref (a 0))]) hx hb dX5_takes_43 hl (by decide) rfl (fun ls hl => ?_)
    refine lv_iload hx hb dX5_takes_45 (lv_at hl 0 rfl) ?_
    refine z_ne (tgt := 117) hx hb dX5_takes_47 (by decide) (by have := (hk (blp V v n - 1) (by omega)).2.2.2.2.2; omega) (fun c_47 => ?_) (fun c_47 => ?_)
    · refine lv_iload hx hb dX5_takes_117 (lv_at hl 0 rfl) ?_
      rw [← hQQ]
      exact m_i (wo, upd of (blp V v n - 1) (nI ((O (blp V v n - 1)) - 1)), n, no, nm, un9, um9) hx hb hr hlocks (Or.inr (Or.inl ⟨hpl, by omega, rfl, rfl, rfl, rfl, rfl, bMD_dn hmd (by omega) (by omega), hu_24⟩)) hP hD hS dX5_takes_119
    · refine lv_iload_n hx hb dX5_takes_50 rfl (lv_at hl 1 rfl) ?_
      refine lv_istore (lv' := [(5, .int (nI (blp V v n - 1))), (4, .int (nI (O (blp V v n - 1) - 1))), (3, .int (nI (blp V v n - 1))), (1, .long (lN (v))), (0, .ref (a 0))]) hx hb dX5_takes_51 hl (by decide) rfl (fun ls hl => ?_)
      have lp_53 : ∀ (j_53 : Nat) (j : Nat) (wo1 : Nat → Int64) (of1 : Nat → Int32), ((blp V v n - 1) ≤ j) → (j ≤ n - 1) → (∀ k, k < j → wo1 k = lN (brm V (blp V v n - 1) k) ∧ of1 k = nI (brm O (blp V v n - 1) k)) → (∀ k, j < k → k < n → wo1 k = lN (V k) ∧ of1 k = nI (O k)) → (n - j) < j_53 → ∀ (H : Heap) (locs : List Loc), va_P (dC, dI) vwCl (wm a cI cJ cZ ty tm b wo1 of1 n no nm un9 um9 sa sl si sn tk) H → va_D A (wm a cI cJ cZ ty tm b wo1 of1 n no nm un9 um9 sa sl si sn tk) → va_S A s.heap H locs → ∀ ls : Array Slot, lv_has ls 6 [(0, .ref (a 0)), (1, .long (lN (v))), (4, .int (nI (O (blp V v n - 1) - 1))), (5, .int (nI (j)))] → W p l e rm_X5_takes s m ([.ref (a 0)] : List Value).toArray below meth c H locs 0 0 QQ (F0 m 53 ls []) := by
        intro j_53
        induction j_53 with
        | zero => intro j wo1 of1 _ _ _ _ h0; exact absurd h0 (Nat.not_lt_zero _)
        | succ j_53 ih_53 =>
          intro j wo1 of1 haj hj1 h1 h2 hf_53 H locs hP hD hS ls hl
          refine lv_iload hx hb dX5_takes_53 (lv_at hl 3 rfl) ?_
          refine lv_iconst (v := nI (1)) hx hb dX5_takes_55 (by decide) ?_
          refine lv_iadd hx hb dX5_takes_56 ?_
          refine tpi (nI_add _ _) ?_
          refine lv_aload_n hx hb dX5_takes_57 rfl (lv_at hl 0 rfl) ?_
          refine va_get (D := (dC, dI)) (ci := 4) (v := .int (nI (n))) (C := RX5) (T := TX5) (N := 16) hx hb hts hi5 hown hK hP 0 rfl rfl 6 (by decide) (hts (.fieldLink RX5 67 "BurstWordsModel" "many" "I") (by decide +kernel)) (fun _ h9 => h9) rfl dX5_takes_58 ?_
          refine n_ge (tgt := 102) hx hb dX5_takes_61 (by decide) (by omega) (by omega) (fun c_61 => ?_) (fun c_61 => ?_)
          · refine lv_aload_n hx hb dX5_takes_102 rfl (lv_at hl 0 rfl) ?_
            refine lv_dup hx hb dX5_takes_103 rfl ?_
            refine va_get (D := (dC, dI)) (ci := 4) (v := .int (nI (n))) (C := RX5) (T := TX5) (N := 16) hx hb hts hi5 hown hK hP 0 rfl rfl 6 (by decide) (hts (.fieldLink RX5 67 "BurstWordsModel" "many" "I") (by decide +kernel)) (fun _ h9 => h9) rfl dX5_takes_104 ?_
            refine lv_iconst (v := nI (1)) hx hb dX5_takes_107 (by decide) ?_
            refine lv_isub hx hb dX5_takes_108 ?_
            refine tpi (pk_sub (by omega)) ?_
            refine va_put (D := (dC, dI)) (ci := 4) (v := .int (nI (n - 1))) (ty := .int) (C := RX5) (T := TX5) (N := 16) hx hb hts hi5 tyX5 tyX5_ok nmX5 hown hK hP hD hS 0 rfl rfl 6 (by decide) (hts (.fieldLink RX5 67 "BurstWordsModel" "many" "I") (by decide +kernel)) (fun _ h9 => h9) rfl (by decide +kernel) rfl rfl (Nat.le_of_ble_eq_true rfl) dX5_takes_109 (fun H locs hP hD hS => ?_)
            have hP : va_P (dC, dI) vwCl (wm a cI cJ cZ ty tm b wo1 of1 (n - 1) no nm un9 um9 sa sl si sn tk) H := hP
            have hD : va_D A (wm a cI cJ cZ ty tm b wo1 of1 (n - 1) no nm un9 um9 sa sl si sn tk) := hD
            refine lv_aload_n hx hb dX5_takes_112 rfl (lv_at hl 0 rfl) ?_
            refine lv_lload_n hx hb dX5_takes_113 rfl (lv_at hl 1 rfl) ?_
            refine m_Vv (As := [.long (lN (v))]) (rest := []) (ci := 4) (q0 := 0) (wr := []) S (c_X5_shrinks l dC dI cI cJ cZ a ty tm b wo1 of1 (n - 1) no nm un9 um9 sa sl si sn tk v (brm V (blp V v n - 1)) (brm O (blp V v n - 1)) K SA SL SI hmw (bMD_rm hmd (by omega) (by omega) hj1 h1) hmn hms H.size v hvw hcl2 hnd hb8) (cwV 1 hts gX5_takes_X5_shrinks rfl rfl rfl (by decide +kernel) ⟨Nat.le_of_ble_eq_true rfl, Nat.le_of_ble_eq_true rfl⟩) hK hP hD hS hA [0, 1, 2, 3, 4, 5, 6, 7, 8, 9] [] hP hD rfl rfl (by decide) (by decide) rfl rfl rfl hl.1 rfl (Nat.le_of_ble_eq_true rfl) dX5_takes_114 ⟨Nat.le_of_ble_eq_true rfl, Nat.le_of_ble_eq_true rfl⟩ (fun u_114 H locs hu_114 hP hD hS => ?_)
            obtain ⟨no9, nm9⟩ := u_114
            have hP : va_P (dC, dI) vwCl (wm a cI cJ cZ ty tm b wo1 of1 (n - 1) no9 nm9 un9 um9 sa sl si sn tk) H := hP
            have hD : va_D A (wm a cI cJ cZ ty tm b wo1 of1 (n - 1) no9 nm9 un9 um9 sa sl si sn tk) := hD
            refine lv_iload hx hb dX5_takes_117 (lv_at hl 2 rfl) ?_
            rw [← hQQ]
            exact m_i (wo1, of1, n - 1, no9, nm9, un9, um9) hx hb hr hlocks (Or.inr (Or.inr ⟨hpl, by have := (hk (blp V v n - 1) (by omega)).2.2.2.2.1; omega, by rw [c_47], rfl, bMD_rm hmd (by omega) (by omega) hj1 h1, hu_114, hu_24⟩)) hP hD hS dX5_takes_119
          · refine lv_aload_n hx hb dX5_takes_64 rfl (lv_at hl 0 rfl) ?_
            refine va_get (D := (dC, dI)) (ci := 4) (v := .ref (a 2)) (C := RX5) (T := TX5) (N := 16) hx hb hts hi5 hown hK hP 0 rfl rfl 4 (by decide) (hts (.fieldLink RX5 17 "BurstWordsModel" "word" "[J") (by decide +kernel)) (fun _ h9 => h9) rfl dX5_takes_65 ?_
            refine lv_iload hx hb dX5_takes_68 (lv_at hl 3 rfl) ?_
            refine lv_aload_n hx hb dX5_takes_70 rfl (lv_at hl 0 rfl) ?_
            refine va_get (D := (dC, dI)) (ci := 4) (v := .ref (a 2)) (C := RX5) (T := TX5) (N := 16) hx hb hts hi5 hown hK hP 0 rfl rfl 4 (by decide) (hts (.fieldLink RX5 17 "BurstWordsModel" "word" "[J") (by decide +kernel)) (fun _ h9 => h9) rfl dX5_takes_71 ?_
            refine lv_iload hx hb dX5_takes_74 (lv_at hl 3 rfl) ?_
            refine lv_iconst (v := nI (1)) hx hb dX5_takes_76 (by decide) ?_
            refine lv_iadd hx hb dX5_takes_77 ?_
            refine tpi (nI_add _ _) ?_
            refine g_l hx hb hK hP 2 1 rfl rfl (k := j + 1) (by omega) (by decide) dX5_takes_78 (v := lN (V (j + 1))) (h2 _ (by omega) (by omega)).1 ?_
            refine s_l (k := j) hx hb hK hP hD hS 2 1 rfl rfl (hin := (by omega)) (hn := by decide) (hdg := dX5_takes_79) (fun H locs hP hD hS => ?_)
            have hP : va_P (dC, dI) vwCl (wm a cI cJ cZ ty tm b (vp_updL wo1 j (lN (V (j + 1)))) of1 n no nm un9 um9 sa sl si sn tk) H := hP
            have hD : va_D A (wm a cI cJ cZ ty tm b (vp_updL wo1 j (lN (V (j + 1)))) of1 n no nm un9 um9 sa sl si sn tk) := hD
            refine lv_aload_n hx hb dX5_takes_80 rfl (lv_at hl 0 rfl) ?_
            refine va_get (D := (dC, dI)) (ci := 4) (v := .ref (a 3)) (C := RX5) (T := TX5) (N := 16) hx hb hts hi5 hown hK hP 0 rfl rfl 5 (by decide) (hts (.fieldLink RX5 21 "BurstWordsModel" "often" "[I") (by decide +kernel)) (fun _ h9 => h9) rfl dX5_takes_81 ?_
            refine lv_iload hx hb dX5_takes_84 (lv_at hl 3 rfl) ?_
            refine lv_aload_n hx hb dX5_takes_86 rfl (lv_at hl 0 rfl) ?_
            refine va_get (D := (dC, dI)) (ci := 4) (v := .ref (a 3)) (C := RX5) (T := TX5) (N := 16) hx hb hts hi5 hown hK hP 0 rfl rfl 5 (by decide) (hts (.fieldLink RX5 21 "BurstWordsModel" "often" "[I") (by decide +kernel)) (fun _ h9 => h9) rfl dX5_takes_87 ?_
            refine lv_iload hx hb dX5_takes_90 (lv_at hl 3 rfl) ?_
            refine lv_iconst (v := nI (1)) hx hb dX5_takes_92 (by decide) ?_
            refine lv_iadd hx hb dX5_takes_93 ?_
            refine tpi (nI_add _ _) ?_
            refine g_i hx hb hK hP 3 0 rfl rfl (k := j + 1) (by omega) (by decide) dX5_takes_94 (v := nI (O (j + 1))) (h2 _ (by omega) (by omega)).2 ?_
            refine s_i (k := j) hx hb hK hP hD hS 3 0 rfl rfl (hin := (by omega)) (hn := by decide) (hdg := dX5_takes_95) (fun H locs hP hD hS => ?_)
            have hP : va_P (dC, dI) vwCl (wm a cI cJ cZ ty tm b (vp_updL wo1 j (lN (V (j + 1)))) (upd of1 j (nI (O (j + 1)))) n no nm un9 um9 sa sl si sn tk) H := hP
            have hD : va_D A (wm a cI cJ cZ ty tm b (vp_updL wo1 j (lN (V (j + 1)))) (upd of1 j (nI (O (j + 1)))) n no nm un9 um9 sa sl si sn tk) := hD
            refine lv_iinc (v := nI (j + 1)) (lv' := [(5, .int (nI (j + 1))), (0, .ref (a 0)), (1, .long (lN (v))), (4, .int (nI (O (blp V v n - 1) - 1)))]) hx hb dX5_takes_96 hl (k := 3) rfl (inc1 _) (by decide) rfl (fun ls hl => ?_)
            refine lv_goto (tgt := 53) hx hb dX5_takes_99 (by decide) ?_
            exact ih_53 (j + 1) (vp_updL wo1 j (lN (V (j + 1)))) (upd of1 j (nI (O (j + 1)))) (by omega) (by omega) (lt_s (fun k h => ⟨by rw [pk_uLn (by omega)]; exact (h1 k h).1, by rw [pk_un (by omega)]; exact (h1 k h).2⟩) ⟨by rw [pk_uLs, brm, if_neg (by omega)], by rw [pk_us, brm, if_neg (by omega)]⟩) (fun k h4 h5 => ⟨by rw [pk_uLn (by omega)]; exact (h2 k (by omega) h5).1, by rw [pk_un (by omega)]; exact (h2 k (by omega) h5).2⟩) (by omega) _ _ hP hD hS ls (lv_sub hl [1, 2, 3, 0] rfl)
      exact lp_53 _ (blp V v n - 1) (wo) (upd of (blp V v n - 1) (nI ((O (blp V v n - 1)) - 1))) (Nat.le_refl _) (by omega) (fun k h => ⟨by rw [brm, if_pos h]; exact (hk k (by omega)).1, by rw [brm, if_pos h, pk_un (by omega)]; exact (hk k (by omega)).2.2.2.1⟩) (fun k h h0 => ⟨(hk k h0).1, by rw [pk_un (by omega)]; exact (hk k h0).2.2.2.1⟩) (Nat.lt_succ_self _) _ _ hP hD hS ls (lv_sub hl [4, 3, 1, 0] rfl)
abbrev rm_X5_undo : Room := { frames := 0, cells := 0, slots := 0, locals := 0 }
set_option maxHeartbeats 4000000 in
set_option maxRecDepth 100000 in
theorem c_X5_undo (l : Launch) (dC : Nat → ClassId) (dI : Nat → Nat → Nat) (cI cJ cZ : ClassId) (a : Nat → Nat) (ty : Nat → Int32) (tm b : Nat) (wo : Nat → Int64) (of : Nat → Int32) (n : Nat) (no : Nat → Int64) (nm : Nat) (un : Nat → Int64) (um : Nat) (sa sl si : Nat → Int32) (sn : Nat) (tk : Nat → Int32) (v : Nat) (V O K SA SL SI : Nat → Nat) (hmw : bMW ty tm v) (hmd : bMD wo of n V O) (hmn : bMN no nm K) (hms : bMS sa sl si sn SA SL SI) (sz : Nat) (nt : Nat) (nmt : Nat) (Vt : Nat → Nat) (Ot : Nat → Nat) (Kt : Nat → Nat) (hum : um ≤ 12) (hsn0 : 0 < um → bSn un (um - 1) nt nmt Vt Ot Kt ∧ nt ≤ 40 ∧ (∀ k, k < nt → bwf (Vt k) ∧ 0 < Vt k ∧ 1 ≤ Ot k ∧ Ot k ≤ 99) ∧ nmt ≤ 200 ∧ ∀ k, k < nmt → Kt k < 27 ^ 7) : Met l yX5_undo wsX5_undo rm_X5_undo (mPc (dC, dI) (tysA cI cJ cZ) (wm a cI cJ cZ ty tm b wo of n no nm un um sa sl si sn tk) sz [.ref (a 0)]) (mQi (dC, dI) (fun (r : Int32) (u : (Nat → Int64) × (Nat → Int32) × (Nat) × (Nat → Int64) × (Nat) × (Nat)) => (um = 0 ∧ r = -2 ∧ u = (wo, of, n, no, nm, um)) ∨ (0 < um ∧ r = nI (um - 1) ∧ u.2.2.2.2.2 = um - 1 ∧ u.2.2.1 = nt ∧ u.2.2.2.2.1 = nmt ∧ bMD u.1 u.2.1 nt Vt Ot ∧ bMN u.2.2.2.1 nmt Kt)) (fun u => wm a cI cJ cZ ty tm b u.1 u.2.1 u.2.2.1 u.2.2.2.1 u.2.2.2.2.1 un u.2.2.2.2.2 sa sl si sn tk) (va_A (wm a cI cJ cZ ty tm b wo of n no nm un um sa sl si sn tk) sz)) 0 0 (va_A (wm a cI cJ cZ ty tm b wo of n no nm un um sa sl si sn tk) sz) := by
  refine met_m (cc := cX5_undo) (maxL := 3) (ret := (some .int)) (own := RX5) (Qc := fun A => mQi (dC, dI) (fun (r : Int32) (u : (Nat → Int64) × (Nat → Int32) × (Nat) × (Nat → Int64) × (Nat) × (Nat)) => (um = 0 ∧ r = -2 ∧ u = (wo, of, n, no, nm, um)) ∨ (0 < um ∧ r = nI (um - 1) ∧ u.2.2.2.2.2 = um - 1 ∧ u.2.2.1 = nt ∧ u.2.2.2.2.1 = nmt ∧ bMD u.1 u.2.1 nt Vt Ot ∧ bMN u.2.2.2.1 nmt Kt)) (fun u => wm a cI cJ cZ ty tm b u.1 u.2.1 u.2.2.1 u.2.2.2.1 u.2.2.2.2.1 un u.2.2.2.2.2 sa sl si sn tk) A) (by decide) rfl rfl (Nat.le_of_ble_eq_true rfl) ?_
  intro p e s m below meth c S hr hlocks hname hK A hA hP hD hS ls hl
  obtain ⟨hx, hb, hml, hown, hts⟩ := id S
  generalize hQQ : MQ below (mQi (dC, dI) (fun (r : Int32) (u : (Nat → Int64) × (Nat → Int32) × (Nat) × (Nat → Int64) × (Nat) × (Nat)) => (um = 0 ∧ r = -2 ∧ u = (wo, of, n, no, nm, um)) ∨ (0 < um ∧ r = nI (um - 1) ∧ u.2.2.2.2.2 = um - 1 ∧ u.2.2.1 = nt ∧ u.2.2.2.2.1 = nmt ∧ bMD u.1 u.2.1 nt Vt Ot ∧ bMN u.2.2.2.1 nmt Kt)) (fun u => wm a cI cJ cZ ty tm b u.1 u.2.1 u.2.2.1 u.2.2.2.1 u.2.2.2.2.1 un u.2.2.2.2.2 sa sl si sn tk) A) ([.ref (a 0)] : List Value).toArray s 0 0 A = QQ
  have hl : lv_has ls 3 [(0, .ref (a 0))] := hl
  have hi5 : ∀ w ∈ wsX50, w ∈ wsX5_undo := fun _ h => List.mem_cons_of_mem _ (List.mem_append_right _ h)
  obtain ⟨hvw, htm, hty⟩ := id hmw; obtain ⟨hn, hk⟩ := id hmd; obtain ⟨hnm, hkn⟩ := id hmn; obtain ⟨hsn, hks⟩ := id hms
  refine lv_aload_n hx hb dX5_undo_0 rfl (lv_at hl 0 rfl) ?_
  refine lv_iconst (v := nI (0)) hx hb dX5_undo_1 (by decide) ?_
  refine va_put (D := (dC, dI)) (ci := 4) (v := .int (nI (0))) (ty := .int) (C := RX5) (T := TX5) (N := 16) hx hb hts hi5 tyX5 tyX5_ok nmX5 hown hK hP hD hS 0 rfl rfl 0 (by decide) (hts (.fieldLink RX5 43 "BurstWordsModel" "thrown" "I") (by decide +kernel)) (fun _ h9 => h9) rfl (by decide +kernel) rfl rfl (Nat.le_of_ble_eq_true rfl) dX5_undo_2 (fun H locs hP hD hS => ?_)
  have hP : va_P (dC, dI) vwCl (wm a cI cJ cZ ty tm b wo of n no nm un um sa sl si sn tk) H := hP
  have hD : va_D A (wm a cI cJ cZ ty tm b wo of n no nm un um sa sl si sn tk) := hD
  refine lv_aload_n hx hb dX5_undo_5 rfl (lv_at hl 0 rfl) ?_
  refine va_get (D := (dC, dI)) (ci := 4) (v := .int (nI (um))) (C := RX5) (T := TX5) (N := 16) hx hb hts hi5 hown hK hP 0 rfl rfl 10 (by decide) (hts (.fieldLink RX5 85 "BurstWordsModel" "undoMany" "I") (by decide +kernel)) (fun _ h9 => h9) rfl dX5_undo_6 ?_
  refine z_ne (tgt := 15) hx hb dX5_undo_9 (by decide) (by omega) (fun c_9 => ?_) (fun c_9 => ?_)
  · obtain ⟨⟨hs0, hs1, hs2, hs3⟩, hnt, hVt, hnmt, hKt⟩ := hsn0 c_9
    refine lv_aload_n hx hb dX5_undo_15 rfl (lv_at hl 0 rfl) ?_
    refine lv_dup hx hb dX5_undo_16 rfl ?_
    refine va_get (D := (dC, dI)) (ci := 4) (v := .int (nI (um))) (C := RX5) (T := TX5) (N := 16) hx hb hts hi5 hown hK hP 0 rfl rfl 10 (by decide) (hts (.fieldLink RX5 85 "BurstWordsModel" "undoMany" "I") (by decide +kernel)) (fun _ h9 => h9) rfl dX5_undo_17 ?_
    refine lv_iconst (v := nI (1)) hx hb dX5_undo_20 (by decide) ?_
    refine lv_isub hx hb dX5_undo_21 ?_
    refine tpi (pk_sub (by omega)) ?_
    refine va_put (D := (dC, dI)) (ci := 4) (v := .int (nI (um - 1))) (ty := .int) (C := RX5) (T := TX5) (N := 16) hx hb hts hi5 tyX5 tyX5_ok nmX5 hown hK hP hD hS 0 rfl rfl 10 (by decide) (hts (.fieldLink RX5 85 "BurstWordsModel" "undoMany" "I") (by decide +kernel)) (fun _ h9 => h9) rfl (by decide +kernel) rfl rfl (Nat.le_of_ble_eq_true rfl) dX5_undo_22 (fun H locs hP hD hS => ?_)
    have hP : va_P (dC, dI) vwCl (wm a cI cJ cZ ty tm b wo of n no nm un (um - 1) sa sl si sn tk) H := hP
    have hD : va_D A (wm a cI cJ cZ ty tm b wo of n no nm un (um - 1) sa sl si sn tk) := hD
    refine lv_sipush (v := nI (282)) hx hb dX5_undo_25 (by decide) ?_
    refine lv_aload_n hx hb dX5_undo_28 rfl (lv_at hl 0 rfl) ?_
    refine va_get (D := (dC, dI)) (ci := 4) (v := .int (nI (um - 1))) (C := RX5) (T := TX5) (N := 16) hx hb hts hi5 hown hK hP 0 rfl rfl 10 (by decide) (hts (.fieldLink RX5 85 "BurstWordsModel" "undoMany" "I") (by decide +kernel)) (fun _ h9 => h9) rfl dX5_undo_29 ?_
    refine lv_imul hx hb dX5_undo_32 ?_
    refine tpi (pk_mul _ _) ?_
    refine lv_istore_n (lv' := [(1, .int (nI (282 * (um - 1)))), (0, .ref (a 0))]) hx hb dX5_undo_33 rfl hl (by decide) rfl (fun ls hl => ?_)
    refine lv_aload_n hx hb dX5_undo_34 rfl (lv_at hl 1 rfl) ?_
    refine lv_aload_n hx hb dX5_undo_35 rfl (lv_at hl 1 rfl) ?_
    refine va_get (D := (dC, dI)) (ci := 4) (v := .ref (a 5)) (C := RX5) (T := TX5) (N := 16) hx hb hts hi5 hown hK hP 0 rfl rfl 9 (by decide) (hts (.fieldLink RX5 27 "BurstWordsModel" "undos" "[J") (by decide +kernel)) (fun _ h9 => h9) rfl dX5_undo_36 ?_
    refine lv_iload_n hx hb dX5_undo_39 rfl (lv_at hl 0 rfl) ?_
    refine g_l hx hb hK hP 5 1 rfl rfl (k := 282 * (um - 1)) (by omega) (by decide) dX5_undo_40 (v := lN (nt)) hs0 ?_
    refine lv_l2i (v := nI (nt)) hx hb dX5_undo_41 (lN_i _) ?_
    refine va_put (D := (dC, dI)) (ci := 4) (v := .int (nI (nt))) (ty := .int) (C := RX5) (T := TX5) (N := 16) hx hb hts hi5 tyX5 tyX5_ok nmX5 hown hK hP hD hS 0 rfl rfl 6 (by decide) (hts (.fieldLink RX5 67 "BurstWordsModel" "many" "I") (by decide +kernel)) (fun _ h9 => h9) rfl (by decide +kernel) rfl rfl (Nat.le_of_ble_eq_true rfl) dX5_undo_42 (fun H locs hP hD hS => ?_)
    have hP : va_P (dC, dI) vwCl (wm a cI cJ cZ ty tm b wo of nt no nm un (um - 1) sa sl si sn tk) H := hP
    have hD : va_D A (wm a cI cJ cZ ty tm b wo of nt no nm un (um - 1) sa sl si sn tk) := hD
    refine lv_aload_n hx hb dX5_undo_45 rfl (lv_at hl 1 rfl) ?_
    refine lv_aload_n hx hb dX5_undo_46 rfl (lv_at hl 1 rfl) ?_
    refine va_get (D := (dC, dI)) (ci := 4) (v := .ref (a 5)) (C := RX5) (T := TX5) (N := 16) hx hb hts hi5 hown hK hP 0 rfl rfl 9 (by decide) (hts (.fieldLink RX5 27 "BurstWordsModel" "undos" "[J") (by decide +kernel)) (fun _ h9 => h9) rfl dX5_undo_47 ?_
    refine lv_iload_n hx hb dX5_undo_50 rfl (lv_at hl 0 rfl) ?_
    refine lv_iconst (v := nI (1)) hx hb dX5_undo_51 (by decide) ?_
    refine lv_iadd hx hb dX5_undo_52 ?_
    refine tpi (nI_add _ _) ?_
    refine g_l hx hb hK hP 5 1 rfl rfl (k := (282 * (um - 1)) + 1) (by omega) (by decide) dX5_undo_53 (v := lN (nmt)) hs1 ?_
    refine lv_l2i (v := nI (nmt)) hx hb dX5_undo_54 (lN_i _) ?_
    refine va_put (D := (dC, dI)) (ci := 4) (v := .int (nI (nmt))) (ty := .int) (C := RX5) (T := TX5) (N := 16) hx hb hts hi5 tyX5 tyX5_ok nmX5 hown hK hP hD hS 0 rfl rfl 8 (by decide) (hts (.fieldLink RX5 74 "BurstWordsModel" "nodeMany" "I") (by decide +kernel)) (fun _ h9 => h9) rfl (by decide +kernel) rfl rfl (Nat.le_of_ble_eq_true rfl) dX5_undo_55 (fun H locs hP hD hS => ?_)
    have hP : va_P (dC, dI) vwCl (wm a cI cJ cZ ty tm b wo of nt no nmt un (um - 1) sa sl si sn tk) H := hP
    have hD : va_D A (wm a cI cJ cZ ty tm b wo of nt no nmt un (um - 1) sa sl si sn tk) := hD
    refine lv_iconst (v := nI (0)) hx hb dX5_undo_58 (by decide) ?_
    refine lv_istore_n (lv' := [(2, .int (nI (0))), (1, .int (nI (282 * (um - 1)))), (0, .ref (a 0))]) hx hb dX5_undo_59 rfl hl (by decide) rfl (fun ls hl => ?_)
    have lp_60 : ∀ (j_60 : Nat) (i : Nat) (wo1 : Nat → Int64) (of1 : Nat → Int32), (i ≤ 40) → (∀ k, k < i → wo1 k = un (282 * (um - 1) + 2 + k) ∧ of1 k = (un (282 * (um - 1) + 42 + k)).toInt32) → (40 - i) < j_60 → ∀ (H : Heap) (locs : List Loc), va_P (dC, dI) vwCl (wm a cI cJ cZ ty tm b wo1 of1 nt no nmt un (um - 1) sa sl si sn tk) H → va_D A (wm a cI cJ cZ ty tm b wo1 of1 nt no nmt un (um - 1) sa sl si sn tk) → va_S A s.heap H locs → ∀ ls : Array Slot, lv_has ls 3 [(0, .ref (a 0)), (1, .int (nI (282 * (um - 1)))), (2, .int (nI (i)))] → W p l e rm_X5_undo s m ([.ref (a 0)] : List Value).toArray below meth c H locs 0 0 QQ (F0 m 60 ls []) := by
      intro j_60
      induction j_60 with
      | zero => intro i wo1 of1 _ _ h0; exact absurd h0 (Nat.not_lt_zero _)
      | succ j_60 ih_60 =>
        intro i wo1 of1 hi h1 hf_60 H locs hP hD hS ls hl
        refine lv_iload_n hx hb dX5_undo_60 rfl (lv_at hl 2 rfl) ?_
        refine lv_bipush (v := nI (40)) hx hb dX5_undo_61 (by decide) ?_
        refine n_ge (tgt := 106) hx hb dX5_undo_63 (by decide) (by omega) (by omega) (fun c_63 => ?_) (fun c_63 => ?_)
        · refine lv_iconst (v := nI (0)) hx hb dX5_undo_106 (by decide) ?_
          refine lv_istore_n (lv' := [(2, .int (nI (0))), (0, .ref (a 0)), (1, .int (nI (282 * (um - 1))))]) hx hb dX5_undo_107 rfl hl (by decide) rfl (fun ls hl => ?_)
          have lp_108 : ∀ (j_108 : Nat) (i2 : Nat) (no1 : Nat → Int64), (i2 ≤ 200) → (∀ k, k < i2 → no1 k = un (282 * (um - 1) + 82 + k)) → (200 - i2) < j_108 → ∀ (H : Heap) (locs : List Loc), va_P (dC, dI) vwCl (wm a cI cJ cZ ty tm b wo1 of1 nt no1 nmt un (um - 1) sa sl si sn tk) H → va_D A (wm a cI cJ cZ ty tm b wo1 of1 nt no1 nmt un (um - 1) sa sl si sn tk) → va_S A s.heap H locs → ∀ ls : Array Slot, lv_has ls 3 [(0, .ref (a 0)), (1, .int (nI (282 * (um - 1)))), (2, .int (nI (i2)))] → W p l e rm_X5_undo s m ([.ref (a 0)] : List Value).toArray below meth c H locs 0 0 QQ (F0 m 108 ls []) := by
            intro j_108
            induction j_108 with
            | zero => intro i2 no1 _ _ h0; exact absurd h0 (Nat.not_lt_zero _)
            | succ j_108 ih_108 =>
              intro i2 no1 hi2 h2 hf_108 H locs hP hD hS ls hl
              refine lv_iload_n hx hb dX5_undo_108 rfl (lv_at hl 2 rfl) ?_
              refine lv_sipush (v := nI (200)) hx hb dX5_undo_109 (by decide) ?_
              refine n_ge (tgt := 138) hx hb dX5_undo_112 (by decide) (by omega) (by omega) (fun c_112 => ?_) (fun c_112 => ?_)
              · refine lv_aload_n hx hb dX5_undo_138 rfl (lv_at hl 0 rfl) ?_
                refine va_get (D := (dC, dI)) (ci := 4) (v := .int (nI (um - 1))) (C := RX5) (T := TX5) (N := 16) hx hb hts hi5 hown hK hP 0 rfl rfl 10 (by decide) (hts (.fieldLink RX5 85 "BurstWordsModel" "undoMany" "I") (by decide +kernel)) (fun _ h9 => h9) rfl dX5_undo_139 ?_
                rw [← hQQ]
                exact m_i (wo1, of1, nt, no1, nmt, um - 1) hx hb hr hlocks (Or.inr ⟨c_9, rfl, rfl, rfl, rfl, bMD_sn hnt hVt hs2 (fun k h => h1 k (by omega)), bMN_sn hnmt hKt hs3 (fun k h => h2 k (by omega))⟩) hP hD hS dX5_undo_142
              · refine lv_aload_n hx hb dX5_undo_115 rfl (lv_at hl 0 rfl) ?_
                refine va_get (D := (dC, dI)) (ci := 4) (v := .ref (a 4)) (C := RX5) (T := TX5) (N := 16) hx hb hts hi5 hown hK hP 0 rfl rfl 7 (by decide) (hts (.fieldLink RX5 24 "BurstWordsModel" "node" "[J") (by decide +kernel)) (fun _ h9 => h9) rfl dX5_undo_116 ?_
                refine lv_iload_n hx hb dX5_undo_119 rfl (lv_at hl 2 rfl) ?_
                refine lv_aload_n hx hb dX5_undo_120 rfl (lv_at hl 0 rfl) ?_
                refine va_get (D := (dC, dI)) (ci := 4) (v := .ref (a 5)) (C := RX5) (T := TX5) (N := 16) hx hb hts hi5 hown hK hP 0 rfl rfl 9 (by decide) (hts (.fieldLink RX5 27 "BurstWordsModel" "undos" "[J") (by decide +kernel)) (fun _ h9 => h9) rfl dX5_undo_121 ?_
                refine lv_iload_n hx hb dX5_undo_124 rfl (lv_at hl 1 rfl) ?_
                refine lv_bipush (v := nI (82)) hx hb dX5_undo_125 (by decide) ?_
                refine lv_iadd hx hb dX5_undo_127 ?_
                refine tpi (nI_add _ _) ?_
                refine lv_iload_n hx hb dX5_undo_128 rfl (lv_at hl 2 rfl) ?_
                refine lv_iadd hx hb dX5_undo_129 ?_
                refine tpi (nI_add _ _) ?_
                refine g_l hx hb hK hP 5 1 rfl rfl (k := ((282 * (um - 1)) + 82) + i2) (by omega) (by decide) dX5_undo_130 (v := un (((282 * (um - 1)) + 82) + i2)) rfl ?_
                refine s_l (k := i2) hx hb hK hP hD hS 4 1 rfl rfl (hin := (by omega)) (hn := by decide) (hdg := dX5_undo_131) (fun H locs hP hD hS => ?_)
                have hP : va_P (dC, dI) vwCl (wm a cI cJ cZ ty tm b wo1 of1 nt (vp_updL no1 i2 (un (((282 * (um - 1)) + 82) + i2))) nmt un (um - 1) sa sl si sn tk) H := hP
                have hD : va_D A (wm a cI cJ cZ ty tm b wo1 of1 nt (vp_updL no1 i2 (un (((282 * (um - 1)) + 82) + i2))) nmt un (um - 1) sa sl si sn tk) := hD
                refine lv_iinc (v := nI (i2 + 1)) (lv' := [(2, .int (nI (i2 + 1))), (0, .ref (a 0)), (1, .int (nI (282 * (um - 1))))]) hx hb dX5_undo_132 hl (k := 2) rfl (inc1 _) (by decide) rfl (fun ls hl => ?_)
                refine lv_goto (tgt := 108) hx hb dX5_undo_135 (by decide) ?_
                exact ih_108 (i2 + 1) (vp_updL no1 i2 (un (((282 * (um - 1)) + 82) + i2))) (by omega) (lt_s (fun k h => by rw [pk_uLn (by omega)]; exact h2 k h) pk_uLs) (by omega) _ _ hP hD hS ls (lv_sub hl [1, 2, 0] rfl)
          exact lp_108 _ (0) (no) (by omega) lt_0 (Nat.lt_succ_self _) _ _ hP hD hS ls (lv_sub hl [1, 2, 0] rfl)
        · refine lv_aload_n hx hb dX5_undo_66 rfl (lv_at hl 0 rfl) ?_
          refine va_get (D := (dC, dI)) (ci := 4) (v := .ref (a 2)) (C := RX5) (T := TX5) (N := 16) hx hb hts hi5 hown hK hP 0 rfl rfl 4 (by decide) (hts (.fieldLink RX5 17 "BurstWordsModel" "word" "[J") (by decide +kernel)) (fun _ h9 => h9) rfl dX5_undo_67 ?_
          refine lv_iload_n hx hb dX5_undo_70 rfl (lv_at hl 2 rfl) ?_
          refine lv_aload_n hx hb dX5_undo_71 rfl (lv_at hl 0 rfl) ?_
          refine va_get (D := (dC, dI)) (ci := 4) (v := .ref (a 5)) (C := RX5) (T := TX5) (N := 16) hx hb hts hi5 hown hK hP 0 rfl rfl 9 (by decide) (hts (.fieldLink RX5 27 "BurstWordsModel" "undos" "[J") (by decide +kernel)) (fun _ h9 => h9) rfl dX5_undo_72 ?_
          refine lv_iload_n hx hb dX5_undo_75 rfl (lv_at hl 1 rfl) ?_
          refine lv_iconst (v := nI (2)) hx hb dX5_undo_76 (by decide) ?_
          refine lv_iadd hx hb dX5_undo_77 ?_
          refine tpi (nI_add _ _) ?_
          refine lv_iload_n hx hb dX5_undo_78 rfl (lv_at hl 2 rfl) ?_
          refine lv_iadd hx hb dX5_undo_79 ?_
          refine tpi (nI_add _ _) ?_
          refine g_l hx hb hK hP 5 1 rfl rfl (k := ((282 * (um - 1)) + 2) + i) (by omega) (by decide) dX5_undo_80 (v := un (((282 * (um - 1)) + 2) + i)) rfl ?_
          refine s_l (k := i) hx hb hK hP hD hS 2 1 rfl rfl (hin := (by omega)) (hn := by decide) (hdg := dX5_undo_81) (fun H locs hP hD hS => ?_)
          have hP : va_P (dC, dI) vwCl (wm a cI cJ cZ ty tm b (vp_updL wo1 i (un (((282 * (um - 1)) + 2) + i))) of1 nt no nmt un (um - 1) sa sl si sn tk) H := hP
          have hD : va_D A (wm a cI cJ cZ ty tm b (vp_updL wo1 i (un (((282 * (um - 1)) + 2) + i))) of1 nt no nmt un (um - 1) sa sl si sn tk) := hD
          refine lv_aload_n hx hb dX5_undo_82 rfl (lv_at hl 0 rfl) ?_
          refine va_get (D := (dC, dI)) (ci := 4) (v := .ref (a 3)) (C := RX5) (T := TX5) (N := 16) hx hb hts hi5 hown hK hP 0 rfl rfl 5 (by decide) (hts (.fieldLink RX5 21 "BurstWordsModel" "often" "[I") (by decide +kernel)) (fun _ h9 => h9) rfl dX5_undo_83 ?_
          refine lv_iload_n hx hb dX5_undo_86 rfl (lv_at hl 2 rfl) ?_
          refine lv_aload_n hx hb dX5_undo_87 rfl (lv_at hl 0 rfl) ?_
          refine va_get (D := (dC, dI)) (ci := 4) (v := .ref (a 5)) (C := RX5) (T := TX5) (N := 16) hx hb hts hi5 hown hK hP 0 rfl rfl 9 (by decide) (hts (.fieldLink RX5 27 "BurstWordsModel" "undos" "[J") (by decide +kernel)) (fun _ h9 => h9) rfl dX5_undo_88 ?_
          refine lv_iload_n hx hb dX5_undo_91 rfl (lv_at hl 1 rfl) ?_
          refine lv_bipush (v := nI (42)) hx hb dX5_undo_92 (by decide) ?_
          refine lv_iadd hx hb dX5_undo_94 ?_
          refine tpi (nI_add _ _) ?_
          refine lv_iload_n hx hb dX5_undo_95 rfl (lv_at hl 2 rfl) ?_
          refine lv_iadd hx hb dX5_undo_96 ?_
          refine tpi (nI_add _ _) ?_
          refine g_l hx hb hK hP 5 1 rfl rfl (k := ((282 * (um - 1)) + 42) + i) (by omega) (by decide) dX5_undo_97 (v := un (((282 * (um - 1)) + 42) + i)) rfl ?_
          refine lv_l2i (v := (un (((282 * (um - 1)) + 42) + i)).toInt32) hx hb dX5_undo_98 rfl ?_
          refine s_i (k := i) hx hb hK hP hD hS 3 0 rfl rfl (hin := (by omega)) (hn := by decide) (hdg := dX5_undo_99) (fun H locs hP hD hS => ?_)
          have hP : va_P (dC, dI) vwCl (wm a cI cJ cZ ty tm b (vp_updL wo1 i (un (((282 * (um - 1)) + 2) + i))) (upd of1 i ((un (((282 * (um - 1)) + 42) + i)).toInt32)) nt no nmt un (um - 1) sa sl si sn tk) H := hP
          have hD : va_D A (wm a cI cJ cZ ty tm b (vp_updL wo1 i (un (((282 * (um - 1)) + 2) + i))) (upd of1 i ((un (((282 * (um - 1)) + 42) + i)).toInt32)) nt no nmt un (um - 1) sa sl si sn tk) := hD
          refine lv_iinc (v := nI (i + 1)) (lv' := [(2, .int (nI (i + 1))), (0, .ref (a 0)), (1, .int (nI (282 * (um - 1))))]) hx hb dX5_undo_100 hl (k := 2) rfl (inc1 _) (by decide) rfl (fun ls hl => ?_)
          refine lv_goto (tgt := 60) hx hb dX5_undo_103 (by decide) ?_
          exact ih_60 (i + 1) (vp_updL wo1 i (un (((282 * (um - 1)) + 2) + i))) (upd of1 i ((un (((282 * (um - 1)) + 42) + i)).toInt32)) (by omega) (lt_s (fun k h => ⟨by rw [pk_uLn (by omega)]; exact (h1 k h).1, by rw [pk_un (by omega)]; exact (h1 k h).2⟩) ⟨pk_uLs, pk_us⟩) (by omega) _ _ hP hD hS ls (lv_sub hl [1, 2, 0] rfl)
    exact lp_60 _ (0) (wo) (of) (by omega) lt_0 (Nat.lt_succ_self _) _ _ hP hD hS ls (lv_sub hl [2, 1, 0] rfl)
  · refine lv_bipush (v := (-2 : Int32)) hx hb dX5_undo_12 (by decide) ?_
    rw [← hQQ]
    exact m_i (wo, of, n, no, nm, um) hx hb hr hlocks (Or.inl ⟨c_9, rfl, rfl⟩) hP hD hS dX5_undo_14
