theorem decM (i : Nat) : nI i + Int32.ofInt (-1) = nM i := by
  have e : Int32.ofInt (-1) = -1 := by decide
  rw [e]
  unfold nM
  rw [Int32.sub_eq_add_neg]
theorem bMN_Kx0 {no : Nat → Int64} {nm x c0 : Nat} {K : Nat → Nat} (h : bMN no nm K) : bMN no nm (bKx K nm x c0) := ⟨h.1, fun k hk => by unfold bKx; rw [if_pos hk]; exact h.2 k hk⟩
theorem bMN_Kx {no : Nat → Int64} {nm x c0 t : Nat} {K : Nat → Nat} (h : bMN no (nm + t) (bKx K nm x c0)) (h2 : nm + t < 200) (hx : x < 27 ^ 7) : bMN (vp_updL no (nm + t) (lN (bhd x (c0 + t)))) (nm + t + 1) (bKx K nm x c0) := by
  refine ⟨by omega, fun k hk => ?_⟩
  by_cases e : k = nm + t
  · subst e
    rw [pk_uLs]
    unfold bKx
    rw [if_neg (by omega), Nat.add_sub_cancel_left]
    exact ⟨rfl, bhd_lt hx _⟩
  · rw [pk_uLn e]
    exact h.2 k (by omega)
theorem bMN_Ky {no : Nat → Int64} {nm nm1 x c0 t : Nat} {K : Nat → Nat} (h : bMN no nm1 (bKx K nm x c0)) (e : nm1 = nm + t) (h2 : nm1 < 200) (hx : x < 27 ^ 7) : bMN (vp_updL no nm1 (lN (bhd x (c0 + t)))) (nm1 + 1) (bKx K nm x c0) := by
  subst e
  exact bMN_Kx h h2 hx
def bSh (K : Nat → Nat) (nm : Nat) (V : Nat → Nat) (n x few h m : Nat) (sb : Bool) (K1 : Nat → Nat) (nm1 : Nat) : Prop :=
  ((sb = false ∧ m = h) ∨ (sb = true ∧ m = h + 1 ∧ h < bcs K nm x ∧ few < bbg V n (bhd x h))) ∧ (∀ g, m ≤ g → g < bcs K nm x → bbg V n (bhd x g) ≤ few) ∧ bNd K1 nm1 ∧ nm1 + (bcs K nm x - m) = nm ∧ ∀ p, bnd K1 p nm1 = true ↔ (bnd K p nm = true ∧ ∀ g, m ≤ g → g < bcs K nm x → p ≠ bhd x g)
/-- what TAKEN does to the nodes -/
def bShE (K : Nat → Nat) (nm : Nat) (V : Nat → Nat) (n x few : Nat) (K1 : Nat → Nat) (nm1 : Nat) : Prop :=
  bNd K1 nm1 ∧ nm1 + (bcs K nm x - bsm V n x few (bcs K nm x)) = nm ∧ ∀ p, bnd K1 p nm1 = true ↔ (bnd K p nm = true ∧ ∀ g, bsm V n x few (bcs K nm x) ≤ g → g < bcs K nm x → p ≠ bhd x g)
theorem bSh_0 {K : Nat → Nat} {nm : Nat} {V : Nat → Nat} {n x few : Nat} (hnd : bNd K nm) (hc : bcs K nm x ≤ bln x + 1) : bSh K nm V n x few (bln x + 1) (bln x + 1) false K nm :=
  ⟨Or.inl ⟨rfl, rfl⟩, fun g h1 h2 => absurd h2 (by omega), hnd, by omega, fun p => ⟨fun h => ⟨h, fun g h1 h2 => absurd h2 (by omega)⟩, fun h => h.1⟩⟩
section SH
variable {K : Nat → Nat} {nm : Nat} {V : Nat → Nat} {n x few h m : Nat} {K1 : Nat → Nat} {nm1 : Nat}
theorem bSh_m (hI : bSh K nm V n x few h m false K1 nm1) : m = h := by
  rcases hI.1 with ⟨-, e⟩ | ⟨e, -⟩
  · exact e
  · cases e
theorem bSh_node (hI : bSh K nm V n x few h m false K1 nm1) (h0 : ¬ h = 0) (hh : h ≤ bln x + 1) (hcl : ∀ g, g ≤ bln x → (bnd K (bhd x g) nm = true ↔ g < bcs K nm x)) (hc : bcs K nm x ≤ bln x + 1) : bnd K1 (bhd x (h - 1)) nm1 = true ↔ h - 1 < bcs K nm x := by
  have hm := bSh_m hI
  rw [hI.2.2.2.2, hcl _ (by omega)]
  constructor
  · exact fun q => q.1
  · intro q
    refine ⟨q, fun g h1 h2 e => ?_⟩
    have := bhd_inj (v := x) (by omega) (by omega) e
    omega
theorem bSh_skip (hI : bSh K nm V n x few h m false K1 nm1) (h0 : ¬ h = 0) (hh : h ≤ bln x + 1) (hcl : ∀ g, g ≤ bln x → (bnd K (bhd x g) nm = true ↔ g < bcs K nm x)) (hf : bnd K1 (bhd x (h - 1)) nm1 = false) : bSh K nm V n x few (h - 1) (h - 1) false K1 nm1 := by
  have hm := bSh_m hI
  have hc : ¬ h - 1 < bcs K nm x := fun q => by
    have := (bSh_node hI h0 hh hcl (bcs_le K nm x)).mpr q
    rw [hf] at this
    cases this
  refine ⟨Or.inl ⟨rfl, rfl⟩, fun g h1 h2 => hI.2.1 g (by omega) h2, hI.2.2.1, ?_, fun p => ?_⟩
  · have := hI.2.2.2.1; omega
  · rw [hI.2.2.2.2]
    exact ⟨fun q => ⟨q.1, fun g h1 h2 => q.2 g (by omega) h2⟩, fun q => ⟨q.1, fun g h1 h2 => q.2 g (by omega) h2⟩⟩
theorem bSh_stay (hI : bSh K nm V n x few h m false K1 nm1) (h0 : ¬ h = 0) (hh : h ≤ bln x + 1) (hcl : ∀ g, g ≤ bln x → (bnd K (bhd x g) nm = true ↔ g < bcs K nm x)) (ht : bnd K1 (bhd x (h - 1)) nm1 = true) (hb : few < bbg V n (bhd x (h - 1))) : bSh K nm V n x few (h - 1) h true K1 nm1 := by
  have hm := bSh_m hI
  have hc := (bSh_node hI h0 hh hcl (bcs_le K nm x)).mp ht
  subst hm
  exact ⟨Or.inr ⟨rfl, by omega, hc, hb⟩, hI.2⟩
theorem bSh_rm (hI : bSh K nm V n x few h m false K1 nm1) (h0 : ¬ h = 0) (hh : h ≤ bln x + 1) (hcl : ∀ g, g ≤ bln x → (bnd K (bhd x g) nm = true ↔ g < bcs K nm x)) (ht : bnd K1 (bhd x (h - 1)) nm1 = true) (hb : bbg V n (bhd x (h - 1)) ≤ few) {nm2 : Nat} (e2 : nm2 = nm1 - 1) : bSh K nm V n x few (h - 1) (h - 1) false (brm K1 (bfs (fun k => K1 k == bhd x (h - 1)) nm1)) nm2 := by
  have hm := bSh_m hI
  have hc := (bSh_node hI h0 hh hcl (bcs_le K nm x)).mp ht
  obtain ⟨ha, hax⟩ := bnd_first ht
  subst e2
  refine ⟨Or.inl ⟨rfl, rfl⟩, fun g h1 h2 => ?_, brm_nd hI.2.2.1 ha, ?_, fun p => ?_⟩
  · rcases Nat.lt_or_ge g m with q | q
    · rw [show g = h - 1 by omega]; exact hb
    · exact hI.2.1 g q h2
  · have := hI.2.2.2.1; omega
  · rw [brm_in hI.2.2.1 ha, hI.2.2.2.2, hax]
    constructor
    · rintro ⟨⟨q1, q2⟩, q3⟩
      refine ⟨q1, fun g h1 h2 => ?_⟩
      rcases Nat.lt_or_ge g m with q | q
      · rw [show g = h - 1 by omega]; exact q3
      · exact q2 g q h2
    · rintro ⟨q1, q2⟩
      exact ⟨⟨q1, fun g h1 h2 => q2 g (by omega) h2⟩, q2 (h - 1) (Nat.le_refl _) hc⟩
theorem bSh_end {sb : Bool} (hI : bSh K nm V n x few h m sb K1 nm1) (he : h = 0 ∨ sb = true) (hc : bcs K nm x ≤ bln x + 1) : bShE K nm V n x few K1 nm1 := by
  have e : bsm V n x few (bcs K nm x) = m := by
    rcases hI.1 with ⟨e1, e2⟩ | ⟨e1, e2, e3, e4⟩
    · rcases he with he | he
      · exact bsm_eq (by omega) hI.2.1 (Or.inl (by omega))
      · rw [e1] at he; cases he
    · exact bsm_eq (by omega) hI.2.1 (Or.inr (by rw [e2, Nat.add_sub_cancel]; exact e4))
  unfold bShE
  rw [e]
  exact hI.2.2
end SH
abbrev rm_X5_bursts : Room := { frames := 5, cells := 0, slots := 0, locals := 114 }
set_option maxHeartbeats 4000000 in
set_option maxRecDepth 100000 in
theorem c_X5_bursts (l : Launch) (dC : Nat → ClassId) (dI : Nat → Nat → Nat) (cI cJ cZ : ClassId) (a : Nat → Nat) (ty : Nat → Int32) (tm b : Nat) (wo : Nat → Int64) (of : Nat → Int32) (n : Nat) (no : Nat → Int64) (nm : Nat) (un : Nat → Int64) (um : Nat) (sa sl si : Nat → Int32) (sn : Nat) (tk : Nat → Int32) (v : Nat) (V O K SA SL SI : Nat → Nat) (hmw : bMW ty tm v) (hmd : bMD wo of n V O) (hmn : bMN no nm K) (hms : bMS sa sl si sn SA SL SI) (sz : Nat) (x : Nat) (hx7 : bwf x) (hcl : ∀ g, bcs K nm x ≤ g → g ≤ bln x → bnd K (bhd x g) nm = false) (hnm8 : nm ≤ 192) (hb8 : b ≤ 8) : Met l yX5_bursts wsX5_bursts rm_X5_bursts (mPc (dC, dI) (tysA cI cJ cZ) (wm a cI cJ cZ ty tm b wo of n no nm un um sa sl si sn tk) sz [.ref (a 0), .long (lN (x))]) (mQv (dC, dI) (fun (u : (Nat → Int64) × (Nat)) => u.2 = nm + bfs (fun t => decide (bbg V n (bhd x (bcs K nm x + t)) ≤ b)) (bln x + 1 - bcs K nm x) ∧ bMN u.1 u.2 (bKx K nm x (bcs K nm x))) (fun u => wm a cI cJ cZ ty tm b wo of n u.1 u.2 un um sa sl si sn tk) (va_A (wm a cI cJ cZ ty tm b wo of n no nm un um sa sl si sn tk) sz)) 0 0 (va_A (wm a cI cJ cZ ty tm b wo of n no nm un um sa sl si sn tk) sz) := by
  refine met_m (cc := cX5_bursts) (maxL := 4) (ret := none) (own := RX5) (Qc := fun A => mQv (dC, dI) (fun (u : (Nat → Int64) × (Nat)) => u.2 = nm + bfs (fun t => decide (bbg V n (bhd x (bcs K nm x + t)) ≤ b)) (bln x + 1 - bcs K nm x) ∧ bMN u.1 u.2 (bKx K nm x (bcs K nm x))) (fun u => wm a cI cJ cZ ty tm b wo of n u.1 u.2 un um sa sl si sn tk) A) (by decide) rfl rfl (Nat.le_of_ble_eq_true rfl) ?_
  intro p e s m below meth c S hr hlocks hname hK A hA hP hD hS ls hl
  obtain ⟨hx, hb, hml, hown, hts⟩ := id S
  generalize hQQ : MQ below (mQv (dC, dI) (fun (u : (Nat → Int64) × (Nat)) => u.2 = nm + bfs (fun t => decide (bbg V n (bhd x (bcs K nm x + t)) ≤ b)) (bln x + 1 - bcs K nm x) ∧ bMN u.1 u.2 (bKx K nm x (bcs K nm x))) (fun u => wm a cI cJ cZ ty tm b wo of n u.1 u.2 un um sa sl si sn tk) A) ([.ref (a 0), .long (lN (x))] : List Value).toArray s 0 0 A = QQ
  have hl : lv_has ls 4 [(0, .ref (a 0)), (1, .long (lN (x)))] := hl
  have hi5 : ∀ w ∈ wsX50, w ∈ wsX5_bursts := fun _ h => List.mem_cons_of_mem _ (List.mem_append_right _ h)
  obtain ⟨hvw, htm, hty⟩ := id hmw; obtain ⟨hn, hk⟩ := id hmd; obtain ⟨hnm, hkn⟩ := id hmn; obtain ⟨hsn, hks⟩ := id hms
  have hc0 := bcs_le K nm x
  have hlx := bln_le x
  refine lv_aload_n hx hb dX5_bursts_0 rfl (lv_at hl 0 rfl) ?_
  refine lv_lload_n hx hb dX5_bursts_1 rfl (lv_at hl 1 rfl) ?_
  refine c_Vi (As := [.long (lN (x))]) (rest := []) (ci := 4) (q0 := 0) S (c_X5_containerSize l dC dI cI cJ cZ a ty tm b wo of n no nm un um sa sl si sn tk v V O K SA SL SI hmw hmd hmn hms x (w63 hx7.1)) (cwV 1 hts gX5_bursts_X5_containerSize rfl rfl rfl (by decide +kernel) ⟨Nat.le_of_ble_eq_true rfl, Nat.le_of_ble_eq_true rfl⟩) hK hP rfl rfl rfl hl.1 rfl (Nat.le_of_ble_eq_true rfl) dX5_bursts_2 ⟨Nat.le_of_ble_eq_true rfl, Nat.le_of_ble_eq_true rfl⟩ ?_
  refine lv_istore_n (lv' := [(3, .int (bopt (bln x + 1) (bcs K nm x))), (0, .ref (a 0)), (1, .long (lN (x)))]) hx hb dX5_bursts_5 rfl hl (by decide) rfl (fun ls hl => ?_)
  have lp_6 : ∀ (j_6 : Nat) (t : Nat) (no1 : Nat → Int64) (nm1 : Nat), (t ≤ bln x + 1 - bcs K nm x) → (∀ k, k < t → b < bbg V n (bhd x (bcs K nm x + k))) → (nm1 = nm + t) → (bMN no1 nm1 (bKx K nm x (bcs K nm x))) → (bln x + 1 - t) < j_6 → ∀ (H : Heap) (locs : List Loc), va_P (dC, dI) vwCl (wm a cI cJ cZ ty tm b wo of n no1 nm1 un um sa sl si sn tk) H → va_D A (wm a cI cJ cZ ty tm b wo of n no1 nm1 un um sa sl si sn tk) → va_S A s.heap H locs → ∀ ls : Array Slot, lv_has ls 4 [(0, .ref (a 0)), (1, .long (lN (x))), (3, .int (bopt (bln x + 1) (bcs K nm x + t)))] → W p l e rm_X5_bursts s m ([.ref (a 0), .long (lN (x))] : List Value).toArray below meth c H locs 0 0 QQ (F0 m 6 ls []) := by
    intro j_6
    induction j_6 with
    | zero => intro t no1 nm1 _ _ _ _ h0; exact absurd h0 (Nat.not_lt_zero _)
    | succ j_6 ih_6 =>
      intro t no1 nm1 ht hz hnm1 hno hf_6 H locs hP hD hS ls hl
      by_cases hsl : bcs K nm x + t < bln x + 1
      · have hl := lv_cg (l' := [(0, .ref (a 0)), (1, .long (lN (x))), (3, .int (nI (bcs K nm x + t)))]) hl (by rw [show bopt (bln x + 1) (bcs K nm x + t) = nI (bcs K nm x + t) from bopt_y hsl])
        refine lv_iload_n hx hb dX5_bursts_6 rfl (lv_at hl 2 rfl) ?_
        refine z_lt (tgt := 59) hx hb dX5_bursts_7 (by decide) (by omega) ?_
        refine lv_aload_n hx hb dX5_bursts_10 rfl (lv_at hl 0 rfl) ?_
        refine lv_lload_n hx hb dX5_bursts_11 rfl (lv_at hl 1 rfl) ?_
        refine lv_iload_n hx hb dX5_bursts_12 rfl (lv_at hl 2 rfl) ?_
        refine c_Sl (As := [.long (lN (x)), .int (nI (bcs K nm x + t))]) (rest := [.ref (a 0)]) S (c_X5_head l x (bcs K nm x + t) (w63 hx7.1) (by omega)) (va_cwS 2 hts gX5_bursts_X5_head rfl rfl rfl (by decide +kernel) ⟨Nat.le_of_ble_eq_true rfl, Nat.le_of_ble_eq_true rfl⟩) rfl hl.1 rfl (Nat.le_of_ble_eq_true rfl) dX5_bursts_13 ⟨Nat.le_of_ble_eq_true rfl, Nat.le_of_ble_eq_true rfl⟩ ?_
        refine c_Vi (As := [.long (lN (bhd x (bcs K nm x + t)))]) (rest := []) (ci := 4) (q0 := 0) S (c_X5_beginning l dC dI cI cJ cZ a ty tm b wo of n no1 nm1 un um sa sl si sn tk v V O (bKx K nm x (bcs K nm x)) SA SL SI hmw hmd hno hms (bhd x (bcs K nm x + t)) (Nat.lt_of_le_of_lt (bhd_le _ _) (w63 hx7.1))) (cwV 1 hts gX5_bursts_X5_beginning rfl rfl rfl (by decide +kernel) ⟨Nat.le_of_ble_eq_true rfl, Nat.le_of_ble_eq_true rfl⟩) hK hP rfl rfl rfl hl.1 rfl (Nat.le_of_ble_eq_true rfl) dX5_bursts_16 ⟨Nat.le_of_ble_eq_true rfl, Nat.le_of_ble_eq_true rfl⟩ ?_
        refine lv_aload_n hx hb dX5_bursts_19 rfl (lv_at hl 0 rfl) ?_
        refine va_get (D := (dC, dI)) (ci := 4) (v := .int (nI (b))) (C := RX5) (T := TX5) (N := 16) hx hb hts hi5 hown hK hP 0 rfl rfl 3 (by decide) (hts (.fieldLink RX5 13 "BurstWordsModel" "b" "I") (by decide +kernel)) (fun _ h9 => h9) rfl dX5_bursts_20 ?_
        refine n_le (tgt := 59) hx hb dX5_bursts_23 (by decide) (Nat.lt_of_le_of_lt (fb_ct_le _ n) (by omega)) (by omega) (fun c_23 => ?_) (fun c_23 => ?_)
        · rw [← hQQ]
          exact m_v (no1, nm1) hx hb hr hlocks ⟨hnm1.trans (congrArg (nm + ·) (bfs_eq ht (fun k h => by simpa using hz k h) (fun h => by simpa using c_23)).symm), hno⟩ hP hD hS dX5_bursts_59
        · refine lv_aload_n hx hb dX5_bursts_26 rfl (lv_at hl 0 rfl) ?_
          refine va_get (D := (dC, dI)) (ci := 4) (v := .ref (a 4)) (C := RX5) (T := TX5) (N := 16) hx hb hts hi5 hown hK hP 0 rfl rfl 7 (by decide) (hts (.fieldLink RX5 24 "BurstWordsModel" "node" "[J") (by decide +kernel)) (fun _ h9 => h9) rfl dX5_bursts_27 ?_
          refine lv_aload_n hx hb dX5_bursts_30 rfl (lv_at hl 0 rfl) ?_
          refine va_get (D := (dC, dI)) (ci := 4) (v := .int (nI (nm1))) (C := RX5) (T := TX5) (N := 16) hx hb hts hi5 hown hK hP 0 rfl rfl 8 (by decide) (hts (.fieldLink RX5 74 "BurstWordsModel" "nodeMany" "I") (by decide +kernel)) (fun _ h9 => h9) rfl dX5_bursts_31 ?_
          refine lv_lload_n hx hb dX5_bursts_34 rfl (lv_at hl 1 rfl) ?_
          refine lv_iload_n hx hb dX5_bursts_35 rfl (lv_at hl 2 rfl) ?_
          refine c_Sl (As := [.long (lN (x)), .int (nI (bcs K nm x + t))]) (rest := [.int (nI (nm1)), .ref (a 4)]) S (c_X5_head l x (bcs K nm x + t) (w63 hx7.1) (by omega)) (va_cwS 2 hts gX5_bursts_X5_head rfl rfl rfl (by decide +kernel) ⟨Nat.le_of_ble_eq_true rfl, Nat.le_of_ble_eq_true rfl⟩) rfl hl.1 rfl (Nat.le_of_ble_eq_true rfl) dX5_bursts_36 ⟨Nat.le_of_ble_eq_true rfl, Nat.le_of_ble_eq_true rfl⟩ ?_
          refine s_l (k := nm1) hx hb hK hP hD hS 4 1 rfl rfl (hin := (by omega)) (hn := by decide) (hdg := dX5_bursts_39) (fun H locs hP hD hS => ?_)
          have hP : va_P (dC, dI) vwCl (wm a cI cJ cZ ty tm b wo of n (vp_updL no1 nm1 (lN (bhd x (bcs K nm x + t)))) nm1 un um sa sl si sn tk) H := hP
          have hD : va_D A (wm a cI cJ cZ ty tm b wo of n (vp_updL no1 nm1 (lN (bhd x (bcs K nm x + t)))) nm1 un um sa sl si sn tk) := hD
          refine lv_aload_n hx hb dX5_bursts_40 rfl (lv_at hl 0 rfl) ?_
          refine lv_dup hx hb dX5_bursts_41 rfl ?_
          refine va_get (D := (dC, dI)) (ci := 4) (v := .int (nI (nm1))) (C := RX5) (T := TX5) (N := 16) hx hb hts hi5 hown hK hP 0 rfl rfl 8 (by decide) (hts (.fieldLink RX5 74 "BurstWordsModel" "nodeMany" "I") (by decide +kernel)) (fun _ h9 => h9) rfl dX5_bursts_42 ?_
          refine lv_iconst (v := nI (1)) hx hb dX5_bursts_45 (by decide) ?_
          refine lv_iadd hx hb dX5_bursts_46 ?_
          refine tpi (nI_add _ _) ?_
          refine va_put (D := (dC, dI)) (ci := 4) (v := .int (nI (nm1 + 1))) (ty := .int) (C := RX5) (T := TX5) (N := 16) hx hb hts hi5 tyX5 tyX5_ok nmX5 hown hK hP hD hS 0 rfl rfl 8 (by decide) (hts (.fieldLink RX5 74 "BurstWordsModel" "nodeMany" "I") (by decide +kernel)) (fun _ h9 => h9) rfl (by decide +kernel) rfl rfl (Nat.le_of_ble_eq_true rfl) dX5_bursts_47 (fun H locs hP hD hS => ?_)
          have hP : va_P (dC, dI) vwCl (wm a cI cJ cZ ty tm b wo of n (vp_updL no1 nm1 (lN (bhd x (bcs K nm x + t)))) (nm1 + 1) un um sa sl si sn tk) H := hP
          have hD : va_D A (wm a cI cJ cZ ty tm b wo of n (vp_updL no1 nm1 (lN (bhd x (bcs K nm x + t)))) (nm1 + 1) un um sa sl si sn tk) := hD
          refine lv_aload_n hx hb dX5_bursts_50 rfl (lv_at hl 0 rfl) ?_
          refine lv_lload_n hx hb dX5_bursts_51 rfl (lv_at hl 1 rfl) ?_
          refine c_Vi (As := [.long (lN (x))]) (rest := []) (ci := 4) (q0 := 0) S (c_X5_containerSize l dC dI cI cJ cZ a ty tm b wo of n (vp_updL no1 nm1 (lN (bhd x (bcs K nm x + t)))) (nm1 + 1) un um sa sl si sn tk v V O (bKx K nm x (bcs K nm x)) SA SL SI hmw hmd (bMN_Ky hno hnm1 (by omega) hx7.1) hms x (w63 hx7.1)) (cwV 1 hts gX5_bursts_X5_containerSize rfl rfl rfl (by decide +kernel) ⟨Nat.le_of_ble_eq_true rfl, Nat.le_of_ble_eq_true rfl⟩) hK hP rfl rfl rfl hl.1 rfl (Nat.le_of_ble_eq_true rfl) dX5_bursts_52 ⟨Nat.le_of_ble_eq_true rfl, Nat.le_of_ble_eq_true rfl⟩ ?_
          refine tpi (congrArg (bopt (bln x + 1)) (show bcs (bKx K nm x (bcs K nm x)) (nm1 + 1) x = bcs K nm x + (t + 1) by rw [show nm1 + 1 = nm + (t + 1) by omega]; exact bcs_Kx hcl (by omega))) ?_
          refine lv_istore_n (lv' := [(3, .int (bopt (bln x + 1) (bcs K nm x + (t + 1)))), (0, .ref (a 0)), (1, .long (lN (x)))]) hx hb dX5_bursts_55 rfl hl (by decide) rfl (fun ls hl => ?_)
          refine lv_goto (tgt := 6) hx hb dX5_bursts_56 (by decide) ?_
          exact ih_6 (t + 1) (vp_updL no1 nm1 (lN (bhd x (bcs K nm x + t)))) (nm1 + 1) (by omega) (lt_s hz c_23) (by omega) (bMN_Ky hno hnm1 (by omega) hx7.1) (by omega) _ _ hP hD hS ls (lv_sub hl [1, 2, 0] rfl)
      · have hl := lv_cg (l' := [(0, .ref (a 0)), (1, .long (lN (x))), (3, .int ((-1 : Int32)))]) hl (by rw [show bopt (bln x + 1) (bcs K nm x + t) = (-1 : Int32) from bopt_n hsl])
        refine lv_iload_n hx hb dX5_bursts_6 rfl (lv_at hl 2 rfl) ?_
        refine lv_if_lt (tgt := 59) hx hb dX5_bursts_7 (by decide) (fun _ => ?_) (fun q => absurd (by decide) q)
        rw [← hQQ]
        exact m_v (no1, nm1) hx hb hr hlocks ⟨hnm1.trans (congrArg (nm + ·) (bfs_eq ht (fun k h => by simpa using hz k h) (fun h => absurd h (by omega))).symm), hno⟩ hP hD hS dX5_bursts_59
  exact lp_6 _ (0) (no) (nm) (by omega) lt_0 rfl (bMN_Kx0 hmn) (Nat.lt_succ_self _) _ _ hP hD hS ls (lv_cg (l := [(0, .ref (a 0)), (1, .long (lN (x))), (3, .int (bopt (bln x + 1) (bcs K nm x)))]) (lv_sub hl [1, 2, 0] rfl) (by simp only [Nat.add_zero]))
abbrev rm_X5_shrinks : Room := { frames := 5, cells := 0, slots := 0, locals := 114 }
set_option maxHeartbeats 4000000 in
set_option maxRecDepth 100000 in
theorem c_X5_shrinks (l : Launch) (dC : Nat → ClassId) (dI : Nat → Nat → Nat) (cI cJ cZ : ClassId) (a : Nat → Nat) (ty : Nat → Int32) (tm b : Nat) (wo : Nat → Int64) (of : Nat → Int32) (n : Nat) (no : Nat → Int64) (nm : Nat) (un : Nat → Int64) (um : Nat) (sa sl si : Nat → Int32) (sn : Nat) (tk : Nat → Int32) (v : Nat) (V O K SA SL SI : Nat → Nat) (hmw : bMW ty tm v) (hmd : bMD wo of n V O) (hmn : bMN no nm K) (hms : bMS sa sl si sn SA SL SI) (sz : Nat) (x : Nat) (hx7 : bwf x) (hcl2 : ∀ g, g ≤ bln x → (bnd K (bhd x g) nm = true ↔ g < bcs K nm x)) (hnd : bNd K nm) (hb8 : b ≤ 8) : Met l yX5_shrinks wsX5_shrinks rm_X5_shrinks (mPc (dC, dI) (tysA cI cJ cZ) (wm a cI cJ cZ ty tm b wo of n no nm un um sa sl si sn tk) sz [.ref (a 0), .long (lN (x))]) (mQv (dC, dI) (fun (u : (Nat → Int64) × (Nat)) => ∃ K9, bMN u.1 u.2 K9 ∧ bShE K nm V n x (b / 2) K9 u.2) (fun u => wm a cI cJ cZ ty tm b wo of n u.1 u.2 un um sa sl si sn tk) (va_A (wm a cI cJ cZ ty tm b wo of n no nm un um sa sl si sn tk) sz)) 0 0 (va_A (wm a cI cJ cZ ty tm b wo of n no nm un um sa sl si sn tk) sz) := by
  refine met_m (cc := cX5_shrinks) (maxL := 7) (ret := none) (own := RX5) (Qc := fun A => mQv (dC, dI) (fun (u : (Nat → Int64) × (Nat)) => ∃ K9, bMN u.1 u.2 K9 ∧ bShE K nm V n x (b / 2) K9 u.2) (fun u => wm a cI cJ cZ ty tm b wo of n u.1 u.2 un um sa sl si sn tk) A) (by decide) rfl rfl (Nat.le_of_ble_eq_true rfl) ?_
  intro p e s m below meth c S hr hlocks hname hK A hA hP hD hS ls hl
  obtain ⟨hx, hb, hml, hown, hts⟩ := id S
  generalize hQQ : MQ below (mQv (dC, dI) (fun (u : (Nat → Int64) × (Nat)) => ∃ K9, bMN u.1 u.2 K9 ∧ bShE K nm V n x (b / 2) K9 u.2) (fun u => wm a cI cJ cZ ty tm b wo of n u.1 u.2 un um sa sl si sn tk) A) ([.ref (a 0), .long (lN (x))] : List Value).toArray s 0 0 A = QQ
  have hl : lv_has ls 7 [(0, .ref (a 0)), (1, .long (lN (x)))] := hl
  have hi5 : ∀ w ∈ wsX50, w ∈ wsX5_shrinks := fun _ h => List.mem_cons_of_mem _ (List.mem_append_right _ h)
  obtain ⟨hvw, htm, hty⟩ := id hmw; obtain ⟨hn, hk⟩ := id hmd; obtain ⟨hnm, hkn⟩ := id hmn; obtain ⟨hsn, hks⟩ := id hms
  have hc0 := bcs_le K nm x
  have hlx := bln_le x
  refine lv_iconst (v := nI (0)) hx hb dX5_shrinks_0 (by decide) ?_
  refine lv_istore_n (lv' := [(3, .int (nI (0))), (0, .ref (a 0)), (1, .long (lN (x)))]) hx hb dX5_shrinks_1 rfl hl (by decide) rfl (fun ls hl => ?_)
  refine lv_lload_n hx hb dX5_shrinks_2 rfl (lv_at hl 2 rfl) ?_
  refine c_Si (As := [.long (lN (x))]) (rest := []) S (c_X5_size l x (w63 hx7.1)) (va_cwS 1 hts gX5_shrinks_X5_size rfl rfl rfl (by decide +kernel) ⟨Nat.le_of_ble_eq_true rfl, Nat.le_of_ble_eq_true rfl⟩) rfl hl.1 rfl (Nat.le_of_ble_eq_true rfl) dX5_shrinks_3 ⟨Nat.le_of_ble_eq_true rfl, Nat.le_of_ble_eq_true rfl⟩ ?_
  refine tpi (nM_s _).symm ?_
  refine lv_istore (lv' := [(4, .int (nM (bln x + 1))), (3, .int (nI (0))), (0, .ref (a 0)), (1, .long (lN (x)))]) hx hb dX5_shrinks_6 hl (by decide) rfl (fun ls hl => ?_)
  have lp_8 : ∀ (j_8 : Nat) (h : Nat) (sb : Bool) (m1 : Nat) (K1 : Nat → Nat) (nm1 : Nat) (no1 : Nat → Int64), (h ≤ bln x + 1) → (bSh K nm V n x (b / 2) h m1 sb K1 nm1) → (bMN no1 nm1 K1) → (h) < j_8 → ∀ (H : Heap) (locs : List Loc), va_P (dC, dI) vwCl (wm a cI cJ cZ ty tm b wo of n no1 nm1 un um sa sl si sn tk) H → va_D A (wm a cI cJ cZ ty tm b wo of n no1 nm1 un um sa sl si sn tk) → va_S A s.heap H locs → ∀ ls : Array Slot, lv_has ls 7 [(0, .ref (a 0)), (1, .long (lN (x))), (3, .int (bI (sb))), (4, .int (nM h))] → W p l e rm_X5_shrinks s m ([.ref (a 0), .long (lN (x))] : List Value).toArray below meth c H locs 0 0 QQ (F0 m 8 ls []) := by
    intro j_8
    induction j_8 with
    | zero => intro h sb m1 K1 nm1 no1 _ _ _ h0; exact absurd h0 (Nat.not_lt_zero _)
    | succ j_8 ih_8 =>
      intro h sb m1 K1 nm1 no1 hh hI hno hf_8 H locs hP hD hS ls hl
      obtain ⟨hnm1, hkn1⟩ := id hno
      by_cases hsl : h = 0
      · have hl := lv_cg (l' := [(0, .ref (a 0)), (1, .long (lN (x))), (3, .int (bI (sb))), (4, .int ((-1 : Int32)))]) hl (by rw [show nM h = (-1 : Int32) from ((congrArg nM hsl).trans nM_0)])
        refine lv_iload hx hb dX5_shrinks_8 (lv_at hl 3 rfl) ?_
        refine lv_if_lt (tgt := 71) hx hb dX5_shrinks_10 (by decide) (fun _ => ?_) (fun q => absurd (by decide) q)
        rw [← hQQ]
        exact m_v (no1, nm1) hx hb hr hlocks ⟨K1, hno, bSh_end hI (Or.inl hsl) hc0⟩ hP hD hS dX5_shrinks_71
      · have hl := lv_cg (l' := [(0, .ref (a 0)), (1, .long (lN (x))), (3, .int (bI (sb))), (4, .int (nI (h - 1)))]) hl (by rw [show nM h = nI (h - 1) from (nM_pos (Nat.pos_of_ne_zero hsl))])
        refine lv_iload hx hb dX5_shrinks_8 (lv_at hl 3 rfl) ?_
        refine z_lt (tgt := 71) hx hb dX5_shrinks_10 (by decide) (by omega) ?_
        refine lv_iload_n hx hb dX5_shrinks_13 rfl (lv_at hl 2 rfl) ?_
        refine b_ne (tgt := 71) hx hb dX5_shrinks_14 (by decide) (fun c_14 => ?_) (fun c_14 => ?_)
        · rw [← hQQ]
          exact m_v (no1, nm1) hx hb hr hlocks ⟨K1, hno, bSh_end hI (Or.inr c_14) hc0⟩ hP hD hS dX5_shrinks_71
        · subst c_14
          refine lv_lload_n hx hb dX5_shrinks_17 rfl (lv_at hl 1 rfl) ?_
          refine lv_iload hx hb dX5_shrinks_18 (lv_at hl 3 rfl) ?_
          refine c_Sl (As := [.long (lN (x)), .int (nI (h - 1))]) (rest := []) S (c_X5_head l x (h - 1) (w63 hx7.1) (by omega)) (va_cwS 2 hts gX5_shrinks_X5_head rfl rfl rfl (by decide +kernel) ⟨Nat.le_of_ble_eq_true rfl, Nat.le_of_ble_eq_true rfl⟩) rfl hl.1 rfl (Nat.le_of_ble_eq_true rfl) dX5_shrinks_20 ⟨Nat.le_of_ble_eq_true rfl, Nat.le_of_ble_eq_true rfl⟩ ?_
          refine lv_lstore (lv' := [(5, .long (lN (bhd x (h - 1)))), (0, .ref (a 0)), (1, .long (lN (x))), (3, .int (bI (false))), (4, .int (nI (h - 1)))]) hx hb dX5_shrinks_23 hl (by decide) rfl (fun ls hl => ?_)
          refine lv_aload_n hx hb dX5_shrinks_25 rfl (lv_at hl 1 rfl) ?_
          refine lv_lload hx hb dX5_shrinks_26 (lv_at hl 0 rfl) ?_
          refine c_Vi (As := [.long (lN (bhd x (h - 1)))]) (rest := []) (ci := 4) (q0 := 0) S (c_X5_isNode l dC dI cI cJ cZ a ty tm b wo of n no1 nm1 un um sa sl si sn tk v V O K1 SA SL SI hmw hmd hno hms (bhd x (h - 1)) (Nat.lt_of_le_of_lt (bhd_le _ _) (w63 hx7.1))) (cwV 1 hts gX5_shrinks_X5_isNode rfl rfl rfl (by decide +kernel) ⟨Nat.le_of_ble_eq_true rfl, Nat.le_of_ble_eq_true rfl⟩) hK hP rfl rfl rfl hl.1 rfl (Nat.le_of_ble_eq_true rfl) dX5_shrinks_28 ⟨Nat.le_of_ble_eq_true rfl, Nat.le_of_ble_eq_true rfl⟩ ?_
          refine b_eq (tgt := 65) hx hb dX5_shrinks_31 (by decide) (fun c_31 => ?_) (fun c_31 => ?_)
          · refine lv_iinc (v := nM (h - 1)) (lv' := [(4, .int (nM (h - 1))), (5, .long (lN (bhd x (h - 1)))), (0, .ref (a 0)), (1, .long (lN (x))), (3, .int (bI (false)))]) hx hb dX5_shrinks_65 hl (k := 4) rfl (decM _) (by decide) rfl (fun ls hl => ?_)
            refine lv_goto (tgt := 8) hx hb dX5_shrinks_68 (by decide) ?_
            exact ih_8 (h - 1) (false) (h - 1) (K1) (nm1) (no1) (by omega) (bSh_skip hI hsl hh hcl2 c_31) hno (by omega) _ _ hP hD hS ls (lv_sub hl [2, 3, 4, 0] rfl)
          · refine lv_aload_n hx hb dX5_shrinks_34 rfl (lv_at hl 1 rfl) ?_
            refine lv_lload hx hb dX5_shrinks_35 (lv_at hl 0 rfl) ?_
            refine c_Vi (As := [.long (lN (bhd x (h - 1)))]) (rest := []) (ci := 4) (q0 := 0) S (c_X5_beginning l dC dI cI cJ cZ a ty tm b wo of n no1 nm1 un um sa sl si sn tk v V O K1 SA SL SI hmw hmd hno hms (bhd x (h - 1)) (Nat.lt_of_le_of_lt (bhd_le _ _) (w63 hx7.1))) (cwV 1 hts gX5_shrinks_X5_beginning rfl rfl rfl (by decide +kernel) ⟨Nat.le_of_ble_eq_true rfl, Nat.le_of_ble_eq_true rfl⟩) hK hP rfl rfl rfl hl.1 rfl (Nat.le_of_ble_eq_true rfl) dX5_shrinks_37 ⟨Nat.le_of_ble_eq_true rfl, Nat.le_of_ble_eq_true rfl⟩ ?_
            refine lv_aload_n hx hb dX5_shrinks_40 rfl (lv_at hl 1 rfl) ?_
            refine va_get (D := (dC, dI)) (ci := 4) (v := .int (nI (b))) (C := RX5) (T := TX5) (N := 16) hx hb hts hi5 hown hK hP 0 rfl rfl 3 (by decide) (hts (.fieldLink RX5 13 "BurstWordsModel" "b" "I") (by decide +kernel)) (fun _ h9 => h9) rfl dX5_shrinks_41 ?_
            refine lv_iconst (v := nI (2)) hx hb dX5_shrinks_44 (by decide) ?_
            refine lv_idiv hx hb dX5_shrinks_45 (by decide) ?_
            refine tpi (pk_div (by omega) (by decide) (by decide)) ?_
            refine n_le (tgt := 53) hx hb dX5_shrinks_46 (by decide) (Nat.lt_of_le_of_lt (fb_ct_le _ n) (by omega)) (by omega) (fun c_46 => ?_) (fun c_46 => ?_)
            · refine lv_iconst (v := nI (0)) hx hb dX5_shrinks_53 (by decide) ?_
              refine lv_istore_n (lv' := [(3, .int (nI (0))), (5, .long (lN (bhd x (h - 1)))), (0, .ref (a 0)), (1, .long (lN (x))), (4, .int (nI (h - 1)))]) hx hb dX5_shrinks_54 rfl hl (by decide) rfl (fun ls hl => ?_)
              refine lv_iload_n hx hb dX5_shrinks_55 rfl (lv_at hl 0 rfl) ?_
              refine z_ne (tgt := 65) hx hb dX5_shrinks_56 (by decide) (by omega) (fun c_56 => ?_) (fun c_56 => ?_)
              · exact absurd c_56 (Nat.lt_irrefl 0)
              · refine lv_aload_n hx hb dX5_shrinks_59 rfl (lv_at hl 2 rfl) ?_
                refine lv_lload hx hb dX5_shrinks_60 (lv_at hl 1 rfl) ?_
                refine m_Vv (As := [.long (lN (bhd x (h - 1)))]) (rest := []) (ci := 4) (q0 := 0) (wr := []) S (c_X5_leaves l dC dI cI cJ cZ a ty tm b wo of n no1 nm1 un um sa sl si sn tk v V O K1 SA SL SI hmw hmd hno hms H.size (bhd x (h - 1)) (Nat.lt_of_le_of_lt (bhd_le _ _) (w63 hx7.1)) c_31) (cwV 1 hts gX5_shrinks_X5_leaves rfl rfl rfl (by decide +kernel) ⟨Nat.le_of_ble_eq_true rfl, Nat.le_of_ble_eq_true rfl⟩) hK hP hD hS hA [0, 1, 2, 3, 4, 5, 6, 7, 8, 9] [] hP hD rfl rfl (by decide) (by decide) rfl rfl rfl hl.1 rfl (Nat.le_of_ble_eq_true rfl) dX5_shrinks_62 ⟨Nat.le_of_ble_eq_true rfl, Nat.le_of_ble_eq_true rfl⟩ (fun u_62 H locs hu_62 hP hD hS => ?_)
                obtain ⟨no9, nm9⟩ := u_62
                have hP : va_P (dC, dI) vwCl (wm a cI cJ cZ ty tm b wo of n no9 nm9 un um sa sl si sn tk) H := hP
                have hD : va_D A (wm a cI cJ cZ ty tm b wo of n no9 nm9 un um sa sl si sn tk) := hD
                refine lv_iinc (v := nM (h - 1)) (lv' := [(4, .int (nM (h - 1))), (3, .int (nI (0))), (5, .long (lN (bhd x (h - 1)))), (0, .ref (a 0)), (1, .long (lN (x)))]) hx hb dX5_shrinks_65 hl (k := 4) rfl (decM _) (by decide) rfl (fun ls hl => ?_)
                refine lv_goto (tgt := 8) hx hb dX5_shrinks_68 (by decide) ?_
                exact ih_8 (h - 1) (false) (h - 1) (brm K1 (bfs (fun k => K1 k == bhd x (h - 1)) nm1)) (nm9) (no9) (by omega) (bSh_rm hI hsl hh hcl2 c_31 c_46 hu_62.1) (by rw [show nm9 = nm1 - 1 from hu_62.1]; exact hu_62.2) (by omega) _ _ hP hD hS ls (lv_sub hl [3, 4, 1, 0] rfl)
            · refine lv_iconst (v := nI (1)) hx hb dX5_shrinks_49 (by decide) ?_
              refine lv_goto (tgt := 54) hx hb dX5_shrinks_50 (by decide) ?_
              refine lv_istore_n (lv' := [(3, .int (nI (1))), (5, .long (lN (bhd x (h - 1)))), (0, .ref (a 0)), (1, .long (lN (x))), (4, .int (nI (h - 1)))]) hx hb dX5_shrinks_54 rfl hl (by decide) rfl (fun ls hl => ?_)
              refine lv_iload_n hx hb dX5_shrinks_55 rfl (lv_at hl 0 rfl) ?_
              refine z_ne (tgt := 65) hx hb dX5_shrinks_56 (by decide) (by omega) (fun c_56 => ?_) (fun c_56 => ?_)
              · refine lv_iinc (v := nM (h - 1)) (lv' := [(4, .int (nM (h - 1))), (3, .int (nI (1))), (5, .long (lN (bhd x (h - 1)))), (0, .ref (a 0)), (1, .long (lN (x)))]) hx hb dX5_shrinks_65 hl (k := 4) rfl (decM _) (by decide) rfl (fun ls hl => ?_)
                refine lv_goto (tgt := 8) hx hb dX5_shrinks_68 (by decide) ?_
                exact ih_8 (h - 1) (true) (h) (K1) (nm1) (no1) (by omega) (bSh_stay hI hsl hh hcl2 c_31 c_46) hno (by omega) _ _ hP hD hS ls (lv_sub hl [3, 4, 1, 0] rfl)
              · exact absurd c_56 (by decide)
  exact lp_8 _ (bln x + 1) (false) (bln x + 1) (K) (nm) (no) (Nat.le_refl _) (bSh_0 hnd hc0) hmn (Nat.lt_succ_self _) _ _ hP hD hS ls (lv_sub hl [2, 3, 1, 0] rfl)
