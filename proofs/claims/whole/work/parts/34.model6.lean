/-- what one UNDO keeps of words and nodes -/
def bSn (un : Nat → Int64) (t nt nmt : Nat) (Vt Ot Kt : Nat → Nat) : Prop := un (282 * t) = lN nt ∧ un (282 * t + 1) = lN nmt ∧ (∀ k, k < nt → un (282 * t + 2 + k) = lN (Vt k) ∧ un (282 * t + 42 + k) = lN (Ot k)) ∧ ∀ k, k < nmt → un (282 * t + 82 + k) = lN (Kt k)
def bNo (un : Nat → Int64) (um : Nat) (un' : Nat → Int64) (um' n nm : Nat) (V O K : Nat → Nat) : Prop := (um = 12 → um' = 12 ∧ ∀ j, j < 3102 → un' j = un (j + 282)) ∧ (um < 12 → um' = um + 1 ∧ ∀ j, j < 282 * um → un' j = un j) ∧ bSn un' (um' - 1) n nm V O K
theorem bNo_sn {un1 : Nat → Int64} {bs n nm : Nat} {wo no : Nat → Int64} {of : Nat → Int32} {V O K : Nat → Nat} {t : Nat} (hmd : bMD wo of n V O) (hmn : bMN no nm K) (e : bs = 282 * t) (h0 : un1 bs = lN n) (h1 : un1 (bs + 1) = lN nm) (hw : ∀ k, k < 40 → un1 (bs + 2 + k) = wo k ∧ un1 (bs + 42 + k) = (of k).toInt64) (hn : ∀ k, k < 200 → un1 (bs + 82 + k) = no k) : bSn un1 t n nm V O K := by
  subst e
  refine ⟨h0, h1, fun k h => ?_, fun k h => ?_⟩
  · have a := hmd.2 k h
    have b := hw k (by have := hmd.1; omega)
    refine ⟨b.1.trans a.1, b.2.trans ?_⟩
    rw [a.2.2.2.1]
    exact nI_l (by omega)
  · exact (hn k (by have := hmn.1; omega)).trans (hmn.2 k h).1
theorem bNo_a {un un1 ub : Nat → Int64} {bs um n nm : Nat} {wo no : Nat → Int64} {of : Nat → Int32} {V O K : Nat → Nat} (hmd : bMD wo of n V O) (hmn : bMN no nm K) (hq : (bs = 282 * um ∧ um < 12 ∧ ub = un) ∨ (um = 12 ∧ bs = 3102 ∧ ub = fun j => un (j + 282))) (h0 : un1 bs = lN n) (h1 : un1 (bs + 1) = lN nm) (hw : ∀ k, k < 40 → un1 (bs + 2 + k) = wo k ∧ un1 (bs + 42 + k) = (of k).toInt64) (hn : ∀ k, k < 200 → un1 (bs + 82 + k) = no k) (hb : ∀ j, j < bs → un1 j = ub j) (h : um < 12) : bNo un um un1 (um + 1) n nm V O K := by
  rcases hq with ⟨e1, -, e3⟩ | ⟨e1, -⟩
  · refine ⟨fun e => absurd e (by omega), fun _ => ⟨rfl, fun j hj => ?_⟩, bNo_sn hmd hmn e1 h0 h1 hw hn⟩
    rw [hb j (by omega), e3]
  · omega
theorem bNo_b {un un1 ub : Nat → Int64} {bs um n nm : Nat} {wo no : Nat → Int64} {of : Nat → Int32} {V O K : Nat → Nat} (hmd : bMD wo of n V O) (hmn : bMN no nm K) (hq : (bs = 282 * um ∧ um < 12 ∧ ub = un) ∨ (um = 12 ∧ bs = 3102 ∧ ub = fun j => un (j + 282))) (h0 : un1 bs = lN n) (h1 : un1 (bs + 1) = lN nm) (hw : ∀ k, k < 40 → un1 (bs + 2 + k) = wo k ∧ un1 (bs + 42 + k) = (of k).toInt64) (hn : ∀ k, k < 200 → un1 (bs + 82 + k) = no k) (hb : ∀ j, j < bs → un1 j = ub j) (h : um = 12) : bNo un um un1 (11 + 1) n nm V O K := by
  rcases hq with ⟨-, e1, -⟩ | ⟨-, e1, e3⟩
  · omega
  · refine ⟨fun _ => ⟨rfl, fun j hj => ?_⟩, fun e => absurd e (by omega), bNo_sn hmd hmn e1 h0 h1 hw hn⟩
    rw [hb j (by omega), e3]
theorem bnd_iff {K : Nat → Nat} {p : Nat} : ∀ {nm : Nat}, bnd K p nm = true ↔ ∃ k, k < nm ∧ K k = p
  | 0 => ⟨fun h => Bool.noConfusion h, fun ⟨k, h, _⟩ => absurd h (Nat.not_lt_zero k)⟩
  | nm + 1 => by
    rw [bnd, Bool.or_eq_true, bnd_iff (nm := nm), beq_iff_eq]
    constructor
    · rintro (⟨k, h, e⟩ | e)
      · exact ⟨k, by omega, e⟩
      · exact ⟨nm, by omega, e⟩
    · rintro ⟨k, h, e⟩
      rcases Nat.lt_or_ge k nm with q | q
      · exact Or.inl ⟨k, q, e⟩
      · rw [show k = nm by omega] at e; exact Or.inr e
/-- a list without its a-th -/
def brm (K : Nat → Nat) (a k : Nat) : Nat := if k < a then K k else K (k + 1)
theorem bnd_first {K : Nat → Nat} {nm x : Nat} (h : bnd K x nm = true) : bfs (fun k => K k == x) nm < nm ∧ K (bfs (fun k => K k == x) nm) = x := by
  have hlt : bfs (fun k => K k == x) nm < nm := by
    obtain ⟨k, h1, h2⟩ := bnd_iff.mp h
    rcases Nat.lt_or_ge (bfs (fun k => K k == x) nm) nm with q | q
    · exact q
    · have := bfs_no (fun k => K k == x) nm k (by omega)
      simp [h2] at this
  exact ⟨hlt, by simpa using bfs_yes (fun k => K k == x) nm hlt⟩
theorem bnd_at {K : Nat → Nat} {nm x i : Nat} (hi : i ≤ bfs (fun k => K k == x) nm) (h : K i = x) : i = bfs (fun k => K k == x) nm := by
  rcases Nat.lt_or_ge i (bfs (fun k => K k == x) nm) with q | q
  · have := bfs_no _ nm i q
    simp [h] at this
  · omega
abbrev rm_X5_notes : Room := { frames := 0, cells := 0, slots := 0, locals := 0 }
set_option maxHeartbeats 4000000 in
set_option maxRecDepth 100000 in
theorem c_X5_notes (l : Launch) (dC : Nat → ClassId) (dI : Nat → Nat → Nat) (cI cJ cZ : ClassId) (a : Nat → Nat) (ty : Nat → Int32) (tm b : Nat) (wo : Nat → Int64) (of : Nat → Int32) (n : Nat) (no : Nat → Int64) (nm : Nat) (un : Nat → Int64) (um : Nat) (sa sl si : Nat → Int32) (sn : Nat) (tk : Nat → Int32) (v : Nat) (V O K SA SL SI : Nat → Nat) (hmw : bMW ty tm v) (hmd : bMD wo of n V O) (hmn : bMN no nm K) (hms : bMS sa sl si sn SA SL SI) (sz : Nat) (hum : um ≤ 12) : Met l yX5_notes wsX5_notes rm_X5_notes (mPc (dC, dI) (tysA cI cJ cZ) (wm a cI cJ cZ ty tm b wo of n no nm un um sa sl si sn tk) sz [.ref (a 0)]) (mQv (dC, dI) (fun (u : (Nat → Int64) × (Nat)) => bNo un um u.1 u.2 n nm V O K) (fun u => wm a cI cJ cZ ty tm b wo of n no nm u.1 u.2 sa sl si sn tk) (va_A (wm a cI cJ cZ ty tm b wo of n no nm un um sa sl si sn tk) sz)) 0 0 (va_A (wm a cI cJ cZ ty tm b wo of n no nm un um sa sl si sn tk) sz) := by
  refine met_m (cc := cX5_notes) (maxL := 3) (ret := none) (own := RX5) (Qc := fun A => mQv (dC, dI) (fun (u : (Nat → Int64) × (Nat)) => bNo un um u.1 u.2 n nm V O K) (fun u => wm a cI cJ cZ ty tm b wo of n no nm u.1 u.2 sa sl si sn tk) A) (by decide) rfl rfl (Nat.le_of_ble_eq_true rfl) ?_
  intro p e s m below meth c S hr hlocks hname hK A hA hP hD hS ls hl
  obtain ⟨hx, hb, hml, hown, hts⟩ := id S
  generalize hQQ : MQ below (mQv (dC, dI) (fun (u : (Nat → Int64) × (Nat)) => bNo un um u.1 u.2 n nm V O K) (fun u => wm a cI cJ cZ ty tm b wo of n no nm u.1 u.2 sa sl si sn tk) A) ([.ref (a 0)] : List Value).toArray s 0 0 A = QQ
  have hl : lv_has ls 3 [(0, .ref (a 0))] := hl
  have hi5 : ∀ w ∈ wsX50, w ∈ wsX5_notes := fun _ h => List.mem_cons_of_mem _ (List.mem_append_right _ h)
  obtain ⟨hvw, htm, hty⟩ := id hmw; obtain ⟨hn, hk⟩ := id hmd; obtain ⟨hnm, hkn⟩ := id hmn; obtain ⟨hsn, hks⟩ := id hms
  refine lv_aload_n hx hb dX5_notes_0 rfl (lv_at hl 0 rfl) ?_
  refine va_get (D := (dC, dI)) (ci := 4) (v := .int (nI (um))) (C := RX5) (T := TX5) (N := 16) hx hb hts hi5 hown hK hP 0 rfl rfl 10 (by decide) (hts (.fieldLink RX5 85 "BurstWordsModel" "undoMany" "I") (by decide +kernel)) (fun _ h9 => h9) rfl dX5_notes_1 ?_
  refine lv_bipush (v := nI (12)) hx hb dX5_notes_4 (by decide) ?_
  refine n_ne (tgt := 46) hx hb dX5_notes_6 (by decide) (by omega) (by omega) (fun c_6 => ?_) (fun c_6 => ?_)
  · refine lv_sipush (v := nI (282)) hx hb dX5_notes_46 (by decide) ?_
    refine lv_aload_n hx hb dX5_notes_49 rfl (lv_at hl 0 rfl) ?_
    refine va_get (D := (dC, dI)) (ci := 4) (v := .int (nI (um))) (C := RX5) (T := TX5) (N := 16) hx hb hts hi5 hown hK hP 0 rfl rfl 10 (by decide) (hts (.fieldLink RX5 85 "BurstWordsModel" "undoMany" "I") (by decide +kernel)) (fun _ h9 => h9) rfl dX5_notes_50 ?_
    refine lv_imul hx hb dX5_notes_53 ?_
    refine tpi (pk_mul _ _) ?_
    refine lv_istore_n (lv' := [(1, .int (nI (282 * um))), (0, .ref (a 0))]) hx hb dX5_notes_54 rfl hl (by decide) rfl (fun ls hl => ?_)
    refine lv_aload_n hx hb dX5_notes_55 rfl (lv_at hl 1 rfl) ?_
    refine va_get (D := (dC, dI)) (ci := 4) (v := .ref (a 5)) (C := RX5) (T := TX5) (N := 16) hx hb hts hi5 hown hK hP 0 rfl rfl 9 (by decide) (hts (.fieldLink RX5 27 "BurstWordsModel" "undos" "[J") (by decide +kernel)) (fun _ h9 => h9) rfl dX5_notes_56 ?_
    refine lv_iload_n hx hb dX5_notes_59 rfl (lv_at hl 0 rfl) ?_
    refine lv_aload_n hx hb dX5_notes_60 rfl (lv_at hl 1 rfl) ?_
    refine va_get (D := (dC, dI)) (ci := 4) (v := .int (nI (n))) (C := RX5) (T := TX5) (N := 16) hx hb hts hi5 hown hK hP 0 rfl rfl 6 (by decide) (hts (.fieldLink RX5 67 "BurstWordsModel" "many" "I") (by decide +kernel)) (fun _ h9 => h9) rfl dX5_notes_61 ?_
    refine lv_i2l (v := lN (n)) hx hb dX5_notes_64 (nI_l (by omega)) ?_
    refine s_l (k := 282 * um) hx hb hK hP hD hS 5 1 rfl rfl (hin := (by omega)) (hn := by decide) (hdg := dX5_notes_65) (fun H locs hP hD hS => ?_)
    have hP : va_P (dC, dI) vwCl (wm a cI cJ cZ ty tm b wo of n no nm (vp_updL un (282 * um) (lN (n))) um sa sl si sn tk) H := hP
    have hD : va_D A (wm a cI cJ cZ ty tm b wo of n no nm (vp_updL un (282 * um) (lN (n))) um sa sl si sn tk) := hD
    refine lv_aload_n hx hb dX5_notes_66 rfl (lv_at hl 1 rfl) ?_
    refine va_get (D := (dC, dI)) (ci := 4) (v := .ref (a 5)) (C := RX5) (T := TX5) (N := 16) hx hb hts hi5 hown hK hP 0 rfl rfl 9 (by decide) (hts (.fieldLink RX5 27 "BurstWordsModel" "undos" "[J") (by decide +kernel)) (fun _ h9 => h9) rfl dX5_notes_67 ?_
    refine lv_iload_n hx hb dX5_notes_70 rfl (lv_at hl 0 rfl) ?_
    refine lv_iconst (v := nI (1)) hx hb dX5_notes_71 (by decide) ?_
    refine lv_iadd hx hb dX5_notes_72 ?_
    refine tpi (nI_add _ _) ?_
    refine lv_aload_n hx hb dX5_notes_73 rfl (lv_at hl 1 rfl) ?_
    refine va_get (D := (dC, dI)) (ci := 4) (v := .int (nI (nm))) (C := RX5) (T := TX5) (N := 16) hx hb hts hi5 hown hK hP 0 rfl rfl 8 (by decide) (hts (.fieldLink RX5 74 "BurstWordsModel" "nodeMany" "I") (by decide +kernel)) (fun _ h9 => h9) rfl dX5_notes_74 ?_
    refine lv_i2l (v := lN (nm)) hx hb dX5_notes_77 (nI_l (by omega)) ?_
    refine s_l (k := (282 * um) + 1) hx hb hK hP hD hS 5 1 rfl rfl (hin := (by omega)) (hn := by decide) (hdg := dX5_notes_78) (fun H locs hP hD hS => ?_)
    have hP : va_P (dC, dI) vwCl (wm a cI cJ cZ ty tm b wo of n no nm (vp_updL (vp_updL un (282 * um) (lN (n))) ((282 * um) + 1) (lN (nm))) um sa sl si sn tk) H := hP
    have hD : va_D A (wm a cI cJ cZ ty tm b wo of n no nm (vp_updL (vp_updL un (282 * um) (lN (n))) ((282 * um) + 1) (lN (nm))) um sa sl si sn tk) := hD
    refine lv_iconst (v := nI (0)) hx hb dX5_notes_79 (by decide) ?_
    refine lv_istore_n (lv' := [(2, .int (nI (0))), (1, .int (nI (282 * um))), (0, .ref (a 0))]) hx hb dX5_notes_80 rfl hl (by decide) rfl (fun ls hl => ?_)
    have lp_81 : ∀ (j_81 : Nat) (i : Nat) (un1 : Nat → Int64) (bs : Nat) (ub : Nat → Int64), (i ≤ 40) → (bs ≤ 3102) → ((bs = 282 * um ∧ um < 12 ∧ ub = un) ∨ (um = 12 ∧ bs = 3102 ∧ ub = fun j => un (j + 282))) → (un1 bs = lN n) → (un1 (bs + 1) = lN nm) → (∀ k, k < i → un1 (bs + 2 + k) = wo k ∧ un1 (bs + 42 + k) = (of k).toInt64) → (∀ j, j < bs → un1 j = ub j) → (40 - i) < j_81 → ∀ (H : Heap) (locs : List Loc), va_P (dC, dI) vwCl (wm a cI cJ cZ ty tm b wo of n no nm un1 um sa sl si sn tk) H → va_D A (wm a cI cJ cZ ty tm b wo of n no nm un1 um sa sl si sn tk) → va_S A s.heap H locs → ∀ ls : Array Slot, lv_has ls 3 [(0, .ref (a 0)), (1, .int (nI (bs))), (2, .int (nI (i)))] → W p l e rm_X5_notes s m ([.ref (a 0)] : List Value).toArray below meth c H locs 0 0 QQ (F0 m 81 ls []) := by
      intro j_81
      induction j_81 with
      | zero => intro i un1 bs ub _ _ _ _ _ _ _ h0; exact absurd h0 (Nat.not_lt_zero _)
      | succ j_81 ih_81 =>
        intro i un1 bs ub hi hbs hq h0 h1 hw hb2 hf_81 H locs hP hD hS ls hl
        refine lv_iload_n hx hb dX5_notes_81 rfl (lv_at hl 2 rfl) ?_
        refine lv_bipush (v := nI (40)) hx hb dX5_notes_82 (by decide) ?_
        refine n_ge (tgt := 127) hx hb dX5_notes_84 (by decide) (by omega) (by omega) (fun c_84 => ?_) (fun c_84 => ?_)
        · refine lv_iconst (v := nI (0)) hx hb dX5_notes_127 (by decide) ?_
          refine lv_istore_n (lv' := [(2, .int (nI (0))), (0, .ref (a 0)), (1, .int (nI (bs)))]) hx hb dX5_notes_128 rfl hl (by decide) rfl (fun ls hl => ?_)
          have lp_129 : ∀ (j_129 : Nat) (i : Nat) (un1 : Nat → Int64), (i ≤ 200) → (un1 bs = lN n) → (un1 (bs + 1) = lN nm) → (∀ k, k < 40 → un1 (bs + 2 + k) = wo k ∧ un1 (bs + 42 + k) = (of k).toInt64) → (∀ j, j < bs → un1 j = ub j) → (∀ k, k < i → un1 (bs + 82 + k) = no k) → (200 - i) < j_129 → ∀ (H : Heap) (locs : List Loc), va_P (dC, dI) vwCl (wm a cI cJ cZ ty tm b wo of n no nm un1 um sa sl si sn tk) H → va_D A (wm a cI cJ cZ ty tm b wo of n no nm un1 um sa sl si sn tk) → va_S A s.heap H locs → ∀ ls : Array Slot, lv_has ls 3 [(0, .ref (a 0)), (1, .int (nI (bs))), (2, .int (nI (i)))] → W p l e rm_X5_notes s m ([.ref (a 0)] : List Value).toArray below meth c H locs 0 0 QQ (F0 m 129 ls []) := by
            intro j_129
            induction j_129 with
            | zero => intro i un1 _ _ _ _ _ _ h0; exact absurd h0 (Nat.not_lt_zero _)
            | succ j_129 ih_129 =>
              intro i un1 hi2 h0 h1 hw hb2 hn2 hf_129 H locs hP hD hS ls hl
              refine lv_iload_n hx hb dX5_notes_129 rfl (lv_at hl 2 rfl) ?_
              refine lv_sipush (v := nI (200)) hx hb dX5_notes_130 (by decide) ?_
              refine n_ge (tgt := 159) hx hb dX5_notes_133 (by decide) (by omega) (by omega) (fun c_133 => ?_) (fun c_133 => ?_)
              · refine lv_aload_n hx hb dX5_notes_159 rfl (lv_at hl 0 rfl) ?_
                refine lv_dup hx hb dX5_notes_160 rfl ?_
                refine va_get (D := (dC, dI)) (ci := 4) (v := .int (nI (um))) (C := RX5) (T := TX5) (N := 16) hx hb hts hi5 hown hK hP 0 rfl rfl 10 (by decide) (hts (.fieldLink RX5 85 "BurstWordsModel" "undoMany" "I") (by decide +kernel)) (fun _ h9 => h9) rfl dX5_notes_161 ?_
                refine lv_iconst (v := nI (1)) hx hb dX5_notes_164 (by decide) ?_
                refine lv_iadd hx hb dX5_notes_165 ?_
                refine tpi (nI_add _ _) ?_
                refine va_put (D := (dC, dI)) (ci := 4) (v := .int (nI (um + 1))) (ty := .int) (C := RX5) (T := TX5) (N := 16) hx hb hts hi5 tyX5 tyX5_ok nmX5 hown hK hP hD hS 0 rfl rfl 10 (by decide) (hts (.fieldLink RX5 85 "BurstWordsModel" "undoMany" "I") (by decide +kernel)) (fun _ h9 => h9) rfl (by decide +kernel) rfl rfl (Nat.le_of_ble_eq_true rfl) dX5_notes_166 (fun H locs hP hD hS => ?_)
                have hP : va_P (dC, dI) vwCl (wm a cI cJ cZ ty tm b wo of n no nm un1 (um + 1) sa sl si sn tk) H := hP
                have hD : va_D A (wm a cI cJ cZ ty tm b wo of n no nm un1 (um + 1) sa sl si sn tk) := hD
                rw [← hQQ]
                exact m_v (un1, um + 1) hx hb hr hlocks (bNo_a hmd hmn hq h0 h1 hw (fun k h => hn2 k (by omega)) hb2 (by omega)) hP hD hS dX5_notes_169
              · refine lv_aload_n hx hb dX5_notes_136 rfl (lv_at hl 0 rfl) ?_
                refine va_get (D := (dC, dI)) (ci := 4) (v := .ref (a 5)) (C := RX5) (T := TX5) (N := 16) hx hb hts hi5 hown hK hP 0 rfl rfl 9 (by decide) (hts (.fieldLink RX5 27 "BurstWordsModel" "undos" "[J") (by decide +kernel)) (fun _ h9 => h9) rfl dX5_notes_137 ?_
                refine lv_iload_n hx hb dX5_notes_140 rfl (lv_at hl 1 rfl) ?_
                refine lv_bipush (v := nI (82)) hx hb dX5_notes_141 (by decide) ?_
                refine lv_iadd hx hb dX5_notes_143 ?_
                refine tpi (nI_add _ _) ?_
                refine lv_iload_n hx hb dX5_notes_144 rfl (lv_at hl 2 rfl) ?_
                refine lv_iadd hx hb dX5_notes_145 ?_
                refine tpi (nI_add _ _) ?_
                refine lv_aload_n hx hb dX5_notes_146 rfl (lv_at hl 0 rfl) ?_
                refine va_get (D := (dC, dI)) (ci := 4) (v := .ref (a 4)) (C := RX5) (T := TX5) (N := 16) hx hb hts hi5 hown hK hP 0 rfl rfl 7 (by decide) (hts (.fieldLink RX5 24 "BurstWordsModel" "node" "[J") (by decide +kernel)) (fun _ h9 => h9) rfl dX5_notes_147 ?_
                refine lv_iload_n hx hb dX5_notes_150 rfl (lv_at hl 2 rfl) ?_
                refine g_l hx hb hK hP 4 1 rfl rfl (k := i) (by omega) (by decide) dX5_notes_151 (v := no i) rfl ?_
                refine s_l (k := (bs + 82) + i) hx hb hK hP hD hS 5 1 rfl rfl (hin := (by omega)) (hn := by decide) (hdg := dX5_notes_152) (fun H locs hP hD hS => ?_)
                have hP : va_P (dC, dI) vwCl (wm a cI cJ cZ ty tm b wo of n no nm (vp_updL un1 ((bs + 82) + i) (no i)) um sa sl si sn tk) H := hP
                have hD : va_D A (wm a cI cJ cZ ty tm b wo of n no nm (vp_updL un1 ((bs + 82) + i) (no i)) um sa sl si sn tk) := hD
                refine lv_iinc (v := nI (i + 1)) (lv' := [(2, .int (nI (i + 1))), (0, .ref (a 0)), (1, .int (nI (bs)))]) hx hb dX5_notes_153 hl (k := 2) rfl (inc1 _) (by decide) rfl (fun ls hl => ?_)
                refine lv_goto (tgt := 129) hx hb dX5_notes_156 (by decide) ?_
                exact ih_129 (i + 1) (vp_updL un1 ((bs + 82) + i) (no i)) (by omega) (by rw [pk_uLn (by omega)]; exact h0) (by rw [pk_uLn (by omega)]; exact h1) (fun k h => ⟨by rw [pk_uLn (by omega)]; exact (hw k h).1, by rw [pk_uLn (by omega)]; exact (hw k h).2⟩) (fun j h => by rw [pk_uLn (by omega)]; exact hb2 j h) (lt_s (fun k h => by rw [pk_uLn (by omega)]; exact hn2 k h) pk_uLs) (by omega) _ _ hP hD hS ls (lv_sub hl [1, 2, 0] rfl)
          exact lp_129 _ (0) (un1) (by omega) h0 h1 (fun k h => hw k (by omega)) hb2 lt_0 (Nat.lt_succ_self _) _ _ hP hD hS ls (lv_sub hl [1, 2, 0] rfl)
        · refine lv_aload_n hx hb dX5_notes_87 rfl (lv_at hl 0 rfl) ?_
          refine va_get (D := (dC, dI)) (ci := 4) (v := .ref (a 5)) (C := RX5) (T := TX5) (N := 16) hx hb hts hi5 hown hK hP 0 rfl rfl 9 (by decide) (hts (.fieldLink RX5 27 "BurstWordsModel" "undos" "[J") (by decide +kernel)) (fun _ h9 => h9) rfl dX5_notes_88 ?_
          refine lv_iload_n hx hb dX5_notes_91 rfl (lv_at hl 1 rfl) ?_
          refine lv_iconst (v := nI (2)) hx hb dX5_notes_92 (by decide) ?_
          refine lv_iadd hx hb dX5_notes_93 ?_
          refine tpi (nI_add _ _) ?_
          refine lv_iload_n hx hb dX5_notes_94 rfl (lv_at hl 2 rfl) ?_
          refine lv_iadd hx hb dX5_notes_95 ?_
          refine tpi (nI_add _ _) ?_
          refine lv_aload_n hx hb dX5_notes_96 rfl (lv_at hl 0 rfl) ?_
          refine va_get (D := (dC, dI)) (ci := 4) (v := .ref (a 2)) (C := RX5) (T := TX5) (N := 16) hx hb hts hi5 hown hK hP 0 rfl rfl 4 (by decide) (hts (.fieldLink RX5 17 "BurstWordsModel" "word" "[J") (by decide +kernel)) (fun _ h9 => h9) rfl dX5_notes_97 ?_
          refine lv_iload_n hx hb dX5_notes_100 rfl (lv_at hl 2 rfl) ?_
          refine g_l hx hb hK hP 2 1 rfl rfl (k := i) (by omega) (by decide) dX5_notes_101 (v := wo i) rfl ?_
          refine s_l (k := (bs + 2) + i) hx hb hK hP hD hS 5 1 rfl rfl (hin := (by omega)) (hn := by decide) (hdg := dX5_notes_102) (fun H locs hP hD hS => ?_)
          have hP : va_P (dC, dI) vwCl (wm a cI cJ cZ ty tm b wo of n no nm (vp_updL un1 ((bs + 2) + i) (wo i)) um sa sl si sn tk) H := hP
          have hD : va_D A (wm a cI cJ cZ ty tm b wo of n no nm (vp_updL un1 ((bs + 2) + i) (wo i)) um sa sl si sn tk) := hD
          refine lv_aload_n hx hb dX5_notes_103 rfl (lv_at hl 0 rfl) ?_
          refine va_get (D := (dC, dI)) (ci := 4) (v := .ref (a 5)) (C := RX5) (T := TX5) (N := 16) hx hb hts hi5 hown hK hP 0 rfl rfl 9 (by decide) (hts (.fieldLink RX5 27 "BurstWordsModel" "undos" "[J") (by decide +kernel)) (fun _ h9 => h9) rfl dX5_notes_104 ?_
          refine lv_iload_n hx hb dX5_notes_107 rfl (lv_at hl 1 rfl) ?_
          refine lv_bipush (v := nI (42)) hx hb dX5_notes_108 (by decide) ?_
          refine lv_iadd hx hb dX5_notes_110 ?_
          refine tpi (nI_add _ _) ?_
          refine lv_iload_n hx hb dX5_notes_111 rfl (lv_at hl 2 rfl) ?_
          refine lv_iadd hx hb dX5_notes_112 ?_
          refine tpi (nI_add _ _) ?_
          refine lv_aload_n hx hb dX5_notes_113 rfl (lv_at hl 0 rfl) ?_
          refine va_get (D := (dC, dI)) (ci := 4) (v := .ref (a 3)) (C := RX5) (T := TX5) (N := 16) hx hb hts hi5 hown hK hP 0 rfl rfl 5 (by decide) (hts (.fieldLink RX5 21 "BurstWordsModel" "often" "[I") (by decide +kernel)) (fun _ h9 => h9) rfl dX5_notes_114 ?_
          refine lv_iload_n hx hb dX5_notes_117 rfl (lv_at hl 2 rfl) ?_
          refine g_i hx hb hK hP 3 0 rfl rfl (k := i) (by omega) (by decide) dX5_notes_118 (v := of i) rfl ?_
          refine lv_i2l (v := (of i).toInt64) hx hb dX5_notes_119 rfl ?_
          refine s_l (k := (bs + 42) + i) hx hb hK hP hD hS 5 1 rfl rfl (hin := (by omega)) (hn := by decide) (hdg := dX5_notes_120) (fun H locs hP hD hS => ?_)
          have hP : va_P (dC, dI) vwCl (wm a cI cJ cZ ty tm b wo of n no nm (vp_updL (vp_updL un1 ((bs + 2) + i) (wo i)) ((bs + 42) + i) ((of i).toInt64)) um sa sl si sn tk) H := hP
          have hD : va_D A (wm a cI cJ cZ ty tm b wo of n no nm (vp_updL (vp_updL un1 ((bs + 2) + i) (wo i)) ((bs + 42) + i) ((of i).toInt64)) um sa sl si sn tk) := hD
          refine lv_iinc (v := nI (i + 1)) (lv' := [(2, .int (nI (i + 1))), (0, .ref (a 0)), (1, .int (nI (bs)))]) hx hb dX5_notes_121 hl (k := 2) rfl (inc1 _) (by decide) rfl (fun ls hl => ?_)
          refine lv_goto (tgt := 81) hx hb dX5_notes_124 (by decide) ?_
          exact ih_81 (i + 1) (vp_updL (vp_updL un1 ((bs + 2) + i) (wo i)) ((bs + 42) + i) ((of i).toInt64)) (bs) (ub) (by omega) (by omega) hq (by rw [pk_uLn (by omega), pk_uLn (by omega)]; exact h0) (by rw [pk_uLn (by omega), pk_uLn (by omega)]; exact h1) (lt_s (fun k h => ⟨by rw [pk_uLn (by omega), pk_uLn (by omega)]; exact (hw k h).1, by rw [pk_uLn (by omega), pk_uLn (by omega)]; exact (hw k h).2⟩) ⟨by rw [pk_uLn (by omega), pk_uLs], pk_uLs⟩) (fun j h => by rw [pk_uLn (by omega), pk_uLn (by omega)]; exact hb2 j h) (by omega) _ _ hP hD hS ls (lv_sub hl [1, 2, 0] rfl)
    exact lp_81 _ (0) (vp_updL (vp_updL un (282 * um) (lN (n))) ((282 * um) + 1) (lN (nm))) (282 * um) (un) (by omega) (by omega) (Or.inl ⟨rfl, by omega, rfl⟩) (by rw [pk_uLn (by omega), pk_uLs]) pk_uLs lt_0 (fun j h => by rw [pk_uLn (by omega), pk_uLn (by omega)]) (Nat.lt_succ_self _) _ _ hP hD hS ls (lv_sub hl [2, 1, 0] rfl)
  · refine lv_iconst (v := nI (0)) hx hb dX5_notes_9 (by decide) ?_
    refine lv_istore_n (lv' := [(1, .int (nI (0))), (0, .ref (a 0))]) hx hb dX5_notes_10 rfl hl (by decide) rfl (fun ls hl => ?_)
    have lp_11 : ∀ (j_11 : Nat) (i : Nat) (un1 : Nat → Int64), (i ≤ 3102) → (∀ j, j < i → un1 j = un (j + 282)) → (∀ j, i ≤ j → un1 j = un j) → (3102 - i) < j_11 → ∀ (H : Heap) (locs : List Loc), va_P (dC, dI) vwCl (wm a cI cJ cZ ty tm b wo of n no nm un1 um sa sl si sn tk) H → va_D A (wm a cI cJ cZ ty tm b wo of n no nm un1 um sa sl si sn tk) → va_S A s.heap H locs → ∀ ls : Array Slot, lv_has ls 3 [(0, .ref (a 0)), (1, .int (nI (i)))] → W p l e rm_X5_notes s m ([.ref (a 0)] : List Value).toArray below meth c H locs 0 0 QQ (F0 m 11 ls []) := by
      intro j_11
      induction j_11 with
      | zero => intro i un1 _ _ _ h0; exact absurd h0 (Nat.not_lt_zero _)
      | succ j_11 ih_11 =>
        intro i un1 hi h1a h2a hf_11 H locs hP hD hS ls hl
        refine lv_iload_n hx hb dX5_notes_11 rfl (lv_at hl 1 rfl) ?_
        refine lv_sipush (v := nI (3102)) hx hb dX5_notes_12 (by decide) ?_
        refine n_ge (tgt := 40) hx hb dX5_notes_15 (by decide) (by omega) (by omega) (fun c_15 => ?_) (fun c_15 => ?_)
        · refine lv_aload_n hx hb dX5_notes_40 rfl (lv_at hl 0 rfl) ?_
          refine lv_bipush (v := nI (11)) hx hb dX5_notes_41 (by decide) ?_
          refine va_put (D := (dC, dI)) (ci := 4) (v := .int (nI (11))) (ty := .int) (C := RX5) (T := TX5) (N := 16) hx hb hts hi5 tyX5 tyX5_ok nmX5 hown hK hP hD hS 0 rfl rfl 10 (by decide) (hts (.fieldLink RX5 85 "BurstWordsModel" "undoMany" "I") (by decide +kernel)) (fun _ h9 => h9) rfl (by decide +kernel) rfl rfl (Nat.le_of_ble_eq_true rfl) dX5_notes_43 (fun H locs hP hD hS => ?_)
          have hP : va_P (dC, dI) vwCl (wm a cI cJ cZ ty tm b wo of n no nm un1 11 sa sl si sn tk) H := hP
          have hD : va_D A (wm a cI cJ cZ ty tm b wo of n no nm un1 11 sa sl si sn tk) := hD
          refine lv_sipush (v := nI (282)) hx hb dX5_notes_46 (by decide) ?_
          refine lv_aload_n hx hb dX5_notes_49 rfl (lv_at hl 0 rfl) ?_
          refine va_get (D := (dC, dI)) (ci := 4) (v := .int (nI (11))) (C := RX5) (T := TX5) (N := 16) hx hb hts hi5 hown hK hP 0 rfl rfl 10 (by decide) (hts (.fieldLink RX5 85 "BurstWordsModel" "undoMany" "I") (by decide +kernel)) (fun _ h9 => h9) rfl dX5_notes_50 ?_
          refine lv_imul hx hb dX5_notes_53 ?_
          refine tpi (pk_mul _ _) ?_
          refine lv_istore_n (lv' := [(1, .int (nI (282 * 11))), (0, .ref (a 0))]) hx hb dX5_notes_54 rfl hl (by decide) rfl (fun ls hl => ?_)
          refine lv_aload_n hx hb dX5_notes_55 rfl (lv_at hl 1 rfl) ?_
          refine va_get (D := (dC, dI)) (ci := 4) (v := .ref (a 5)) (C := RX5) (T := TX5) (N := 16) hx hb hts hi5 hown hK hP 0 rfl rfl 9 (by decide) (hts (.fieldLink RX5 27 "BurstWordsModel" "undos" "[J") (by decide +kernel)) (fun _ h9 => h9) rfl dX5_notes_56 ?_
          refine lv_iload_n hx hb dX5_notes_59 rfl (lv_at hl 0 rfl) ?_
          refine lv_aload_n hx hb dX5_notes_60 rfl (lv_at hl 1 rfl) ?_
          refine va_get (D := (dC, dI)) (ci := 4) (v := .int (nI (n))) (C := RX5) (T := TX5) (N := 16) hx hb hts hi5 hown hK hP 0 rfl rfl 6 (by decide) (hts (.fieldLink RX5 67 "BurstWordsModel" "many" "I") (by decide +kernel)) (fun _ h9 => h9) rfl dX5_notes_61 ?_
          refine lv_i2l (v := lN (n)) hx hb dX5_notes_64 (nI_l (by omega)) ?_
          refine s_l (k := 282 * 11) hx hb hK hP hD hS 5 1 rfl rfl (hin := (by omega)) (hn := by decide) (hdg := dX5_notes_65) (fun H locs hP hD hS => ?_)
          have hP : va_P (dC, dI) vwCl (wm a cI cJ cZ ty tm b wo of n no nm (vp_updL un1 (282 * 11) (lN (n))) 11 sa sl si sn tk) H := hP
          have hD : va_D A (wm a cI cJ cZ ty tm b wo of n no nm (vp_updL un1 (282 * 11) (lN (n))) 11 sa sl si sn tk) := hD
          refine lv_aload_n hx hb dX5_notes_66 rfl (lv_at hl 1 rfl) ?_
          refine va_get (D := (dC, dI)) (ci := 4) (v := .ref (a 5)) (C := RX5) (T := TX5) (N := 16) hx hb hts hi5 hown hK hP 0 rfl rfl 9 (by decide) (hts (.fieldLink RX5 27 "BurstWordsModel" "undos" "[J") (by decide +kernel)) (fun _ h9 => h9) rfl dX5_notes_67 ?_
          refine lv_iload_n hx hb dX5_notes_70 rfl (lv_at hl 0 rfl) ?_
          refine lv_iconst (v := nI (1)) hx hb dX5_notes_71 (by decide) ?_
          refine lv_iadd hx hb dX5_notes_72 ?_
          refine tpi (nI_add _ _) ?_
          refine lv_aload_n hx hb dX5_notes_73 rfl (lv_at hl 1 rfl) ?_
          refine va_get (D := (dC, dI)) (ci := 4) (v := .int (nI (nm))) (C := RX5) (T := TX5) (N := 16) hx hb hts hi5 hown hK hP 0 rfl rfl 8 (by decide) (hts (.fieldLink RX5 74 "BurstWordsModel" "nodeMany" "I") (by decide +kernel)) (fun _ h9 => h9) rfl dX5_notes_74 ?_
          refine lv_i2l (v := lN (nm)) hx hb dX5_notes_77 (nI_l (by omega)) ?_
          refine s_l (k := (282 * 11) + 1) hx hb hK hP hD hS 5 1 rfl rfl (hin := (by omega)) (hn := by decide) (hdg := dX5_notes_78) (fun H locs hP hD hS => ?_)
          have hP : va_P (dC, dI) vwCl (wm a cI cJ cZ ty tm b wo of n no nm (vp_updL (vp_updL un1 (282 * 11) (lN (n))) ((282 * 11) + 1) (lN (nm))) 11 sa sl si sn tk) H := hP
          have hD : va_D A (wm a cI cJ cZ ty tm b wo of n no nm (vp_updL (vp_updL un1 (282 * 11) (lN (n))) ((282 * 11) + 1) (lN (nm))) 11 sa sl si sn tk) := hD
          refine lv_iconst (v := nI (0)) hx hb dX5_notes_79 (by decide) ?_
          refine lv_istore_n (lv' := [(2, .int (nI (0))), (1, .int (nI (282 * 11))), (0, .ref (a 0))]) hx hb dX5_notes_80 rfl hl (by decide) rfl (fun ls hl => ?_)
          have lp_81 : ∀ (j_81 : Nat) (i : Nat) (un1 : Nat → Int64) (bs : Nat) (ub : Nat → Int64), (i ≤ 40) → (bs ≤ 3102) → ((bs = 282 * um ∧ um < 12 ∧ ub = un) ∨ (um = 12 ∧ bs = 3102 ∧ ub = fun j => un (j + 282))) → (un1 bs = lN n) → (un1 (bs + 1) = lN nm) → (∀ k, k < i → un1 (bs + 2 + k) = wo k ∧ un1 (bs + 42 + k) = (of k).toInt64) → (∀ j, j < bs → un1 j = ub j) → (40 - i) < j_81 → ∀ (H : Heap) (locs : List Loc), va_P (dC, dI) vwCl (wm a cI cJ cZ ty tm b wo of n no nm un1 11 sa sl si sn tk) H → va_D A (wm a cI cJ cZ ty tm b wo of n no nm un1 11 sa sl si sn tk) → va_S A s.heap H locs → ∀ ls : Array Slot, lv_has ls 3 [(0, .ref (a 0)), (1, .int (nI (bs))), (2, .int (nI (i)))] → W p l e rm_X5_notes s m ([.ref (a 0)] : List Value).toArray below meth c H locs 0 0 QQ (F0 m 81 ls []) := by
            intro j_81
            induction j_81 with
            | zero => intro i un1 bs ub _ _ _ _ _ _ _ h0; exact absurd h0 (Nat.not_lt_zero _)
            | succ j_81 ih_81 =>
              intro i un1 bs ub hi hbs hq h0 h1 hw hb2 hf_81 H locs hP hD hS ls hl
              refine lv_iload_n hx hb dX5_notes_81 rfl (lv_at hl 2 rfl) ?_
              refine lv_bipush (v := nI (40)) hx hb dX5_notes_82 (by decide) ?_
              refine n_ge (tgt := 127) hx hb dX5_notes_84 (by decide) (by omega) (by omega) (fun c_84 => ?_) (fun c_84 => ?_)
              · refine lv_iconst (v := nI (0)) hx hb dX5_notes_127 (by decide) ?_
                refine lv_istore_n (lv' := [(2, .int (nI (0))), (0, .ref (a 0)), (1, .int (nI (bs)))]) hx hb dX5_notes_128 rfl hl (by decide) rfl (fun ls hl => ?_)
                have lp_129 : ∀ (j_129 : Nat) (i : Nat) (un1 : Nat → Int64), (i ≤ 200) → (un1 bs = lN n) → (un1 (bs + 1) = lN nm) → (∀ k, k < 40 → un1 (bs + 2 + k) = wo k ∧ un1 (bs + 42 + k) = (of k).toInt64) → (∀ j, j < bs → un1 j = ub j) → (∀ k, k < i → un1 (bs + 82 + k) = no k) → (200 - i) < j_129 → ∀ (H : Heap) (locs : List Loc), va_P (dC, dI) vwCl (wm a cI cJ cZ ty tm b wo of n no nm un1 11 sa sl si sn tk) H → va_D A (wm a cI cJ cZ ty tm b wo of n no nm un1 11 sa sl si sn tk) → va_S A s.heap H locs → ∀ ls : Array Slot, lv_has ls 3 [(0, .ref (a 0)), (1, .int (nI (bs))), (2, .int (nI (i)))] → W p l e rm_X5_notes s m ([.ref (a 0)] : List Value).toArray below meth c H locs 0 0 QQ (F0 m 129 ls []) := by
                  intro j_129
                  induction j_129 with
                  | zero => intro i un1 _ _ _ _ _ _ h0; exact absurd h0 (Nat.not_lt_zero _)
                  | succ j_129 ih_129 =>
                    intro i un1 hi2 h0 h1 hw hb2 hn2 hf_129 H locs hP hD hS ls hl
                    refine lv_iload_n hx hb dX5_notes_129 rfl (lv_at hl 2 rfl) ?_
                    refine lv_sipush (v := nI (200)) hx hb dX5_notes_130 (by decide) ?_
                    refine n_ge (tgt := 159) hx hb dX5_notes_133 (by decide) (by omega) (by omega) (fun c_133 => ?_) (fun c_133 => ?_)
                    · refine lv_aload_n hx hb dX5_notes_159 rfl (lv_at hl 0 rfl) ?_
                      refine lv_dup hx hb dX5_notes_160 rfl ?_
                      refine va_get (D := (dC, dI)) (ci := 4) (v := .int (nI (11))) (C := RX5) (T := TX5) (N := 16) hx hb hts hi5 hown hK hP 0 rfl rfl 10 (by decide) (hts (.fieldLink RX5 85 "BurstWordsModel" "undoMany" "I") (by decide +kernel)) (fun _ h9 => h9) rfl dX5_notes_161 ?_
                      refine lv_iconst (v := nI (1)) hx hb dX5_notes_164 (by decide) ?_
                      refine lv_iadd hx hb dX5_notes_165 ?_
                      refine tpi (nI_add _ _) ?_
                      refine va_put (D := (dC, dI)) (ci := 4) (v := .int (nI (11 + 1))) (ty := .int) (C := RX5) (T := TX5) (N := 16) hx hb hts hi5 tyX5 tyX5_ok nmX5 hown hK hP hD hS 0 rfl rfl 10 (by decide) (hts (.fieldLink RX5 85 "BurstWordsModel" "undoMany" "I") (by decide +kernel)) (fun _ h9 => h9) rfl (by decide +kernel) rfl rfl (Nat.le_of_ble_eq_true rfl) dX5_notes_166 (fun H locs hP hD hS => ?_)
                      have hP : va_P (dC, dI) vwCl (wm a cI cJ cZ ty tm b wo of n no nm un1 (11 + 1) sa sl si sn tk) H := hP
                      have hD : va_D A (wm a cI cJ cZ ty tm b wo of n no nm un1 (11 + 1) sa sl si sn tk) := hD
                      rw [← hQQ]
                      exact m_v (un1, 11 + 1) hx hb hr hlocks (bNo_b hmd hmn hq h0 h1 hw (fun k h => hn2 k (by omega)) hb2 (by omega)) hP hD hS dX5_notes_169
                    · refine lv_aload_n hx hb dX5_notes_136 rfl (lv_at hl 0 rfl) ?_
                      refine va_get (D := (dC, dI)) (ci := 4) (v := .ref (a 5)) (C := RX5) (T := TX5) (N := 16) hx hb hts hi5 hown hK hP 0 rfl rfl 9 (by decide) (hts (.fieldLink RX5 27 "BurstWordsModel" "undos" "[J") (by decide +kernel)) (fun _ h9 => h9) rfl dX5_notes_137 ?_
                      refine lv_iload_n hx hb dX5_notes_140 rfl (lv_at hl 1 rfl) ?_
                      refine lv_bipush (v := nI (82)) hx hb dX5_notes_141 (by decide) ?_
                      refine lv_iadd hx hb dX5_notes_143 ?_
                      refine tpi (nI_add _ _) ?_
                      refine lv_iload_n hx hb dX5_notes_144 rfl (lv_at hl 2 rfl) ?_
                      refine lv_iadd hx hb dX5_notes_145 ?_
                      refine tpi (nI_add _ _) ?_
                      refine lv_aload_n hx hb dX5_notes_146 rfl (lv_at hl 0 rfl) ?_
                      refine va_get (D := (dC, dI)) (ci := 4) (v := .ref (a 4)) (C := RX5) (T := TX5) (N := 16) hx hb hts hi5 hown hK hP 0 rfl rfl 7 (by decide) (hts (.fieldLink RX5 24 "BurstWordsModel" "node" "[J") (by decide +kernel)) (fun _ h9 => h9) rfl dX5_notes_147 ?_
                      refine lv_iload_n hx hb dX5_notes_150 rfl (lv_at hl 2 rfl) ?_
                      refine g_l hx hb hK hP 4 1 rfl rfl (k := i) (by omega) (by decide) dX5_notes_151 (v := no i) rfl ?_
                      refine s_l (k := (bs + 82) + i) hx hb hK hP hD hS 5 1 rfl rfl (hin := (by omega)) (hn := by decide) (hdg := dX5_notes_152) (fun H locs hP hD hS => ?_)
                      have hP : va_P (dC, dI) vwCl (wm a cI cJ cZ ty tm b wo of n no nm (vp_updL un1 ((bs + 82) + i) (no i)) 11 sa sl si sn tk) H := hP
                      have hD : va_D A (wm a cI cJ cZ ty tm b wo of n no nm (vp_updL un1 ((bs + 82) + i) (no i)) 11 sa sl si sn tk) := hD
                      refine lv_iinc (v := nI (i + 1)) (lv' := [(2, .int (nI (i + 1))), (0, .ref (a 0)), (1, .int (nI (bs)))]) hx hb dX5_notes_153 hl (k := 2) rfl (inc1 _) (by decide) rfl (fun ls hl => ?_)
                      refine lv_goto (tgt := 129) hx hb dX5_notes_156 (by decide) ?_
                      exact ih_129 (i + 1) (vp_updL un1 ((bs + 82) + i) (no i)) (by omega) (by rw [pk_uLn (by omega)]; exact h0) (by rw [pk_uLn (by omega)]; exact h1) (fun k h => ⟨by rw [pk_uLn (by omega)]; exact (hw k h).1, by rw [pk_uLn (by omega)]; exact (hw k h).2⟩) (fun j h => by rw [pk_uLn (by omega)]; exact hb2 j h) (lt_s (fun k h => by rw [pk_uLn (by omega)]; exact hn2 k h) pk_uLs) (by omega) _ _ hP hD hS ls (lv_sub hl [1, 2, 0] rfl)
                exact lp_129 _ (0) (un1) (by omega) h0 h1 (fun k h => hw k (by omega)) hb2 lt_0 (Nat.lt_succ_self _) _ _ hP hD hS ls (lv_sub hl [1, 2, 0] rfl)
              · refine lv_aload_n hx hb dX5_notes_87 rfl (lv_at hl 0 rfl) ?_
                refine va_get (D := (dC, dI)) (ci := 4) (v := .ref (a 5)) (C := RX5) (T := TX5) (N := 16) hx hb hts hi5 hown hK hP 0 rfl rfl 9 (by decide) (hts (.fieldLink RX5 27 "BurstWordsModel" "undos" "[J") (by decide +kernel)) (fun _ h9 => h9) rfl dX5_notes_88 ?_
                refine lv_iload_n hx hb dX5_notes_91 rfl (lv_at hl 1 rfl) ?_
                refine lv_iconst (v := nI (2)) hx hb dX5_notes_92 (by decide) ?_
                refine lv_iadd hx hb dX5_notes_93 ?_
                refine tpi (nI_add _ _) ?_
                refine lv_iload_n hx hb dX5_notes_94 rfl (lv_at hl 2 rfl) ?_
                refine lv_iadd hx hb dX5_notes_95 ?_
                refine tpi (nI_add _ _) ?_
                refine lv_aload_n hx hb dX5_notes_96 rfl (lv_at hl 0 rfl) ?_
                refine va_get (D := (dC, dI)) (ci := 4) (v := .ref (a 2)) (C := RX5) (T := TX5) (N := 16) hx hb hts hi5 hown hK hP 0 rfl rfl 4 (by decide) (hts (.fieldLink RX5 17 "BurstWordsModel" "word" "[J") (by decide +kernel)) (fun _ h9 => h9) rfl dX5_notes_97 ?_
                refine lv_iload_n hx hb dX5_notes_100 rfl (lv_at hl 2 rfl) ?_
                refine g_l hx hb hK hP 2 1 rfl rfl (k := i) (by omega) (by decide) dX5_notes_101 (v := wo i) rfl ?_
                refine s_l (k := (bs + 2) + i) hx hb hK hP hD hS 5 1 rfl rfl (hin := (by omega)) (hn := by decide) (hdg := dX5_notes_102) (fun H locs hP hD hS => ?_)
                have hP : va_P (dC, dI) vwCl (wm a cI cJ cZ ty tm b wo of n no nm (vp_updL un1 ((bs + 2) + i) (wo i)) 11 sa sl si sn tk) H := hP
                have hD : va_D A (wm a cI cJ cZ ty tm b wo of n no nm (vp_updL un1 ((bs + 2) + i) (wo i)) 11 sa sl si sn tk) := hD
                refine lv_aload_n hx hb dX5_notes_103 rfl (lv_at hl 0 rfl) ?_
                refine va_get (D := (dC, dI)) (ci := 4) (v := .ref (a 5)) (C := RX5) (T := TX5) (N := 16) hx hb hts hi5 hown hK hP 0 rfl rfl 9 (by decide) (hts (.fieldLink RX5 27 "BurstWordsModel" "undos" "[J") (by decide +kernel)) (fun _ h9 => h9) rfl dX5_notes_104 ?_
                refine lv_iload_n hx hb dX5_notes_107 rfl (lv_at hl 1 rfl) ?_
                refine lv_bipush (v := nI (42)) hx hb dX5_notes_108 (by decide) ?_
                refine lv_iadd hx hb dX5_notes_110 ?_
                refine tpi (nI_add _ _) ?_
                refine lv_iload_n hx hb dX5_notes_111 rfl (lv_at hl 2 rfl) ?_
                refine lv_iadd hx hb dX5_notes_112 ?_
                refine tpi (nI_add _ _) ?_
                refine lv_aload_n hx hb dX5_notes_113 rfl (lv_at hl 0 rfl) ?_
                refine va_get (D := (dC, dI)) (ci := 4) (v := .ref (a 3)) (C := RX5) (T := TX5) (N := 16) hx hb hts hi5 hown hK hP 0 rfl rfl 5 (by decide) (hts (.fieldLink RX5 21 "BurstWordsModel" "often" "[I") (by decide +kernel)) (fun _ h9 => h9) rfl dX5_notes_114 ?_
                refine lv_iload_n hx hb dX5_notes_117 rfl (lv_at hl 2 rfl) ?_
                refine g_i hx hb hK hP 3 0 rfl rfl (k := i) (by omega) (by decide) dX5_notes_118 (v := of i) rfl ?_
                refine lv_i2l (v := (of i).toInt64) hx hb dX5_notes_119 rfl ?_
                refine s_l (k := (bs + 42) + i) hx hb hK hP hD hS 5 1 rfl rfl (hin := (by omega)) (hn := by decide) (hdg := dX5_notes_120) (fun H locs hP hD hS => ?_)
                have hP : va_P (dC, dI) vwCl (wm a cI cJ cZ ty tm b wo of n no nm (vp_updL (vp_updL un1 ((bs + 2) + i) (wo i)) ((bs + 42) + i) ((of i).toInt64)) 11 sa sl si sn tk) H := hP
                have hD : va_D A (wm a cI cJ cZ ty tm b wo of n no nm (vp_updL (vp_updL un1 ((bs + 2) + i) (wo i)) ((bs + 42) + i) ((of i).toInt64)) 11 sa sl si sn tk) := hD
                refine lv_iinc (v := nI (i + 1)) (lv' := [(2, .int (nI (i + 1))), (0, .ref (a 0)), (1, .int (nI (bs)))]) hx hb dX5_notes_121 hl (k := 2) rfl (inc1 _) (by decide) rfl (fun ls hl => ?_)
                refine lv_goto (tgt := 81) hx hb dX5_notes_124 (by decide) ?_
                exact ih_81 (i + 1) (vp_updL (vp_updL un1 ((bs + 2) + i) (wo i)) ((bs + 42) + i) ((of i).toInt64)) (bs) (ub) (by omega) (by omega) hq (by rw [pk_uLn (by omega), pk_uLn (by omega)]; exact h0) (by rw [pk_uLn (by omega), pk_uLn (by omega)]; exact h1) (lt_s (fun k h => ⟨by rw [pk_uLn (by omega), pk_uLn (by omega)]; exact (hw k h).1, by rw [pk_uLn (by omega), pk_uLn (by omega)]; exact (hw k h).2⟩) ⟨by rw [pk_uLn (by omega), pk_uLs], pk_uLs⟩) (fun j h => by rw [pk_uLn (by omega), pk_uLn (by omega)]; exact hb2 j h) (by omega) _ _ hP hD hS ls (lv_sub hl [1, 2, 0] rfl)
          exact lp_81 _ (0) (vp_updL (vp_updL un1 (282 * 11) (lN (n))) ((282 * 11) + 1) (lN (nm))) (282 * 11) (fun j => un (j + 282)) (by omega) (by omega) (Or.inr ⟨by omega, rfl, rfl⟩) (by rw [pk_uLn (by omega), pk_uLs]) pk_uLs lt_0 (fun j h => by rw [pk_uLn (by omega), pk_uLn (by omega)]; exact h1a j (by omega)) (Nat.lt_succ_self _) _ _ hP hD hS ls (lv_sub hl [2, 1, 0] rfl)
        · refine lv_aload_n hx hb dX5_notes_18 rfl (lv_at hl 0 rfl) ?_
          refine va_get (D := (dC, dI)) (ci := 4) (v := .ref (a 5)) (C := RX5) (T := TX5) (N := 16) hx hb hts hi5 hown hK hP 0 rfl rfl 9 (by decide) (hts (.fieldLink RX5 27 "BurstWordsModel" "undos" "[J") (by decide +kernel)) (fun _ h9 => h9) rfl dX5_notes_19 ?_
          refine lv_iload_n hx hb dX5_notes_22 rfl (lv_at hl 1 rfl) ?_
          refine lv_aload_n hx hb dX5_notes_23 rfl (lv_at hl 0 rfl) ?_
          refine va_get (D := (dC, dI)) (ci := 4) (v := .ref (a 5)) (C := RX5) (T := TX5) (N := 16) hx hb hts hi5 hown hK hP 0 rfl rfl 9 (by decide) (hts (.fieldLink RX5 27 "BurstWordsModel" "undos" "[J") (by decide +kernel)) (fun _ h9 => h9) rfl dX5_notes_24 ?_
          refine lv_iload_n hx hb dX5_notes_27 rfl (lv_at hl 1 rfl) ?_
          refine lv_sipush (v := nI (282)) hx hb dX5_notes_28 (by decide) ?_
          refine lv_iadd hx hb dX5_notes_31 ?_
          refine tpi (nI_add _ _) ?_
          refine g_l hx hb hK hP 5 1 rfl rfl (k := i + 282) (by omega) (by decide) dX5_notes_32 (v := un (i + 282)) (h2a _ (by omega)) ?_
          refine s_l (k := i) hx hb hK hP hD hS 5 1 rfl rfl (hin := (by omega)) (hn := by decide) (hdg := dX5_notes_33) (fun H locs hP hD hS => ?_)
          have hP : va_P (dC, dI) vwCl (wm a cI cJ cZ ty tm b wo of n no nm (vp_updL un1 i (un (i + 282))) um sa sl si sn tk) H := hP
          have hD : va_D A (wm a cI cJ cZ ty tm b wo of n no nm (vp_updL un1 i (un (i + 282))) um sa sl si sn tk) := hD
          refine lv_iinc (v := nI (i + 1)) (lv' := [(1, .int (nI (i + 1))), (0, .ref (a 0))]) hx hb dX5_notes_34 hl (k := 1) rfl (inc1 _) (by decide) rfl (fun ls hl => ?_)
          refine lv_goto (tgt := 11) hx hb dX5_notes_37 (by decide) ?_
          exact ih_11 (i + 1) (vp_updL un1 i (un (i + 282))) (by omega) (lt_s (fun j h => by rw [pk_uLn (by omega)]; exact h1a j h) pk_uLs) (fun j h => by rw [pk_uLn (by omega)]; exact h2a j (by omega)) (by omega) _ _ hP hD hS ls (lv_sub hl [1, 0] rfl)
    exact lp_11 _ (0) (un) (by omega) lt_0 (fun _ _ => rfl) (Nat.lt_succ_self _) _ _ hP hD hS ls (lv_sub hl [1, 0] rfl)
abbrev rm_X5_leaves : Room := { frames := 0, cells := 0, slots := 0, locals := 0 }
set_option maxHeartbeats 4000000 in
set_option maxRecDepth 100000 in
theorem c_X5_leaves (l : Launch) (dC : Nat → ClassId) (dI : Nat → Nat → Nat) (cI cJ cZ : ClassId) (a : Nat → Nat) (ty : Nat → Int32) (tm b : Nat) (wo : Nat → Int64) (of : Nat → Int32) (n : Nat) (no : Nat → Int64) (nm : Nat) (un : Nat → Int64) (um : Nat) (sa sl si : Nat → Int32) (sn : Nat) (tk : Nat → Int32) (v : Nat) (V O K SA SL SI : Nat → Nat) (hmw : bMW ty tm v) (hmd : bMD wo of n V O) (hmn : bMN no nm K) (hms : bMS sa sl si sn SA SL SI) (sz : Nat) (x : Nat) (h63 : x < 2 ^ 63) (hin : bnd K x nm = true) : Met l yX5_leaves wsX5_leaves rm_X5_leaves (mPc (dC, dI) (tysA cI cJ cZ) (wm a cI cJ cZ ty tm b wo of n no nm un um sa sl si sn tk) sz [.ref (a 0), .long (lN (x))]) (mQv (dC, dI) (fun (u : (Nat → Int64) × (Nat)) => u.2 = nm - 1 ∧ bMN u.1 (nm - 1) (brm K (bfs (fun k => K k == x) nm))) (fun u => wm a cI cJ cZ ty tm b wo of n u.1 u.2 un um sa sl si sn tk) (va_A (wm a cI cJ cZ ty tm b wo of n no nm un um sa sl si sn tk) sz)) 0 0 (va_A (wm a cI cJ cZ ty tm b wo of n no nm un um sa sl si sn tk) sz) := by
  refine met_m (cc := cX5_leaves) (maxL := 5) (ret := none) (own := RX5) (Qc := fun A => mQv (dC, dI) (fun (u : (Nat → Int64) × (Nat)) => u.2 = nm - 1 ∧ bMN u.1 (nm - 1) (brm K (bfs (fun k => K k == x) nm))) (fun u => wm a cI cJ cZ ty tm b wo of n u.1 u.2 un um sa sl si sn tk) A) (by decide) rfl rfl (Nat.le_of_ble_eq_true rfl) ?_
  intro p e s m below meth c S hr hlocks hname hK A hA hP hD hS ls hl
  obtain ⟨hx, hb, hml, hown, hts⟩ := id S
  generalize hQQ : MQ below (mQv (dC, dI) (fun (u : (Nat → Int64) × (Nat)) => u.2 = nm - 1 ∧ bMN u.1 (nm - 1) (brm K (bfs (fun k => K k == x) nm))) (fun u => wm a cI cJ cZ ty tm b wo of n u.1 u.2 un um sa sl si sn tk) A) ([.ref (a 0), .long (lN (x))] : List Value).toArray s 0 0 A = QQ
  have hl : lv_has ls 5 [(0, .ref (a 0)), (1, .long (lN (x)))] := hl
  have hi5 : ∀ w ∈ wsX50, w ∈ wsX5_leaves := fun _ h => List.mem_cons_of_mem _ (List.mem_append_right _ h)
  obtain ⟨hvw, htm, hty⟩ := id hmw; obtain ⟨hn, hk⟩ := id hmd; obtain ⟨hnm, hkn⟩ := id hmn; obtain ⟨hsn, hks⟩ := id hms
  obtain ⟨hA, hAx⟩ := bnd_first hin
  refine lv_iconst (v := nI (0)) hx hb dX5_leaves_0 (by decide) ?_
  refine lv_istore_n (lv' := [(3, .int (nI (0))), (0, .ref (a 0)), (1, .long (lN (x)))]) hx hb dX5_leaves_1 rfl hl (by decide) rfl (fun ls hl => ?_)
  have lp_2 : ∀ (j_2 : Nat) (i : Nat), (i ≤ bfs (fun k => K k == x) nm) → (nm - i) < j_2 → ∀ ls : Array Slot, lv_has ls 5 [(0, .ref (a 0)), (1, .long (lN (x))), (3, .int (nI (i)))] → W p l e rm_X5_leaves s m ([.ref (a 0), .long (lN (x))] : List Value).toArray below meth c s.heap [] 0 0 QQ (F0 m 2 ls []) := by
    intro j_2
    induction j_2 with
    | zero => intro i _ h0; exact absurd h0 (Nat.not_lt_zero _)
    | succ j_2 ih_2 =>
      intro i hi hf_2 ls hl
      refine lv_aload_n hx hb dX5_leaves_2 rfl (lv_at hl 0 rfl) ?_
      refine va_get (D := (dC, dI)) (ci := 4) (v := .ref (a 4)) (C := RX5) (T := TX5) (N := 16) hx hb hts hi5 hown hK hP 0 rfl rfl 7 (by decide) (hts (.fieldLink RX5 24 "BurstWordsModel" "node" "[J") (by decide +kernel)) (fun _ h9 => h9) rfl dX5_leaves_3 ?_
      refine lv_iload_n hx hb dX5_leaves_6 rfl (lv_at hl 2 rfl) ?_
      refine g_l hx hb hK hP 4 1 rfl rfl (k := i) (by omega) (by decide) dX5_leaves_7 (v := lN (K i)) (hkn _ (by omega)).1 ?_
      refine lv_lload_n hx hb dX5_leaves_8 rfl (lv_at hl 1 rfl) ?_
      refine q_eq (tgt := 19) hx hb dX5_leaves_9 dX5_leaves_10 (by decide) (w63 (hkn _ (by omega)).2) h63 (fun c_9 => ?_) (fun c_9 => ?_)
      · refine lv_iload_n hx hb dX5_leaves_19 rfl (lv_at hl 2 rfl) ?_
        refine lv_istore (lv' := [(4, .int (nI (i))), (0, .ref (a 0)), (1, .long (lN (x))), (3, .int (nI (i)))]) hx hb dX5_leaves_20 hl (by decide) rfl (fun ls hl => ?_)
        have lp_22 : ∀ (j_22 : Nat) (j : Nat) (no1 : Nat → Int64), (i ≤ j) → (j ≤ nm - 1) → (∀ k, k < j → no1 k = lN (brm K i k)) → (∀ k, j ≤ k → k < nm → no1 k = lN (K k)) → (nm - j) < j_22 → ∀ (H : Heap) (locs : List Loc), va_P (dC, dI) vwCl (wm a cI cJ cZ ty tm b wo of n no1 nm un um sa sl si sn tk) H → va_D A (wm a cI cJ cZ ty tm b wo of n no1 nm un um sa sl si sn tk) → va_S A s.heap H locs → ∀ ls : Array Slot, lv_has ls 5 [(0, .ref (a 0)), (4, .int (nI (j)))] → W p l e rm_X5_leaves s m ([.ref (a 0), .long (lN (x))] : List Value).toArray below meth c H locs 0 0 QQ (F0 m 22 ls []) := by
          intro j_22
          induction j_22 with
          | zero => intro j no1 _ _ _ _ h0; exact absurd h0 (Nat.not_lt_zero _)
          | succ j_22 ih_22 =>
            intro j no1 hij hj h1 h2 hf_22 H locs hP hD hS ls hl
            refine lv_iload hx hb dX5_leaves_22 (lv_at hl 1 rfl) ?_
            refine lv_iconst (v := nI (1)) hx hb dX5_leaves_24 (by decide) ?_
            refine lv_iadd hx hb dX5_leaves_25 ?_
            refine tpi (nI_add _ _) ?_
            refine lv_aload_n hx hb dX5_leaves_26 rfl (lv_at hl 0 rfl) ?_
            refine va_get (D := (dC, dI)) (ci := 4) (v := .int (nI (nm))) (C := RX5) (T := TX5) (N := 16) hx hb hts hi5 hown hK hP 0 rfl rfl 8 (by decide) (hts (.fieldLink RX5 74 "BurstWordsModel" "nodeMany" "I") (by decide +kernel)) (fun _ h9 => h9) rfl dX5_leaves_27 ?_
            refine n_ge (tgt := 55) hx hb dX5_leaves_30 (by decide) (by omega) (by omega) (fun c_30 => ?_) (fun c_30 => ?_)
            · refine lv_aload_n hx hb dX5_leaves_55 rfl (lv_at hl 0 rfl) ?_
              refine lv_dup hx hb dX5_leaves_56 rfl ?_
              refine va_get (D := (dC, dI)) (ci := 4) (v := .int (nI (nm))) (C := RX5) (T := TX5) (N := 16) hx hb hts hi5 hown hK hP 0 rfl rfl 8 (by decide) (hts (.fieldLink RX5 74 "BurstWordsModel" "nodeMany" "I") (by decide +kernel)) (fun _ h9 => h9) rfl dX5_leaves_57 ?_
              refine lv_iconst (v := nI (1)) hx hb dX5_leaves_60 (by decide) ?_
              refine lv_isub hx hb dX5_leaves_61 ?_
              refine tpi (pk_sub (by omega)) ?_
              refine va_put (D := (dC, dI)) (ci := 4) (v := .int (nI (nm - 1))) (ty := .int) (C := RX5) (T := TX5) (N := 16) hx hb hts hi5 tyX5 tyX5_ok nmX5 hown hK hP hD hS 0 rfl rfl 8 (by decide) (hts (.fieldLink RX5 74 "BurstWordsModel" "nodeMany" "I") (by decide +kernel)) (fun _ h9 => h9) rfl (by decide +kernel) rfl rfl (Nat.le_of_ble_eq_true rfl) dX5_leaves_62 (fun H locs hP hD hS => ?_)
              have hP : va_P (dC, dI) vwCl (wm a cI cJ cZ ty tm b wo of n no1 (nm - 1) un um sa sl si sn tk) H := hP
              have hD : va_D A (wm a cI cJ cZ ty tm b wo of n no1 (nm - 1) un um sa sl si sn tk) := hD
              rw [← hQQ]
              exact m_v (no1, nm - 1) hx hb hr hlocks ⟨rfl, by omega, fun k h => by have e : i = bfs (fun k => K k == x) nm := (bnd_at hi c_9); rw [← e]; exact ⟨h1 k (by omega), by unfold brm; split; exact (hkn k (by omega)).2; exact (hkn (k + 1) (by omega)).2⟩⟩ hP hD hS dX5_leaves_65
            · refine lv_aload_n hx hb dX5_leaves_33 rfl (lv_at hl 0 rfl) ?_
              refine va_get (D := (dC, dI)) (ci := 4) (v := .ref (a 4)) (C := RX5) (T := TX5) (N := 16) hx hb hts hi5 hown hK hP 0 rfl rfl 7 (by decide) (hts (.fieldLink RX5 24 "BurstWordsModel" "node" "[J") (by decide +kernel)) (fun _ h9 => h9) rfl dX5_leaves_34 ?_
              refine lv_iload hx hb dX5_leaves_37 (lv_at hl 1 rfl) ?_
              refine lv_aload_n hx hb dX5_leaves_39 rfl (lv_at hl 0 rfl) ?_
              refine va_get (D := (dC, dI)) (ci := 4) (v := .ref (a 4)) (C := RX5) (T := TX5) (N := 16) hx hb hts hi5 hown hK hP 0 rfl rfl 7 (by decide) (hts (.fieldLink RX5 24 "BurstWordsModel" "node" "[J") (by decide +kernel)) (fun _ h9 => h9) rfl dX5_leaves_40 ?_
              refine lv_iload hx hb dX5_leaves_43 (lv_at hl 1 rfl) ?_
              refine lv_iconst (v := nI (1)) hx hb dX5_leaves_45 (by decide) ?_
              refine lv_iadd hx hb dX5_leaves_46 ?_
              refine tpi (nI_add _ _) ?_
              refine g_l hx hb hK hP 4 1 rfl rfl (k := j + 1) (by omega) (by decide) dX5_leaves_47 (v := lN (K (j + 1))) (h2 _ (by omega) (by omega)) ?_
              refine s_l (k := j) hx hb hK hP hD hS 4 1 rfl rfl (hin := (by omega)) (hn := by decide) (hdg := dX5_leaves_48) (fun H locs hP hD hS => ?_)
              have hP : va_P (dC, dI) vwCl (wm a cI cJ cZ ty tm b wo of n (vp_updL no1 j (lN (K (j + 1)))) nm un um sa sl si sn tk) H := hP
              have hD : va_D A (wm a cI cJ cZ ty tm b wo of n (vp_updL no1 j (lN (K (j + 1)))) nm un um sa sl si sn tk) := hD
              refine lv_iinc (v := nI (j + 1)) (lv' := [(4, .int (nI (j + 1))), (0, .ref (a 0))]) hx hb dX5_leaves_49 hl (k := 1) rfl (inc1 _) (by decide) rfl (fun ls hl => ?_)
              refine lv_goto (tgt := 22) hx hb dX5_leaves_52 (by decide) ?_
              exact ih_22 (j + 1) (vp_updL no1 j (lN (K (j + 1)))) (by omega) (by omega) (lt_s (fun k h => by rw [pk_uLn (by omega)]; exact h1 k h) (by rw [pk_uLs, brm, if_neg (by omega)])) (fun k h3 h4 => by rw [pk_uLn (by omega)]; exact h2 k (by omega) h4) (by omega) _ _ hP hD hS ls (lv_sub hl [1, 0] rfl)
        exact lp_22 _ (i) (no) (Nat.le_refl i) (by omega) (fun k h => by rw [brm, if_pos h]; exact (hkn k (by omega)).1) (fun k _ h => (hkn k h).1) (Nat.lt_succ_self _) _ _ hP hD hS ls (lv_sub hl [1, 0] rfl)
      · refine lv_iinc (v := nI (i + 1)) (lv' := [(3, .int (nI (i + 1))), (0, .ref (a 0)), (1, .long (lN (x)))]) hx hb dX5_leaves_13 hl (k := 2) rfl (inc1 _) (by decide) rfl (fun ls hl => ?_)
        refine lv_goto (tgt := 2) hx hb dX5_leaves_16 (by decide) ?_
        exact ih_2 (i + 1) (Nat.lt_of_le_of_ne hi (fun q => c_9 (by rw [q]; exact hAx))) (by omega) ls (lv_sub hl [1, 2, 0] rfl)
  exact lp_2 _ (0) (Nat.zero_le _) (Nat.lt_succ_self _) ls (lv_sub hl [1, 2, 0] rfl)
