/-! own rows: System.arraycopy over numbers; the cells of History and Sightings -/
section WZ
variable {p : Program} {l : Launch} {e : Env} {R : Room} {s : State} {m : MethodId} {args : Array Value} {below : List Frame} {meth : Method} {c : Code} {H H0 : Heap} {locs : List Loc} {cells slots : Nat} {Q : State → Prop} {cc : ByteArray} {pc : Nat} {ls : Array Slot} {rest : List Value} {own : String} {index : Nat} {D : va_G} {tys : List (ClassId × FieldType)} {ws : va_W} {cl : List vw_C} {a : Nat} {A : Nat → Prop}
theorem cp_l (hexec : p.tables.exec = Jvm.exec) (hb : c.code = cc) (hml : c.maxLocals = ls.size) (hown : s.vm.findClass own = some m.cls) (hlink : (Cond.methodLink own index arraycopyName).before args s = true) (hnat : (Cond.native arraycopyName).before args s = true) (hstat : (Cond.static arraycopyName).before args s = true) (hini : (Cond.initialized "java/lang/System").before args s = true)
    (hK : va_K D cl tys s) (hP : va_P D cl ws H) (hD : va_D A ws) (hS : va_S A H0 H locs) (q0 t0 : Nat) {cA : ClassId} {N : Nat} {f : Nat → Int64} (ha : ws[q0]? = some (a, .inl (cA, N, .inr (.inl f)))) (ht : tys[t0]? = some (cA, .long)) {sp dp n : Nat} (hN : N < 2 ^ 31) (h4 : sp + n ≤ N) (h5 : dp + n ≤ N)
    (hframes : 1 ≤ R.frames) (hlocals : (rest.map fun v => v.category).sum + (nativeFrameWords "java/lang/System" "arraycopy" 5 + 11) ≤ R.locals) (hdg : decode cc pc = .ok (.invokestatic index, 3))
    (kk : ∀ (H1 : Heap) (locs1 : List Loc), va_P D cl (ws.set q0 (a, .inl (cA, N, .inr (.inl (va_cpy f f sp dp n))))) H1 → va_D A (ws.set q0 (a, .inl (cA, N, .inr (.inl (va_cpy f f sp dp n))))) → va_S A H0 H1 locs1 → W p l e R s m args below meth c H1 locs1 cells slots Q (F0 m (pc + 3) ls rest)) : W p l e R s m args below meth c H locs cells slots Q (F0 m pc ls (.int (nI n) :: .int (nI dp) :: .ref a :: .int (nI sp) :: .ref a :: rest)) := by
  have c1 : (nI sp).toNatClampNeg = sp := nI_clamp (by omega)
  have c2 : (nI dp).toNatClampNeg = dp := nI_clamp (by omega)
  have c3 : (nI n).toNatClampNeg = n := nI_clamp (by omega)
  refine va_copyl hexec hb hml hown hlink hnat hstat hini hK hP hD hS q0 q0 t0 t0 ha ha ht ht rfl (nI_pos (by omega)) (nI_pos (by omega)) (nI_pos (by omega)) (by rw [c1, c3]; exact h4) (by rw [c2, c3]; exact h5) (fun _ _ => rfl) hframes hlocals hdg ?_
  rw [c1, c2, c3]
  exact kk
theorem cp_i (hexec : p.tables.exec = Jvm.exec) (hb : c.code = cc) (hml : c.maxLocals = ls.size) (hown : s.vm.findClass own = some m.cls) (hlink : (Cond.methodLink own index arraycopyName).before args s = true) (hnat : (Cond.native arraycopyName).before args s = true) (hstat : (Cond.static arraycopyName).before args s = true) (hini : (Cond.initialized "java/lang/System").before args s = true)
    (hK : va_K D cl tys s) (hP : va_P D cl ws H) (hD : va_D A ws) (hS : va_S A H0 H locs) (q0 t0 : Nat) {cA : ClassId} {N : Nat} {f : Nat → Int32} (ha : ws[q0]? = some (a, .inl (cA, N, .inl f))) (ht : tys[t0]? = some (cA, .int)) {sp dp n : Nat} (hN : N < 2 ^ 31) (h4 : sp + n ≤ N) (h5 : dp + n ≤ N)
    (hframes : 1 ≤ R.frames) (hlocals : (rest.map fun v => v.category).sum + (nativeFrameWords "java/lang/System" "arraycopy" 5 + 11) ≤ R.locals) (hdg : decode cc pc = .ok (.invokestatic index, 3))
    (kk : ∀ (H1 : Heap) (locs1 : List Loc), va_P D cl (ws.set q0 (a, .inl (cA, N, .inl (va_cpy f f sp dp n)))) H1 → va_D A (ws.set q0 (a, .inl (cA, N, .inl (va_cpy f f sp dp n)))) → va_S A H0 H1 locs1 → W p l e R s m args below meth c H1 locs1 cells slots Q (F0 m (pc + 3) ls rest)) : W p l e R s m args below meth c H locs cells slots Q (F0 m pc ls (.int (nI n) :: .int (nI dp) :: .ref a :: .int (nI sp) :: .ref a :: rest)) := by
  have c1 : (nI sp).toNatClampNeg = sp := nI_clamp (by omega)
  have c2 : (nI dp).toNatClampNeg = dp := nI_clamp (by omega)
  have c3 : (nI n).toNatClampNeg = n := nI_clamp (by omega)
  refine va_copyi hexec hb hml hown hlink hnat hstat hini hK hP hD hS q0 q0 t0 t0 ha ha ht ht rfl (nI_pos (by omega)) (nI_pos (by omega)) (nI_pos (by omega)) (by rw [c1, c3]; exact h4) (by rw [c2, c3]; exact h5) (fun _ _ => rfl) hframes hlocals hdg ?_
  rw [c1, c2, c3]
  exact kk
end WZ
abbrev whi (q0 q1 q2 q3 : Nat) (cI cJ : ClassId) (hw : Nat → Int64) (ho hd : Nat → Int32) (hn : Nat) : va_W := [(q0, .inr (1, [.ref q1, .ref q2, .ref q3, .int (nI hn)])), (q1, .inl (cJ, 12, .inr (.inl hw))), (q2, .inl (cI, 12, .inl ho)), (q3, .inl (cI, 12, .inl hd))]
abbrev wsi (q0 q1 q2 q3 : Nat) (cI cZ : ClassId) (pl le so : Nat → Int32) (sn : Nat) : va_W := [(q0, .inr (2, [.ref q1, .ref q2, .ref q3, .int (nI sn)])), (q1, .inl (cI, 8, .inl pl)), (q2, .inl (cI, 8, .inl le)), (q3, .inl (cZ, 8, .inl so))]
def bHH (hw : Nat → Int64) (ho hd : Nat → Int32) (hn : Nat) (HW HO HE : Nat → Nat) : Prop := hn ≤ 12 ∧ ∀ k, k < hn → hw k = lN (be8 (HW k)) ∧ bwf (HW k) ∧ ho k = nI (HO k) ∧ HO k ≤ 99 ∧ hd k = nI (HE k) ∧ HE k ≤ 8
def bSS (pl le so : Nat → Int32) (sn : Nat) (SA SL SI : Nat → Nat) : Prop := sn ≤ 8 ∧ ∀ k, k < sn → pl k = nI (SA k) ∧ SA k < 7 ∧ le k = nI (SL k + 96) ∧ 1 ≤ SL k ∧ SL k ≤ 26 ∧ so k = bI (SI k == 1)
def bhp (F : Nat → Nat) (n z k : Nat) : Nat := if n < 12 then (if k = n then z else F k) else if k < 11 then F (k + 1) else z
def bhn (n : Nat) : Nat := if n < 12 then n + 1 else 12
theorem bHH_a {hw : Nat → Int64} {ho hd : Nat → Int32} {hn : Nat} {HW HO HE : Nat → Nat} {x y z : Nat} (h : bHH hw ho hd hn HW HO HE) (h12 : hn < 12) (hx : bwf x) (hy : y ≤ 99) (hz : z ≤ 8) : bHH (vp_updL hw hn (lN (be8 x))) (upd ho hn (nI y)) (upd hd hn (nI z)) (hn + 1) (bhp HW hn x) (bhp HO hn y) (bhp HE hn z) := by
  refine ⟨by omega, fun k hk => ?_⟩
  unfold bhp
  rw [if_pos h12, if_pos h12, if_pos h12]
  by_cases e : k = hn
  · subst e
    rw [pk_uLs, pk_us, pk_us, if_pos rfl, if_pos rfl, if_pos rfl]
    exact ⟨rfl, hx, rfl, hy, rfl, hz⟩
  · rw [pk_uLn e, pk_un e, pk_un e, if_neg e, if_neg e, if_neg e]
    exact h.2 k (by omega)
theorem bHH_b {hw hw1 : Nat → Int64} {ho hd ho1 hd1 : Nat → Int32} {hn : Nat} {HW HO HE : Nat → Nat} {x y z : Nat} (h : bHH hw ho hd hn HW HO HE) (h12 : hn = 12) (h1 : ∀ k, k < 11 → hw1 k = hw (k + 1) ∧ ho1 k = ho (k + 1) ∧ hd1 k = hd (k + 1)) (hx : bwf x) (hy : y ≤ 99) (hz : z ≤ 8) : bHH (vp_updL hw1 11 (lN (be8 x))) (upd ho1 11 (nI y)) (upd hd1 11 (nI z)) (11 + 1) (bhp HW hn x) (bhp HO hn y) (bhp HE hn z) := by
  refine ⟨by omega, fun k hk => ?_⟩
  unfold bhp
  have q : ¬ hn < 12 := by omega
  rw [if_neg q, if_neg q, if_neg q]
  by_cases e : k = 11
  · subst e
    rw [pk_uLs, pk_us, pk_us, if_neg (by decide), if_neg (by decide), if_neg (by decide)]
    exact ⟨rfl, hx, rfl, hy, rfl, hz⟩
  · have hk2 : k < 11 := by omega
    rw [pk_uLn e, pk_un e, pk_un e, if_pos hk2, if_pos hk2, if_pos hk2, (h1 k hk2).1, (h1 k hk2).2.1, (h1 k hk2).2.2]
    exact h.2 (k + 1) (by omega)
theorem bSS_add {pl le so : Nat → Int32} {sn : Nat} {SA SL SI : Nat → Nat} {i k t : Nat} (h : bSS pl le so sn SA SL SI) (h8 : sn < 8) (hi : i ≤ 6) (h1 : 97 ≤ k) (h2 : k ≤ 122) : bSS (upd pl sn (nI i)) (upd le sn (nI k)) (upd so sn (bI (t == 1))) (sn + 1) (va_up SA sn i) (va_up SL sn (k - 96)) (va_up SI sn t) := by
  refine ⟨by omega, fun j hj => ?_⟩
  by_cases e : j = sn
  · subst e
    rw [pk_us, pk_us, pk_us, va_up_self, va_up_self, va_up_self]
    exact ⟨rfl, by omega, congrArg nI (by omega), by omega, by omega, rfl⟩
  · rw [pk_un e, pk_un e, pk_un e, va_up_ne _ _ e, va_up_ne _ _ e, va_up_ne _ _ e]
    exact h.2 j (by omega)
theorem bch_96 {x y : Nat} (hy : 1 ≤ y) : bch x = y + 96 ↔ x = y := by unfold bch; split <;> omega
theorem bft_f {x : Nat} {SA SL SI : Nat → Nat} {i : Nat} (h : bft x SA SL SI i = false) : ∀ j, i ≤ j → bft x SA SL SI j = false
  | 0, hj => by rw [show i = 0 by omega] at h; exact h
  | j + 1, hj => by
    rcases Nat.lt_or_ge i (j + 1) with q | q
    · rw [bft, bft_f h j (by omega)]; rfl
    · rw [show j + 1 = i by omega]; exact h
/-- the dictionary's pictures behind a change -/
theorem bDD_ins {w : Nat → Int64} {o d : Nat → Int32} {n : Nat} {V O E : Nat → Nat} {p x y z : Nat} (h : bDD w o d n V O E) (hn : n < 40) (hp : p ≤ n) (hx : bwf x) (hx0 : 0 < x) (hy : y ≤ 99) (hz : z ≤ 8) : bDD (vp_updL (va_cpy w w p (p + 1) (n - p)) p (lN (be8 x))) (upd (va_cpy o o p (p + 1) (n - p)) p (nI y)) (upd (va_cpy d d p (p + 1) (n - p)) p (nI z)) (n + 1) (bic V p x) (bic O p y) (bic E p z) := by
  refine ⟨by omega, fun k hk => ?_⟩
  unfold bic
  by_cases e : k = p
  · subst e
    rw [pk_uLs, pk_us, pk_us, if_neg (Nat.lt_irrefl k), if_pos rfl, if_neg (Nat.lt_irrefl k), if_pos rfl, if_neg (Nat.lt_irrefl k), if_pos rfl]
    exact ⟨rfl, hx, hx0, rfl, hy, rfl, hz⟩
  · rw [pk_uLn e, pk_un e, pk_un e]
    by_cases q : k < p
    · rw [if_pos q, if_pos q, if_pos q, pk_cpy_out (Or.inl (by omega)), pk_cpy_out (Or.inl (by omega)), pk_cpy_out (Or.inl (by omega))]
      exact h.2 k (by omega)
    · rw [if_neg q, if_neg e, if_neg q, if_neg e, if_neg q, if_neg e, pk_cpy_in (by omega) (by omega), pk_cpy_in (by omega) (by omega), pk_cpy_in (by omega) (by omega), show p + (k - (p + 1)) = k - 1 by omega]
      exact h.2 (k - 1) (by omega)
theorem bDD_rm {w : Nat → Int64} {o d : Nat → Int32} {n : Nat} {V O E : Nat → Nat} {p : Nat} (h : bDD w o d n V O E) (hp : p < n) : bDD (va_cpy w w (p + 1) p (n - p - 1)) (va_cpy o o (p + 1) p (n - p - 1)) (va_cpy d d (p + 1) p (n - p - 1)) (n - 1) (brm V p) (brm O p) (brm E p) := by
  refine ⟨by have := h.1; omega, fun k hk => ?_⟩
  unfold brm
  by_cases q : k < p
  · rw [if_pos q, if_pos q, if_pos q, pk_cpy_out (Or.inl (by omega)), pk_cpy_out (Or.inl (by omega)), pk_cpy_out (Or.inl (by omega))]
    exact h.2 k (by omega)
  · rw [if_neg q, if_neg q, if_neg q, pk_cpy_in (by omega) (by omega), pk_cpy_in (by omega) (by omega), pk_cpy_in (by omega) (by omega), show p + 1 + (k - p) = k + 1 by omega]
    exact h.2 (k + 1) (by omega)
theorem bDD_o {w : Nat → Int64} {o d : Nat → Int32} {n : Nat} {V O E : Nat → Nat} {p y : Nat} (h : bDD w o d n V O E) (hy : y ≤ 99) : bDD w (upd o p (nI y)) d n V (va_up O p y) E := by
  refine ⟨h.1, fun k hk => ?_⟩
  have q := h.2 k hk
  by_cases e : k = p
  · subst e
    rw [pk_us, va_up_self]
    exact ⟨q.1, q.2.1, q.2.2.1, rfl, hy, q.2.2.2.2.2⟩
  · rw [pk_un e, va_up_ne _ _ e]
    exact q
