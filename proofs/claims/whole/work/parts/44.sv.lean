/-! own rows: a static method that writes; what put, the tally do -/
section WS
variable {p : Program} {l : Launch} {e : Env} {R : Room} {s : State} {m : MethodId} {args : Array Value} {below : List Frame} {meth : Method} {c : Code} {H H0 : Heap} {locs : List Loc} {cells slots : Nat} {Q : State → Prop} {cc : ByteArray} {pc : Nat} {ls : Array Slot} {rest : List Value}
variable {nL n index maxL mc ms : Nat} {Ts wsC : List Cond} {own : String} {y : MethodName} {bytes : ByteArray} {ret : Option FieldType} {rm : Room} {D : va_G} {tys : List (ClassId × FieldType)} {ws wc wr : va_W} {As st0 : List Value} {A : Nat → Prop}
theorem m_Sv (S : CallFix p m c cc nL s args Ts own) {U : Type} {post : U → Prop} {W' : U → va_W} (hM : Met l y wsC rm (mPc D tys wc H.size As) (mQv D post W' (va_A wc H.size)) mc ms (va_A wc H.size)) (cw : CallB R s args own index y bytes maxL ret wsC rm mc ms n ∧ (Cond.static y).before args s = true) (hK : va_K D vwCl tys s) (hP : va_P D vwCl ws H) (hD : va_D A ws) (hS : va_S A H0 H locs) (hA : ∀ q, H0.size ≤ q → A q)
    (isC isR : List Nat) (hPc : va_P D vwCl wc H) (hDc : va_D A wc) (hC : isC.map (fun i => ws[i]?) = wc.map some) (hR : isR.map (fun i => ws[i]?) = wr.map some) (hn2 : va_nd isR = true) (hdis : ∀ i ∈ isR, i ∉ isC)
    (hn : As.length = n) (hsize : ls.size = nL) (hst : st0 = As.reverse ++ rest) (hW : (rest.map fun v => v.category).sum ≤ 8) (hdg : decode cc pc = .ok (.invokestatic index, 3)) (hf : cells + mc ≤ R.cells ∧ slots + ms ≤ R.slots)
    (kk : ∀ (u : U) (H1 : Heap) (locs1 : List Loc), post u → va_P D vwCl (wr ++ W' u) H1 → va_D A (wr ++ W' u) → va_S A H0 H1 locs1 → W p l e R s m args below meth c H1 locs1 (cells + mc) (slots + ms) Q (F0 m (pc + 3) ls rest)) : W p l e R s m args below meth c H locs cells slots Q (F0 m pc ls st0) := by
  have hFc := va_free (wc := wc) hD hS hA isC hC
  refine va_callv (va_runS (As := As) (rest := rest) S hM cw ⟨md_blind, fun U hU hW => ⟨rfl, by rw [hU], by rw [hU]; exact hPc, va_K.moved hW.alike hK, hDc.weaken (fun _ _ _ _ => trivial)⟩⟩ rfl hn hsize hst (lv_room hW) hdg hf) hS (fun q _ h => hFc q h) hFc (fun u t H1 locs1 ht hvm hw hB hz1 hk1 hS1 => ?_)
  obtain ⟨hP1, hD1⟩ := hB
  rw [ht] at hP1
  obtain ⟨hP2, hD2⟩ := va_join (wr := wr) (w1 := W' u) hP hD isC isR hC hR hn2 hdis hk1 hFc hP1 hD1
  exact kk u H1 locs1 hw hP2 hD2 hS1
end WS
def bTh (V : Nat → Nat) (n x : Nat) : Prop := bpl V n x < n ∧ V (bpl V n x) = x
/-- what put does: a word comes, is there another number of times, goes -/
def bPut (V O E : Nat → Nat) (n x y : Nat) (V' O' E' : Nat → Nat) (n' : Nat) : Prop :=
  (¬ bTh V n x ∧ 0 < y ∧ n' = n + 1 ∧ V' = bic V (bpl V n x) x ∧ O' = bic O (bpl V n x) y ∧ E' = bic E (bpl V n x) (bdp V E n x)) ∨ (bTh V n x ∧ 0 < y ∧ n' = n ∧ V' = V ∧ O' = va_up O (bpl V n x) y ∧ E' = E) ∨ (bTh V n x ∧ y = 0 ∧ n' = n - 1 ∧ V' = brm V (bpl V n x) ∧ O' = brm O (bpl V n x) ∧ E' = brm E (bpl V n x))
theorem put_ex {V O E : Nat → Nat} {n x y : Nat} {w : Nat → Int64} {o d : Nat → Int32} {n' : Nat}
    (h : (¬ (bpl V n x < n ∧ V (bpl V n x) = x) ∧ 0 < y ∧ n' = n + 1 ∧ bDD w o d (n + 1) (bic V (bpl V n x) x) (bic O (bpl V n x) y) (bic E (bpl V n x) (bdp V E n x))) ∨ ((bpl V n x < n ∧ V (bpl V n x) = x) ∧ 0 < y ∧ n' = n ∧ bDD w o d n V (va_up O (bpl V n x) y) E) ∨ ((bpl V n x < n ∧ V (bpl V n x) = x) ∧ y = 0 ∧ n' = n - 1 ∧ bDD w o d (n - 1) (brm V (bpl V n x)) (brm O (bpl V n x)) (brm E (bpl V n x)))) :
    ∃ V' O' E', bDD w o d n' V' O' E' ∧ bPut V O E n x y V' O' E' n' := by
  rcases h with ⟨h1, h2, h3, h4⟩ | ⟨h1, h2, h3, h4⟩ | ⟨h1, h2, h3, h4⟩
  · subst h3; exact ⟨_, _, _, h4, Or.inl ⟨h1, h2, rfl, rfl, rfl, rfl⟩⟩
  · subst h3; exact ⟨_, _, _, h4, Or.inr (Or.inl ⟨h1, h2, rfl, rfl, rfl, rfl⟩)⟩
  · subst h3; exact ⟨_, _, _, h4, Or.inr (Or.inr ⟨h1, h2, rfl, rfl, rfl, rfl⟩)⟩
theorem bof_th {V O : Nat → Nat} {n x : Nat} (h : 0 < bof V O n x) : bTh V n x := by
  unfold bof at h
  split at h
  · assumption
  · exact absurd h (by decide)
theorem bdp_len {V E : Nat → Nat} {n v : Nat} : bdp V E n v ≤ bln v + 1 := bmx_le (fun k _ => by have := bsh_len2 (V k) v; omega)
theorem bbd_le {V : Nat → Nat} {n v g b : Nat} (h : g ≤ bln v + 1) : bbd V n v g b ≤ bln v + 1 := by
  have := bfs_le (fun t => decide (bsc V n v (g + t) ≤ b)) (bln v + 1 - g)
  unfold bbd
  omega
theorem bmd_le (V : Nat → Nat) (n v few : Nat) : ∀ h, bmd V n v few h ≤ h
  | 0 => Nat.le_refl 0
  | h + 1 => by
    have := bmd_le V n v few h
    unfold bmd
    split <;> omega
theorem btw_skip {x : Nat} {ta : Nat → Int32} {i q : Nat} (h : bsg x i = 0) : btw x ta (i + 1) q = btw x ta i q := by
  unfold btw
  by_cases e : q / 26 = i
  · rw [e, h, if_neg (fun z => by omega), if_neg (fun z => by omega)]
  · by_cases e2 : q / 26 < i ∧ bsg x (q / 26) = q % 26 + 1
    · rw [if_pos e2, if_pos ⟨by omega, e2.2⟩]
    · rw [if_neg e2, if_neg (fun z => e2 ⟨by omega, z.2⟩)]
theorem btw_step {x : Nat} {ta ta1 : Nat → Int32} {i : Nat} (hi : i < 7) (h : 0 < bsg x i) (h1 : ∀ q, q < 182 → ta1 q = btw x ta i q) : ∀ q, q < 182 → upd ta1 (i * 26 + bch (bsg x i) - 97) (ta1 (i * 26 + bch (bsg x i) - 97) + nI 1) q = btw x ta (i + 1) q := by
  have hb := bch_v h
  have hl := bsg_lt x i
  intro q hq
  by_cases e : q = i * 26 + bch (bsg x i) - 97
  · rw [← e, pk_us, h1 q hq]
    have e1 : q / 26 = i := by omega
    have e2 : bsg x (q / 26) = q % 26 + 1 := by rw [e1]; omega
    unfold btw
    rw [if_neg (fun z => by omega), if_pos ⟨by omega, e2⟩]
    rfl
  · rw [pk_un e, h1 q hq]
    unfold btw
    by_cases e2 : q / 26 < i ∧ bsg x (q / 26) = q % 26 + 1
    · rw [if_pos e2, if_pos ⟨by omega, e2.2⟩]
    · rw [if_neg e2, if_neg]
      rintro ⟨z1, z2⟩
      rcases Nat.lt_or_ge (q / 26) i with z | z
      · exact e2 ⟨z, z2⟩
      · have z3 : q / 26 = i := by omega
        rw [z3] at z2
        omega
/-- the letters' order of asking, over the tally's cells -/
def bca (T : Nat → Nat) (f : Nat) : Nat → Int32 × Nat
  | 0 => (-9, f + 1)
  | q + 1 => if max (T q) (f - T q) < (bca T f q).2 then (nI (32 * (q / 26) + q % 26), max (T q) (f - T q)) else bca T f q
theorem bca_le {T : Nat → Nat} {f : Nat} : ∀ {q}, (bca T f q).2 ≤ f + 1
  | 0 => Nat.le_refl _
  | q + 1 => by
    have := bca_le (T := T) (f := f) (q := q)
    unfold bca
    split
    · next h => exact Nat.le_trans (Nat.le_of_lt h) this
    · exact this
/-- the tally of the words that fit -/
def btT (V : Nat → Nat) (n : Nat) (SA SL SI : Nat → Nat) (sn q : Nat) : Nat := fb_ct (fun k => bft (V k) SA SL SI sn && (bsg (V k) (q / 26) == q % 26 + 1)) n
theorem btT_le {V : Nat → Nat} {n : Nat} {SA SL SI : Nat → Nat} {sn q : Nat} : btT V n SA SL SI sn q ≤ fb_ct (fun k => bft (V k) SA SL SI sn) n := fb_ct_sub (fun k _ h => by simp at h; exact h.1)
