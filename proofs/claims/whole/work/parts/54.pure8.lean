/-! own rows, pure: how many nodes there are; containers -/
theorem ct_sm (p : Nat → Bool) : ∀ n, fb_ct p n = fb_sm (fun k => if p k = true then 1 else 0) n
  | 0 => rfl
  | n + 1 => by rw [fb_ct_succ, fb_sm_succ, ct_sm p n]
theorem sm_swap (f : Nat → Nat → Nat) (n : Nat) : ∀ m, fb_sm (fun j => fb_sm (fun k => f j k) n) m = fb_sm (fun k => fb_sm (fun j => f j k) m) n
  | 0 => by
    have h : fb_sm (fun k => fb_sm (fun j => f j k) 0) n = n * 0 := fb_sm_const 0 n
    rw [h]
    rfl
  | m + 1 => by
    rw [fb_sm_succ, sm_swap f n m, ← fb_sm_add]
    exact fb_sm_cong (fun k _ => (fb_sm_succ (fun j => f j k) m).symm)
theorem ct_le1 {p : Nat → Bool} {n : Nat} (h : ∀ i j, i < j → j < n → p i = true → p j = true → False) : fb_ct p n ≤ 1 := by
  by_cases e : ∃ a, a < n ∧ p a = true
  · obtain ⟨a, ha, hpa⟩ := e
    refine ct_one (a := a) (fun k hk hpk => ?_)
    rcases Nat.lt_trichotomy k a with z | z | z
    · exact (h k a z ha hpk hpa).elim
    · exact z
    · exact (h a k z hk hpa hpk).elim
  · rw [fb_ct_zero.mpr (fun k hk => by rw [Bool.eq_false_iff]; exact fun q => e ⟨k, hk, q⟩)]
    exact Nat.zero_le 1
theorem nd_le1 {K : Nat → Nat} {nm : Nat} (h : bNd K nm) (q : Nat) : fb_ct (fun j => K j == q) nm ≤ 1 :=
  ct_le1 (fun i j hij hj h1 h2 => h i j hij hj ((beq_iff_eq.mp h1).trans (beq_iff_eq.mp h2).symm))
theorem nd_is1 {K : Nat → Nat} {nm q : Nat} (h : bNd K nm) (hq : bnd K q nm = true) : fb_ct (fun j => K j == q) nm = 1 := by
  have h1 := nd_le1 h q
  have h2 : 0 < fb_ct (fun j => K j == q) nm := by
    obtain ⟨k, hk, e⟩ := bnd_iff.mp hq
    exact fb_ct_pos.mpr ⟨k, hk, by simpa using e⟩
  omega
section NB
variable {b n nm : Nat} {V O E K : Nat → Nat}
theorem nm_le (hb : 2 ≤ b) (hw : bWo n V O) (hN : bNs b n V K nm) : nm ≤ 192 := by
  have h1 : nm * 2 ≤ fb_sm (fun j => bbg V n (K j)) nm := by
    rw [← fb_sm_const 2 nm]
    refine fb_sm_le (fun j hj => ?_)
    have := (hN.2.1 (K j) (bnd_iff.mpr ⟨j, hj, rfl⟩)).2
    omega
  have h2 : fb_sm (fun j => bbg V n (K j)) nm = fb_sm (fun k => fb_sm (fun j => if (bhd (V k) (bln (K j)) == K j) = true then 1 else 0) nm) n := by
    rw [← sm_swap]
    exact fb_sm_cong (fun j _ => ct_sm _ n)
  have h3 : fb_sm (fun k => fb_sm (fun j => if (bhd (V k) (bln (K j)) == K j) = true then 1 else 0) nm) n ≤ n * 8 := by
    refine fb_sm_bound (fun k hk => ?_)
    have h4 : fb_sm (fun j => if (bhd (V k) (bln (K j)) == K j) = true then 1 else 0) nm ≤ fb_sm (fun j => fb_sm (fun g => if (K j == bhd (V k) g) = true then 1 else 0) 8) nm := by
      refine fb_sm_le (fun j _ => ?_)
      by_cases e : (bhd (V k) (bln (K j)) == K j) = true
      · rw [if_pos e]
        have h7 := bln_le (K j)
        have h5 := fb_sm_part (fun g => if (K j == bhd (V k) g) = true then 1 else 0) (show bln (K j) < 8 by omega)
        have h6 : (if (K j == bhd (V k) (bln (K j))) = true then 1 else 0) = 1 := if_pos (by simpa using (beq_iff_eq.mp e).symm)
        have h8 : fb_sm (fun g => if (K j == bhd (V k) g) = true then 1 else 0) (bln (K j)) + (if (K j == bhd (V k) (bln (K j))) = true then 1 else 0) ≤ fb_sm (fun g => if (K j == bhd (V k) g) = true then 1 else 0) 8 := h5
        omega
      · rw [if_neg e]; exact Nat.zero_le _
    rw [sm_swap] at h4
    have h5 : fb_sm (fun g => fb_sm (fun j => if (K j == bhd (V k) g) = true then 1 else 0) nm) 8 ≤ 8 * 1 := fb_sm_bound (fun g _ => by rw [← ct_sm]; exact nd_le1 hN.1 _)
    omega
  have := hw.1
  omega
/-- words with a beginning stand side by side -/
theorem sh_mid (hw : bWo n V O) {i j k g : Nat} (hij : i ≤ j) (hjk : j ≤ k) (hk : k < n) (hg : g ≤ 7) (e : bhd (V i) g = bhd (V k) g) : bhd (V j) g = bhd (V k) g := by
  have h1 : V i ≤ V j := by
    rcases Nat.lt_or_ge i j with z | z
    · exact Nat.le_of_lt (hw.2.1 i j z (by omega))
    · rw [show i = j by omega]; exact Nat.le_refl _
  have h2 : V j ≤ V k := by
    rcases Nat.lt_or_ge j k with z | z
    · exact Nat.le_of_lt (hw.2.1 j k z hk)
    · rw [show j = k by omega]; exact Nat.le_refl _
  rw [bhd_mul, bhd_mul] at e ⊢
  have p := Nat.pow_pos (n := 7 - g) (show 0 < 27 by decide)
  have e2 : V i / 27 ^ (7 - g) = V k / 27 ^ (7 - g) := Nat.eq_of_mul_eq_mul_left p e
  have e3 : V i / 27 ^ (7 - g) ≤ V j / 27 ^ (7 - g) := Nat.div_le_div_right h1
  have e4 : V j / 27 ^ (7 - g) ≤ V k / 27 ^ (7 - g) := Nat.div_le_div_right h2
  rw [show V j / 27 ^ (7 - g) = V k / 27 ^ (7 - g) by omega]
theorem bah_ge (hw : bWo n V O) {k g : Nat} (hk : k < n) (hg : g ≤ bln (V k)) : bah V k ≤ g ↔ (k = 0 ∨ bhd (V (k - 1)) g ≠ bhd (V k) g) := by
  unfold bah
  by_cases e : k = 0
  · rw [if_pos e]; exact ⟨fun _ => Or.inl e, fun _ => Nat.zero_le g⟩
  · rw [if_neg e]
    have h := bsh_hd (u := V k) (v := V (k - 1)) (hw.2.2 k hk).1.1 (hw.2.2 (k - 1) (by omega)).1.1 hg
    rw [bsh_comm] at h
    constructor
    · intro z; exact Or.inr (fun q => by have := h.mpr q.symm; omega)
    · rintro (z | z)
      · exact absurd z e
      · rcases Nat.lt_or_ge (bsh (V (k - 1)) (V k)) g with y | y
        · omega
        · exact absurd (h.mp y).symm z
theorem sm_band {a c : Nat} : ∀ {m : Nat}, c ≤ m → fb_sm (fun g => if a ≤ g ∧ g < c then 1 else 0) m = c - a
  | 0, h => by rw [show c = 0 by omega]; exact (Nat.zero_sub a).symm
  | m + 1, h => by
    rw [fb_sm_succ]
    rcases Nat.lt_or_ge m c with q | q
    · have e : c = m + 1 := by omega
      have e2 : fb_sm (fun g => if a ≤ g ∧ g < c then 1 else 0) m = fb_sm (fun g => if a ≤ g ∧ g < m then 1 else 0) m := fb_sm_cong (fun g hg => by
        by_cases z : a ≤ g
        · rw [if_pos ⟨z, by omega⟩, if_pos ⟨z, hg⟩]
        · rw [if_neg (fun y => z y.1), if_neg (fun y => z y.1)])
      rw [e2, sm_band (Nat.le_refl m)]
      split <;> omega
    · rw [sm_band q, if_neg (fun z => by omega)]
      rfl
/-- how many nodes: each is counted at the first word that begins with it -/
theorem an_nodes (hb : 2 ≤ b) (hw : bWo n V O) (hN : bNs b n V K nm) (hE : bEs n V E K nm) : fb_sm (fun k => E k - bah V k) n = nm := by
  have fst : ∀ j, j < nm → ∃ k, k < n ∧ bhd (V k) (bln (K j)) = K j ∧ ∀ i, i < k → bhd (V i) (bln (K j)) ≠ K j := fun j hj => by
    have h0 : 0 < bbg V n (K j) := Nat.lt_of_le_of_lt (Nat.zero_le _) (hN.2.1 (K j) (bnd_iff.mpr ⟨j, hj, rfl⟩)).2
    obtain ⟨k, hk, e⟩ := bbg_pos.mp h0
    have hlt : bfs (fun k => bhd (V k) (bln (K j)) == K j) n < n := by
      rcases Nat.lt_or_ge (bfs (fun k => bhd (V k) (bln (K j)) == K j) n) n with z | z
      · exact z
      · have := bfs_no (fun k => bhd (V k) (bln (K j)) == K j) n k (by omega)
        simp [e] at this
    exact ⟨_, hlt, by simpa using bfs_yes _ n hlt, fun i hi => by simpa using bfs_no _ n i hi⟩
  have one : ∀ j, j < nm → fb_sm (fun k => fb_sm (fun g => if (bah V k ≤ g ∧ g < E k) ∧ K j = bhd (V k) g then 1 else 0) 8) n = 1 := fun j hj => by
    have hnd : bnd K (K j) nm = true := bnd_iff.mpr ⟨j, hj, rfl⟩
    have h7 := bln_le (K j)
    obtain ⟨k, hk, e, hmin⟩ := fst j hj
    have hV := (hw.2.2 k hk).1
    have hgl : bln (K j) ≤ bln (V k) := beg_len hV rfl h7 e
    have hgE : bln (K j) < E k := by rw [hE k hk]; exact (bcs_iff hN hV hgl).mp (by rw [e]; exact hnd)
    have hga : bah V k ≤ bln (K j) := (bah_ge hw hk hgl).mpr (by
      rcases Nat.eq_zero_or_pos k with z | z
      · exact Or.inl z
      · exact Or.inr (fun q => hmin (k - 1) (by omega) (q.trans e)))
    have hin : fb_sm (fun g => if (bah V k ≤ g ∧ g < E k) ∧ K j = bhd (V k) g then 1 else 0) 8 = 1 := by
      rw [fb_sm_cong (g := fun g => if (g == bln (K j)) = true then 1 else 0) (fun g hg => ?_), ← ct_sm]
      · have u1 : fb_ct (fun g => g == bln (K j)) 8 ≤ 1 := ct_one (a := bln (K j)) (fun g _ z => beq_iff_eq.mp z)
        have u2 : 0 < fb_ct (fun g => g == bln (K j)) 8 := fb_ct_pos.mpr ⟨_, by omega, beq_self_eq_true _⟩
        omega
      · by_cases z : g = bln (K j)
        · rw [if_pos (beq_iff_eq.mpr z), if_pos (by rw [z]; exact ⟨⟨hga, hgE⟩, e.symm⟩)]
        · rw [if_neg (fun y => z (beq_iff_eq.mp y)), if_neg]
          rintro ⟨⟨-, y2⟩, y3⟩
          have hc := bcs_le K nm (V k)
          rw [hE k hk] at y2
          exact z (by rw [y3, bhd_len (by omega)])
    have hout : ∀ i, i < n → i ≠ k → fb_sm (fun g => if (bah V i ≤ g ∧ g < E i) ∧ K j = bhd (V i) g then 1 else 0) 8 = 0 := fun i hi hik => by
      rw [fb_sm_cong (g := fun _ => 0) (fun g hg => ?_), fb_sm_const]
      refine if_neg ?_
      rintro ⟨⟨y1, y2⟩, y3⟩
      have hVi := (hw.2.2 i hi).1
      have hc := bcs_le K nm (V i)
      rw [hE i hi] at y2
      have eg : bln (K j) = g := by rw [y3, bhd_len (by omega)]
      rw [← eg] at y1 y3
      rcases Nat.lt_or_ge i k with z | z
      · exact hmin i z y3.symm
      · rcases (bah_ge hw hi (show bln (K j) ≤ bln (V i) by omega)).mp y1 with w | w
        · omega
        · exact w (sh_mid hw (i := k) (j := i - 1) (k := i) (by omega) (by omega) hi h7 (e.trans y3))
    have hsum : ∀ (f : Nat → Nat), f k = 1 → (∀ i, i < n → i ≠ k → f i = 0) → fb_sm f n = 1 := fun f h1 h2 => by
      rw [fb_sm_cong (g := fun i => if (i == k) = true then 1 else 0) (fun i hi => ?_), ← ct_sm]
      · have u1 : fb_ct (fun i => i == k) n ≤ 1 := ct_one (a := k) (fun g _ z => beq_iff_eq.mp z)
        have u2 : 0 < fb_ct (fun i => i == k) n := fb_ct_pos.mpr ⟨_, hk, beq_self_eq_true _⟩
        omega
      · by_cases z : i = k
        · rw [z, h1, if_pos (beq_self_eq_true k)]
        · rw [h2 i hi z, if_neg (fun y => z (beq_iff_eq.mp y))]
    exact hsum _ hin hout
  have hA : fb_sm (fun j => fb_sm (fun k => fb_sm (fun g => if (bah V k ≤ g ∧ g < E k) ∧ K j = bhd (V k) g then 1 else 0) 8) n) nm = nm := by
    rw [fb_sm_cong (g := fun _ => 1) one, fb_sm_const, Nat.mul_one]
  rw [sm_swap] at hA
  rw [← hA]
  refine fb_sm_cong (fun k hk => ?_)
  have hV := (hw.2.2 k hk).1
  have hc := bcs_le K nm (V k)
  have h7 := bln_le (V k)
  rw [sm_swap, ← sm_band (a := bah V k) (c := E k) (m := 8) (by rw [hE k hk]; omega)]
  refine fb_sm_cong (fun g hg => ?_)
  by_cases z : bah V k ≤ g ∧ g < E k
  · rw [if_pos z]
    have z2 := z.2
    rw [hE k hk] at z2
    rw [fb_sm_cong (g := fun j => if (K j == bhd (V k) g) = true then 1 else 0) (fun j _ => ?_), ← ct_sm, nd_is1 hN.1 (bcs_no z2)]
    by_cases y : K j = bhd (V k) g
    · rw [if_pos ⟨z, y⟩, if_pos (beq_iff_eq.mpr y)]
    · rw [if_neg (fun q => y q.2), if_neg (fun q => y (beq_iff_eq.mp q))]
  · rw [if_neg z, fb_sm_cong (g := fun _ => 0) (fun j _ => if_neg (fun q => z q.1)), fb_sm_const]
    exact (Nat.mul_zero nm).symm
/-- a word's container, and the word ahead -/
theorem an_cont1 (hw : bWo n V O) (hN : bNs b n V K nm) (hE : bEs n V E K nm) {k : Nat} (hk : k < n) : bop V E k = bco K nm V k := by
  have hV := (hw.2.2 k hk).1
  unfold bop bct bco
  rw [hE k hk]
  by_cases hc : bcs K nm (V k) < bln (V k) + 1
  · rw [decide_eq_true hc, decide_eq_true (show bcs K nm (V k) ≤ bln (V k) by omega)]
    have ha := bah_ge hw hk (show bcs K nm (V k) ≤ bln (V k) by omega)
    by_cases e : k = 0
    · rw [decide_eq_true (ha.mpr (Or.inl e)), beq_iff_eq.mpr e]; rfl
    · rw [beq_false_of_ne e]
      by_cases z : bhd (V (k - 1)) (bcs K nm (V k)) = bhd (V k) (bcs K nm (V k))
      · have h7 := bln_le (V k)
        have hV1 := (hw.2.2 (k - 1) (by omega)).1
        have hl : bcs K nm (V k) ≤ bln (V (k - 1)) := beg_len hV1 (bhd_len (by omega)) (by omega) z
        have e2 : bcs K nm (V (k - 1)) = bcs K nm (V k) := by
          refine bfs_eq (by omega) (fun g hg => ?_) (fun _ => ?_)
          · rw [Bool.not_eq_false', ← bhd_bhd (n := bcs K nm (V k)) (by omega) (by omega) hV1.1, z, bhd_bhd (by omega) (by omega) hV.1]
            exact bcs_no hg
          · rw [z, bcs_yes (by omega)]; rfl
        rw [decide_eq_false (fun q => by rcases ha.mp q with y | y; exact e y; exact y z), z, e2, bopt_y (by omega), decide_eq_true rfl]
        simp
      · rw [decide_eq_true (ha.mpr (Or.inr z)), bne_iff_ne.mpr z]
        simp
  · rw [decide_eq_false hc, decide_eq_false (show ¬ bcs K nm (V k) ≤ bln (V k) by omega)]
    rfl
end NB
