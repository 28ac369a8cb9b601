/-! own rows, pure: beginnings of words -/
theorem bhd_mul (v n : Nat) : bhd v n = 27 ^ (7 - n) * (v / 27 ^ (7 - n)) := by
  have := Nat.div_add_mod v (27 ^ (7 - n))
  unfold bhd
  omega
theorem bhd_lo {v n i : Nat} (h : i < n) (hn : n ≤ 7) : bsg (bhd v n) i = bsg v i := by
  rw [bhd_mul]
  unfold bsg
  rw [show 6 - i = (7 - n) + (n - 1 - i) by omega, Nat.pow_add, ← Nat.div_div_eq_div_mul, ← Nat.div_div_eq_div_mul, Nat.mul_div_cancel_left _ (Nat.pow_pos (by decide))]
theorem bhd_hi {v n i : Nat} (h : n ≤ i) (hi : i < 7) : bsg (bhd v n) i = 0 := by
  rw [bhd_mul]
  unfold bsg
  rw [show 7 - n = (6 - i) + ((i - n) + 1) by omega, Nat.pow_add, Nat.mul_assoc, Nat.mul_div_cancel_left _ (Nat.pow_pos (by decide)), Nat.pow_succ, Nat.mul_assoc, Nat.mul_left_comm]
  exact Nat.mul_mod_right _ _
theorem bhd_lt {v : Nat} (h : v < 27 ^ 7) (n : Nat) : bhd v n < 27 ^ 7 := Nat.lt_of_le_of_lt (bhd_le v n) h
theorem bhd_wf {v n : Nat} (hv : bwf v) (hn : n ≤ 7) : bwf (bhd v n) := by
  refine ⟨bhd_lt hv.1 n, fun i hi h => ?_⟩
  rcases Nat.lt_or_ge (i + 1) n with q | q
  · rw [bhd_lo q hn]
    rw [bhd_lo (by omega) hn] at h
    exact hv.2 i hi h
  · exact bhd_hi q (by omega)
theorem bhd_len {v n : Nat} (hn : n ≤ bln v) : bln (bhd v n) = n := by
  have h7 := bln_le v
  refine bfs_eq (by omega) (fun k hk => ?_) (fun h => ?_)
  · rw [bhd_lo hk (by omega)]
    simpa using bln_nz (v := v) (k := k) (by omega)
  · simpa using bhd_hi (v := v) (Nat.le_refl n) h
theorem bhd_inj {v n m : Nat} (hn : n ≤ bln v) (hm : m ≤ bln v) (e : bhd v n = bhd v m) : n = m := by
  rw [← bhd_len hn, e, bhd_len hm]
theorem bhd_full {v : Nat} (hv : bwf v) {n : Nat} (h : bln v ≤ n) (hn : n ≤ 7) : bhd v n = v := by
  unfold bhd
  rw [bwf_mod hv n hn h, Nat.sub_zero]
theorem bhd_eq {w p m : Nat} (hw : w < 27 ^ 7) (hp : bwf p) (hm : m ≤ 7) (hl : bln p ≤ m) : bhd w m = p ↔ ∀ i, i < m → bsg w i = bsg p i := by
  constructor
  · intro h i hi
    rw [← h, bhd_lo hi hm]
  · intro h
    refine bsg_ext (bhd_lt hw m) hp.1 (fun i hi => ?_)
    rcases Nat.lt_or_ge i m with q | q
    · rw [bhd_lo q hm]; exact h i q
    · rw [bhd_hi q hi, bwf_z hp i hi (by omega)]
theorem bhd_bhd {v n m : Nat} (h : m ≤ n) (hn : n ≤ 7) (hv : v < 27 ^ 7) : bhd (bhd v n) m = bhd v m := by
  refine bsg_ext (bhd_lt (bhd_lt hv n) m) (bhd_lt hv m) (fun i hi => ?_)
  rcases Nat.lt_or_ge i m with q | q
  · rw [bhd_lo q (by omega), bhd_lo q (by omega), bhd_lo (by omega) hn]
  · rw [bhd_hi q hi, bhd_hi q hi]
theorem bsh_ge {u v g : Nat} : g ≤ bsh u v ↔ g ≤ 7 ∧ ∀ i, i < g → bsg u i ≠ 0 ∧ bsg u i = bsg v i := by
  constructor
  · intro h
    refine ⟨Nat.le_trans h (bsh_le u v), fun i hi => ?_⟩
    have := bfs_no _ 7 i (Nat.lt_of_lt_of_le hi h)
    simpa using this
  · intro ⟨h7, h⟩
    rcases Nat.lt_or_ge (bsh u v) g with q | q
    · have h2 := bfs_yes (fun i => bsg u i == 0 || bsg u i != bsg v i) 7 (Nat.lt_of_lt_of_le q h7)
      have h3 := h _ q
      unfold bsh at h3
      simp [h3.1, h3.2] at h2
      exact absurd h2 (h3.2 ▸ h3.1)
    · exact q
theorem bsh_comm (u v : Nat) : bsh u v = bsh v u := by
  have h : ∀ u v, bsh u v ≤ bsh v u := fun u v => by
    have h1 := bsh_ge.mp (Nat.le_refl (bsh u v))
    exact bsh_ge.mpr ⟨h1.1, fun i hi => ⟨(h1.2 i hi).2 ▸ (h1.2 i hi).1, (h1.2 i hi).2.symm⟩⟩
  exact Nat.le_antisymm (h u v) (h v u)
theorem bsh_len (u v : Nat) : bsh u v ≤ bln u := by
  rcases Nat.lt_or_ge (bln u) (bsh u v) with q | q
  · have h1 := (bsh_ge.mp (Nat.le_refl (bsh u v))).2 _ q
    exact absurd (bln_z (Nat.lt_of_lt_of_le q (bsh_le u v))) h1.1
  · exact q
theorem bsh_len2 (u v : Nat) : bsh u v ≤ bln v := bsh_comm u v ▸ bsh_len v u
/-- the first g letters alike: in both codes -/
theorem bsh_hd {u v g : Nat} (hu : u < 27 ^ 7) (hv : v < 27 ^ 7) (hg : g ≤ bln u) : g ≤ bsh u v ↔ bhd u g = bhd v g := by
  have h7 := bln_le u
  constructor
  · intro h
    have h1 := (bsh_ge.mp h).2
    refine bsg_ext (bhd_lt hu g) (bhd_lt hv g) (fun i hi => ?_)
    rcases Nat.lt_or_ge i g with q | q
    · rw [bhd_lo q (by omega), bhd_lo q (by omega)]; exact (h1 i q).2
    · rw [bhd_hi q hi, bhd_hi q hi]
  · intro h
    refine bsh_ge.mpr ⟨by omega, fun i hi => ⟨bln_nz (by omega), ?_⟩⟩
    rw [← bhd_lo (v := u) hi (by omega), h, bhd_lo hi (by omega)]
theorem bsh_self (v : Nat) : bsh v v = bln v := by
  refine Nat.le_antisymm (bsh_len v v) (bsh_ge.mpr ⟨bln_le v, fun i hi => ⟨bln_nz hi, rfl⟩⟩)
/-- K, and behind it the beginnings of x of c0 letters and more -/
def bKx (K : Nat → Nat) (nm x c0 k : Nat) : Nat := if k < nm then K k else bhd x (c0 + (k - nm))
theorem bKx_nd {K : Nat → Nat} {nm x c0 p t : Nat} : bnd (bKx K nm x c0) p (nm + t) = true ↔ bnd K p nm = true ∨ ∃ s, s < t ∧ p = bhd x (c0 + s) := by
  rw [bnd_iff, bnd_iff]
  constructor
  · rintro ⟨k, hk, e⟩
    unfold bKx at e
    split at e
    · next h => exact Or.inl ⟨k, h, e⟩
    · next h => exact Or.inr ⟨k - nm, by omega, e.symm⟩
  · rintro (⟨k, hk, e⟩ | ⟨s, hs, e⟩)
    · exact ⟨k, by omega, by unfold bKx; rw [if_pos hk]; exact e⟩
    · exact ⟨nm + s, by omega, by unfold bKx; rw [if_neg (by omega), Nat.add_sub_cancel_left]; exact e.symm⟩
theorem bcs_no {K : Nat → Nat} {nm w g : Nat} (h : g < bcs K nm w) : bnd K (bhd w g) nm = true := by
  have := bfs_no _ _ g h
  simpa using this
theorem bcs_le (K : Nat → Nat) (nm w : Nat) : bcs K nm w ≤ bln w + 1 := bfs_le _ _
theorem bcs_Kx {K : Nat → Nat} {nm x t : Nat} (hcl : ∀ g, bcs K nm x ≤ g → g ≤ bln x → bnd K (bhd x g) nm = false) (ht : t ≤ bln x + 1 - bcs K nm x) : bcs (bKx K nm x (bcs K nm x)) (nm + t) x = bcs K nm x + t := by
  have hc := bcs_le K nm x
  refine bfs_eq (by omega) (fun g hg => ?_) (fun h => ?_)
  · rw [Bool.not_eq_false', bKx_nd]
    rcases Nat.lt_or_ge g (bcs K nm x) with q | q
    · exact Or.inl (bcs_no q)
    · exact Or.inr ⟨g - bcs K nm x, by omega, by rw [Nat.add_sub_cancel' q]⟩
  · rw [Bool.not_eq_true', Bool.eq_false_iff]
    intro q
    rcases bKx_nd.mp q with q | ⟨s, hs, e⟩
    · rw [hcl _ (by omega) (by omega)] at q
      cases q
    · have := bhd_inj (by omega) (by omega) e
      omega
def bNd (K : Nat → Nat) (nm : Nat) : Prop := ∀ i j, i < j → j < nm → K i ≠ K j
theorem brm_nd {K : Nat → Nat} {nm a : Nat} (h : bNd K nm) (ha : a < nm) : bNd (brm K a) (nm - 1) := by
  intro i j hij hj
  unfold brm
  split <;> split
  · exact h i j hij (by omega)
  · exact h i (j + 1) (by omega) (by omega)
  · omega
  · exact h (i + 1) (j + 1) (by omega) (by omega)
theorem brm_in {K : Nat → Nat} {nm a p : Nat} (h : bNd K nm) (ha : a < nm) : bnd (brm K a) p (nm - 1) = true ↔ bnd K p nm = true ∧ p ≠ K a := by
  rw [bnd_iff, bnd_iff]
  constructor
  · rintro ⟨k, hk, e⟩
    unfold brm at e
    split at e
    · next q => exact ⟨⟨k, by omega, e⟩, fun z => h k a q ha (e.trans z)⟩
    · next q => exact ⟨⟨k + 1, by omega, e⟩, fun z => h a (k + 1) (by omega) (by omega) (z.symm.trans e.symm)⟩
  · rintro ⟨⟨k, hk, e⟩, hne⟩
    rcases Nat.lt_trichotomy k a with q | q | q
    · exact ⟨k, by omega, by unfold brm; rw [if_pos q]; exact e⟩
    · rw [q] at e; exact absurd e.symm hne
    · exact ⟨k - 1, by omega, by unfold brm; rw [if_neg (by omega), Nat.sub_add_cancel (by omega)]; exact e⟩
/-- how far a word's nodes stay, from c0 letters down -/
def bsm (V : Nat → Nat) (n x few : Nat) : Nat → Nat
  | 0 => 0
  | g + 1 => if bbg V n (bhd x g) ≤ few then bsm V n x few g else g + 1
theorem bsm_eq {V : Nat → Nat} {n x few : Nat} : ∀ {c m : Nat}, m ≤ c → (∀ g, m ≤ g → g < c → bbg V n (bhd x g) ≤ few) → (m = 0 ∨ few < bbg V n (bhd x (m - 1))) → bsm V n x few c = m
  | 0, m, h, _, _ => by rw [bsm]; omega
  | c + 1, m, h, h1, h2 => by
    unfold bsm
    rcases Nat.lt_or_ge c m with q | q
    · have e : m = c + 1 := by omega
      subst e
      rw [if_neg]
      rcases h2 with h2 | h2
      · omega
      · exact Nat.not_le.mpr h2
    · rw [if_pos (h1 c q (Nat.lt_succ_self c))]
      exact bsm_eq q (fun g h3 h4 => h1 g h3 (by omega)) h2
theorem bsm_le (V : Nat → Nat) (n x few : Nat) : ∀ c, bsm V n x few c ≤ c
  | 0 => Nat.le_refl 0
  | c + 1 => by
    have := bsm_le V n x few c
    unfold bsm
    split <;> omega
