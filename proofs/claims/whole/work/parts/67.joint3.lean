/-! own rows, pure: TYPED, CLEARED, BOUNDS, SEEN, FORGOTTEN over both sides -/
theorem bin_k {a g k : Nat} (hg : g < 2 ^ 31) (h1 : a ≤ k) (h2 : k ≤ g) : bin (nI k) (nI a) (nI g) = true := by
  simp only [Bool.and_eq_true, Bool.not_eq_true', decide_eq_false_iff_not]
  exact ⟨fun q => absurd ((nI_ltI (by omega) (by omega)).mp q) (by omega), fun q => absurd ((nI_ltI (by omega) (by omega)).mp q) (by omega)⟩
theorem bin_ft {x y z : Int32} (h1 : bin x y z = false) (h2 : bin x y z = true) {P : Prop} : P := absurd (h1.symm.trans h2) (by decide)
theorem bin_28 {x : Int32} : bin x (nI 2) (nI 8) = true ↔ ¬ x < nI 2 ∧ x ≤ nI 8 := by
  simp only [Bool.and_eq_true, Bool.not_eq_true', decide_eq_false_iff_not]
  rw [Int32.lt_iff_toInt_lt, Int32.lt_iff_toInt_lt, Int32.le_iff_toInt_le, nI_toInt (by decide), nI_toInt (by decide)]
  omega
theorem bin_06 {x : Int32} : bin x (nI 0) (nI 6) = true ↔ ¬ x < 0 ∧ ¬ nI 7 ≤ x := by
  simp only [Bool.and_eq_true, Bool.not_eq_true', decide_eq_false_iff_not]
  rw [Int32.lt_iff_toInt_lt, Int32.lt_iff_toInt_lt, Int32.le_iff_toInt_le, Int32.lt_iff_toInt_lt, nI_toInt (by decide), nI_toInt (by decide), nI_toInt (by decide)]
  have : (0 : Int32).toInt = 0 := by decide
  omega
section JK
variable {b n : Nat} {V O E K : Nat → Nat} {nm : Nat} {w : Nat → Int64} {o d : Nat → Int32} {hw : Nat → Int64} {ho hd : Nat → Int32} {hn : Nat} {HW HO HE : Nat → Nat} {wo : Nat → Int64} {of : Nat → Int32} {no un : Nat → Int64} {v : Nat}
theorem J_type {x r r' : Int32} {v' tm tm' : Nat} {ty ty' : Nat → Int32} (hw : bMW ty tm v)
    (hc : (bin x (nI 97) (nI 122) = false ∧ r = -1 ∧ v' = v) ∨ (bin x (nI 97) (nI 122) = true ∧ bln v = 7 ∧ r = -3 ∧ v' = v) ∨ (∃ k, 97 ≤ k ∧ k ≤ 122 ∧ x = nI k ∧ bln v < 7 ∧ r = nI (bln v + 1) ∧ v' = bxt v (k - 96)))
    (hm : (bin x (nI 97) (nI 122) = false ∧ r' = -1 ∧ tm' = tm ∧ ty' = ty) ∨ (bin x (nI 97) (nI 122) = true ∧ tm = 7 ∧ r' = -3 ∧ tm' = tm ∧ ty' = ty) ∨ (∃ k, 97 ≤ k ∧ k ≤ 122 ∧ x = nI k ∧ tm < 7 ∧ r' = nI (tm + 1) ∧ tm' = tm + 1 ∧ bMW ty' tm' (bxt v (k - 96)))) : r = r' ∧ bMW ty' tm' v' := by
  have e := hw.2.1
  rcases hc with ⟨c1, c2, c3⟩ | ⟨c1, c0, c2, c3⟩ | ⟨k, k1, k2, k3, c0, c2, c3⟩
  · rcases hm with ⟨m1, m2, m3, m4⟩ | ⟨m1, m0, m2, m3, m4⟩ | ⟨j, j1, j2, j3, m0, m2, m3, m4⟩
    · rw [c2, m2, c3, m3, m4]; exact ⟨rfl, hw⟩
    · exact bin_ft c1 m1
    · rw [j3] at c1; exact bin_ft c1 (bin_k (by decide) j1 j2)
  · rcases hm with ⟨m1, m2, m3, m4⟩ | ⟨m1, m0, m2, m3, m4⟩ | ⟨j, j1, j2, j3, m0, m2, m3, m4⟩
    · exact bin_ft m1 c1
    · rw [c2, m2, c3, m3, m4]; exact ⟨rfl, hw⟩
    · omega
  · rcases hm with ⟨m1, m2, m3, m4⟩ | ⟨m1, m0, m2, m3, m4⟩ | ⟨j, j1, j2, j3, m0, m2, m3, m4⟩
    · rw [k3] at m1; exact bin_ft m1 (bin_k (by decide) k1 k2)
    · omega
    · have ek : k = j := (nI_eq (by omega) (by omega)).mp (k3.symm.trans j3)
      rw [← ek] at m4
      rw [c2, m2, c3, e]
      exact ⟨rfl, m4⟩
theorem bMW_0 {ty : Nat → Int32} : bMW ty 0 0 := ⟨⟨by decide, fun i _ _ => by unfold bsg; rw [Nat.zero_div]⟩, by decide, fun k hk => absurd hk (Nat.not_lt_zero k)⟩
theorem J_bounds {x r r' : Int32} {bd' hn' b' um' : Nat} (hJ : bJ b n V O E K nm w o d hw ho hd hn HW HO HE wo of no un) (hbd : 2 ≤ b ∧ b ≤ 8)
    (hc : ((x < nI 2 ∨ ¬ x ≤ nI 8) ∧ r = -1 ∧ (bd', hn') = (b, hn)) ∨ (¬ x < nI 2 ∧ x ≤ nI 8 ∧ 0 < n ∧ r = -2 ∧ (bd', hn') = (b, hn)) ∨ (∃ k, 2 ≤ k ∧ k ≤ 8 ∧ x = nI k ∧ n = 0 ∧ r = nI b ∧ (bd', hn') = (k, 0)))
    (hm : (bin x (nI 2) (nI 8) = false ∧ r' = -1 ∧ b' = b ∧ um' = hn) ∨ (bin x (nI 2) (nI 8) = true ∧ 0 < n ∧ r' = -2 ∧ b' = b ∧ um' = hn) ∨ (∃ k, 2 ≤ k ∧ k ≤ 8 ∧ x = nI k ∧ n = 0 ∧ r' = nI b ∧ b' = k ∧ um' = 0)) :
    r = r' ∧ bd' = b' ∧ hn' = um' ∧ (2 ≤ bd' ∧ bd' ≤ 8) ∧ bJ bd' n V O E K nm w o d hw ho hd hn' HW HO HE wo of no un := by
  rcases hc with ⟨c1, c2, c3⟩ | ⟨c1, c0, c9, c2, c3⟩ | ⟨k, k1, k2, k3, c0, c2, c3⟩
  · cases c3
    rcases hm with ⟨m1, m2, m3, m4⟩ | ⟨m1, m0, m2, m3, m4⟩ | ⟨j, j1, j2, j3, m0, m2, m3, m4⟩
    · rw [c2, m2, m3, m4]; exact ⟨rfl, rfl, rfl, hbd, hJ⟩
    · have := bin_28.mp m1
      rcases c1 with c1 | c1
      · exact absurd c1 this.1
      · exact absurd this.2 c1
    · have := bin_28.mp (show bin x (nI 2) (nI 8) = true by rw [j3]; exact bin_k (by decide) j1 j2)
      rcases c1 with c1 | c1
      · exact absurd c1 this.1
      · exact absurd this.2 c1
  · cases c3
    rcases hm with ⟨m1, m2, m3, m4⟩ | ⟨m1, m0, m2, m3, m4⟩ | ⟨j, j1, j2, j3, m0, m2, m3, m4⟩
    · exact bin_ft m1 (bin_28.mpr ⟨c1, c0⟩)
    · rw [c2, m2, m3, m4]; exact ⟨rfl, rfl, rfl, hbd, hJ⟩
    · omega
  · cases c3
    rcases hm with ⟨m1, m2, m3, m4⟩ | ⟨m1, m0, m2, m3, m4⟩ | ⟨j, j1, j2, j3, m0, m2, m3, m4⟩
    · rw [k3] at m1; exact bin_ft m1 (bin_k (by decide) k1 k2)
    · omega
    · have ek : bd' = j := (nI_eq (by omega) (by omega)).mp (k3.symm.trans j3)
      obtain ⟨j1, j2, j3, j4, j5, j6, j7, j8⟩ := hJ
      rw [c2, m2, m3, m4]
      refine ⟨rfl, ek, rfl, ⟨k1, k2⟩, j1, ⟨Nat.zero_le _, fun t ht => absurd ht (Nat.not_lt_zero t)⟩, j3, j4, j5, ⟨j6.1, fun p hp => ?_, j6.2.2.1, fun u _ _ => ?_⟩, j7, ⟨fun _ => n, fun _ => V, fun _ => O, fun _ => K, fun _ => nm, ⟨rfl, rfl, rfl, rfl, rfl⟩, fun t ht => absurd ht (Nat.not_lt_zero t)⟩⟩
      · have h1 := (j6.2.1 p hp).2
        have h2 := fb_ct_le (fun k => bhd (V k) (bln p) == p) n
        unfold bbg at h1
        omega
      · have h2 := fb_ct_le (fun k => bhd (V k) (bln (bhd u (bcs K nm u))) == bhd u (bcs K nm u)) n
        unfold bbg
        omega
theorem J_sees {x y z r r' : Int32} {pl le so pl' le' so' sa sl si sa' sl' si' : Nat → Int32} {sn s4 s5 : Nat} {SA SL SI : Nat → Nat} (hS : bSS pl le so sn SA SL SI) (hM : bMS sa sl si sn SA SL SI)
    (hc : ((x < 0 ∨ nI 7 ≤ x ∨ bin y (nI 97) (nI 122) = false ∨ bhf z = false) ∧ r = -1 ∧ (pl', le', so', s4) = (pl, le, so, sn)) ∨ ((¬ x < 0 ∧ ¬ nI 7 ≤ x ∧ bin y (nI 97) (nI 122) = true ∧ bhf z = true) ∧ sn = 8 ∧ r = -3 ∧ (pl', le', so', s4) = (pl, le, so, sn)) ∨ (∃ i k t, i ≤ 6 ∧ x = nI i ∧ 97 ≤ k ∧ k ≤ 122 ∧ y = nI k ∧ t ≤ 1 ∧ z = nI t ∧ sn < 8 ∧ r = nI (sn + 1) ∧ s4 = sn + 1 ∧ bSS pl' le' so' (sn + 1) (va_up SA sn i) (va_up SL sn (k - 96)) (va_up SI sn t)))
    (hm : ((bin x (nI 0) (nI 6) = false ∨ bin y (nI 97) (nI 122) = false ∨ bin z (nI 0) (nI 1) = false) ∧ r' = -1 ∧ (sa', sl', si', s5) = (sa, sl, si, sn)) ∨ ((bin x (nI 0) (nI 6) = true ∧ bin y (nI 97) (nI 122) = true ∧ bin z (nI 0) (nI 1) = true) ∧ sn = 8 ∧ r' = -3 ∧ (sa', sl', si', s5) = (sa, sl, si, sn)) ∨ (∃ i k t, i ≤ 6 ∧ x = nI i ∧ 97 ≤ k ∧ k ≤ 122 ∧ y = nI k ∧ t ≤ 1 ∧ z = nI t ∧ sn < 8 ∧ r' = nI (sn + 1) ∧ s5 = sn + 1 ∧ bMS sa' sl' si' (sn + 1) (va_up SA sn i) (va_up SL sn (k - 96)) (va_up SI sn t))) :
    r = r' ∧ s4 = s5 ∧ ∃ SA' SL' SI', bSS pl' le' so' s4 SA' SL' SI' ∧ bMS sa' sl' si' s4 SA' SL' SI' := by
  have c1no : (x < 0 ∨ nI 7 ≤ x ∨ bin y (nI 97) (nI 122) = false ∨ bhf z = false) → bin x (nI 0) (nI 6) = true → bin y (nI 97) (nI 122) = true → bin z (nI 0) (nI 1) = true → False := by
    intro q h1 h2 h3
    have h1 := bin_06.mp h1
    rw [← bhf_bin] at h3
    rcases q with q | q | q | q
    · exact h1.1 q
    · exact h1.2 q
    · exact bin_ft q h2
    · rw [q] at h3; cases h3
  have m1no : (bin x (nI 0) (nI 6) = false ∨ bin y (nI 97) (nI 122) = false ∨ bin z (nI 0) (nI 1) = false) → bin x (nI 0) (nI 6) = true → bin y (nI 97) (nI 122) = true → bin z (nI 0) (nI 1) = true → False := by
    intro q h1 h2 h3
    rcases q with q | q | q
    · exact bin_ft q h1
    · exact bin_ft q h2
    · exact bin_ft q h3
  rcases hc with ⟨c1, c2, c3⟩ | ⟨c1, c0, c2, c3⟩ | ⟨i, k, t, i1, i2, k1, k2, k3, t1, t2, c0, c2, c3, c4⟩
  · cases c3
    rcases hm with ⟨m1, m2, m3⟩ | ⟨m1, m0, m2, m3⟩ | ⟨i', k', t', i1', i2', k1', k2', k3', t1', t2', m0, m2, m3, m4⟩
    · cases m3; rw [c2, m2]; exact ⟨rfl, rfl, SA, SL, SI, hS, hM⟩
    · exact (c1no c1 m1.1 m1.2.1 m1.2.2).elim
    · rw [i2', k3', t2'] at c1no c1
      exact (c1no c1 (bin_k (by decide) (Nat.zero_le _) i1') (bin_k (by decide) k1' k2') (bin_k (by decide) (Nat.zero_le _) t1')).elim
  · cases c3
    rcases hm with ⟨m1, m2, m3⟩ | ⟨m1, m0, m2, m3⟩ | ⟨i', k', t', i1', i2', k1', k2', k3', t1', t2', m0, m2, m3, m4⟩
    · exact (m1no m1 (bin_06.mpr ⟨c1.1, c1.2.1⟩) c1.2.2.1 (by rw [← bhf_bin]; exact c1.2.2.2)).elim
    · cases m3; rw [c2, m2]; exact ⟨rfl, rfl, SA, SL, SI, hS, hM⟩
    · omega
  · rcases hm with ⟨m1, m2, m3⟩ | ⟨m1, m0, m2, m3⟩ | ⟨i', k', t', i1', i2', k1', k2', k3', t1', t2', m0, m2, m3, m4⟩
    · rw [i2, k3, t2] at m1no m1
      exact (m1no m1 (bin_k (by decide) (Nat.zero_le _) i1) (bin_k (by decide) k1 k2) (bin_k (by decide) (Nat.zero_le _) t1)).elim
    · omega
    · have ei : i' = i := (nI_eq (by omega) (by omega)).mp (i2'.symm.trans i2)
      have ek : k' = k := (nI_eq (by omega) (by omega)).mp (k3'.symm.trans k3)
      have et : t' = t := (nI_eq (by omega) (by omega)).mp (t2'.symm.trans t2)
      rw [ei, ek, et] at m4
      rw [c2, m2, c3, m3]
      exact ⟨rfl, rfl, _, _, _, c4, m4⟩
theorem J_ask {SA SL SI : Nat → Nat} {sn : Nat} (hn : n ≤ 40) : (if fb_ct (fun k => bft (V k) SA SL SI sn) n < 2 then -9 else (bca (btT V n SA SL SI sn) (fb_ct (fun k => bft (V k) SA SL SI sn) n) 182).1) = (if 1 < fb_ct (fun k => bft (V k) SA SL SI sn) n then (bao V n (fun k => bft (V k) SA SL SI sn) (fb_ct (fun k => bft (V k) SA SL SI sn) n) 7).1 else -9) := by
  have h2 := fb_ct_le (fun k => bft (V k) SA SL SI sn) n
  generalize hf : fb_ct (fun k => bft (V k) SA SL SI sn) n = f at h2 ⊢
  by_cases h : f < 2
  · rw [if_pos h, if_neg (by omega)]
  · rw [if_neg h, if_pos (by omega)]
    exact an_ask hf.symm (by omega) (by omega)
end JK
