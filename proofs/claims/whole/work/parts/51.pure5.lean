/-! own rows, pure: the answers of the readers are alike -/
theorem bhf_bin (x : Int32) : bhf x = bin x (nI 0) (nI 1) := by
  have z : ∀ b c : Bool, (b = true ↔ c = true) → b = c := by decide
  apply z
  constructor
  · intro h
    obtain ⟨k, hk, rfl⟩ := bhf_N h
    rcases (show k = 0 ∨ k = 1 by omega) with rfl | rfl <;> decide +kernel
  · intro h
    obtain ⟨k, hk, rfl⟩ := bin_N (by decide) h
    rcases (show k = 0 ∨ k = 1 by omega) with rfl | rfl <;> decide +kernel
theorem bak_bin (x : Int32) : bak x = bin x (-1) (nI 6) := by
  have z : ∀ b c : Bool, (b = true ↔ c = true) → b = c := by decide
  apply z
  constructor
  · intro h
    obtain ⟨g, hg, rfl⟩ := bak_M h
    rcases (show g = 0 ∨ g = 1 ∨ g = 2 ∨ g = 3 ∨ g = 4 ∨ g = 5 ∨ g = 6 ∨ g = 7 by omega) with rfl | rfl | rfl | rfl | rfl | rfl | rfl | rfl <;> decide +kernel
  · intro h
    obtain ⟨g, hg, rfl⟩ := bin_M h
    rcases (show g = 0 ∨ g = 1 ∨ g = 2 ∨ g = 3 ∨ g = 4 ∨ g = 5 ∨ g = 6 ∨ g = 7 by omega) with rfl | rfl | rfl | rfl | rfl | rfl | rfl | rfl <;> decide +kernel
theorem ct_two {p : Nat → Bool} {i j : Nat} (hij : i < j) : ∀ {n : Nat}, j < n → p i = true → p j = true → 1 < fb_ct p n
  | 0, h, _, _ => absurd h (Nat.not_lt_zero j)
  | n + 1, h, h1, h2 => by
    rw [fb_ct_succ]
    rcases Nat.lt_or_ge j n with q | q
    · have := ct_two hij q h1 h2; omega
    · have e : j = n := by omega
      subst e
      have h3 : 0 < fb_ct p j := fb_ct_pos.mpr ⟨i, hij, h1⟩
      rw [if_pos h2]
      omega
theorem ct_one {p : Nat → Bool} {a : Nat} : ∀ {n : Nat}, (∀ k, k < n → p k = true → k = a) → fb_ct p n ≤ 1
  | 0, _ => Nat.zero_le _
  | n + 1, h => by
    rw [fb_ct_succ]
    by_cases e : p n = true
    · have e2 := h n (Nat.lt_succ_self n) e
      have e3 : fb_ct p n = 0 := fb_ct_zero.mpr (fun k hk => by
        rw [Bool.eq_false_iff]
        intro q
        have := h k (by omega) q
        omega)
      rw [if_pos e, e3]
      exact Nat.le_refl 1
    · rw [if_neg e]
      exact ct_one (fun k hk => h k (by omega))
section AN
variable {b n nm v : Nat} {V O E K : Nat → Nat}
theorem an_times (hw : bWo n V O) : nI (bof V O n v) = mo_times V O n v := by
  unfold mo_times
  rw [bof_eq hw]
  split <;> rfl
theorem an_begin (hw : bWo n V O) (hv : bwf v) : fb_sm (fun k => if bsh v (V k) == bln v then O k else 0) n = fb_sm (fun k => if bhd (V k) (bln v) == v then O k else 0) n :=
  fb_sm_cong (fun k hk => by rw [beg_eq hv (hw.2.2 k hk).1.1])
theorem an_depth (hb : 2 ≤ b) (hw : bWo n V O) (hN : bNs b n V K nm) (hE : bEs n V E K nm) (hv : bwf v) : bdp V E n v = bde K nm v := by
  rw [bdp_bcs hb hw hN hE hv, bde_bcs hN hv]
theorem an_container (hb : 2 ≤ b) (hw : bWo n V O) (hN : bNs b n V K nm) (hE : bEs n V E K nm) (hv : bwf v) (x : Int32) : cl_container V E n v x = mo_container V n K nm v x := by
  unfold cl_container mo_container
  rw [bhf_bin, bdp_bcs hb hw hN hE hv]
  by_cases h : bcs K nm v < bln v + 1
  · rw [if_pos h, if_neg (show ¬ bln v < bcs K nm v by omega), bsc_bbg hw hv (show bcs K nm v ≤ bln v by omega)]
  · rw [if_neg h, if_pos (show bln v < bcs K nm v by omega)]
theorem an_telling (hw : bWo n V O) (hv : bwf v) : cl_telling V O n v = mo_telling V n v := by
  unfold cl_telling mo_telling
  by_cases h : blp V v n = 0
  · rw [if_pos h, if_pos (by rw [bof_eq hw, if_pos h])]
  · have hth := (blp_th hw).mp h
    rw [if_neg h, if_neg (fun q => (bof_0 hw).mp q hth)]
    obtain ⟨a, ha, hav⟩ := (bTh_iff hw).mp hth
    refine congrArg nI (bfs_eq ?_ (fun g hg => ?_) (fun hm => ?_)).symm
    · exact bmx_le (fun k _ => by have := bsh_len2 (V k) v; split <;> omega)
    · -- some other word shares g letters
      have : ∃ k, k < n ∧ V k ≠ v ∧ g ≤ bsh (V k) v := by
        refine Classical.byContradiction fun q => ?_
        have h2 : bmx (fun k => if V k = v then 0 else bsh (V k) v + 1) n ≤ g := bmx_le (fun k hk => by
          by_cases e : V k = v
          · rw [if_pos e]; omega
          · rw [if_neg e]
            rcases Nat.lt_or_ge (bsh (V k) v) g with z | z
            · omega
            · exact absurd ⟨k, hk, e, z⟩ q)
        omega
      obtain ⟨k, hk, hne, hsg⟩ := this
      have hgl : g ≤ bln v := Nat.le_trans hsg (bsh_len2 _ _)
      rw [decide_eq_false]
      rw [Nat.not_le, ← bsc_bbg hw hv hgl]
      unfold bsc
      have hka : k ≠ a := fun e => hne (by rw [e]; exact hav)
      rcases Nat.lt_or_ge k a with z | z
      · exact ct_two z ha (by simpa using hsg) (by rw [hav, bsh_self]; simpa using hgl)
      · exact ct_two (show a < k by omega) hk (by rw [hav, bsh_self]; simpa using hgl) (by simpa using hsg)
    · rw [decide_eq_true_eq, ← bsc_bbg hw hv (by omega)]
      unfold bsc
      refine ct_one (a := a) (fun k hk q => ?_)
      simp only [decide_eq_true_eq] at q
      refine Classical.byContradiction fun z => ?_
      have hne : V k ≠ v := fun e => z (by
        have h1 := bpl_at hw hk
        have h2 := bpl_at hw ha
        rw [e] at h1
        rw [hav] at h2
        omega)
      have := bmx_ge (f := fun k => if V k = v then 0 else bsh (V k) v + 1) hk
      rw [if_neg hne] at this
      omega
theorem an_longest (hw : bWo n V O) (hv : bwf v) : bmx (fun k => if bsh (V k) v == bln (V k) then bln (V k) else 0) n = bmx (fun k => if bhd v (bln (V k)) == V k then bln (V k) else 0) n :=
  bmx_cong (fun k hk => by rw [beg_eq (hw.2.2 k hk).1 hv.1])
theorem ct_cut {p : Nat → Bool} {m : Nat} : ∀ {t : Nat}, m ≤ t → (∀ i, m ≤ i → i < t → p i = false) → fb_ct p t = fb_ct p m
  | 0, h, _ => by rw [show m = 0 by omega]
  | t + 1, h, h2 => by
    rcases Nat.lt_or_ge t m with q | q
    · rw [show m = t + 1 by omega]
    · rw [fb_ct_succ, h2 t q (Nat.lt_succ_self t), ct_cut q (fun i h3 h4 => h2 i h3 (by omega))]
      rfl
theorem an_like (hw : bWo n V O) (hv : bwf v) (x : Int32) : cl_like V n v x = mo_like V n v (bln v) x := by
  unfold cl_like mo_like
  have key : ∀ d, fb_ct (fun k => bln (V k) == bln v && decide (fb_ct (fun i => bsg (V k) i != bsg v i) 7 ≤ d)) n = fb_ct (fun k => (bln (V k) == bln v) && decide (fb_ct (fun t => bsg (V k) t != bsg v t) (bln v) ≤ d)) n := fun d =>
    fb_ct_cong (fun k hk => by
      by_cases e : bln (V k) = bln v
      · rw [ct_cut (p := fun i => bsg (V k) i != bsg v i) (bln_le v) (fun i h1 h2 => by
          rw [bwf_z (hw.2.2 k hk).1 i h2 (by omega), bwf_z hv i h2 h1]
          rfl)]
      · rw [beq_false_of_ne e]; rfl)
  by_cases h : bin x (nI 0) (nI 7) = true
  · obtain ⟨k, hk, rfl⟩ := bin_N (by decide) h
    rw [if_pos h, if_neg (nI_pos (by omega)), if_pos (nI_le hk (by decide)), nI_clamp (by omega), key]
  · rw [if_neg h]
    by_cases h0 : x < 0
    · rw [if_pos h0]
    · rw [if_neg h0]
      refine if_neg (fun q => h ?_)
      simp only [Bool.and_eq_true, Bool.not_eq_true', decide_eq_false_iff_not]
      exact ⟨h0, fun z => by
        rw [Int32.lt_iff_toInt_lt] at z
        rw [Int32.le_iff_toInt_le] at q
        omega⟩
theorem an_odds {p : Nat} (hp : p ≤ fb_sm O n) (x : Int32) : cl_odds (fb_sm O n) p x = mo_odds O n p x := by
  unfold cl_odds mo_odds
  rw [bhf_bin]
  by_cases h : bin x (nI 0) (nI 1) = true
  · rw [if_pos h, if_pos h]
    unfold cl_od mo_od
    by_cases e : fb_sm O n = 0
    · have e2 : p = 0 := by omega
      subst e2
      rw [e, if_pos rfl, if_pos (show Nat.gcd 0 0 = 0 from rfl)]
      obtain ⟨k, hk, rfl⟩ := bin_N (by decide) h
      rcases (show k = 0 ∨ k = 1 by omega) with rfl | rfl
      · decide +kernel
      · decide +kernel
    · rw [if_neg e, if_neg (fun q => e (Nat.eq_zero_of_gcd_eq_zero_right q)), Nat.gcd_comm]
  · rw [if_neg h, if_neg h]
theorem an_kth (x y : Int32) : cl_kth V O n x y = mo_kth V O n x y := by unfold cl_kth mo_kth; rw [bak_bin]
theorem an_unlike (x y : Int32) : cl_unlike V n x y = mo_unlike V n x y := by unfold cl_unlike mo_unlike; rw [bak_bin]
theorem an_next (hw : bWo n V O) (y : Int32) : cl_next V O n v y = mo_next V n v y := by
  unfold cl_next mo_next
  rw [bak_bin]
  have e : (if bof V O n v = 0 then bpl V n v else bpl V n v + 1) = bfs (fun j => decide (v < V j)) n := by
    have hle := bpl_le V n v
    by_cases h : bof V O n v = 0
    · rw [if_pos h]
      refine (bfs_eq hle (fun k hk => ?_) (fun hl => ?_)).symm
      · have := bpl_lt hk; simp; omega
      · have h1 := bpl_ge hw (Nat.le_refl _) hl
        have h2 : V (bpl V n v) ≠ v := fun q => (bof_0 hw).mp h ⟨hl, q⟩
        simp; omega
    · have hth : bTh V n v := Classical.byContradiction fun q => h ((bof_0 hw).mpr q)
      rw [if_neg h]
      refine (bfs_eq (by have := hth.1; omega) (fun k hk => ?_) (fun hl => ?_)).symm
      · rcases Nat.lt_or_ge k (bpl V n v) with q | q
        · have := bpl_lt q; simp; omega
        · rw [show k = bpl V n v by omega, hth.2]; simp
      · have := hw.2.1 (bpl V n v) (bpl V n v + 1) (by omega) hl
        rw [hth.2] at this
        simpa using this
  rw [e]
theorem an_fit {SA SL SI : Nat → Nat} {sn : Nat} (x : Int32) : cl_fit V n SA SL SI sn x = mo_fit V n SA SL SI sn x := by
  unfold cl_fit mo_fit
  rw [bhf_bin]
  by_cases h : bin x (nI 0) (nI 1) = true
  · rw [if_pos h, if_pos h]
    obtain ⟨k, hk, rfl⟩ := bin_N (by decide) h
    have hle := bfs_le (fun k => bft (V k) SA SL SI sn) n
    rcases (show k = 0 ∨ k = 1 by omega) with rfl | rfl
    · rw [if_neg (by decide), if_pos (show nI 0 = 0 from rfl)]
    · rw [if_pos rfl, if_neg (show ¬ nI 1 = 0 by decide)]
      by_cases e : bfs (fun k => bft (V k) SA SL SI sn) n = n
      · rw [if_pos e, if_neg (by omega)]
      · rw [if_neg e, if_pos (by omega)]
  · rw [if_neg h, if_neg h]
theorem an_dgl (x : Nat) (h : Int64) : ∀ {i : Nat}, i ≤ bln x → cgl x h i = dgl x h i
  | 0, _ => rfl
  | i + 1, hi => by
    have hz := bln_nz (v := x) (k := i) (by omega)
    rw [cgl, dgl, an_dgl x h (by omega), bch_v (Nat.pos_of_ne_zero hz), Int64.add_assoc (lN 31 * dgl x h i), lN_add, Int64.sub_eq_add_neg, Int64.add_assoc, ← Int64.sub_eq_add_neg, lN_sub (by omega)]
    exact congrArg (fun z => lN 31 * dgl x h i + lN z) (by omega)
theorem an_digest (hb : 2 ≤ b) (hw : bWo n V O) (hN : bNs b n V K nm) (hE : bEs n V E K nm) : ∀ {k : Nat}, k ≤ n → cgo V O E k = dgo V O (fun k => bde K nm (V k)) k
  | 0, _ => rfl
  | k + 1, hk => by
    rw [cgo, dgo, an_digest hb hw hN hE (by omega), an_dgl _ _ (Nat.le_refl _), hE k (by omega), bde_bcs hN (hw.2.2 k (by omega)).1]
end AN
