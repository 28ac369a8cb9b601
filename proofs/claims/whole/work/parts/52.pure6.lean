/-! own rows, pure: a word comes, goes; the nodes' change along one word -/
theorem ct_ins (P : Nat → Bool) {V : Nat → Nat} {p x : Nat} : ∀ {n : Nat}, p ≤ n → fb_ct (fun k => P (bic V p x k)) (n + 1) = fb_ct (fun k => P (V k)) n + (if P x = true then 1 else 0)
  | 0, h => by
    have e : p = 0 := by omega
    subst e
    rw [fb_ct_succ]
    rfl
  | n + 1, h => by
    rw [fb_ct_succ]
    rcases Nat.lt_or_ge n p with q | q
    · have e : p = n + 1 := by omega
      subst e
      rw [fb_ct_cong (q := fun k => P (V k)) (fun k hk => by unfold bic; rw [if_pos hk])]
      have e2 : bic V (n + 1) x (n + 1) = x := by unfold bic; rw [if_neg (Nat.lt_irrefl _), if_pos rfl]
      rw [e2]
    · rw [ct_ins P q, fb_ct_succ (fun k => P (V k)) n]
      have e2 : bic V p x (n + 1) = V n := by unfold bic; rw [if_neg (by omega), if_neg (by omega)]; rfl
      rw [e2]
      omega
theorem ct_rm (P : Nat → Bool) {V : Nat → Nat} {a : Nat} : ∀ {n : Nat}, a < n → fb_ct (fun k => P (V k)) n = fb_ct (fun k => P (brm V a k)) (n - 1) + (if P (V a) = true then 1 else 0)
  | 0, h => absurd h (Nat.not_lt_zero a)
  | n + 1, h => by
    rw [fb_ct_succ, Nat.add_sub_cancel]
    rcases Nat.lt_or_ge a n with q | q
    · rw [ct_rm P q]
      obtain ⟨m, rfl⟩ : ∃ m, n = m + 1 := ⟨n - 1, by omega⟩
      rw [Nat.add_sub_cancel, fb_ct_succ (fun k => P (brm V a k)) m]
      have e : brm V a m = V (m + 1) := by unfold brm; rw [if_neg (by omega)]
      rw [e]
      omega
    · have e : a = n := by omega
      subst e
      rw [fb_ct_cong (p := fun k => P (brm V a k)) (q := fun k => P (V k)) (fun k hk => by unfold brm; rw [if_pos hk])]
theorem bic_lo {F : Nat → Nat} {p x k : Nat} (h : k < p) : bic F p x k = F k := if_pos h
theorem bic_at {F : Nat → Nat} {p x : Nat} : bic F p x p = x := by unfold bic; rw [if_neg (Nat.lt_irrefl p), if_pos rfl]
theorem bic_hi {F : Nat → Nat} {p x k : Nat} (h : p < k) : bic F p x k = F (k - 1) := by unfold bic; rw [if_neg (by omega), if_neg (by omega)]
theorem brm_lo {F : Nat → Nat} {a k : Nat} (h : k < a) : brm F a k = F k := if_pos h
theorem brm_hi {F : Nat → Nat} {a k : Nat} (h : a ≤ k) : brm F a k = F (k + 1) := if_neg (by omega)
/-- the same words, the same lists -/
theorem bof_uni {n m : Nat} {V O U P : Nat → Nat} (h1 : bWo n V O) (h2 : bWo m U P) (h : ∀ u, bof V O n u = bof U P m u) : n = m ∧ ∀ k, k < n → V k = U k ∧ O k = P k := by
  have half : ∀ {n m : Nat} {V O U P : Nat → Nat}, bWo n V O → bWo m U P → (∀ u, bof V O n u = bof U P m u) → ∀ k, k < n → k < m → (∀ j, j < k → V j = U j) → U k ≤ V k := by
    intro n m V O U P h1 h2 h k hk hm ih
    rcases Nat.lt_or_ge (V k) (U k) with q | q
    · have e : bof U P m (V k) ≠ 0 := by rw [← h, bof_at h1 hk]; have := (h1.2.2 k hk).2.2.1; omega
      have e2 : bTh U m (V k) := Classical.byContradiction fun z => e ((bof_0 h2).mpr z)
      obtain ⟨j, hj, ej⟩ := (bTh_iff h2).mp e2
      have hjk : j < k := by
        rcases Nat.lt_or_ge j k with z | z
        · exact z
        · rcases Nat.lt_or_ge k j with z2 | z2
          · have := h2.2.1 k j z2 hj; omega
          · rw [show j = k by omega] at ej; omega
      have h3 := ih j hjk
      have h4 := h1.2.1 j k hjk hk
      omega
    · exact q
  have eq : ∀ k, k < n → k < m → V k = U k := by
    intro k
    induction k using Nat.strongRecOn with
    | ind k ih =>
      intro hk hm
      exact Nat.le_antisymm (half h2 h1 (fun u => (h u).symm) k hm hk (fun j hj => (ih j hj (by omega) (by omega)).symm)) (half h1 h2 h k hk hm (fun j hj => ih j hj (by omega) (by omega)))
  have len : ∀ {n m : Nat} {V O U P : Nat → Nat}, bWo n V O → bWo m U P → (∀ u, bof V O n u = bof U P m u) → (∀ k, k < n → k < m → V k = U k) → ¬ n < m := by
    intro n m V O U P h1 h2 h eq hlt
    have e : bof V O n (U n) ≠ 0 := by rw [h, bof_at h2 hlt]; have := (h2.2.2 n hlt).2.2.1; omega
    have e2 : bTh V n (U n) := Classical.byContradiction fun z => e ((bof_0 h1).mpr z)
    obtain ⟨j, hj, ej⟩ := (bTh_iff h1).mp e2
    rw [eq j hj (by omega)] at ej
    have := h2.2.1 j n hj hlt
    omega
  have hnm : n = m := by
    have a := len h1 h2 h eq
    have b := len h2 h1 (fun u => (h u).symm) (fun k a b => (eq k b a).symm)
    omega
  refine ⟨hnm, fun k hk => ⟨eq k hk (by omega), ?_⟩⟩
  have := h (V k)
  rw [bof_at h1 hk, eq k hk (by omega), bof_at h2 (by omega)] at this
  exact this
theorem bof_in {n : Nat} {V O : Nat → Nat} {u k : Nat} (hw : bWo n V O) (hk : k < n) (e : V k = u) : bof V O n u = O k := by rw [← e, bof_at hw hk]
/-- a list out of another one, by their places -/
theorem bWo_ins {n : Nat} {V O : Nat → Nat} {x y : Nat} (hw : bWo n V O) (hn : n < 40) (hth : ¬ bTh V n x) (hx : bwf x) (hx0 : 0 < x) (hy1 : 1 ≤ y) (hy : y ≤ 99) : bWo (n + 1) (bic V (bpl V n x) x) (bic O (bpl V n x) y) := by
  have hp := bpl_le V n x
  refine ⟨by omega, fun i j hij hj => ?_, fun k hk => ?_⟩
  · rcases Nat.lt_trichotomy j (bpl V n x) with q | q | q
    · rw [bic_lo (by omega), bic_lo q]; exact hw.2.1 i j hij (by omega)
    · rw [q, bic_at, bic_lo (by omega)]; exact bpl_lt (n := n) (show i < bpl V n x by omega)
    · rw [bic_hi q]
      have hge := bpl_ge hw (show bpl V n x ≤ j - 1 by omega) (by omega)
      have hne : V (j - 1) ≠ x := fun e => hth ((bTh_iff hw).mpr ⟨j - 1, by omega, e⟩)
      rcases Nat.lt_trichotomy i (bpl V n x) with z | z | z
      · rw [bic_lo z]; exact hw.2.1 i (j - 1) (by omega) (by omega)
      · rw [z, bic_at]; omega
      · rw [bic_hi z]; exact hw.2.1 (i - 1) (j - 1) (by omega) (by omega)
  · rcases Nat.lt_trichotomy k (bpl V n x) with q | q | q
    · rw [bic_lo q, bic_lo q]; exact hw.2.2 k (by omega)
    · rw [q, bic_at, bic_at]; exact ⟨hx, hx0, hy1, hy⟩
    · rw [bic_hi q, bic_hi q]; exact hw.2.2 (k - 1) (by omega)
theorem bWo_rm {n : Nat} {V O : Nat → Nat} {a : Nat} (hw : bWo n V O) (ha : a < n) : bWo (n - 1) (brm V a) (brm O a) := by
  refine ⟨by have := hw.1; omega, fun i j hij hj => ?_, fun k hk => ?_⟩
  · unfold brm
    split <;> split
    · exact hw.2.1 _ _ hij (by omega)
    · exact hw.2.1 _ _ (by omega) (by omega)
    · omega
    · exact hw.2.1 _ _ (by omega) (by omega)
  · unfold brm
    split
    · exact hw.2.2 k (by omega)
    · exact hw.2.2 (k + 1) (by omega)
theorem bWo_up {n : Nat} {V O : Nat → Nat} {a y : Nat} (hw : bWo n V O) (hy1 : 1 ≤ y) (hy : y ≤ 99) : bWo n V (va_up O a y) := by
  refine ⟨hw.1, hw.2.1, fun k hk => ?_⟩
  have q := hw.2.2 k hk
  by_cases e : k = a
  · rw [e, va_up_self]; rw [e] at q; exact ⟨q.1, q.2.1, hy1, hy⟩
  · rw [va_up_ne _ _ e]; exact q
theorem bof_no {n : Nat} {V O : Nat → Nat} {u : Nat} (hw : bWo n V O) (h : ∀ k, k < n → V k ≠ u) : bof V O n u = 0 := (bof_0 hw).mpr (fun q => by obtain ⟨k, hk, e⟩ := (bTh_iff hw).mp q; exact h k hk e)
/-- put: the words behind it, how often each is there, their depths against the same nodes -/
theorem bPut_ok {V O E : Nat → Nat} {n x y : Nat} {V9 O9 E9 : Nat → Nat} {n9 : Nat} (hw : bWo n V O) (h : bPut V O E n x y V9 O9 E9 n9) (hx : bwf x) (hx0 : 0 < x) (hy : y ≤ 99) (hn : ¬ bTh V n x → n < 40) :
    bWo n9 V9 O9 ∧ (∀ u, bof V9 O9 n9 u = if u = x then y else bof V O n u) ∧ ∀ (K : Nat → Nat) (nm : Nat), bEs n V E K nm → bdp V E n x = bcs K nm x → bEs n9 V9 E9 K nm := by
  have hp := bpl_le V n x
  rcases h with ⟨hth, hy0, rfl, rfl, rfl, rfl⟩ | ⟨hth, hy0, e1, e2, e3, e4⟩ | ⟨hth, rfl, rfl, rfl, rfl, rfl⟩
  · have hw9 := bWo_ins hw (hn hth) hth hx hx0 hy0 hy
    refine ⟨hw9, fun u => ?_, fun K nm hE hd k hk => ?_⟩
    · by_cases e : u = x
      · rw [if_pos e, e, bof_in hw9 (k := bpl V n x) (by omega) bic_at, bic_at]
      · rw [if_neg e]
        by_cases ht : bTh V n u
        · obtain ⟨k, hk, ek⟩ := (bTh_iff hw).mp ht
          rw [bof_in hw hk ek]
          rcases Nat.lt_or_ge k (bpl V n x) with q | q
          · rw [bof_in hw9 (k := k) (by omega) (by rw [bic_lo q]; exact ek), bic_lo q]
          · rw [bof_in hw9 (k := k + 1) (by omega) (by rw [bic_hi (by omega)]; exact ek), bic_hi (by omega)]; rfl
        · rw [(bof_0 hw).mpr ht]
          refine bof_no hw9 (fun k hk q => ?_)
          rcases Nat.lt_trichotomy k (bpl V n x) with z | z | z
          · rw [bic_lo z] at q; exact ht ((bTh_iff hw).mpr ⟨k, by omega, q⟩)
          · rw [z, bic_at] at q; exact e q.symm
          · rw [bic_hi z] at q; exact ht ((bTh_iff hw).mpr ⟨k - 1, by omega, q⟩)
    · rcases Nat.lt_trichotomy k (bpl V n x) with z | z | z
      · rw [bic_lo z, bic_lo z]; exact hE k (by omega)
      · rw [z, bic_at, bic_at]; exact hd
      · rw [bic_hi z, bic_hi z]; exact hE (k - 1) (by omega)
  · rw [e1, e2, e3, e4]
    have hw9 : bWo n V (va_up O (bpl V n x) y) := bWo_up hw hy0 hy
    refine ⟨hw9, fun u => ?_, fun K nm hE _ => hE⟩
    by_cases e : u = x
    · rw [if_pos e, e, bof_in hw9 hth.1 hth.2, va_up_self]
    · rw [if_neg e]
      by_cases ht : bTh V n u
      · obtain ⟨k, hk, ek⟩ := (bTh_iff hw).mp ht
        rw [bof_in hw hk ek, bof_in hw9 hk ek, va_up_ne _ _ (fun q => e (by rw [← ek, q]; exact hth.2))]
      · rw [(bof_0 hw).mpr ht, (bof_0 hw9).mpr ht]
  · have hpn : bpl V n x < n := hth.1
    have hw9 := bWo_rm hw hth.1
    refine ⟨hw9, fun u => ?_, fun K nm hE _ k hk => ?_⟩
    · by_cases e : u = x
      · rw [if_pos e, e]
        refine bof_no hw9 (fun k hk q => ?_)
        unfold brm at q
        split at q
        · next z => have := bpl_lt z; omega
        · next z =>
          have := hw.2.1 (bpl V n x) (k + 1) (by omega) (by omega)
          rw [hth.2] at this
          omega
      · rw [if_neg e]
        by_cases ht : bTh V n u
        · obtain ⟨k, hk, ek⟩ := (bTh_iff hw).mp ht
          rw [bof_in hw hk ek]
          rcases Nat.lt_trichotomy k (bpl V n x) with z | z | z
          · rw [bof_in hw9 (k := k) (by omega) (by rw [brm_lo z]; exact ek), brm_lo z]
          · exact absurd (by rw [← ek, z]; exact hth.2) e
          · rw [bof_in hw9 (k := k - 1) (by omega) (by rw [brm_hi (by omega), Nat.sub_add_cancel (by omega)]; exact ek), brm_hi (by omega), Nat.sub_add_cancel (by omega)]
        · rw [(bof_0 hw).mpr ht]
          refine bof_no hw9 (fun k hk q => ?_)
          unfold brm at q
          split at q
          · exact ht ((bTh_iff hw).mpr ⟨k, by omega, q⟩)
          · exact ht ((bTh_iff hw).mpr ⟨k + 1, by omega, q⟩)
    · unfold brm
      split
      · exact hE k (by omega)
      · exact hE (k + 1) (by omega)
/-- two node lists differ at beginnings of v alone -/
def bDf (K1 : Nat → Nat) (nm1 : Nat) (K2 : Nat → Nat) (nm2 v : Nat) : Prop := ∀ p, (∀ g, g ≤ bln v → p ≠ bhd v g) → (bnd K1 p nm1 = true ↔ bnd K2 p nm2 = true)
def bCl (K : Nat → Nat) (nm : Nat) : Prop := ∀ u, bwf u → ∀ g, g ≤ bln u → (bnd K (bhd u g) nm = true ↔ g < bcs K nm u)
theorem bNs_cl {b n : Nat} {V K : Nat → Nat} {nm : Nat} (h : bNs b n V K nm) : bCl K nm := fun _ hu _ hg => bcs_iff h hu hg
theorem bcs_uni {K : Nat → Nat} {nm u c : Nat} (hc : c ≤ bln u + 1) (h : ∀ g, g ≤ bln u → (bnd K (bhd u g) nm = true ↔ g < c)) : bcs K nm u = c := by
  refine bfs_eq hc (fun g hg => ?_) (fun hl => ?_)
  · rw [Bool.not_eq_false']; exact (h g (by omega)).mpr hg
  · rw [Bool.not_eq_true', Bool.eq_false_iff]; exact fun q => absurd ((h c (by omega)).mp q) (Nat.lt_irrefl c)
theorem brs_ok {K1 : Nat → Nat} {nm1 : Nat} {K2 : Nat → Nat} {nm2 v u : Nat} (h1 : bCl K1 nm1) (h2 : bCl K2 nm2) (hd : bDf K1 nm1 K2 nm2 v) (hv : bwf v) (hu : bwf u) :
    bcs K2 nm2 u = if min (bcs K1 nm1 v) (bcs K2 nm2 v) ≤ bsh u v then min (bcs K2 nm2 v) (bsh u v + 1) else bcs K1 nm1 u := by
  have hs1 := bsh_len u v
  have hs2 := bsh_len2 u v
  have hcu := bcs_le K1 nm1 u
  have lo : ∀ g, g ≤ bsh u v → bhd u g = bhd v g := fun g hg => (bsh_hd hu.1 hv.1 (by omega)).mp hg
  have hi : ∀ g, bsh u v < g → g ≤ bln u → (bnd K1 (bhd u g) nm1 = true ↔ bnd K2 (bhd u g) nm2 = true) := fun g hg hgl => hd _ (fun j hj e => by
    have e2 : g = j := by rw [← bhd_len hgl, e, bhd_len hj]
    rw [← e2] at e
    have := (bsh_hd hu.1 hv.1 hgl).mpr e
    omega)
  split
  · next h =>
    refine bcs_uni (by omega) (fun g hg => ?_)
    rcases Nat.lt_or_ge (bsh u v) g with q | q
    · rw [← hi g q hg, h1 u hu g hg]
      have hu1 : (bcs K1 nm1 u ≤ bcs K1 nm1 v ∧ bsh u v < bcs K2 nm2 v) ∨ bcs K2 nm2 v ≤ bsh u v := by
        rcases Nat.lt_or_ge (bsh u v) (bcs K2 nm2 v) with z | z
        · refine Or.inl ⟨Nat.le_of_not_lt fun z2 => ?_, z⟩
          have z3 : bnd K1 (bhd u (bcs K1 nm1 v)) nm1 = true := (h1 u hu _ (by omega)).mpr z2
          rw [lo _ (by omega), h1 v hv _ (by omega)] at z3
          omega
        · exact Or.inr z
      rcases hu1 with z | z
      · constructor
        · intro k; omega
        · intro k; omega
      · constructor
        · intro k
          -- then g would be a node in the second too, and so the one at bcs K2
          have k2 : bnd K2 (bhd u g) nm2 = true := (hi g q hg).mp ((h1 u hu g hg).mpr k)
          have k3 := (h2 u hu g hg).mp k2
          have k4 : bnd K2 (bhd u (bcs K2 nm2 v)) nm2 = true := (h2 u hu _ (by omega)).mpr (by omega)
          rw [lo _ z, h2 v hv _ (by omega)] at k4
          omega
        · intro k; omega
    · rw [lo g q, h2 v hv g (by omega)]
      omega
  · next h =>
    refine bcs_uni hcu (fun g hg => ?_)
    rcases Nat.lt_or_ge (bsh u v) g with q | q
    · rw [← hi g q hg, h1 u hu g hg]
    · rw [lo g q, h2 v hv g (by omega), ← h1 u hu g hg, lo g q, h1 v hv g (by omega)]
      omega
theorem brs_es {K1 : Nat → Nat} {nm1 : Nat} {K2 : Nat → Nat} {nm2 v n : Nat} {V O E : Nat → Nat} (hw : bWo n V O) (h1 : bCl K1 nm1) (h2 : bCl K2 nm2) (hd : bDf K1 nm1 K2 nm2 v) (hv : bwf v) (hE : bEs n V E K1 nm1) : bEs n V (brs V E v (bcs K1 nm1 v) (bcs K2 nm2 v)) K2 nm2 := by
  intro k hk
  rw [brs_ok h1 h2 hd hv (hw.2.2 k hk).1, ← hE k hk]
  rfl
