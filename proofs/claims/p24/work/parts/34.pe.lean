/-! 34.pe: what the steps write, note by note -/
theorem fl_lt {P : List Nat} {k : Nat} (h : k ∈ P) : (P.filter (fun x => decide (¬ x = k))).length < P.length := by
  induction P with
  | nil => cases h
  | cons x P ih =>
    rw [List.filter_cons]
    by_cases c : x = k
    · rw [if_neg (by simp [c]), List.length_cons]
      have := List.length_filter_le (fun x => decide (¬ x = k)) P
      omega
    · rw [if_pos (by simp [c]), List.length_cons, List.length_cons]
      rcases List.mem_cons.mp h with e | e
      · exact absurd e.symm c
      · have := ih e; omega
theorem mem_fl {P : List Nat} {k j : Nat} : j ∈ P.filter (fun x => decide (¬ x = k)) ↔ j ∈ P ∧ ¬ j = k := by
  rw [List.mem_filter, decide_eq_true_eq]
theorem an_nf {σ : Nat → Int32} {k j w : Nat} {z : Int32} (hw : w < 8) : nf (rfAnew σ k z) j w = if j = k then (if w = 2 then z else if w = 3 then (if nf σ k 4 < nI 8 * z then nI 1 else nI 2) else if w = 6 then nI 0 else if w = 7 then σ 5 else nf σ k w) else nf σ j w := by
  have h5 : (nset (rfAn σ k z) k 6 (nI 0)) 5 = σ 5 := (nset_lo (by omega)).trans (rfAn_0 (by omega))
  rw [rfAnew, nf_lo (by omega), rfStamp, nf_lo (by omega), h5, nf_set (by omega) hw, nf_set (by omega) hw]
  unfold rfAn rfPeak
  rw [show nf (nset σ k 2 z) k 4 = nf σ k 4 from nf_w (by omega) (by omega) (by omega), show nf (nset σ k 2 z) k 2 = z from nf_same]
  by_cases c : nf σ k 4 < nI 8 * z
  · rw [if_pos c, if_pos c, nf_set (by omega) hw, nf_set (by omega) hw]; grind
  · rw [if_neg c, if_neg c, nf_set (by omega) hw, nf_set (by omega) hw]; grind
theorem sg_nf {σ : Nat → Int32} {k j w : Nat} (hw : w < 8) : nf (rfSings σ k) j w = if j = k then (if w = 3 then nI 1 else if w = 4 then nI 0 else if w = 6 then nI 0 else if w = 7 then σ 5 else nf σ k w) else nf σ j w := by
  rw [rfSings, rfStamp, nf_lo (by omega), nf_set (by omega) hw, nf_set (by omega) hw, nf_set (by omega) hw, nf_set (by omega) hw, nset_lo (by omega), nset_lo (by omega), nset_lo (by omega)]
  grind
theorem fd_nf {σ : Nat → Int32} {k j w : Nat} (hw : w < 8) : nf (rfFades σ k) j w = if j = k then (if w = 3 then nI 4 else if w = 5 then nf σ k 4 else if w = 6 then nI 0 else nf σ k w) else nf σ j w := by
  rw [rfFades, nf_set (by omega) hw, nf_set (by omega) hw, nf_set (by omega) hw, nf_set (by omega) (by omega)]
  grind
theorem sn_nf {σ : Nat → Int32} {k j w : Nat} (hw : w < 8) : nf (rfSent σ k) j w = if j = k then (if w = 3 then nI 5 else if w = 5 then nf σ k 4 else if w = 6 then nI 0 else nf σ k w) else nf σ j w := by
  rw [rfSent, nf_lo (by omega), rfSent0, nf_set (by omega) hw, nf_set (by omega) hw, nf_set (by omega) hw, nf_set (by omega) (by omega)]
  grind
theorem nw_nf {σ : Nat → Int32} {n j w : Nat} {pa qa za : Int32} (hw : w < 8) : nf (rfNew σ n pa qa za) j w = if j = n then (if w = 0 then pa else if w = 1 then qa else if w = 2 then za else if w = 3 then nI 0 else if w = 4 then nI 0 else if w = 6 then nI 0 else nf σ n w) else nf σ j w := by
  rw [rfNew, nf_lo (by omega), rfNew0, nf_set (by omega) hw, nf_set (by omega) hw, nf_set (by omega) hw, nf_set (by omega) hw, nf_set (by omega) hw, nf_set (by omega) hw]
  grind
/-- the class's row of notes -/
theorem ov_at {T : Nat → Nat → Int32} {k j w : Nat} {z : Int32} (hk : k < 200) : ntOver T (nI k) z w j = if j = k then (if w = 2 then z else if w = 3 then (if T 4 k < nI 8 * z then nI 1 else nI 2) else if w = 6 then nI 0 else T w k) else T w j := by
  unfold ntOver ntTop
  have e1 : ntG (ntPut (ntPut T 2 (nI k) z) 6 (nI k) (nI 0)) 4 (nI k) = T 4 k := by
    rw [ntG_nI hk, ntPut_at hk, ntPut_at hk, if_neg (by omega), if_neg (by omega)]
  have e2 : ntG (ntPut (ntPut T 2 (nI k) z) 6 (nI k) (nI 0)) 2 (nI k) = z := by
    rw [ntG_nI hk, ntPut_at hk, ntPut_at hk, if_neg (by omega), if_pos ⟨rfl, rfl⟩]
  rw [e1, e2]
  by_cases c : T 4 k < nI 8 * z
  · rw [if_pos c, if_pos c, ntPut_at hk, ntPut_at hk, ntPut_at hk]; grind
  · rw [if_neg c, if_neg c, ntPut_at hk, ntPut_at hk, ntPut_at hk]; grind
theorem dn_at {T : Nat → Nat → Int32} {k j w : Nat} {z : Int32} (hk : k < 200) : ntDown T (nI k) z w j = if j = k then (if w = 3 then z else if w = 5 then T 4 k else if w = 6 then nI 0 else T w k) else T w j := by
  unfold ntDown
  rw [ntG_nI hk, ntPut_at hk, ntPut_at hk, ntPut_at hk, ntPut_at hk]
  grind
theorem ap_at {T : Nat → Nat → Int32} {n j w : Nat} {p q s : Int32} (hk : n < 200) : ntApp T (nI n) p q s w j = if j = n then (if w = 0 then p else if w = 1 then q else if w = 2 then s else if w = 3 then nI 0 else if w = 4 then nI 0 else if w = 5 then nI 0 else if w = 6 then nI 0 else T w n) else T w j := by
  unfold ntApp
  rw [ntPut_at hk, ntPut_at hk, ntPut_at hk, ntPut_at hk, ntPut_at hk, ntPut_at hk, ntPut_at hk]
  grind
theorem nr_same {F : Prop} {T T' : Nat → Nat → Int32} {σ σ' : Nat → Int32} {j : Nat} (h : NR F T σ j ∧ NB σ j) (e : ∀ w, w < 7 → nf σ' j w = nf σ j w) (e2 : ∀ w, w < 7 → T' w j = T w j) : NR F T' σ' j ∧ NB σ' j := by
  refine ⟨⟨fun hF w hw h5 => ?_, fun h4 => ?_⟩, ?_⟩
  · rw [e2 w hw, e w hw]; rw [e 3 (by omega)] at hF; exact h.1.1 hF w hw h5
  · rw [e2 5 (by omega), e 5 (by omega)]; rw [e 3 (by omega)] at h4; exact h.1.2 h4
  · obtain ⟨p, s, x, v, m, h1, h2, h3, h4, h5, h6, e0, e1, e3, e4, e6, g1, g2⟩ := h.2
    refine ⟨p, s, x, v, m, h1, h2, h3, h4, h5, h6, ?_, ?_, ?_, ?_, ?_, g1, ?_⟩
    · rw [e 0 (by omega)]; exact e0
    · rw [e 2 (by omega)]; exact e1
    · rw [e 3 (by omega)]; exact e3
    · rw [e 4 (by omega)]; exact e4
    · rw [e 6 (by omega)]; exact e6
    · rw [e 5 (by omega)]; exact g2
theorem nr_all {F : Prop} {T T' : Nat → Nat → Int32} {σ σ' : Nat → Int32} {n k : Nat} (h : ∀ j, j < n → NR F T σ j ∧ NB σ j) (e : ∀ j, ¬ j = k → ∀ w, w < 7 → nf σ' j w = nf σ j w) (e2 : ∀ j, ¬ j = k → ∀ w, w < 7 → T' w j = T w j) (hk : NR F T' σ' k ∧ NB σ' k) : ∀ j, j < n → NR F T' σ' j ∧ NB σ' j := by
  intro j hj
  by_cases c : j = k
  · rw [c]; exact hk
  · exact nr_same (h j hj) (e j c) (e2 j c)
