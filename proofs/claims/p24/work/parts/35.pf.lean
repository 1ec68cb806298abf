/-! 35.pf: the steps keep the relation: anew, sings, fades, marks, sent home, gone, new -/
theorem upd_if {f : Nat → Int32} {k j : Nat} {x : Int32} : upd f k x j = if j = k then x else f j := rfl
theorem st_lo {σ : Nat → Int32} {k j : Nat} (hj : j < 70) : rfStamp σ k j = if j = 5 then σ 5 + nI 1 else σ j := by
  rw [rfStamp, upd_if, nset_lo (by omega), nset_lo hj]
theorem sg_lo {σ : Nat → Int32} {k j : Nat} (hj : j < 70) : rfSings σ k j = if j = 5 then σ 5 + nI 1 else σ j := by
  rw [rfSings, st_lo hj, nset_lo (by omega), nset_lo (by omega), nset_lo (by omega), nset_lo hj, nset_lo hj, nset_lo hj]
theorem an_lo {σ : Nat → Int32} {k j : Nat} {z : Int32} (hj : j < 70) : rfAnew σ k z j = if j = 4 then σ 4 + nI 1 else if j = 5 then σ 5 + nI 1 else σ j := by
  rw [rfAnew, upd_if, st_lo (by omega), st_lo hj, nset_lo (by omega), nset_lo (by omega), nset_lo hj, rfAn_0 (by omega), rfAn_0 (by omega), rfAn_0 hj]
  grind
theorem sn_lo {σ : Nat → Int32} {k j : Nat} (hj : j < 70) : rfSent σ k j = if j = 3 then σ 3 + nI 1 else σ j := by
  rw [rfSent, upd_if]
  unfold rfSent0
  rw [nset_lo (by omega), nset_lo (by omega), nset_lo (by omega), nset_lo hj, nset_lo hj, nset_lo hj]
theorem nw_lo {σ : Nat → Int32} {n j : Nat} {pa qa za : Int32} (hj : j < 70) : rfNew σ n pa qa za j = if j = 0 then nI (n + 1) else σ j := by
  rw [rfNew, upd_if]
  unfold rfNew0
  rw [nset_lo hj, nset_lo hj, nset_lo hj, nset_lo hj, nset_lo hj, nset_lo hj]
theorem sc_of {F : Prop} {n n' : Nat} {χ χ' : CS} {σ σ' : Nat → Int32} (h : SC F n χ σ) (hn : n' ≤ 200) (e0 : σ' 0 = nI n') (e1 : χ'.2.2.2 0 = nI n') (e : ∀ j, 0 < j → j < 5 → (F ∨ ¬ j = 2) → χ'.2.2.2 j = σ' j) (es : χ'.2.2.1 = χ.2.2.1) (e6 : σ' 6 = σ 6 ∧ σ' 7 = σ 7 ∧ σ' 8 = σ 8) : SC F n' χ' σ' := by
  obtain ⟨-, -, -, -, h5, h6, h7, h8⟩ := h
  refine ⟨hn, e0, e1, e, fun j hj => ?_, ?_, ?_, ?_⟩
  · rw [es, h5 j hj]
    have : j = 0 ∨ j = 1 ∨ j = 2 := by omega
    rcases this with rfl | rfl | rfl
    · exact e6.1.symm
    · exact e6.2.1.symm
    · exact e6.2.2.symm
  · rw [e6.1]; exact h6
  · rw [e6.2.1]; exact h7
  · rw [e6.2.2]; exact h8
section
variable {F : Prop} {C n : Nat} {χ : CS} {σ : Nat → Int32} {P Q D : List Nat}
theorem sm_ext {χ' : CS} (h : Sm F C n χ σ P Q D) (e1 : χ'.1 = χ.1) (e2 : χ'.2.1 0 = χ.2.1 0 ∧ χ'.2.1 1 = χ.2.1 1 ∧ χ'.2.1 2 = χ.2.1 2) (e3 : χ'.2.2 = χ.2.2) : Sm F C n χ' σ P Q D := by
  obtain ⟨h1, h2, h3, h4, h5, h6⟩ := h
  refine ⟨?_, ?_, h3, e2.1.trans h4, e2.2.1.trans h5, e2.2.2.trans h6⟩
  · unfold SC; rw [e3]; exact h1
  · rw [e1]; exact h2
theorem sm_C {C' : Nat} (h : Sm F C n χ σ P Q D) (hC : C ≤ C') : Sm F C' n χ σ P Q D := by
  obtain ⟨h1, h2, ⟨a1, a2, a3, a4, a5, a6, a7, a8, a9, a10, S, b1, b2, b3⟩, h4⟩ := h
  exact ⟨h1, h2, ⟨a1, a2, a3, a4, a5, a6, a7, a8, a9, a10, S, b1, by omega, b3⟩, h4⟩
theorem sm_str (h : Sm F C n χ σ P Q D) {k : Nat} (hk : k < n) : ∃ s, 1 ≤ s ∧ s ≤ 127 ∧ nf σ k 2 = nI s := by
  obtain ⟨p, s, x, v, m, -, h1, h2, -, -, -, -, e, -⟩ := (h.2.1 k hk).2
  exact ⟨s, h1, h2, e⟩
theorem an_ph {σ : Nat → Int32} {k s v : Nat} (hs : s ≤ 127) (hv : v ≤ 1016) (e : nf σ k 4 = nI v) : ∃ x, (x = 1 ∨ x = 2) ∧ (if nf σ k 4 < nI 8 * nI s then nI 1 else nI 2) = nI x := by
  by_cases c : nf σ k 4 < nI 8 * nI s
  · exact ⟨1, Or.inl rfl, if_pos c⟩
  · exact ⟨2, Or.inr rfl, if_neg c⟩
theorem sm_anew (h : Sm F C n χ σ P Q D) (hC : C < 2 ^ 30) {k : Nat} (hk : k ∈ P) {s : Nat} (h1 : 1 ≤ s) (h2 : s ≤ 127) : Sm F (C + 1) n (chAnew χ (nI k) (nI s)) (rfAnew σ k (nI s)) (P.filter (fun x => decide (¬ x = k)) ++ [k]) Q D := by
  have hkn := ((sm_P h).mp hk).1
  have hk2 := sm_P2 h k hk
  have hpl := ((sm_P h).mp hk).2
  have hoth : ∀ j, ¬ j = k → ∀ w, w < 8 → nf (rfAnew σ k (nI s)) j w = nf σ j w := fun j hj w hw => by rw [an_nf hw, if_neg hj]
  have hT : (chAnew χ (nI k) (nI s)).1 = ntOver χ.1 (nI k) (nI s) := rfl
  obtain ⟨p0, s0, x0, v0, m0, b1, b2, b3, b4, b5, b6, b7, b8, b9, b10, b11, b12, b13⟩ := (h.2.1 k hkn).2
  obtain ⟨x, hx, hxe⟩ := an_ph (σ := σ) (k := k) h2 b5 b10
  have hx3 : nf (rfAnew σ k (nI s)) k 3 = nI x := by rw [an_nf (by omega), if_pos rfl, if_neg (by omega), if_pos rfl]; exact hxe
  have hpl' : ∀ j, rfPl (rfAnew σ k (nI s)) j ↔ rfPl σ j := fun j => by
    by_cases c : j = k
    · rw [c, ph_pl (x := x) (by omega) hx3]; exact ⟨fun _ => hpl, fun _ => by omega⟩
    · unfold rfPl; rw [hoth j c 3 (by omega)]
  have hps : ∀ j w, w < 2 → nf (rfAnew σ k (nI s)) j w = nf σ j w := fun j w hw => by
    rw [an_nf (by omega)]
    by_cases c : j = k
    · rw [if_pos c, if_neg (by omega), if_neg (by omega), if_neg (by omega), if_neg (by omega), c]
    · rw [if_neg c]
  have hph : ∀ j y, (y = 0 ∨ y = 5) → (nf (rfAnew σ k (nI s)) j 3 = nI y ↔ nf σ j 3 = nI y) := fun j y hy => by
    by_cases c : j = k
    · rw [c, ph_eq y (by omega) (by omega) hx3, ph_eq y b4 (by omega) b9]
      have := (ph_pl b4 b9).mp hpl
      omega
    · rw [hoth j c 3 (by omega)]
  obtain ⟨hsc, hnt, ⟨a1, a2, a3, a4, a5, a6, a7, a8, a9, a10, S, c1, c2, c3⟩, l0, l1, l2⟩ := h
  refine ⟨?_, ?_, ⟨fun j => ?_, fun j => ?_, fun j => ?_, ?_, a5, a6, ?_, a8, a9, ?_, S + 1, ?_, by omega, ?_⟩, ?_, l1, l2⟩
  · refine sc_of hsc hsc.1 ?_ hsc.2.2.1 (fun j hj hj5 hF => ?_) rfl ⟨?_, ?_, ?_⟩
    · rw [an_lo (by omega)]; exact hsc.2.1
    · rw [an_lo (by omega)]
      show (if j = 4 then χ.2.2.2 4 + nI 1 else χ.2.2.2 j) = _
      rw [hsc.2.2.2.1 4 (by omega) (by omega) (Or.inr (by omega)), hsc.2.2.2.1 j hj hj5 hF, if_neg (show ¬ j = 5 by omega)]
    · rw [an_lo (by omega)]; rfl
    · rw [an_lo (by omega)]; rfl
    · rw [an_lo (by omega)]; rfl
  · refine nr_all (k := k) hnt (fun j hj w hw => hoth j hj w (by omega)) (fun j hj w hw => by rw [hT, ov_at hk2, if_neg hj]) ⟨⟨fun _ w hw h5 => ?_, fun h4 => ?_⟩, p0, s, x, v0, 0, b1, h1, h2, by omega, b5, by omega, ?_, ?_, hx3, ?_, ?_, ⟨fun z => by omega, fun z => by omega⟩, fun z => by omega⟩
    · rw [hT, ov_at hk2, an_nf (by omega), if_pos rfl, if_pos rfl]
      have e := (hnt k hkn).1.1 (Or.inr (pl_n6 hpl))
      rw [e 4 (by omega) (by omega)]
      by_cases w2 : w = 2
      · rw [if_pos w2, if_pos w2]
      by_cases w3 : w = 3
      · rw [if_neg w2, if_neg w2, if_pos w3, if_pos w3]
      by_cases w6 : w = 6
      · rw [if_neg w2, if_neg w2, if_neg w3, if_neg w3, if_pos w6, if_pos w6]
      rw [if_neg w2, if_neg w2, if_neg w3, if_neg w3, if_neg w6, if_neg w6, if_neg (show ¬ w = 7 by omega), e w hw h5]
    · rw [ph_eq 4 (by omega) (by omega) hx3, ph_eq 5 (by omega) (by omega) hx3] at h4; omega
    · rw [hps k 0 (by omega)]; exact b7
    · rw [an_nf (by omega), if_pos rfl, if_pos rfl]
    · rw [an_nf (by omega), if_pos rfl, if_neg (by omega), if_neg (by omega), if_neg (by omega), if_neg (by omega)]; exact b10
    · rw [an_nf (by omega), if_pos rfl, if_neg (by omega), if_neg (by omega), if_pos rfl]
  · rw [hpl' j, List.mem_append, mem_fl, a1 j, List.mem_singleton]
    by_cases c : j = k
    · subst c; exact ⟨fun _ => ⟨hkn, hpl⟩, fun _ => Or.inr rfl⟩
    · exact ⟨fun z => z.elim (fun q => q.1) (fun q => absurd q c), fun z => Or.inl ⟨z, c⟩⟩
  · rw [hph j 5 (Or.inr rfl)]; exact a2 j
  · rw [hph j 0 (Or.inl rfl)]; exact a3 j
  · refine List.pairwise_append.mpr ⟨(a4.sublist List.filter_sublist).imp_of_mem (fun {a b} ha hb hab => ?_), List.pairwise_singleton _ _, fun a ha b hb => ?_⟩
    · rw [hoth a (mem_fl.mp ha).2 7 (by omega), hoth b (mem_fl.mp hb).2 7 (by omega)]; exact hab
    · rw [List.mem_singleton.mp hb, hoth a (mem_fl.mp ha).2 7 (by omega), an_nf (by omega), if_pos rfl, if_neg (by omega), if_neg (by omega), if_neg (by omega), if_pos rfl, c1]
      obtain ⟨g, e, hg⟩ := c3 a (mem_fl.mp ha).1
      rw [e]; exact nI_lt hg (by omega)
  · rw [List.length_append, List.length_singleton]; have := fl_lt hk; omega
  · intro a ha b hb e0 e1
    rw [hps a 0 (by omega), hps b 0 (by omega)] at e0
    rw [hps a 1 (by omega), hps b 1 (by omega)] at e1
    have hin : ∀ j, j ∈ P.filter (fun x => decide (¬ x = k)) ++ [k] → j ∈ P := fun j hj => by
      rcases List.mem_append.mp hj with q | q
      · exact (mem_fl.mp q).1
      · rw [List.mem_singleton.mp q]; exact hk
    exact a10 a (hin a ha) b (hin b hb) e0 e1
  · rw [an_lo (by omega), if_neg (by omega), if_pos rfl, c1, nI_add]
  · intro j hj
    rcases List.mem_append.mp hj with q | q
    · obtain ⟨g, e, hg⟩ := c3 j (mem_fl.mp q).1
      exact ⟨g, by rw [hoth j (mem_fl.mp q).2 7 (by omega)]; exact e, by omega⟩
    · rw [List.mem_singleton.mp q]
      exact ⟨S, by rw [an_nf (by omega), if_pos rfl, if_neg (by omega), if_neg (by omega), if_neg (by omega), if_pos rfl]; exact c1, by omega⟩
  · show lnApp 8 (lnRem (χ.2.1 0) (nI k)) (nI k) = _
    have hP2 : ∀ x, x ∈ P → x < 200 := fun x hx => by have := (a1 x).mp hx; have := hsc.1; omega
    rw [l0, rem_map hP2 hk2, app_map (by have := fl_lt hk; omega)]
end
