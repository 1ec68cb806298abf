/-! 36.pg: further steps -/
section
variable {F : Prop} {C n : Nat} {χ : CS} {σ : Nat → Int32} {P Q D : List Nat}
theorem gone_nf {σ : Nat → Int32} {k j w : Nat} {v : Int32} {u : Nat} (hu : u < 8) (hw : w < 8) : nf (nset σ k u v) j w = if j = k then (if w = u then v else nf σ k w) else nf σ j w := by
  rw [nf_set hu hw]; grind
/-- a waiting note goes away -/
theorem sm_gone (h : Sm F C n χ σ P Q D) {k : Nat} (hk : k ∈ D) : 1 ≤ C ∧ Sm F (C - 1) n (setT (lR χ 2 (nI k)) (ntEnd (lR χ 2 (nI k)).1 (nI k))) (nset σ k 3 (nI 6)) P Q (D.filter (fun x => decide (¬ x = k))) := by
  have hkn := ((sm_D h).mp hk).1
  have hk2 := sm_D2 h k hk
  have hk0 := ((sm_D h).mp hk).2
  have hkP : ¬ k ∈ P := fun z => by have := ((sm_P h).mp z).2; unfold rfPl at this; rw [hk0] at this; exact absurd this.1 (by decide)
  have hkQ : ¬ k ∈ Q := fun z => by have := ((sm_Q h).mp z).2; rw [hk0] at this; exact absurd this (by decide)
  have hoth : ∀ j, ¬ j = k → ∀ w, w < 8 → nf (nset σ k 3 (nI 6)) j w = nf σ j w := fun j hj w hw => by rw [gone_nf (by omega) hw, if_neg hj]
  have hx3 : nf (nset σ k 3 (nI 6)) k 3 = nI 6 := nf_same
  have how : ∀ j w, w < 8 → ¬ w = 3 → nf (nset σ k 3 (nI 6)) j w = nf σ j w := fun j w hw h3 => nf_w h3 (by omega) hw
  obtain ⟨p0, s0, x0, v0, m0, b1, b2, b3, b4, b5, b6, b7, b8, b9, b10, b11, b12, b13⟩ := (h.2.1 k hkn).2
  obtain ⟨hsc, hnt, ⟨a1, a2, a3, a4, a5, a6, a7, a8, a9, a10, S, c1, c2, c3⟩, l0, l1, l2⟩ := h
  have hfl := fl_lt hk
  refine ⟨by omega, ?_, ?_, ⟨fun j => ?_, fun j => ?_, fun j => ?_, ?_, a5, a6.sublist List.filter_sublist, a7, a8, by omega, ?_, S, ?_, by omega, ?_⟩, l0, l1, ?_⟩
  · refine sc_of hsc hsc.1 ?_ hsc.2.2.1 (fun j hj hj5 hF => ?_) rfl ⟨?_, ?_, ?_⟩
    · rw [nset_lo (by omega)]; exact hsc.2.1
    · rw [nset_lo (by omega)]; exact hsc.2.2.2.1 j hj hj5 hF
    · exact nset_lo (by omega)
    · exact nset_lo (by omega)
    · exact nset_lo (by omega)
  · refine nr_all (k := k) hnt (fun j hj w hw => hoth j hj w (by omega)) (fun j hj w hw => ?_) ⟨⟨fun _ w hw h5 => ?_, fun h4 => ?_⟩, p0, s0, 6, v0, m0, b1, b2, b3, by omega, b5, b6, ?_, ?_, hx3, ?_, ?_, ⟨fun z => by omega, fun z => by omega⟩, fun z => by omega⟩
    · show ntPut χ.1 3 (nI k) (nI 6) w j = _
      rw [ntPut_at hk2, if_neg (fun z => hj z.1)]
    · show ntPut χ.1 3 (nI k) (nI 6) w k = _
      rw [ntPut_at hk2, gone_nf (by omega) (by omega), if_pos rfl]
      have e := (hnt k hkn).1.1 (Or.inr (e_n6 hk0 (by omega)))
      by_cases w3 : w = 3
      · rw [if_pos ⟨rfl, w3⟩, if_pos w3]
      · rw [if_neg (fun z => w3 z.2), if_neg w3, e w hw h5]
    · rw [ph_eq 4 (by omega) (by omega) hx3, ph_eq 5 (by omega) (by omega) hx3] at h4; omega
    · rw [how k 0 (by omega) (by omega)]; exact b7
    · rw [how k 2 (by omega) (by omega)]; exact b8
    · rw [how k 4 (by omega) (by omega)]; exact b10
    · rw [how k 6 (by omega) (by omega)]; exact b11
  · by_cases c : j = k
    · subst c; rw [ph_pl (x := 6) (by omega) hx3]; exact ⟨fun z => absurd z hkP, fun z => by omega⟩
    · unfold rfPl; rw [hoth j c 3 (by omega)]; exact a1 j
  · by_cases c : j = k
    · subst c; rw [ph_eq 5 (by omega) (by omega) hx3]; exact ⟨fun z => absurd z hkQ, fun z => by omega⟩
    · rw [hoth j c 3 (by omega)]; exact a2 j
  · rw [mem_fl]
    by_cases c : j = k
    · subst c; rw [ph_eq 0 (by omega) (by omega) hx3]; exact ⟨fun z => absurd rfl z.2, fun z => by omega⟩
    · rw [hoth j c 3 (by omega)]; exact ⟨fun z => (a3 j).mp z.1, fun z => ⟨(a3 j).mpr z, c⟩⟩
  · exact a4.imp_of_mem (fun {a b} ha hb hab => by rw [how a 7 (by omega) (by omega), how b 7 (by omega) (by omega)]; exact hab)
  · intro a ha b hb e0 e1
    rw [how a 0 (by omega) (by omega), how b 0 (by omega) (by omega)] at e0
    rw [how a 1 (by omega) (by omega), how b 1 (by omega) (by omega)] at e1
    exact a10 a ha b hb e0 e1
  · rw [nset_lo (by omega)]; exact c1
  · intro j hj
    obtain ⟨g, e, hg⟩ := c3 j hj
    exact ⟨g, by rw [how j 7 (by omega) (by omega)]; exact e, hg⟩
  · show lnRem (χ.2.1 2) (nI k) = _
    have hD2 : ∀ x, x ∈ D → x < 200 := fun x hx => by have := (a3 x).mp hx; have := hsc.1; omega
    rw [l2, rem_map hD2 hk2]
/-- a waiting note gets a place -/
theorem sm_sing (h : Sm F C n χ σ P Q D) (hC : C < 2 ^ 30) {k : Nat} (hk : k ∈ D) (hP8 : P.length < 8) (hno : ∀ j, j < n → ¬ (rfPl σ j ∧ nf σ j 0 = nf σ k 0 ∧ nf σ j 1 = nf σ k 1)) : Sm F C n (chCome (lR χ 2 (nI k)) (nI k)) (rfSings σ k) (P ++ [k]) Q (D.filter (fun x => decide (¬ x = k))) := by
  have hkn := ((sm_D h).mp hk).1
  have hk2 := sm_D2 h k hk
  have hk0 := ((sm_D h).mp hk).2
  have hkP : ¬ k ∈ P := fun z => by have := ((sm_P h).mp z).2; unfold rfPl at this; rw [hk0] at this; exact absurd this.1 (by decide)
  have hkQ : ¬ k ∈ Q := fun z => by have := ((sm_Q h).mp z).2; rw [hk0] at this; exact absurd this (by decide)
  have hoth : ∀ j, ¬ j = k → ∀ w, w < 8 → nf (rfSings σ k) j w = nf σ j w := fun j hj w hw => by rw [sg_nf hw, if_neg hj]
  have hx3 : nf (rfSings σ k) k 3 = nI 1 := by rw [sg_nf (by omega), if_pos rfl, if_pos rfl]
  have how : ∀ j w, w < 3 → nf (rfSings σ k) j w = nf σ j w := fun j w hw => by
    by_cases c : j = k
    · rw [sg_nf (by omega), if_pos c, if_neg (by omega), if_neg (by omega), if_neg (by omega), if_neg (by omega), c]
    · exact hoth j c w (by omega)
  obtain ⟨p0, s0, x0, v0, m0, b1, b2, b3, b4, b5, b6, b7, b8, b9, b10, b11, b12, b13⟩ := (h.2.1 k hkn).2
  have hx0 : x0 = 0 := (ph_eq 0 b4 (by omega) b9).mp hk0
  obtain rfl := b12.1 hx0
  obtain rfl := b12.2 (Or.inl hx0)
  obtain ⟨hsc, hnt, ⟨a1, a2, a3, a4, a5, a6, a7, a8, a9, a10, S, c1, c2, c3⟩, l0, l1, l2⟩ := h
  have hfl := fl_lt hk
  have hPk : ∀ j, j ∈ P → ¬ j = k := fun j hj e => hkP (e ▸ hj)
  refine ⟨?_, ?_, ⟨fun j => ?_, fun j => ?_, fun j => ?_, ?_, a5, a6.sublist List.filter_sublist, ?_, a8, by omega, ?_, S + 1, ?_, by omega, ?_⟩, ?_, l1, ?_⟩
  · refine sc_of hsc hsc.1 ?_ hsc.2.2.1 (fun j hj hj5 hF => ?_) rfl ⟨?_, ?_, ?_⟩
    · rw [sg_lo (by omega)]; exact hsc.2.1
    · rw [sg_lo (by omega), if_neg (by omega)]; exact hsc.2.2.2.1 j hj hj5 hF
    · rw [sg_lo (by omega)]; rfl
    · rw [sg_lo (by omega)]; rfl
    · rw [sg_lo (by omega)]; rfl
  · refine nr_all (k := k) hnt (fun j hj w hw => hoth j hj w (by omega)) (fun j hj w hw => ?_) ⟨⟨fun _ w hw h5 => ?_, fun h4 => ?_⟩, p0, s0, 1, 0, 0, b1, b2, b3, by omega, by omega, by omega, ?_, ?_, hx3, ?_, ?_, ⟨fun z => by omega, fun z => by omega⟩, fun z => by omega⟩
    · show ntPut χ.1 3 (nI k) (nI 1) w j = _
      rw [ntPut_at hk2, if_neg (fun z => hj z.1)]
    · show ntPut χ.1 3 (nI k) (nI 1) w k = _
      rw [ntPut_at hk2, sg_nf (by omega), if_pos rfl]
      have e := (hnt k hkn).1.1 (Or.inr (e_n6 hk0 (by omega)))
      by_cases w3 : w = 3
      · rw [if_pos ⟨rfl, w3⟩, if_pos w3]
      rw [if_neg (fun z => w3 z.2), if_neg w3]
      by_cases w4 : w = 4
      · rw [if_pos w4, w4, e 4 (by omega) (by omega)]; exact b10
      rw [if_neg w4]
      by_cases w6 : w = 6
      · rw [if_pos w6, w6, e 6 (by omega) (by omega)]; exact b11
      rw [if_neg w6, if_neg (by omega), e w hw h5]
    · rw [ph_eq 4 (by omega) (by omega) hx3, ph_eq 5 (by omega) (by omega) hx3] at h4; omega
    · rw [how k 0 (by omega)]; exact b7
    · rw [how k 2 (by omega)]; exact b8
    · rw [sg_nf (by omega), if_pos rfl, if_neg (by omega), if_pos rfl]
    · rw [sg_nf (by omega), if_pos rfl, if_neg (by omega), if_neg (by omega), if_pos rfl]
  · rw [List.mem_append, List.mem_singleton]
    by_cases c : j = k
    · subst c; rw [ph_pl (x := 1) (by omega) hx3]; exact ⟨fun _ => ⟨hkn, by omega⟩, fun _ => Or.inr rfl⟩
    · unfold rfPl; rw [hoth j c 3 (by omega)]; exact ⟨fun z => z.elim (fun q => (a1 j).mp q) (fun q => absurd q c), fun z => Or.inl ((a1 j).mpr z)⟩
  · by_cases c : j = k
    · subst c; rw [ph_eq 5 (by omega) (by omega) hx3]; exact ⟨fun z => absurd z hkQ, fun z => by omega⟩
    · rw [hoth j c 3 (by omega)]; exact a2 j
  · rw [mem_fl]
    by_cases c : j = k
    · subst c; rw [ph_eq 0 (by omega) (by omega) hx3]; exact ⟨fun z => absurd rfl z.2, fun z => by omega⟩
    · rw [hoth j c 3 (by omega)]; exact ⟨fun z => (a3 j).mp z.1, fun z => ⟨(a3 j).mpr z, c⟩⟩
  · refine List.pairwise_append.mpr ⟨a4.imp_of_mem (fun {a b} ha hb hab => ?_), List.pairwise_singleton _ _, fun a ha b hb => ?_⟩
    · rw [hoth a (hPk a ha) 7 (by omega), hoth b (hPk b hb) 7 (by omega)]; exact hab
    · rw [List.mem_singleton.mp hb, hoth a (hPk a ha) 7 (by omega), sg_nf (by omega), if_pos rfl, if_neg (by omega), if_neg (by omega), if_neg (by omega), if_pos rfl, c1]
      obtain ⟨g, e, hg⟩ := c3 a ha
      rw [e]; exact nI_lt hg (by omega)
  · rw [List.length_append, List.length_singleton]; omega
  · intro a ha b hb e0 e1
    rw [how a 0 (by omega), how b 0 (by omega)] at e0
    rw [how a 1 (by omega), how b 1 (by omega)] at e1
    rcases List.mem_append.mp ha with qa | qa <;> rcases List.mem_append.mp hb with qb | qb
    · exact a10 a qa b qb e0 e1
    · rw [List.mem_singleton.mp qb] at e0 e1
      have := (a1 a).mp qa
      exact absurd ⟨this.2, e0, e1⟩ (hno a this.1)
    · rw [List.mem_singleton.mp qa] at e0 e1
      have := (a1 b).mp qb
      exact absurd ⟨this.2, e0.symm, e1.symm⟩ (hno b this.1)
    · rw [List.mem_singleton.mp qa, List.mem_singleton.mp qb]
  · rw [sg_lo (by omega), if_pos rfl, c1, nI_add]
  · intro j hj
    rcases List.mem_append.mp hj with q | q
    · obtain ⟨g, e, hg⟩ := c3 j q
      exact ⟨g, by rw [hoth j (hPk j q) 7 (by omega)]; exact e, by omega⟩
    · rw [List.mem_singleton.mp q]
      exact ⟨S, by rw [sg_nf (by omega), if_pos rfl, if_neg (by omega), if_neg (by omega), if_neg (by omega), if_pos rfl]; exact c1, by omega⟩
  · show lnApp 8 (χ.2.1 0) (nI k) = _
    rw [l0, app_map hP8]
  · show lnRem (χ.2.1 2) (nI k) = _
    have hD2 : ∀ x, x ∈ D → x < 200 := fun x hx => by have := (a3 x).mp hx; have := hsc.1; omega
    rw [l2, rem_map hD2 hk2]
end
