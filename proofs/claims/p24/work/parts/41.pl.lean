/-! 41.pl: all moves of a tick -/
theorem mv_nr {F : Prop} {T : Nat → Nat → Int32} {σ : Nat → Int32} {k : Nat} (hk : k < 200) (h : NR F T σ k ∧ NB σ k) (hph : ¬ nf σ k 3 = nI 6) : NR F (ntMove T (nI k)) (rfMv σ k) k ∧ NB (rfMv σ k) k := by
  have hT := fun w (hw : w < 7) => mv_at (j := k) (w := w) hk h.2 (h.1.1 (Or.inr hph)) h.1.2 hw
  obtain ⟨x', v', e1, e2, e3, e4⟩ := mv_num h.2
  have n3 : nf (rfMv σ k) k 3 = nI x' := by rw [mv_nf (by omega), if_pos rfl]; exact e1
  have n4 : nf (rfMv σ k) k 4 = nI v' := by rw [mv_nf (by omega), if_pos rfl]; exact e2
  have nw : ∀ w, w < 8 → ¬ w = 3 → ¬ w = 4 → nf (rfMv σ k) k w = nf σ k w := fun w hw h3 h4 => by rw [mv_nf hw, if_pos rfl, MV, if_neg h3, if_neg h4]
  obtain ⟨p, s, x, v, m, b1, b2, b3, b4, b5, b6, b7, b8, b9, b10, b11, b12, b13⟩ := h.2
  have hx6 : x' ≤ 6 := by
    rcases e4 with ⟨-, q, -⟩ | ⟨-, q, -⟩ | ⟨-, q⟩ | ⟨y, v, b, hy, -, -, -, -, -, -, q⟩ <;> omega
  refine ⟨⟨fun _ w hw h5 => ?_, fun h4 => ?_⟩, p, s, x', v', m, b1, b2, b3, hx6, e3, b6, ?_, ?_, n3, n4, ?_, ⟨fun z => ?_, fun z => ?_⟩, fun z => ?_⟩
  · rw [hT w hw, if_pos rfl, mv_nf (by omega), if_pos rfl, MV, h.1.1 (Or.inr hph) w hw h5]
  · rw [hT 5 (by omega), if_pos rfl, if_neg (by omega), if_neg (by omega), nw 5 (by omega) (by omega) (by omega)]
    apply h.1.2
    rw [n3, nI_eq (by omega) (by omega), nI_eq (by omega) (by omega)] at h4
    rcases e4 with ⟨-, q, -⟩ | ⟨-, q, -⟩ | ⟨-, q⟩ | ⟨y, v, b, hy, g, -, -, -, -, -, q⟩
    · omega
    · omega
    · omega
    · rw [g]; rcases hy with rfl | rfl
      · exact Or.inl rfl
      · exact Or.inr rfl
  · rw [nw 0 (by omega) (by omega) (by omega)]; exact b7
  · rw [nw 2 (by omega) (by omega) (by omega)]; exact b8
  · rw [nw 6 (by omega) (by omega) (by omega)]; exact b11
  · rcases e4 with ⟨g1, q, g2⟩ | ⟨-, q, -⟩ | ⟨-, q⟩ | ⟨y, v, b, hy, g, -, -, -, -, -, q⟩
    · rw [g2, b10, nI_eq (by omega) (by omega)] at e2
      rw [b9, nI_eq (by omega) (by omega)] at g1
      rw [← e2]; exact b12.1 g1
    · omega
    · omega
    · omega
  · rcases e4 with ⟨g1, q, g2⟩ | ⟨-, q, -⟩ | ⟨-, q⟩ | ⟨y, v, b, hy, g, -, -, -, -, -, q⟩
    · rw [b9, nI_eq (by omega) (by omega)] at g1
      exact b12.2 (Or.inl g1)
    · omega
    · omega
    · rw [b9, nI_eq (by omega) (by omega)] at g
      exact b12.2 (by omega)
  · rw [nw 5 (by omega) (by omega) (by omega)]
    rcases e4 with ⟨g1, q, g2⟩ | ⟨-, q, -⟩ | ⟨-, q⟩ | ⟨y, v, b, hy, g, g4, g5, gb, gv, -, q⟩
    · omega
    · omega
    · omega
    · exact ⟨b, g5, gv, gb⟩
section
variable {F : Prop} {C n : Nat} {χ : CS} {σ : Nat → Int32} {P Q D : List Nat}
theorem sm_keep (h : Sm F C n χ σ P Q D) {k : Nat} {T' : Nat → Nat → Int32} {σ' : Nat → Int32} (hoth : ∀ j, ¬ j = k → ∀ w, w < 8 → nf σ' j w = nf σ j w) (hT : ∀ j, ¬ j = k → ∀ w, w < 7 → T' w j = χ.1 w j) (hlo : ∀ j, j < 70 → σ' j = σ j)
    (h0 : nf σ' k 0 = nf σ k 0) (h1 : nf σ' k 1 = nf σ k 1) (h7 : nf σ' k 7 = nf σ k 7) (hpl0 : rfPl σ' k ↔ rfPl σ k) (hph0 : ∀ y, (y = 0 ∨ y = 5) → (nf σ' k 3 = nI y ↔ nf σ k 3 = nI y)) (hnk : NR F T' σ' k ∧ NB σ' k) : Sm F C n (setT χ T') σ' P Q D := by
  have hpl' : ∀ j, rfPl σ' j ↔ rfPl σ j := fun j => by
    by_cases c : j = k
    · rw [c]; exact hpl0
    · unfold rfPl; rw [hoth j c 3 (by omega)]
  have hph : ∀ j y, (y = 0 ∨ y = 5) → (nf σ' j 3 = nI y ↔ nf σ j 3 = nI y) := fun j y hy => by
    by_cases c : j = k
    · rw [c]; exact hph0 y hy
    · rw [hoth j c 3 (by omega)]
  have how : ∀ j w, (w = 0 ∨ w = 1 ∨ w = 7) → nf σ' j w = nf σ j w := fun j w hw => by
    by_cases c : j = k
    · rw [c]
      rcases hw with rfl | rfl | rfl
      · exact h0
      · exact h1
      · exact h7
    · exact hoth j c w (by omega)
  obtain ⟨hsc, hnt, ⟨a1, a2, a3, a4, a5, a6, a7, a8, a9, a10, S, c1, c2, c3⟩, l0, l1, l2⟩ := h
  refine ⟨?_, ?_, ⟨fun j => ?_, fun j => ?_, fun j => ?_, ?_, a5, a6, a7, a8, a9, ?_, S, ?_, c2, ?_⟩, l0, l1, l2⟩
  · refine sc_of hsc hsc.1 ?_ hsc.2.2.1 (fun j hj hj5 hF => ?_) rfl ⟨hlo 6 (by omega), hlo 7 (by omega), hlo 8 (by omega)⟩
    · rw [hlo 0 (by omega)]; exact hsc.2.1
    · rw [hlo j (by omega)]; exact hsc.2.2.2.1 j hj hj5 hF
  · exact nr_all (k := k) hnt (fun j hj w hw => hoth j hj w (by omega)) hT hnk
  · rw [hpl' j]; exact a1 j
  · rw [hph j 5 (Or.inr rfl)]; exact a2 j
  · rw [hph j 0 (Or.inl rfl)]; exact a3 j
  · exact a4.imp_of_mem (fun {a b} ha hb hab => by rw [how a 7 (by omega), how b 7 (by omega)]; exact hab)
  · intro a ha b hb e0 e1
    rw [how a 0 (by omega), how b 0 (by omega)] at e0
    rw [how a 1 (by omega), how b 1 (by omega)] at e1
    exact a10 a ha b hb e0 e1
  · rw [hlo 5 (by omega)]; exact c1
  · intro j hj
    obtain ⟨g, e, hg⟩ := c3 j hj
    exact ⟨g, by rw [how j 7 (by omega)]; exact e, hg⟩
/-- a voice is gone: from the places (b true) or from those that leave -/
theorem sm_out (h : Sm F C n χ σ P Q D) {k : Nat} (hkD : ¬ k ∈ D) {T' : Nat → Nat → Int32} {σ' : Nat → Int32} (hoth : ∀ j, ¬ j = k → ∀ w, w < 8 → nf σ' j w = nf σ j w) (hT : ∀ j, ¬ j = k → ∀ w, w < 7 → T' w j = χ.1 w j) (hlo : ∀ j, j < 70 → σ' j = σ j)
    (h6 : nf σ' k 3 = nI 6) (hnk : NR F T' σ' k ∧ NB σ' k) {χ' : CS} (hχT : χ'.1 = T') (hχ2 : χ'.2.2 = χ.2.2) (hχD : χ'.2.1 2 = χ.2.1 2) (hχP : χ'.2.1 0 = (P.filter (fun x => decide (¬ x = k))).map nI) (hχQ : χ'.2.1 1 = (Q.filter (fun x => decide (¬ x = k))).map nI) :
    Sm F C n χ' σ' (P.filter (fun x => decide (¬ x = k))) (Q.filter (fun x => decide (¬ x = k))) D := by
  have hne : ∀ {L : List Nat} {j : Nat}, j ∈ L.filter (fun x => decide (¬ x = k)) → ¬ j = k := fun hj => (mem_fl.mp hj).2
  obtain ⟨hsc, hnt, ⟨a1, a2, a3, a4, a5, a6, a7, a8, a9, a10, S, c1, c2, c3⟩, l0, l1, l2⟩ := h
  refine ⟨?_, ?_, ⟨fun j => ?_, fun j => ?_, fun j => ?_, ?_, a5.sublist List.filter_sublist, a6, Nat.le_trans (List.length_filter_le _ _) a7, Nat.le_trans (List.length_filter_le _ _) a8, a9, ?_, S, ?_, c2, ?_⟩, hχP, hχQ, hχD.trans l2⟩
  · have hs : SC F n χ σ' := sc_of hsc hsc.1 (by rw [hlo 0 (by omega)]; exact hsc.2.1) hsc.2.2.1 (fun j hj hj5 hF => by rw [hlo j (by omega)]; exact hsc.2.2.2.1 j hj hj5 hF) rfl ⟨hlo 6 (by omega), hlo 7 (by omega), hlo 8 (by omega)⟩
    unfold SC at hs ⊢; rw [hχ2]; exact hs
  · exact nr_all (k := k) hnt (fun j hj w hw => hoth j hj w (by omega)) (fun j hj w hw => by rw [hχT]; exact hT j hj w hw) (by rw [hχT]; exact hnk)
  · rw [mem_fl]
    by_cases c : j = k
    · subst c; rw [ph_pl (x := 6) (by omega) h6]; exact ⟨fun z => absurd rfl z.2, fun z => by omega⟩
    · unfold rfPl; rw [hoth j c 3 (by omega)]; exact ⟨fun z => (a1 j).mp z.1, fun z => ⟨(a1 j).mpr z, c⟩⟩
  · rw [mem_fl]
    by_cases c : j = k
    · subst c; rw [ph_eq 5 (by omega) (by omega) h6]; exact ⟨fun z => absurd rfl z.2, fun z => by omega⟩
    · rw [hoth j c 3 (by omega)]; exact ⟨fun z => (a2 j).mp z.1, fun z => ⟨(a2 j).mpr z, c⟩⟩
  · by_cases c : j = k
    · subst c; rw [ph_eq 0 (by omega) (by omega) h6]; exact ⟨fun z => absurd z hkD, fun z => by omega⟩
    · rw [hoth j c 3 (by omega)]; exact a3 j
  · exact (a4.sublist List.filter_sublist).imp_of_mem (fun {a b} ha hb hab => by rw [hoth a (hne ha) 7 (by omega), hoth b (hne hb) 7 (by omega)]; exact hab)
  · intro a ha b hb e0 e1
    rw [hoth a (hne ha) 0 (by omega), hoth b (hne hb) 0 (by omega)] at e0
    rw [hoth a (hne ha) 1 (by omega), hoth b (hne hb) 1 (by omega)] at e1
    exact a10 a (mem_fl.mp ha).1 b (mem_fl.mp hb).1 e0 e1
  · rw [hlo 5 (by omega)]; exact c1
  · intro j hj
    obtain ⟨g, e, hg⟩ := c3 j (mem_fl.mp hj).1
    exact ⟨g, by rw [hoth j (hne hj) 7 (by omega)]; exact e, hg⟩
theorem fl_no {L : List Nat} {k : Nat} (h : ¬ k ∈ L) : L.filter (fun x => decide (¬ x = k)) = L :=
  List.filter_eq_self.mpr (fun a ha => decide_eq_true (fun z => h (z ▸ ha)))
def mvd (kk : Nat) (χ : CS) (k : Nat) : CS := if ntSings (setT χ (ntMove χ.1 (nI k))).1 (nI k) then setT χ (ntMove χ.1 (nI k)) else lR (setT χ (ntMove χ.1 (nI k))) kk (nI k)
/-- one move; b: 0 of the places, 1 of those that leave -/
theorem sm_move (h : Sm F C n χ σ P Q D) {k b : Nat} (hk : (b = 0 ∧ k ∈ P) ∨ (b = 1 ∧ k ∈ Q)) : Sm F C n (mvd b χ k) (rfMv σ k) P Q D ∨ Sm F C n (mvd b χ k) (rfMv σ k) (P.filter (fun x => decide (¬ x = k))) (Q.filter (fun x => decide (¬ x = k))) D := by
  have hkn : k < n := hk.elim (fun z => ((sm_P h).mp z.2).1) (fun z => ((sm_Q h).mp z.2).1)
  have hk2 : k < 200 := by have := sm_n h; omega
  have hnr := h.2.1 k hkn
  have hph : ¬ nf σ k 3 = nI 6 := hk.elim (fun z => pl_n6 ((sm_P h).mp z.2).2) (fun z => e_n6 ((sm_Q h).mp z.2).2 (by omega))
  have hn0 : ¬ nf σ k 3 = nI 0 := hk.elim (fun z q => by have := ((sm_P h).mp z.2).2; unfold rfPl at this; rw [q] at this; exact absurd this.1 (by decide)) (fun z q => by have := ((sm_Q h).mp z.2).2; rw [q] at this; exact absurd this (by decide))
  have hkD : ¬ k ∈ D := fun z => hn0 ((sm_D h).mp z).2
  have hnk := mv_nr hk2 hnr hph
  have hT : ∀ j w, w < 7 → ntMove χ.1 (nI k) w j = if j = k then (if w = 3 then mvp σ k else if w = 4 then mvl σ k else χ.1 w k) else χ.1 w j := fun j w hw => mv_at hk2 hnr.2 (hnr.1.1 (Or.inr hph)) hnr.1.2 hw
  obtain ⟨x', v', e1, e2, e3, e4⟩ := mv_num hnr.2
  have n3 : nf (rfMv σ k) k 3 = nI x' := by rw [mv_nf (by omega), if_pos rfl]; exact e1
  have nw : ∀ w, w < 8 → ¬ w = 3 → ¬ w = 4 → nf (rfMv σ k) k w = nf σ k w := fun w hw h3 h4 => by rw [mv_nf hw, if_pos rfl, MV, if_neg h3, if_neg h4]
  have hsg : ntSings (setT χ (ntMove χ.1 (nI k))).1 (nI k) ↔ ¬ x' = 0 ∧ ¬ x' = 6 := by
    have hx6 : x' ≤ 6 := by rcases e4 with ⟨-, q, -⟩ | ⟨-, q, -⟩ | ⟨-, q⟩ | ⟨y, v, b, hy, -, -, -, -, -, -, q⟩ <;> omega
    unfold ntSings
    show ¬ ntG (ntMove χ.1 (nI k)) 3 (nI k) = nI 0 ∧ ¬ ntG (ntMove χ.1 (nI k)) 3 (nI k) = nI 6 ↔ _
    rw [ntG_nI hk2, hT k 3 (by omega), if_pos rfl, if_pos rfl, e1, nI_eq (by omega) (by omega), nI_eq (by omega) (by omega)]
  have hoth : ∀ j, ¬ j = k → ∀ w, w < 8 → nf (rfMv σ k) j w = nf σ j w := fun j hj w hw => by rw [mv_nf hw, if_neg hj]
  have hoT : ∀ j, ¬ j = k → ∀ w, w < 7 → ntMove χ.1 (nI k) w j = χ.1 w j := fun j hj w hw => by rw [hT j w hw, if_neg hj]
  have hout : x' = 6 → Sm F C n (mvd b χ k) (rfMv σ k) (P.filter (fun x => decide (¬ x = k))) (Q.filter (fun x => decide (¬ x = k))) D := fun hx => by
    have hm : mvd b χ k = lR (setT χ (ntMove χ.1 (nI k))) b (nI k) := by unfold mvd; rw [if_neg (fun z => (hsg.mp z).2 hx)]
    rw [hm]
    rcases hk with ⟨rfl, hk⟩ | ⟨rfl, hk⟩
    · have hkQ : ¬ k ∈ Q := fun z => by have := ((sm_Q h).mp z).2; have q := ((sm_P h).mp hk).2; unfold rfPl at q; rw [this] at q; exact absurd q.2 (by decide)
      refine sm_out h hkD hoth hoT (fun j hj => rfMv_0 hj) (by rw [n3, hx]) hnk rfl rfl rfl ?_ ?_
      · show lnRem (χ.2.1 0) (nI k) = _; rw [h.2.2.2.1, rem_map (sm_P2 h) hk2]
      · rw [fl_no hkQ]; exact h.2.2.2.2.1
    · have hkP : ¬ k ∈ P := fun z => by have := ((sm_Q h).mp hk).2; have q := ((sm_P h).mp z).2; unfold rfPl at q; rw [this] at q; exact absurd q.2 (by decide)
      refine sm_out h hkD hoth hoT (fun j hj => rfMv_0 hj) (by rw [n3, hx]) hnk rfl rfl rfl ?_ ?_
      · rw [fl_no hkP]; exact h.2.2.2.1
      · show lnRem (χ.2.1 1) (nI k) = _; rw [h.2.2.2.2.1, rem_map (sm_Q2 h) hk2]
  have hstay : ¬ x' = 0 → ¬ x' = 6 → (rfPl (rfMv σ k) k ↔ rfPl σ k) → (∀ y, (y = 0 ∨ y = 5) → (nf (rfMv σ k) k 3 = nI y ↔ nf σ k 3 = nI y)) → Sm F C n (mvd b χ k) (rfMv σ k) P Q D := fun h0 h6 hpl hy => by
    have hm : mvd b χ k = setT χ (ntMove χ.1 (nI k)) := by unfold mvd; rw [if_pos (hsg.mpr ⟨h0, h6⟩)]
    rw [hm]
    exact sm_keep h hoth hoT (fun j hj => rfMv_0 hj) (nw 0 (by omega) (by omega) (by omega)) (nw 1 (by omega) (by omega) (by omega)) (nw 7 (by omega) (by omega) (by omega)) hpl hy hnk
  rcases e4 with ⟨g, -, -⟩ | ⟨g, -, -⟩ | ⟨g, g1, g2⟩ | ⟨y, v, bb, hy, g, -, -, -, -, -, q⟩
  · exact absurd g hn0
  · exact absurd g hph
  · refine Or.inl (hstay (by omega) (by omega) ?_ (fun y hy => ?_))
    · rw [ph_pl (x := x') (by omega) n3]
      unfold rfPl
      rcases g with g | g | g <;> rw [g] <;> exact ⟨fun _ => by decide, fun _ => by omega⟩
    · rw [n3, nI_eq (by omega) (by omega)]
      rcases g with g | g | g <;> rw [g, nI_eq (by omega) (by omega)] <;> omega
  · rcases q with ⟨q, -⟩ | ⟨q, -⟩
    · exact Or.inr (hout q)
    · subst q
      have : nf (rfMv σ k) k 3 = nf σ k 3 := n3.trans g.symm
      refine Or.inl (hstay (by omega) (by omega) ?_ (fun y hy => ?_))
      · unfold rfPl; rw [this]
      · rw [this]
end
