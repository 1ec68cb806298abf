/-! 37.ph: further steps: a placed voice that stays, one that is sent home, a new note -/
section
variable {F : Prop} {C n : Nat} {χ : CS} {σ : Nat → Int32} {P Q D : List Nat}
theorem sm_stay (h : Sm F C n χ σ P Q D) {k : Nat} (hk : k ∈ P) {T' : Nat → Nat → Int32} {σ' : Nat → Int32} (hoth : ∀ j, ¬ j = k → ∀ w, w < 8 → nf σ' j w = nf σ j w) (hT : ∀ j, ¬ j = k → ∀ w, w < 7 → T' w j = χ.1 w j) (hlo : ∀ j, j < 70 → σ' j = σ j)
    (h0 : nf σ' k 0 = nf σ k 0) (h1 : nf σ' k 1 = nf σ k 1) (h7 : nf σ' k 7 = nf σ k 7) (hpl : rfPl σ' k) (hnk : NR F T' σ' k ∧ NB σ' k) : Sm F C n (setT χ T') σ' P Q D := by
  have hkn := ((sm_P h).mp hk).1
  have hkpl := ((sm_P h).mp hk).2
  have hpl' : ∀ j, rfPl σ' j ↔ rfPl σ j := fun j => by
    by_cases c : j = k
    · rw [c]; exact ⟨fun _ => hkpl, fun _ => hpl⟩
    · unfold rfPl; rw [hoth j c 3 (by omega)]
  have hph : ∀ j y, (y = 0 ∨ y = 5) → (nf σ' j 3 = nI y ↔ nf σ j 3 = nI y) := fun j y hy => by
    by_cases c : j = k
    · have h1 : ¬ nf σ' j 3 = nI y := fun z => by
        rw [c] at z; unfold rfPl at hpl; rw [z] at hpl
        rcases hy with rfl | rfl
        · exact absurd hpl.1 (by decide)
        · exact absurd hpl.2 (by decide)
      have h2 : ¬ nf σ j 3 = nI y := fun z => by
        rw [c] at z; unfold rfPl at hkpl; rw [z] at hkpl
        rcases hy with rfl | rfl
        · exact absurd hkpl.1 (by decide)
        · exact absurd hkpl.2 (by decide)
      exact ⟨fun z => absurd z h1, fun z => absurd z h2⟩
    · rw [hoth j c 3 (by omega)]
  have how : ∀ j w, (w = 0 ∨ w = 1 ∨ w = 7) → nf σ' j w = nf σ j w := fun j w hw => by
    by_cases c : j = k
    · rw [c]
      rcases hw with rfl | rfl | rfl
      · exact h0
      · exact h1
      · exact h7
    · exact hoth j c w (by omega)
  obtain ⟨hsc, hnt, ⟨a1, a2, a3, a4, a5, a6, a7, a8, a9, a10, S, c1, c2, c3⟩, l0, l1, l2⟩ := h
  refine ⟨?_, ?_, ⟨fun j => ?_, fun j => ?_, fun j => ?_, ?_, a5, a6, a7, a8, a9, ?_, S, ?_, c2, ?_⟩, l0, l1, l2⟩
  · refine sc_of hsc hsc.1 ?_ hsc.2.2.1 (fun j hj hj5 hF => ?_) rfl ⟨hlo 6 (by omega), hlo 7 (by omega), hlo 8 (by omega)⟩
    · rw [hlo 0 (by omega)]; exact hsc.2.1
    · rw [hlo j (by omega)]; exact hsc.2.2.2.1 j hj hj5 hF
  · exact nr_all (k := k) hnt (fun j hj w hw => hoth j hj w (by omega)) hT hnk
  · rw [hpl' j]; exact a1 j
  · rw [hph j 5 (Or.inr rfl)]; exact a2 j
  · rw [hph j 0 (Or.inl rfl)]; exact a3 j
  · exact a4.imp_of_mem (fun {a b} ha hb hab => by rw [how a 7 (by omega), how b 7 (by omega)]; exact hab)
  · intro a ha b hb e0 e1
    rw [how a 0 (by omega), how b 0 (by omega)] at e0
    rw [how a 1 (by omega), how b 1 (by omega)] at e1
    exact a10 a ha b hb e0 e1
  · rw [hlo 5 (by omega)]; exact c1
  · intro j hj
    obtain ⟨g, e, hg⟩ := c3 j hj
    exact ⟨g, by rw [how j 7 (by omega)]; exact e, hg⟩
theorem sm_fade (h : Sm F C n χ σ P Q D) {k : Nat} (hk : k ∈ P) : Sm F C n (setT χ (ntDown χ.1 (nI k) (nI 4))) (rfFades σ k) P Q D := by
  have hk2 := sm_P2 h k hk
  have hkn := ((sm_P h).mp hk).1
  have hpl := ((sm_P h).mp hk).2
  have hx3 : nf (rfFades σ k) k 3 = nI 4 := by rw [fd_nf (by omega), if_pos rfl, if_pos rfl]
  have how : ∀ w, w < 8 → ¬ w = 3 → ¬ w = 5 → ¬ w = 6 → nf (rfFades σ k) k w = nf σ k w := fun w hw h3 h5 h6 => by rw [fd_nf hw, if_pos rfl, if_neg h3, if_neg h5, if_neg h6]
  obtain ⟨p0, s0, x0, v0, m0, b1, b2, b3, b4, b5, b6, b7, b8, b9, b10, b11, b12, b13⟩ := (h.2.1 k hkn).2
  have e := (h.2.1 k hkn).1.1 (Or.inr (pl_n6 hpl))
  refine sm_stay h hk (fun j hj w hw => by rw [fd_nf hw, if_neg hj]) (fun j hj w hw => by rw [dn_at hk2, if_neg hj]) (fun j hj => rfFades_0 hj) (how 0 (by omega) (by omega) (by omega) (by omega)) (how 1 (by omega) (by omega) (by omega) (by omega)) (how 7 (by omega) (by omega) (by omega) (by omega)) ((ph_pl (x := 4) (by omega) hx3).mpr (by omega)) ⟨⟨fun _ w hw h5 => ?_, fun h4 => ?_⟩, p0, s0, 4, v0, 0, b1, b2, b3, by omega, b5, by omega, ?_, ?_, hx3, ?_, ?_, ⟨fun z => by omega, fun z => by omega⟩, fun _ => ⟨v0, ?_, Nat.le_refl _, b5⟩⟩
  · rw [dn_at hk2, fd_nf (by omega), if_pos rfl, if_pos rfl]
    by_cases w3 : w = 3
    · rw [if_pos w3, if_pos w3]
    rw [if_neg w3, if_neg w3, if_neg h5, if_neg h5]
    by_cases w6 : w = 6
    · rw [if_pos w6, if_pos w6]
    rw [if_neg w6, if_neg w6, e w hw h5]
  · rw [dn_at hk2, fd_nf (by omega), if_pos (show k = k from rfl), if_pos (show k = k from rfl)]; exact e 4 (by omega) (by omega)
  · rw [how 0 (by omega) (by omega) (by omega) (by omega)]; exact b7
  · rw [how 2 (by omega) (by omega) (by omega) (by omega)]; exact b8
  · rw [how 4 (by omega) (by omega) (by omega) (by omega)]; exact b10
  · rw [fd_nf (by omega), if_pos rfl, if_neg (by omega), if_neg (by omega), if_pos rfl]
  · rw [fd_nf (by omega), if_pos rfl, if_neg (by omega), if_pos rfl]; exact b10
theorem sm_mark (h : Sm F C n χ σ P Q D) {k : Nat} (hk : k ∈ P) (hx4 : ¬ nf σ k 3 = nI 4) : Sm F C n (setT χ (ntPut χ.1 6 (nI k) (nI 1))) (nset σ k 6 (nI 1)) P Q D := by
  have hk2 := sm_P2 h k hk
  have hkn := ((sm_P h).mp hk).1
  have hpl := ((sm_P h).mp hk).2
  have how : ∀ w, w < 8 → ¬ w = 6 → nf (nset σ k 6 (nI 1)) k w = nf σ k w := fun w hw h6 => nf_w h6 (by omega) hw
  have h3e := how 3 (by omega) (by omega)
  obtain ⟨p0, s0, x0, v0, m0, b1, b2, b3, b4, b5, b6, b7, b8, b9, b10, b11, b12, b13⟩ := (h.2.1 k hkn).2
  have e := (h.2.1 k hkn).1.1 (Or.inr (pl_n6 hpl))
  have hx1 := (ph_pl b4 b9).mp hpl
  refine sm_stay h hk (fun j hj w hw => by rw [gone_nf (by omega) hw, if_neg hj]) (fun j hj w hw => by rw [ntPut_at hk2, if_neg (fun z => hj z.1)]) (fun j hj => nset_lo hj) (how 0 (by omega) (by omega)) (how 1 (by omega) (by omega)) (how 7 (by omega) (by omega)) (by unfold rfPl; rw [h3e]; exact hpl) ⟨⟨fun _ w hw h5 => ?_, fun h4 => ?_⟩, p0, s0, x0, v0, 1, b1, b2, b3, b4, b5, by omega, ?_, ?_, ?_, ?_, nf_same, ⟨fun z => by omega, fun z => z.elim (fun q => by omega) (fun q => absurd (by rw [q] at b9; exact b9) hx4)⟩, fun z => ?_⟩
  · rw [ntPut_at hk2, gone_nf (by omega) (by omega), if_pos rfl]
    by_cases w6 : w = 6
    · rw [if_pos ⟨rfl, w6⟩, if_pos w6]
    · rw [if_neg (fun z => w6 z.2), if_neg w6, e w hw h5]
  · rw [h3e] at h4
    rw [ntPut_at hk2, how 5 (by omega) (by omega), if_neg (by omega)]
    exact (h.2.1 k hkn).1.2 h4
  · rw [how 0 (by omega) (by omega)]; exact b7
  · rw [how 2 (by omega) (by omega)]; exact b8
  · rw [h3e]; exact b9
  · rw [how 4 (by omega) (by omega)]; exact b10
  · rw [how 5 (by omega) (by omega)]; exact b13 z
/-- one is sent home -/
theorem sm_send (h : Sm F C n χ σ P Q D) {k : Nat} (hk : k ∈ P) (hQ : Q.length < 4) : Sm F C n (chSend χ (nI k)) (rfSent σ k) (P.filter (fun x => decide (¬ x = k))) (Q ++ [k]) D := by
  have hkn := ((sm_P h).mp hk).1
  have hk2 := sm_P2 h k hk
  have hkpl := ((sm_P h).mp hk).2
  have hkQ : ¬ k ∈ Q := fun z => by have := ((sm_Q h).mp z).2; unfold rfPl at hkpl; rw [this] at hkpl; exact absurd hkpl.2 (by decide)
  have hkD : ¬ k ∈ D := fun z => by have := ((sm_D h).mp z).2; unfold rfPl at hkpl; rw [this] at hkpl; exact absurd hkpl.1 (by decide)
  have hoth : ∀ j, ¬ j = k → ∀ w, w < 8 → nf (rfSent σ k) j w = nf σ j w := fun j hj w hw => by rw [sn_nf hw, if_neg hj]
  have hx3 : nf (rfSent σ k) k 3 = nI 5 := by rw [sn_nf (by omega), if_pos rfl, if_pos rfl]
  have how : ∀ j w, w < 8 → ¬ w = 3 → ¬ w = 5 → ¬ w = 6 → nf (rfSent σ k) j w = nf σ j w := fun j w hw h3 h5 h6 => by
    by_cases c : j = k
    · rw [c, sn_nf hw, if_pos rfl, if_neg h3, if_neg h5, if_neg h6]
    · exact hoth j c w hw
  obtain ⟨p0, s0, x0, v0, m0, b1, b2, b3, b4, b5, b6, b7, b8, b9, b10, b11, b12, b13⟩ := (h.2.1 k hkn).2
  have e := (h.2.1 k hkn).1.1 (Or.inr (pl_n6 hkpl))
  have hP2 := sm_P2 h
  obtain ⟨hsc, hnt, ⟨a1, a2, a3, a4, a5, a6, a7, a8, a9, a10, S, c1, c2, c3⟩, l0, l1, l2⟩ := h
  have hfl := fl_lt hk
  have hT : (chSend χ (nI k)).1 = ntDown χ.1 (nI k) (nI 5) := rfl
  refine ⟨?_, ?_, ⟨fun j => ?_, fun j => ?_, fun j => ?_, ?_, ?_, a6, by omega, ?_, a9, ?_, S, ?_, c2, ?_⟩, ?_, ?_, l2⟩
  · refine sc_of hsc hsc.1 ?_ hsc.2.2.1 (fun j hj hj5 hF => ?_) rfl ⟨?_, ?_, ?_⟩
    · rw [sn_lo (by omega)]; exact hsc.2.1
    · rw [sn_lo (by omega)]
      show (if j = 3 then χ.2.2.2 3 + nI 1 else χ.2.2.2 j) = _
      rw [hsc.2.2.2.1 3 (by omega) (by omega) (Or.inr (by omega)), hsc.2.2.2.1 j hj hj5 hF]
    · rw [sn_lo (by omega)]; rfl
    · rw [sn_lo (by omega)]; rfl
    · rw [sn_lo (by omega)]; rfl
  · refine nr_all (k := k) hnt (fun j hj w hw => hoth j hj w (by omega)) (fun j hj w hw => by rw [hT, dn_at hk2, if_neg hj]) ⟨⟨fun _ w hw h5 => ?_, fun h4 => ?_⟩, p0, s0, 5, v0, 0, b1, b2, b3, by omega, b5, by omega, ?_, ?_, hx3, ?_, ?_, ⟨fun z => by omega, fun z => by omega⟩, fun _ => ⟨v0, ?_, Nat.le_refl _, b5⟩⟩
    · rw [hT, dn_at hk2, sn_nf (by omega), if_pos rfl, if_pos rfl]
      by_cases w3 : w = 3
      · rw [if_pos w3, if_pos w3]
      rw [if_neg w3, if_neg w3, if_neg h5, if_neg h5]
      by_cases w6 : w = 6
      · rw [if_pos w6, if_pos w6]
      rw [if_neg w6, if_neg w6, e w hw h5]
    · rw [hT, dn_at hk2, sn_nf (by omega), if_pos (show k = k from rfl), if_pos (show k = k from rfl)]; exact e 4 (by omega) (by omega)
    · rw [how k 0 (by omega) (by omega) (by omega) (by omega)]; exact b7
    · rw [how k 2 (by omega) (by omega) (by omega) (by omega)]; exact b8
    · rw [how k 4 (by omega) (by omega) (by omega) (by omega)]; exact b10
    · rw [sn_nf (by omega), if_pos rfl, if_neg (by omega), if_neg (by omega), if_pos rfl]
    · rw [sn_nf (by omega), if_pos rfl, if_neg (by omega), if_pos rfl]; exact b10
  · rw [mem_fl]
    by_cases c : j = k
    · subst c; rw [ph_pl (x := 5) (by omega) hx3]; exact ⟨fun z => absurd rfl z.2, fun z => by omega⟩
    · unfold rfPl; rw [hoth j c 3 (by omega)]; exact ⟨fun z => (a1 j).mp z.1, fun z => ⟨(a1 j).mpr z, c⟩⟩
  · rw [List.mem_append, List.mem_singleton]
    by_cases c : j = k
    · subst c; exact ⟨fun _ => ⟨hkn, hx3⟩, fun _ => Or.inr rfl⟩
    · rw [hoth j c 3 (by omega)]; exact ⟨fun z => z.elim (fun q => (a2 j).mp q) (fun q => absurd q c), fun z => Or.inl ((a2 j).mpr z)⟩
  · by_cases c : j = k
    · subst c; rw [ph_eq 0 (by omega) (by omega) hx3]; exact ⟨fun z => absurd z hkD, fun z => by omega⟩
    · rw [hoth j c 3 (by omega)]; exact a3 j
  · exact (a4.sublist List.filter_sublist).imp_of_mem (fun {a b} ha hb hab => by rw [how a 7 (by omega) (by omega) (by omega) (by omega), how b 7 (by omega) (by omega) (by omega) (by omega)]; exact hab)
  · refine List.nodup_append.mpr ⟨a5, List.nodup_cons.mpr ⟨List.not_mem_nil, List.nodup_nil⟩, fun a ha b hb z => ?_⟩
    rw [List.mem_singleton.mp hb] at z; rw [z] at ha; exact hkQ ha
  · rw [List.length_append, List.length_singleton]; omega
  · intro a ha b hb e0 e1
    rw [how a 0 (by omega) (by omega) (by omega) (by omega), how b 0 (by omega) (by omega) (by omega) (by omega)] at e0
    rw [how a 1 (by omega) (by omega) (by omega) (by omega), how b 1 (by omega) (by omega) (by omega) (by omega)] at e1
    exact a10 a (mem_fl.mp ha).1 b (mem_fl.mp hb).1 e0 e1
  · rw [sn_lo (by omega)]; exact c1
  · intro j hj
    obtain ⟨g, e, hg⟩ := c3 j (mem_fl.mp hj).1
    exact ⟨g, by rw [how j 7 (by omega) (by omega) (by omega) (by omega)]; exact e, hg⟩
  · show lnRem (χ.2.1 0) (nI k) = _
    rw [l0, rem_map hP2 hk2]
  · show lnApp 4 (χ.2.1 1) (nI k) = _
    rw [l1, app_map hQ]
/-- a new note, at the door -/
theorem sm_new (h : Sm F C n χ σ P Q D) (hn : n < 200) (hD6 : D.length ≤ 6) {p s : Nat} {q : Int32} (hp : p < 4) (h1 : 1 ≤ s) (h2 : s ≤ 127) : Sm F (C + 1) (n + 1) (setL (chTake0 χ (nI p) q (nI s)) 2 ((D ++ [n]).map nI)) (rfNew σ n (nI p) q (nI s)) P Q (D ++ [n]) := by
  have hc0 := h.1.2.2.1
  have hoth : ∀ j, ¬ j = n → ∀ w, w < 8 → nf (rfNew σ n (nI p) q (nI s)) j w = nf σ j w := fun j hj w hw => by rw [nw_nf hw, if_neg hj]
  have hx3 : nf (rfNew σ n (nI p) q (nI s)) n 3 = nI 0 := by rw [nw_nf (by omega), if_pos rfl, if_neg (by omega), if_neg (by omega), if_neg (by omega), if_pos rfl]
  have hT : (setL (chTake0 χ (nI p) q (nI s)) 2 ((D ++ [n]).map nI)).1 = ntApp χ.1 (nI n) (nI p) q (nI s) := by
    show ntApp χ.1 (χ.2.2.2 0) (nI p) q (nI s) = _; rw [hc0]
  have hnP : ∀ j, j ∈ P → ¬ j = n := fun j hj z => by have := ((sm_P h).mp hj).1; omega
  have hnQ : ∀ j, j ∈ Q → ¬ j = n := fun j hj z => by have := ((sm_Q h).mp hj).1; omega
  have hnD : ∀ j, j ∈ D → j < n := fun j hj => ((sm_D h).mp hj).1
  obtain ⟨hsc, hnt, ⟨a1, a2, a3, a4, a5, a6, a7, a8, a9, a10, S, c1, c2, c3⟩, l0, l1, l2⟩ := h
  refine ⟨?_, fun j hj => ?_, ⟨fun j => ?_, fun j => ?_, fun j => ?_, ?_, a5, ?_, a7, a8, ?_, ?_, S, ?_, ?_, ?_⟩, l0, l1, rfl⟩
  · refine sc_of hsc (by omega) ?_ ?_ (fun j hj hj5 hF => ?_) rfl ⟨?_, ?_, ?_⟩
    · rw [nw_lo (by omega), if_pos rfl]
    · show χ.2.2.2 0 + nI 1 = _; rw [hc0, nI_add]
    · rw [nw_lo (by omega), if_neg (by omega), ← hsc.2.2.2.1 j hj hj5 hF]
      show (if j = 0 then _ else χ.2.2.2 j) = _
      rw [if_neg (by omega)]
    · rw [nw_lo (by omega)]; rfl
    · rw [nw_lo (by omega)]; rfl
    · rw [nw_lo (by omega)]; rfl
  · by_cases c : j = n
    · subst c
      refine ⟨⟨fun _ w hw h5 => ?_, fun h4 => ?_⟩, p, s, 0, 0, 0, hp, h1, h2, by omega, by omega, by omega, ?_, ?_, hx3, ?_, ?_, ⟨fun _ => rfl, fun _ => rfl⟩, fun z => by omega⟩
      · rw [hT, ap_at hn, nw_nf (by omega), if_pos rfl, if_pos rfl]
        have : w = 0 ∨ w = 1 ∨ w = 2 ∨ w = 3 ∨ w = 4 ∨ w = 6 := by omega
        rcases this with rfl | rfl | rfl | rfl | rfl | rfl <;> rfl
      · rw [ph_eq 4 (by omega) (by omega) hx3, ph_eq 5 (by omega) (by omega) hx3] at h4; omega
      · rw [nw_nf (by omega), if_pos rfl, if_pos rfl]
      · rw [nw_nf (by omega), if_pos rfl]; rfl
      · rw [nw_nf (by omega), if_pos rfl]; rfl
      · rw [nw_nf (by omega), if_pos rfl]; rfl
    · exact nr_same (hnt j (by omega)) (fun w hw => hoth j c w (by omega)) (fun w hw => by rw [hT, ap_at hn, if_neg c])
  · by_cases c : j = n
    · subst c; rw [ph_pl (x := 0) (by omega) hx3]; exact ⟨fun z => absurd rfl (hnP _ z), fun z => by omega⟩
    · unfold rfPl; rw [hoth j c 3 (by omega)]
      exact ⟨fun z => ⟨by have := ((a1 j).mp z).1; omega, ((a1 j).mp z).2⟩, fun z => (a1 j).mpr ⟨by omega, z.2⟩⟩
  · by_cases c : j = n
    · subst c; rw [ph_eq 5 (by omega) (by omega) hx3]; exact ⟨fun z => absurd rfl (hnQ _ z), fun z => by omega⟩
    · rw [hoth j c 3 (by omega)]
      exact ⟨fun z => ⟨by have := ((a2 j).mp z).1; omega, ((a2 j).mp z).2⟩, fun z => (a2 j).mpr ⟨by omega, z.2⟩⟩
  · rw [List.mem_append, List.mem_singleton]
    by_cases c : j = n
    · subst c; exact ⟨fun _ => ⟨by omega, hx3⟩, fun _ => Or.inr rfl⟩
    · rw [hoth j c 3 (by omega)]
      exact ⟨fun z => z.elim (fun q => ⟨by have := ((a3 j).mp q).1; omega, ((a3 j).mp q).2⟩) (fun q => absurd q c), fun z => Or.inl ((a3 j).mpr ⟨by omega, z.2⟩)⟩
  · exact a4.imp_of_mem (fun {a b} ha hb hab => by rw [hoth a (hnP a ha) 7 (by omega), hoth b (hnP b hb) 7 (by omega)]; exact hab)
  · refine List.pairwise_append.mpr ⟨a6, List.pairwise_singleton _ _, fun a ha b hb => ?_⟩
    rw [List.mem_singleton.mp hb]; exact hnD a ha
  · rw [List.length_append, List.length_singleton]; omega
  · intro a ha b hb e0 e1
    rw [hoth a (hnP a ha) 0 (by omega), hoth b (hnP b hb) 0 (by omega)] at e0
    rw [hoth a (hnP a ha) 1 (by omega), hoth b (hnP b hb) 1 (by omega)] at e1
    exact a10 a ha b hb e0 e1
  · rw [nw_lo (by omega)]; exact c1
  · rw [List.length_append, List.length_singleton]; omega
  · intro j hj
    obtain ⟨g, e, hg⟩ := c3 j hj
    exact ⟨g, by rw [hoth j (hnP j hj) 7 (by omega)]; exact e, hg⟩
end
