/-! 66b.ma: what a call answers and leaves, by the law's rows (pure) -/
theorem pz_ok {p q z : Nat} (hp : p < 4) (hq : q < 3) (h1 : 1 ≤ z) (hz : z < 128) : (nI 0 ≤ nI p ∧ nI p ≤ nI 3) ∧ (nI 0 ≤ nI q ∧ nI q ≤ nI 127) ∧ (nI 1 ≤ nI z ∧ nI z ≤ nI 127) :=
  ⟨⟨nI_le (by omega) (by omega), nI_le (by omega) (by omega)⟩, ⟨nI_le (by omega) (by omega), nI_le (by omega) (by omega)⟩, nI_le h1 (by omega), nI_le (by omega) (by omega)⟩
theorem CH_up {C C' : Nat} {r : RC} {r' : KR} (h : CH C r r') (hC : C ≤ C') : CH C' r r' := by
  obtain ⟨h1, h2⟩ := h
  refine ⟨h1, ?_⟩
  rcases h2 with h2 | ⟨χ, n, h2, h3, h4⟩
  · exact Or.inl h2
  · exact Or.inr ⟨χ, n, h2, h3, st_up h4 hC⟩
section
variable {C n j : Nat} {β : BS} {σ : Nat → Int32}
theorem tr_facts (h : TR C n β σ) : St C n β.1 σ ∧ σ 0 = nI n ∧ n ≤ C ∧ (∀ k, k < n → NB σ k) ∧ UQ n σ ∧ MK n σ ∧ (∃ S, σ 5 = nI S ∧ S ≤ C) ∧ ∃ r, r ≤ 2 ∧ σ 7 = nI r :=
  ⟨h.1, (st_0 h.1).1, h.2.1, st_nb h.1, st_uq h.1, h.2.2.1, st_S h.1, st_7 h.1⟩
theorem bx_s {r : RC} {χ : CS} (h : r.2 = some χ) : (bxUp β r.2).1 = χ ∧ (bxUp β r.2).2.2.2 = β.2.2.2 := by rw [h]; exact ⟨rfl, rfl⟩
theorem bx_n {r : RC} (h : r.2 = none) : bxUp β r.2 = β := by rw [h]; rfl
/-- a call that changes -/
theorem tr_yes {C' n' : Nat} {r : RC} {r' : KR} {τ τ' : Nat → Int32} {v : Int32} (h : TR C n β σ) (hc : CH C' r r') (e : r' = (τ, v, true)) (e0 : τ 0 = nI n') (hn : n' ≤ C') (hC : C ≤ C') (hC2 : C' < 2 ^ 20)
    (hst : ∀ χ, St C' n' χ τ → St C' n' χ τ') (hm : MK n' τ') (hx : ∀ j, 9 ≤ j → j < 70 → τ' j = σ j) (ht : ∃ T, τ' 1 = nI T ∧ T ≤ 20 * C') : r.1 = v ∧ TR C' n' (bxUp β r.2) τ' := by
  obtain ⟨h1, χ, h2, h3⟩ := ch_go hc e e0 (by omega)
  refine ⟨h1, ?_, hn, hm, fun j h4 h5 => (hx j h4 h5).trans (h.2.2.2.1 j h4 h5), ?_, ht⟩
  · rw [(bx_s h2).1]; exact hst χ h3
  · rw [(bx_s h2).2]; exact h.2.2.2.2.1
theorem tr_up {C' : Nat} (h : TR C n β σ) (hC : C ≤ C') : TR C' n β σ := by
  obtain ⟨h1, h2, h3, h4, h5, T, h6, h7⟩ := h
  exact ⟨st_up h1 hC, by omega, h3, h4, h5, T, h6, by omega⟩
theorem tr_t {C' : Nat} {τ : Nat → Int32} (h : TR C n β σ) (hC : C ≤ C') (e : τ 1 = σ 1) : ∃ T, τ 1 = nI T ∧ T ≤ 20 * C' := by
  obtain ⟨T, h6, h7⟩ := h.2.2.2.2.2
  exact ⟨T, e.trans h6, by omega⟩
/-- a call that is refused -/
theorem tr_no {C' : Nat} {r : RC} {r' : KR} {v : Int32} (h : TR C n β σ) (hc : CH C' r r') (e : r' = (σ, v, false)) (hC : C ≤ C') : r.1 = v ∧ TR C' n (bxUp β r.2) σ := by
  obtain ⟨h1, h2⟩ := ch_no hc e
  rw [bx_n h2]
  exact ⟨h1, tr_up h hC⟩
-- knock
section
variable {p q z : Nat}
theorem ck_knock (h : TR C n β σ) (hC : C ≤ 60) (pa qa za : Int32) : CH (C + 1) (bxKnock β.1 pa qa za) (rfKn σ n pa qa za) := by
  obtain ⟨P, Q, D, h1, h2, h3⟩ := h.1
  exact k_knock h1 h2 h3 (by omega) pa qa za
theorem rk_1 (h : TR C n β σ) (hp : p < 4) (hq : q < 3) (h1 : 1 ≤ z) (hz : z < 128) (hv : lwV σ (nI p) (nI q) n 0 = some j) : rfKn σ n (nI p) (nI q) (nI z) = (rfAnew σ j (nI z), nI j, true) := by
  rw [lwV_eq (st_uq h.1)] at hv
  rw [rfKn, if_pos (pz_ok hp hq h1 hz), hv]
theorem tr_kn1 (h : TR C n β σ) (hC : C ≤ 60) (hp : p < 4) (hq : q < 3) (h1 : 1 ≤ z) (hz : z < 128) (hv : lwV σ (nI p) (nI q) n 0 = some j) : (bxKnock β.1 (nI p) (nI q) (nI z)).1 = nI j ∧ TR (C + 1) n (bxUp β (bxKnock β.1 (nI p) (nI q) (nI z)).2) (rfAnew σ j (nI z)) :=
  tr_yes h (ck_knock h hC _ _ _) (rk_1 h hp hq h1 hz hv) (by rw [an_lo (by omega), if_neg (by omega), if_neg (by omega)]; exact (st_0 h.1).1) (by have := h.2.1; omega) (by omega) (by omega) (fun _ h => h) (mk_an h.2.2.1)
    (fun j h4 h5 => by rw [an_lo h5, if_neg (by omega), if_neg (by omega)]) (tr_t h (by omega) (by rw [an_lo (by omega), if_neg (by omega), if_neg (by omega)]))
theorem rk_n (h : TR C n β σ) (hC : C ≤ 60) (hp : p < 4) (hq : q < 3) (h1 : 1 ≤ z) (hz : z < 128) (hv : lwV σ (nI p) (nI q) n 0 = none) : rfKn σ n (nI p) (nI q) (nI z) = if rfPlc σ n < σ 6 then (rfSings (rfNew σ n (nI p) (nI q) (nI z)) n, nI n, true) else match rfLv σ n with
  | some j => (rfSings (rfSent (rfNew σ n (nI p) (nI q) (nI z)) j) n, nI n, true)
  | none => if rfMany σ (nI 0) n = nI 6 then (σ, (-3), false) else (rfNew σ n (nI p) (nI q) (nI z), nI n, true) := by
  rw [lwV_eq (st_uq h.1)] at hv
  have hn := h.2.1
  rw [rfKn, if_pos (pz_ok hp hq h1 hz), hv]
  show rfKnN σ n (nI p) (nI q) (nI z) = _
  rw [rfKnN, if_neg (by omega)]
  rfl
/-- nobody can be sent home: too many leave, or the rule lets none -/
theorem lv_none (h : TR C n β σ) (hf : ¬ rfPlc σ n < σ 6) (hl : ¬ rfMany σ (nI 5) n ≤ nI 3 ∨ rfNx σ n = none) : rfLv σ n = none := by
  obtain ⟨P, Q, D, s1, s2, s3⟩ := h.1
  unfold rfLv
  rw [if_neg hf]
  have e5 := sm_q5 s1
  have hQ : Q.length ≤ 4 := s1.2.2.1.2.2.2.2.2.2.2.1
  by_cases c : rfMany σ (nI 5) n = nI 4
  · rw [if_pos c]
  · rw [if_neg c]
    rcases hl with hl | hl
    · exfalso
      rw [e5] at hl c
      have : ¬ Q.length = 4 := fun z => c (by rw [z])
      exact hl (nI_le (by omega) (by omega))
    · exact hl
theorem lv_some (h : TR C n β σ) (hf : ¬ rfPlc σ n < σ 6) (hl : rfMany σ (nI 5) n ≤ nI 3) {o : Option Nat} (ho : rfNx σ n = o) : rfLv σ n = o := by
  unfold rfLv
  rw [if_neg hf, if_neg (fun z => by rw [z] at hl; exact absurd hl (by decide)), ho]
theorem tr_kn2 (h : TR C n β σ) (hC : C ≤ 60) (hp : p < 4) (hq : q < 3) (h1 : 1 ≤ z) (hz : z < 128) (hv : lwV σ (nI p) (nI q) n 0 = none) (hf : ¬ rfPlc σ n < σ 6) (hl : rfLv σ n = none) (h6 : rfMany σ (nI 0) n = nI 6) : (bxKnock β.1 (nI p) (nI q) (nI z)).1 = (-3) ∧ TR (C + 1) n (bxUp β (bxKnock β.1 (nI p) (nI q) (nI z)).2) σ :=
  tr_no h (ck_knock h hC _ _ _) (by rw [rk_n h hC hp hq h1 hz hv, if_neg hf, hl]; exact if_pos h6) (by omega)
theorem sg_new {n' : Nat} (hn : n' = n + 1) {τ : Nat → Int32} (hτ : ∀ k w, w < 8 → nf τ k w = if k = n then (if w = 0 then nI p else if w = 1 then nI q else if w = 2 then nI z else if w = 3 then nI 0 else if w = 4 then nI 0 else if w = 6 then nI 0 else nf σ n w) else nf σ k w)
    {υ : Nat → Int32} (hυ : ∀ k w, w < 8 → nf υ k w = if k = n then (if w = 0 then nI p else if w = 1 then nI q else if w = 2 then nI z else nI 0) else nf σ k w) (h5 : υ 5 = τ 5) (hlo : ∀ j, j < 70 → υ j = τ j) {χ : CS} {C' : Nat} (h : St C' n' χ (rfSings τ n)) : St C' n' χ (lwBeg υ n (nI 1) (nI z)) := by
  have e : ∀ k w, w < 8 → (¬ w = 5 ∨ ¬ k = n) → nf (lwBeg υ n (nI 1) (nI z)) k w = nf (rfSings τ n) k w := by
    intro k w hw hne
    rw [bg_nf hw, sg_nf hw]
    by_cases c : k = n
    · subst c
      rw [if_pos rfl, if_pos rfl, hυ k w hw, hτ k w hw, if_pos rfl, if_pos rfl, h5]
      rcases (show w = 0 ∨ w = 1 ∨ w = 2 ∨ w = 3 ∨ w = 4 ∨ w = 6 ∨ w = 7 by omega) with rfl | rfl | rfl | rfl | rfl | rfl | rfl <;> rfl
    · rw [if_neg c, if_neg c, hυ k w hw, hτ k w hw, if_neg c, if_neg c]
  refine st_57 h (fun k _ w hw hne => e k w (by omega) (Or.inl hne)) (fun k _ h45 => ?_) (fun k _ _ => e k 7 (by omega) (Or.inl (by omega))) (fun j hj => by rw [bg_lo hj, sg_lo hj, h5, hlo j hj])
  by_cases c : k = n
  · exfalso
    subst c
    rw [sg_nf (by omega), if_pos rfl, if_pos rfl] at h45
    rcases h45 with h45 | h45 <;> exact absurd h45 (by decide)
  · exact e k 5 (by omega) (Or.inr c)
theorem tr_kn3 (h : TR C n β σ) (hC : C ≤ 60) (hp : p < 4) (hq : q < 3) (h1 : 1 ≤ z) (hz : z < 128) (hv : lwV σ (nI p) (nI q) n 0 = none) (hf : rfPlc σ n < σ 6) : (bxKnock β.1 (nI p) (nI q) (nI z)).1 = nI n ∧ TR (C + 1) (n + 1) (bxUp β (bxKnock β.1 (nI p) (nI q) (nI z)).2) (lwBeg (lwNew σ n (nI p) (nI q) (nI z)) n (nI 1) (nI z)) := by
  refine tr_yes h (ck_knock h hC _ _ _) (by rw [rk_n h hC hp hq h1 hz hv, if_pos hf]) (by rw [sg_lo (by omega), if_neg (by omega), nw_lo (by omega), if_pos rfl]) (by have := h.2.1; omega) (by omega) (by omega) (fun χ hs => ?_) (mk_beg (mk_ne h.2.2.1)) (fun j h4 h5 => ?_) (tr_t h (by omega) ?_)
  · refine sg_new rfl (fun k w hw => nw_nf hw) (fun k w hw => ne_nf hw) ?_ (fun j hj => ?_) hs
    · rw [ne_lo (by omega), nw_lo (by omega)]
    · rw [ne_lo hj, nw_lo hj]
  · rw [bg_lo h5, if_neg (by omega), ne_lo h5, if_neg (by omega)]
  · rw [bg_lo (by omega), if_neg (by omega), ne_lo (by omega), if_neg (by omega)]
/-- the row behind a send-home -/
def lwSnd (σ : Nat → Int32) (n j : Nat) (p q z : Int32) : Nat → Int32 := upd (lwFd (lwNew σ n p q z) j (nI 5)) 3 (σ 3 + nI 1)
theorem tr_kn4 (h : TR C n β σ) (hC : C ≤ 60) (hp : p < 4) (hq : q < 3) (h1 : 1 ≤ z) (hz : z < 128) (hv : lwV σ (nI p) (nI q) n 0 = none) (hf : ¬ rfPlc σ n < σ 6) (hl : rfLv σ n = some j) (hj : j < n) : (bxKnock β.1 (nI p) (nI q) (nI z)).1 = nI n ∧ TR (C + 1) (n + 1) (bxUp β (bxKnock β.1 (nI p) (nI q) (nI z)).2) (lwBeg (lwSnd σ n j (nI p) (nI q) (nI z)) n (nI 1) (nI z)) := by
  have hjn : ¬ j = n := by omega
  refine tr_yes h (ck_knock h hC _ _ _) (by rw [rk_n h hC hp hq h1 hz hv, if_neg hf, hl]) (by rw [sg_lo (by omega), if_neg (by omega), sn_lo (by omega), if_neg (by omega), nw_lo (by omega), if_pos rfl]) (by have := h.2.1; omega) (by omega) (by omega) (fun χ hs => ?_) (mk_beg (mk_lo (by omega) (mk_fd (mk_ne h.2.2.1)))) (fun j h4 h5 => ?_) (tr_t h (by omega) ?_)
  · refine sg_new (σ := rfSent σ j) (p := p) (q := q) rfl (fun k w hw => ?_) (fun k w hw => ?_) ?_ (fun i hi => ?_) hs
    · by_cases c : k = n
      · subst c
        have e1 : nf (rfSent (rfNew σ k (nI p) (nI q) (nI z)) j) k w = nf (rfNew σ k (nI p) (nI q) (nI z)) k w := by rw [sn_nf hw, if_neg (fun z => hjn z.symm)]
        have e2 : nf (rfSent σ j) k w = nf σ k w := by rw [sn_nf hw, if_neg (fun z => hjn z.symm)]
        rw [e1, if_pos rfl, nw_nf hw, if_pos rfl, e2]
      · rw [if_neg c, sn_nf hw, sn_nf hw]
        by_cases d : k = j
        · subst d; rw [if_pos rfl, if_pos rfl, nw_nf (w := 4) (by omega), if_neg c, nw_nf hw, if_neg c]
        · rw [if_neg d, if_neg d, nw_nf hw, if_neg c]
    · rw [lwSnd, nf_lo (by omega), fe_nf hw, sn_nf hw, ne_nf (by omega), if_neg hjn]
      by_cases c : k = n
      · subst c
        rw [if_neg (fun z => hjn z.symm), if_pos rfl, ne_nf hw, if_pos rfl]
      · rw [if_neg c]
        by_cases d : k = j
        · subst d; rw [if_pos rfl, if_pos rfl, ne_nf hw, if_neg c]
        · rw [if_neg d, if_neg d, ne_nf hw, if_neg c]
    · rw [lwSnd, upd_if, if_neg (by omega), fe_lo (by omega), ne_lo (by omega), if_neg (by omega), sn_lo (by omega), if_neg (by omega), nw_lo (by omega), if_neg (by omega)]
    · rw [lwSnd, upd_if, fe_lo hi, ne_lo hi, sn_lo hi, nw_lo hi, nw_lo (by omega), if_neg (show ¬ 3 = 0 by omega)]
  · rw [bg_lo h5, if_neg (by omega), lwSnd, upd_if, if_neg (by omega), fe_lo h5, ne_lo h5, if_neg (by omega)]
  · rw [bg_lo (by omega), if_neg (by omega), lwSnd, upd_if, if_neg (by omega), fe_lo (by omega), ne_lo (by omega), if_neg (by omega)]
theorem tr_kn5 (h : TR C n β σ) (hC : C ≤ 60) (hp : p < 4) (hq : q < 3) (h1 : 1 ≤ z) (hz : z < 128) (hv : lwV σ (nI p) (nI q) n 0 = none) (hf : ¬ rfPlc σ n < σ 6) (hl : rfLv σ n = none) (h6 : ¬ rfMany σ (nI 0) n = nI 6) : (bxKnock β.1 (nI p) (nI q) (nI z)).1 = nI n ∧ TR (C + 1) (n + 1) (bxUp β (bxKnock β.1 (nI p) (nI q) (nI z)).2) (lwNew σ n (nI p) (nI q) (nI z)) := by
  refine tr_yes h (ck_knock h hC _ _ _) (by rw [rk_n h hC hp hq h1 hz hv, if_neg hf, hl]; exact if_neg h6) (by rw [nw_lo (by omega), if_pos rfl]) (by have := h.2.1; omega) (by omega) (by omega) (fun χ hs => ?_) (mk_ne h.2.2.1) (fun j h4 h5 => ?_) (tr_t h (by omega) ?_)
  · have e : ∀ k w, w < 8 → (¬ w = 5 ∧ ¬ w = 7 ∨ ¬ k = n) → nf (lwNew σ n (nI p) (nI q) (nI z)) k w = nf (rfNew σ n (nI p) (nI q) (nI z)) k w := by
      intro k w hw hne
      rw [ne_nf hw, nw_nf hw]
      by_cases c : k = n
      · rw [if_pos c, if_pos c]
        rcases (show w = 0 ∨ w = 1 ∨ w = 2 ∨ w = 3 ∨ w = 4 ∨ w = 6 by omega) with rfl | rfl | rfl | rfl | rfl | rfl <;> rfl
      · rw [if_neg c, if_neg c]
    have h3 : nf (rfNew σ n (nI p) (nI q) (nI z)) n 3 = nI 0 := nw_3
    refine st_57 hs (fun k hk w hw hne => ?_) (fun k _ h45 => ?_) (fun k _ hpl => ?_) (fun j hj => by rw [ne_lo hj, nw_lo hj])
    · by_cases c : w = 7
      · omega
      · exact e k w (by omega) (Or.inl ⟨hne, c⟩)
    · by_cases c : k = n
      · exfalso; subst c; rw [h3] at h45; rcases h45 with h45 | h45 <;> exact absurd h45 (by decide)
      · exact e k 5 (by omega) (Or.inr c)
    · by_cases c : k = n
      · exfalso; subst c; unfold rfPl at hpl; rw [h3] at hpl; exact absurd hpl (by decide)
      · exact e k 7 (by omega) (Or.inr c)
  · rw [ne_lo h5, if_neg (by omega)]
  · rw [ne_lo (by omega), if_neg (by omega)]
-- release
theorem ck_rel (h : TR C n β σ) (pa qa : Int32) : CH C (bxRel β.1 pa qa) (rfRl σ n pa qa) := by
  obtain ⟨P, Q, D, h1, h2, h3⟩ := h.1
  exact k_rel h1 h2 h3 pa qa
theorem pq_ok {p q : Nat} (hp : p < 4) (hq : q < 3) : (nI 0 ≤ nI p ∧ nI p ≤ nI 3) ∧ (nI 0 ≤ nI q ∧ nI q ≤ nI 127) :=
  ⟨⟨nI_le (by omega) (by omega), nI_le (by omega) (by omega)⟩, ⟨nI_le (by omega) (by omega), nI_le (by omega) (by omega)⟩⟩
theorem rl_v (h : TR C n β σ) (hp : p < 4) (hq : q < 3) (hv : lwV σ (nI p) (nI q) n 0 = some j) : rfRl σ n (nI p) (nI q) = if ¬ nf σ j 3 = nI 4 ∧ nf σ j 6 = 0 then (if σ 2 = nI 1 then (nset σ j 6 (nI 1), nI j, true) else (rfFades σ j, nI j, true)) else rfRlW σ n (nI p) (nI q) := by
  rw [lwV_eq (st_uq h.1)] at hv
  rw [rfRl, if_pos (pq_ok hp hq), hv]
theorem rl_w (h : TR C n β σ) (hp : p < 4) (hq : q < 3) (hv : lwV σ (nI p) (nI q) n 0 = none ∨ ∃ j, lwV σ (nI p) (nI q) n 0 = some j ∧ (¬ ¬ nf σ j 3 = nI 4 ∨ ¬ nf σ j 6 = 0)) : rfRl σ n (nI p) (nI q) = rfRlW σ n (nI p) (nI q) := by
  rcases hv with hv | ⟨j, hv, hn⟩
  · rw [lwV_eq (st_uq h.1)] at hv
    rw [rfRl, if_pos (pq_ok hp hq), hv]
  · rw [rl_v h hp hq hv, if_neg (fun z => hn.elim (fun y => y z.1) (fun y => y z.2))]
theorem lwV_pl {σ : Nat → Int32} {a b : Int32} (h : lwV σ a b n 0 = some j) : rfPl σ j := by
  rcases lwV_spec σ a b n 0 with ⟨g, -⟩ | ⟨j', g1, -, -, g2, -⟩
  · rw [h] at g; cases g
  · rw [h] at g1; cases g1; exact g2
theorem tr_rl1 (h : TR C n β σ) (hC : C ≤ 60) (hp : p < 4) (hq : q < 3) (hv : lwV σ (nI p) (nI q) n 0 = some j) (h3 : ¬ nf σ j 3 = nI 4) (h6 : nf σ j 6 = 0) (h2 : σ 2 = nI 1) : (bxRel β.1 (nI p) (nI q)).1 = nI j ∧ TR (C + 1) n (bxUp β (bxRel β.1 (nI p) (nI q)).2) (nset σ j 6 (nI 1)) := by
  obtain ⟨a, b⟩ := tr_yes h (ck_rel h _ _) (by rw [rl_v h hp hq hv, if_pos ⟨h3, h6⟩, if_pos h2]) ((nset_lo (by omega)).trans (st_0 h.1).1) h.2.1 (Nat.le_refl C) (by omega) (fun _ h => h) (mk_6 (lwV_lt hv) h.2.2.1 (lwV_pl hv)) (fun i _ hi => nset_lo hi) (tr_t h (by omega) (nset_lo (by omega)))
  exact ⟨a, tr_up b (by omega)⟩
theorem tr_rl2 (h : TR C n β σ) (hC : C ≤ 60) (hp : p < 4) (hq : q < 3) (hv : lwV σ (nI p) (nI q) n 0 = some j) (h3 : ¬ nf σ j 3 = nI 4) (h6 : nf σ j 6 = 0) (h2 : ¬ σ 2 = nI 1) : (bxRel β.1 (nI p) (nI q)).1 = nI j ∧ TR (C + 1) n (bxUp β (bxRel β.1 (nI p) (nI q)).2) (lwFd σ j (nI 4)) := by
  obtain ⟨a, b⟩ := tr_yes (τ' := lwFd σ j (nI 4)) h (ck_rel h _ _) (by rw [rl_v h hp hq hv, if_pos ⟨h3, h6⟩, if_neg h2]) ((rfFades_0 (by omega)).trans (st_0 h.1).1) h.2.1 (Nat.le_refl C) (by omega) (fun χ hs => st_ex8 hs (fun k w hw => (fe_fd hw).symm) (fun i hi => by rw [fe_lo hi, rfFades_0 hi])) (mk_fd h.2.2.1) (fun i _ hi => fe_lo hi) (tr_t h (by omega) (fe_lo (by omega)))
  exact ⟨a, tr_up b (by omega)⟩
theorem rfWt_3 {a b : Int32} : ∀ f k, rfWt σ a b f k = some j → nf σ j 3 = 0 ∧ k ≤ j ∧ j < k + f := by
  intro f
  induction f with
  | zero => intro k h; cases h
  | succ f ih =>
    intro k h
    rw [rfWt] at h
    by_cases c : nf σ k 3 = 0 ∧ nf σ k 0 = a ∧ nf σ k 1 = b
    · rw [if_pos c] at h; cases h; exact ⟨c.1, Nat.le_refl _, by omega⟩
    · rw [if_neg c] at h; have := ih _ h; exact ⟨this.1, by omega, by omega⟩
theorem tr_rl3 (h : TR C n β σ) (hC : C ≤ 60) (hw : rfRl σ n (nI p) (nI q) = rfRlW σ n (nI p) (nI q)) (hv : rfWt σ (nI p) (nI q) n 0 = some j) : (bxRel β.1 (nI p) (nI q)).1 = nI j ∧ TR (C + 1) n (bxUp β (bxRel β.1 (nI p) (nI q)).2) (nset σ j 3 (nI 6)) := by
  have hj := rfWt_3 _ _ hv
  obtain ⟨a, b⟩ := tr_yes h (ck_rel h _ _) (by rw [hw, rfRlW, hv]) ((nset_lo (by omega)).trans (st_0 h.1).1) h.2.1 (Nat.le_refl C) (by omega) (fun _ h => h) (mk_n6 (by omega) h.2.2.1 hj.1) (fun i _ hi => nset_lo hi) (tr_t h (by omega) (nset_lo (by omega)))
  exact ⟨a, tr_up b (by omega)⟩
theorem tr_rl4 (h : TR C n β σ) (hw : rfRl σ n (nI p) (nI q) = rfRlW σ n (nI p) (nI q)) (hv : rfWt σ (nI p) (nI q) n 0 = none) : (bxRel β.1 (nI p) (nI q)).1 = (-2) ∧ TR (C + 1) n (bxUp β (bxRel β.1 (nI p) (nI q)).2) σ := by
  obtain ⟨a, b⟩ := tr_no h (ck_rel h _ _) (by rw [hw, rfRlW, hv]) (Nat.le_refl C)
  exact ⟨a, tr_up b (by omega)⟩
end
-- pedal
theorem ck_ped (h : TR C n β σ) (d : Int32) : CH C (bxPed β.1 d) (rfPd σ n d) := by
  obtain ⟨P, Q, D, h1, h2, h3⟩ := h.1
  exact k_ped h1 h2 h3 d
theorem d_ok {d : Nat} (hd : d < 2) : nI 0 ≤ nI d ∧ nI d ≤ nI 1 := ⟨nI_le (by omega) (by omega), nI_le (by omega) (by omega)⟩
theorem tr_pd0 {d : Nat} (hd : d < 2) (h : TR C n β σ) (e : σ 2 = nI d) : (bxPed β.1 (nI d)).1 = (-2) ∧ TR (C + 1) n (bxUp β (bxPed β.1 (nI d)).2) σ := by
  obtain ⟨a, b⟩ := tr_no h (ck_ped h _) (by rw [rfPd, if_pos (d_ok hd), if_pos e]) (Nat.le_refl C)
  exact ⟨a, tr_up b (by omega)⟩
theorem tr_pd1 {d : Nat} (hd : d < 2) (h : TR C n β σ) (hC : C ≤ 60) (e : ¬ σ 2 = nI d) (e1 : nI d = nI 1) : (bxPed β.1 (nI d)).1 = nI 0 ∧ TR (C + 1) n (bxUp β (bxPed β.1 (nI d)).2) (upd σ 2 (nI d)) := by
  obtain ⟨a, b⟩ := tr_yes h (ck_ped h _) (by rw [rfPd, if_pos (d_ok hd), if_neg e, if_pos e1]) ((upd_if.trans (if_neg (by omega))).trans (st_0 h.1).1) h.2.1 (Nat.le_refl C) (by omega) (fun _ h => h) (mk_lo (by omega) h.2.2.1) (fun i h4 _ => upd_if.trans (if_neg (by omega))) (tr_t h (by omega) (upd_if.trans (if_neg (by omega))))
  exact ⟨a, tr_up b (by omega)⟩
theorem tr_pd2 {d : Nat} (hd : d < 2) (h : TR C n β σ) (hC : C ≤ 60) (e : ¬ σ 2 = nI d) (e1 : ¬ nI d = nI 1) : (bxPed β.1 (nI d)).1 = (rfLN (upd σ 2 (nI d)) n).2 ∧ TR (C + 1) n (bxUp β (bxPed β.1 (nI d)).2) (rfLN (upd σ 2 (nI d)) n).1 := by
  obtain ⟨a, b⟩ := tr_yes h (ck_ped h _) (by rw [rfPd, if_pos (d_ok hd), if_neg e, if_neg e1]) ((rfLN_0 (by omega) (by omega)).trans ((upd_if.trans (if_neg (by omega))).trans (st_0 h.1).1)) h.2.1 (Nat.le_refl C) (by omega) (fun _ h => h) (mk_ln (mk_lo (by omega) h.2.2.1) n) (fun i h4 h5 => (rfLN_0 h5 (by omega)).trans (upd_if.trans (if_neg (by omega)))) (tr_t h (by omega) ((rfLN_0 (by omega) (by omega)).trans (upd_if.trans (if_neg (by omega)))))
  exact ⟨a, tr_up b (by omega)⟩
-- set
theorem ck_set (h : TR C n β σ) (w v : Int32) : CH C (bxSet β.1 w v) (rfSt σ w v) := by
  obtain ⟨P, Q, D, h1, h2, h3⟩ := h.1
  exact k_set h1 h2 h3 w v
theorem tr_set {w v : Nat} (h : TR C n β σ) (hC : C ≤ 60) (hv : (w = 0 ∧ 1 ≤ v ∧ v ≤ 8) ∨ (w = 1 ∧ v ≤ 2) ∨ (w = 2 ∧ 100 ≤ v ∧ v ≤ 8000)) : (bxSet β.1 (nI w) (nI v)).1 = σ (6 + w) ∧ TR (C + 1) n (bxUp β (bxSet β.1 (nI w) (nI v)).2) (upd σ (6 + w) (nI v)) := by
  have e : rfSt σ (nI w) (nI v) = (upd σ (6 + w) (nI v), σ (6 + w), true) := by
    unfold rfSt
    rcases hv with ⟨rfl, h1, h2⟩ | ⟨rfl, h1⟩ | ⟨rfl, h1, h2⟩
    · rw [if_pos (by decide), if_pos ⟨nI_le h1 (by omega), nI_le h2 (by omega)⟩]
    · rw [if_neg (by decide), if_pos rfl, if_pos ⟨nI_le (by omega) (by omega), nI_le h1 (by omega)⟩]
    · rw [if_neg (by decide), if_neg (by decide), if_pos rfl, if_pos ⟨nI_le h1 (by omega), nI_le h2 (by omega)⟩]
  have hw : w < 3 := by omega
  obtain ⟨a, b⟩ := tr_yes h (ck_set h _ _) e ((upd_if.trans (if_neg (by omega))).trans (st_0 h.1).1) h.2.1 (Nat.le_refl C) (by omega) (fun _ h => h) (mk_lo (by omega) h.2.2.1) (fun i h4 _ => upd_if.trans (if_neg (by omega))) (tr_t h (by omega) (upd_if.trans (if_neg (by omega))))
  exact ⟨a, tr_up b (by omega)⟩
-- tick
theorem it_1 {T : Nat} (e : σ 1 = nI T) : ∀ t, rfIt σ n t 1 = nI (T + t) := by
  intro t
  induction t with
  | zero => exact e
  | succ t ih =>
    show rfTick (rfIt σ n t) n 1 = _
    unfold rfTick
    rw [rfCi_0 (by omega), mvN_lo1, ih, nI_add]
    rfl
theorem it_hi : ∀ t j, 9 ≤ j → j < 70 → rfIt σ n t j = σ j := by
  intro t
  induction t with
  | zero => intro j _ _; rfl
  | succ t ih => intro j h1 h2; exact (tick_hi h1 h2).trans (ih j h1 h2)
theorem it_mk {χ : CS} (h : St C n χ σ) (hC : C < 2 ^ 20) (hm : MK n σ) : ∀ t, MK n (rfIt σ n t) := by
  intro t
  induction t with
  | zero => exact hm
  | succ t ih => exact mk_tick (st_nb (st_it h (by omega) t)) ih
theorem tr_tk {t : Nat} (h : TR C n β σ) (hC : C ≤ 60) (h1 : 1 ≤ t) (h2 : t ≤ 20) : (bxTick β.1 (nI t)).1 = rfSum (rfIt σ n t) n ∧ TR (C + 1) n (bxUp β (bxTick β.1 (nI t)).2) (rfIt σ n t) := by
  obtain ⟨T, hT, hT2⟩ := h.2.2.2.2.2
  have e : rfTk σ n (nI t) = (rfIt σ n t, rfSum (rfIt σ n t) n, true) := by
    unfold rfTk
    rw [if_pos ⟨nI_le h1 (by omega), nI_le (by omega) (by omega)⟩, hT, nI_add, if_pos (nI_le (by omega) (by omega)), nI_clamp (by omega)]
  refine tr_yes h (CH_up (k_tick h.1 (by omega) _) (by omega)) e ((rfIt_0 (by omega) (by omega) t).trans (st_0 h.1).1) (by have := h.2.1; omega) (by omega) (by omega) (fun _ h => h) (it_mk h.1 (by omega) h.2.2.1 t) (fun j h4 h5 => it_hi t j h4 h5) ⟨T + t, it_1 hT t, by omega⟩
end
