/-! 64.ly: moves, ticks, lifts (pure) -/
theorem mn_1 {a b : Int32} (h : b ≤ a) : b = yMin a b := by
  unfold yMin
  by_cases c : a ≤ b
  · rw [if_pos c]; exact Int32.le_antisymm h c
  · rw [if_neg c]
theorem mn_2 {a b : Int32} (h : ¬ b ≤ a) : a = yMin a b := by
  unfold yMin
  rw [if_pos (Int32.le_of_lt (Int32.not_le.mp h))]
theorem mx_1 {a b : Int32} (h : a ≤ b) : b = yMax a b := by
  unfold yMax
  by_cases c : b ≤ a
  · rw [if_pos c]; exact Int32.le_antisymm c h
  · rw [if_neg c]
theorem mx_2 {a b : Int32} (h : ¬ a ≤ b) : a = yMax a b := by
  unfold yMax
  rw [if_pos (Int32.le_of_lt (Int32.not_le.mp h))]
section
variable {σ : Nat → Int32} {k : Nat}
theorem nb_pt (h : NB σ k) : ∃ p, p < 4 ∧ nf σ k 0 = nI p := by
  obtain ⟨p, s, x, v, m, b1, b2, b3, b4, b5, b6, b7, -⟩ := h
  exact ⟨p, b1, b7⟩
theorem nb_pk (h : NB σ k) : ∃ s, s ≤ 127 ∧ rfPeak σ k = nI (8 * s) := by
  obtain ⟨p, s, x, v, m, b1, b2, b3, b4, b5, b6, b7, b8, -⟩ := h
  exact ⟨s, b3, by unfold rfPeak; rw [b8, pk_mul]⟩
theorem pk_ex (h : NB σ k) : ∃ a, a < 2 ^ 20 ∧ rfPeak σ k = nI a := by
  obtain ⟨s, hs, e⟩ := nb_pk h
  exact ⟨8 * s, by omega, e⟩
theorem re_ex (h : NB σ k) : ∃ s p, s ≤ 127 ∧ p < 4 ∧ nf σ k 0 = nI p ∧ rfPeak σ k = nI (8 * s) ∧ rfRest σ k = nI (8 * s * (600 + 100 * p) / 1000) ∧ 8 * s * (600 + 100 * p) / 1000 ≤ 8 * s := by
  obtain ⟨s, hs, e⟩ := nb_pk h
  obtain ⟨p, hp, e0⟩ := nb_pt h
  refine ⟨s, p, hs, hp, e0, e, ?_, ?_⟩
  · unfold rfRest
    rw [e, e0, pk_mul, nI_add, pk_mul, pk_div ?_ (by omega) (by omega)]
    have : 8 * s * (600 + 100 * p) ≤ 1016 * 900 := Nat.mul_le_mul (by omega) (by omega)
    omega
  · have : 8 * s * (600 + 100 * p) ≤ 8 * s * 900 := Nat.mul_le_mul_left _ (by omega)
    omega
theorem dr_ex (h : NB σ k) : ∃ a, a < 2 ^ 20 ∧ rfPeak σ k - rfRest σ k = nI a := by
  obtain ⟨s, p, h1, h2, h3, h4, h5, h6⟩ := re_ex h
  exact ⟨8 * s - 8 * s * (600 + 100 * p) / 1000, by omega, by rw [h4, h5, pk_sub h6]⟩
theorem st_ex (h : NB σ k) (h4 : nf σ k 3 = nI 4 ∨ nf σ k 3 = nI 5) : ∃ a, a < 2 ^ 20 ∧ nf σ k 5 = nI a := by
  obtain ⟨p, s, x, v, m, b1, b2, b3, b4, b5, b6, b7, b8, b9, b10, b11, b12, b13⟩ := h
  have hx : x = 4 ∨ x = 5 := by
    rcases h4 with h4 | h4
    · exact Or.inl ((nI_eq (by omega) (by omega)).mp (b9.symm.trans h4))
    · exact Or.inr ((nI_eq (by omega) (by omega)).mp (b9.symm.trans h4))
  obtain ⟨b, e, -, h⟩ := b13 hx
  exact ⟨b, by omega, e⟩
theorem ri_ex (h : NB σ k) : ∃ b, 0 < b ∧ b < 100 ∧ rfRise (nf σ k 0) = nI b := by
  obtain ⟨p, hp, e⟩ := nb_pt h
  rw [e]; exact (tb_rise hp).2
theorem si_ex (h : NB σ k) : ∃ b, 0 < b ∧ b < 100 ∧ rfSink (nf σ k 0) = nI b := by
  obtain ⟨p, hp, e⟩ := nb_pt h
  rw [e]; exact (tb_sink hp).2
theorem fa_ex (h : NB σ k) : ∃ b, 0 < b ∧ b < 100 ∧ rfFade (nf σ k 0) = nI b := by
  obtain ⟨p, hp, e⟩ := nb_pt h
  rw [e]; exact (tb_fade hp).2
theorem rs_eq (h : NB σ k) : rfPeak σ k * (nf σ k 0 + nI 6) / nI 10 = rfRest σ k := by
  obtain ⟨s, p, h1, h2, h3, h4, h5, h6⟩ := re_ex h
  rw [h5, h4, h3, nI_add, pk_mul, pk_div ?_ (by omega) (by omega)]
  · congr 1
    rw [show 600 + 100 * p = 100 * (p + 6) by omega, show 8 * s * (100 * (p + 6)) = 100 * (8 * s * (p + 6)) by rw [Nat.mul_left_comm], show 1000 = 100 * 10 from rfl, Nat.mul_div_mul_left _ _ (by decide)]
  · have : 8 * s * (p + 6) ≤ 1016 * 9 := Nat.mul_le_mul (by omega) (by omega)
    omega
theorem ri_0 (h : nf σ k 0 = 0) : nI 2 = rfRise (nf σ k 0) := by rw [h]; decide
theorem ri_3 (h : nf σ k 0 = nI 3) : nI 8 = rfRise (nf σ k 0) := by rw [h]; decide
theorem ri_o (hb : NB σ k) (h0 : ¬ nf σ k 0 = 0) (h3 : ¬ nf σ k 0 = nI 3) : nf σ k 0 + nI 3 = rfRise (nf σ k 0) := by
  obtain ⟨p, hp, e⟩ := nb_pt hb
  rw [e] at h0 h3 ⊢
  rcases (show p = 0 ∨ p = 1 ∨ p = 2 ∨ p = 3 by omega) with rfl | rfl | rfl | rfl
  · exact absurd (by decide) h0
  · decide
  · decide
  · exact absurd rfl h3
theorem fa_3 (hb : NB σ k) (h : nI 3 ≤ nf σ k 0) : nI 16 = rfFade (nf σ k 0) := by
  obtain ⟨p, hp, e⟩ := nb_pt hb
  rw [e] at h ⊢
  rcases (show p = 0 ∨ p = 1 ∨ p = 2 ∨ p = 3 by omega) with rfl | rfl | rfl | rfl
  · exact absurd h (by decide)
  · exact absurd h (by decide)
  · exact absurd h (by decide)
  · decide
theorem fa_o (hb : NB σ k) (h : ¬ nI 3 ≤ nf σ k 0) : nI 6 + nI 2 * nf σ k 0 = rfFade (nf σ k 0) := by
  obtain ⟨p, hp, e⟩ := nb_pt hb
  rw [e] at h ⊢
  rcases (show p = 0 ∨ p = 1 ∨ p = 2 ∨ p = 3 by omega) with rfl | rfl | rfl | rfl
  · decide
  · decide
  · decide
  · exact absurd (by decide) h
theorem x45 (hb : NB σ k) (h : ¬ nf σ k 3 ≤ nI 3) (h6 : ¬ nf σ k 3 = nI 6) (h5 : ¬ nf σ k 3 = nI 5) : nf σ k 3 = nI 4 := by
  obtain ⟨p, s, x, v, m, b1, b2, b3, b4, b5, b6, b7, b8, b9, -⟩ := hb
  rw [b9] at h h6 h5 ⊢
  rcases (show x = 0 ∨ x = 1 ∨ x = 2 ∨ x = 3 ∨ x = 4 ∨ x = 5 ∨ x = 6 by omega) with rfl | rfl | rfl | rfl | rfl | rfl | rfl
  · exact absurd (by decide) h
  · exact absurd (by decide) h
  · exact absurd (by decide) h
  · exact absurd (by decide) h
  · rfl
  · exact absurd rfl h5
  · exact absurd rfl h6
theorem x3 (hb : NB σ k) (h : nf σ k 3 ≤ nI 3) (h0 : ¬ nf σ k 3 = nI 0) (h1 : ¬ nf σ k 3 = nI 1) (h2 : ¬ nf σ k 3 = nI 2) : nf σ k 3 = nI 3 := by
  obtain ⟨p, s, x, v, m, b1, b2, b3, b4, b5, b6, b7, b8, b9, -⟩ := hb
  rw [b9] at h h0 h1 h2 ⊢
  rcases (show x = 0 ∨ x = 1 ∨ x = 2 ∨ x = 3 ∨ x = 4 ∨ x = 5 ∨ x = 6 by omega) with rfl | rfl | rfl | rfl | rfl | rfl | rfl
  · exact absurd rfl h0
  · exact absurd rfl h1
  · exact absurd rfl h2
  · rfl
  · exact absurd h (by decide)
  · exact absurd h (by decide)
  · exact absurd h (by decide)
theorem mv_b (hb : NB σ k) : ∃ x' v' : Nat, mvp σ k = nI x' ∧ mvl σ k = nI v' ∧ x' < 8 ∧ v' < 2048 := by
  obtain ⟨x', v', e1, e2, h1, h2⟩ := mv_num hb
  refine ⟨x', v', e1, e2, ?_, by omega⟩
  rcases h2 with ⟨-, h, -⟩ | ⟨-, h, -⟩ | ⟨-, h, h'⟩ | ⟨y, v, b, h, -, -, -, -, -, -, h'⟩ <;> omega
theorem mv_U {κ : Nat → Int64} (hU : ∀ k w, k < 64 → w < 8 → nf σ k w = fld w (κ k)) (hk : k < 64) {x' v' : Nat} (e1 : mvp σ k = nI x') (e2 : mvl σ k = nI v') (hx : x' < 8) (hv : v' < 2048) :
    ∀ j w, j < 64 → w < 8 → nf (rfMv σ k) j w = fld w (updL κ k (fput 4 v' (fput 3 x' (κ k))) j) := by
  intro j w hj hw
  rw [mv_nf hw]
  by_cases c : j = k
  · subst c
    rw [if_pos rfl, updL_s, fld_put (by decide) hw (show v' < 2 ^ 11 by omega), fld_put (by decide) hw (show x' < 2 ^ 3 by omega), ← hU j w hj hw]
    unfold MV
    rw [e1, e2]
    grind
  · rw [if_neg c, updL_n c, hU j w hj hw]
theorem mvp_1 (h : nf σ k 3 = nI 1) : mvp σ k = (if rfRs σ k = rfPeak σ k then nI 2 else nI 1) ∧ mvl σ k = rfRs σ k := ⟨by rw [mvp, if_pos h], by rw [mvl, if_pos h]⟩
theorem mvp_2 (h : nf σ k 3 = nI 2) : mvp σ k = (if rfSk σ k = rfRest σ k then nI 3 else nI 2) ∧ mvl σ k = rfSk σ k :=
  ⟨by rw [mvp, if_neg (by rw [h]; decide), if_pos h], by rw [mvl, if_neg (by rw [h]; decide), if_pos h]⟩
theorem mvp_4 (h : nf σ k 3 = nI 4) : mvp σ k = (if rfDn σ k (rfFade (nf σ k 0)) = 0 then nI 6 else nf σ k 3) ∧ mvl σ k = rfDn σ k (rfFade (nf σ k 0)) :=
  ⟨by rw [mvp, if_neg (by rw [h]; decide), if_neg (by rw [h]; decide), if_pos h, h], by rw [mvl, if_neg (by rw [h]; decide), if_neg (by rw [h]; decide), if_pos h]⟩
theorem mvp_5 (h : nf σ k 3 = nI 5) : mvp σ k = (if rfDn σ k (nI 3) = 0 then nI 6 else nf σ k 3) ∧ mvl σ k = rfDn σ k (nI 3) :=
  ⟨by rw [mvp, if_neg (by rw [h]; decide), if_neg (by rw [h]; decide), if_neg (by rw [h]; decide), if_pos h, h], by rw [mvl, if_neg (by rw [h]; decide), if_neg (by rw [h]; decide), if_neg (by rw [h]; decide), if_pos h]⟩
theorem mvp_3 (h : nf σ k 3 = nI 3) : mvp σ k = nf σ k 3 ∧ mvl σ k = nf σ k 4 :=
  ⟨by rw [mvp, if_neg (by rw [h]; decide), if_neg (by rw [h]; decide), if_neg (by rw [h]; decide), if_neg (by rw [h]; decide)], by rw [mvl, if_neg (by rw [h]; decide), if_neg (by rw [h]; decide), if_neg (by rw [h]; decide), if_neg (by rw [h]; decide)]⟩
theorem mv_no (h : nf σ k 3 = nI 0 ∨ nf σ k 3 = nI 6) : ∀ j w, w < 8 → nf (rfMv σ k) j w = nf σ j w := by
  intro j w hw
  rw [mv_nf hw]
  by_cases c : j = k
  · subst c
    rw [if_pos rfl]
    have e1 : ∀ y, (y = 1 ∨ y = 2 ∨ y = 4 ∨ y = 5) → ¬ nf σ j 3 = nI y := by
      intro y hy z
      rw [z] at h
      rcases hy with rfl | rfl | rfl | rfl <;> rcases h with h | h <;> exact absurd h (by decide)
    unfold MV mvp mvl
    rw [if_neg (e1 1 (by omega)), if_neg (e1 2 (by omega)), if_neg (e1 4 (by omega)), if_neg (e1 5 (by omega)), if_neg (e1 1 (by omega)), if_neg (e1 2 (by omega)), if_neg (e1 4 (by omega)), if_neg (e1 5 (by omega))]
    grind
  · rw [if_neg c]
theorem ph_06 (h : ∃ m, m < 2 ^ fBt 3 ∧ nf σ k 3 = nI m) (hb : NB σ k) (h1 : nf σ k 3 ≤ 0 ∨ nI 6 ≤ nf σ k 3) : nf σ k 3 = nI 0 ∨ nf σ k 3 = nI 6 := by
  obtain ⟨p, s, x, v, m, b1, b2, b3, b4, b5, b6, b7, b8, b9, -⟩ := hb
  rw [b9] at h1 ⊢
  rcases (show x = 0 ∨ x = 1 ∨ x = 2 ∨ x = 3 ∨ x = 4 ∨ x = 5 ∨ x = 6 by omega) with rfl | rfl | rfl | rfl | rfl | rfl | rfl
  · exact Or.inl rfl
  all_goals first | exact Or.inr rfl | (exfalso; rcases h1 with h1 | h1 <;> exact absurd h1 (by decide))
end
theorem nb_eq {σ σ' : Nat → Int32} {k : Nat} (e : ∀ w, w < 8 → nf σ' k w = nf σ k w) (h : NB σ k) : NB σ' k := by
  unfold NB at h ⊢
  rw [e 0 (by omega), e 2 (by omega), e 3 (by omega), e 4 (by omega), e 5 (by omega), e 6 (by omega)]
  exact h
theorem mvN_i {σ : Nat → Int32} {i w : Nat} (hw : w < 8) : nf (rfMvN σ i) i w = nf σ i w := by rw [mvN_nf hw, if_neg (Nat.lt_irrefl i)]
/-- the door's loop -/
def DZ (n : Nat) (τ : Nat → Int32) : Prop := ∀ k, k < n → nf τ k 3 = 0 → nf τ k 4 = 0
def TI (n i : Nat) (σ τ : Nat → Int32) : Prop := rfCi n (n - i) i τ = rfTick σ n ∧ UQ n τ ∧ DZ n τ ∧ τ 0 = nI n ∧ ∃ S, τ 5 = nI S ∧ S + (n - i) < 65536
theorem pl_no {x : Int32} (h : x = nI 0 ∨ x = nI 5 ∨ x = nI 6) : ¬ (nI 1 ≤ x ∧ x ≤ nI 4) := by
  rcases h with rfl | rfl | rfl <;> decide
theorem uq_mv {σ : Nat → Int32} {n : Nat} (hb : ∀ k, k < n → NB σ k) (h : UQ n σ) : UQ n (rfMvN σ n) := by
  have pl : ∀ k, k < n → rfPl (rfMvN σ n) k → rfPl σ k := by
    intro k hk hp
    unfold rfPl at hp ⊢
    rw [mvN_nf (by omega), if_pos hk] at hp
    have hp : nI 1 ≤ mvp σ k ∧ mvp σ k ≤ nI 4 := hp
    obtain ⟨x', v', e1, -, -, h4⟩ := mv_num (hb k hk)
    rcases h4 with ⟨h4, h5, -⟩ | ⟨h4, h5, -⟩ | ⟨h4, -⟩ | ⟨y, v, b, h5, h6, -, -, -, -, -, h7⟩
    · rw [e1, h5] at hp; exact absurd hp (by decide)
    · rw [e1, h5] at hp; exact absurd hp (by decide)
    · rcases h4 with h4 | h4 | h4 <;> rw [h4] <;> decide
    · rcases h7 with ⟨h7, -⟩ | ⟨h7, -⟩
      · rw [e1, h7] at hp; exact absurd hp (by decide)
      · rw [e1, h7] at hp
        rw [h6]; exact hp
  intro i hi j hj h1 h2 h3 h4
  have e0 : ∀ k, nf (rfMvN σ n) k 0 = nf σ k 0 := fun k => by
    rw [mvN_nf (by omega)]; by_cases c : k < n
    · rw [if_pos c]; rfl
    · rw [if_neg c]
  have e1 : ∀ k, nf (rfMvN σ n) k 1 = nf σ k 1 := fun k => by
    rw [mvN_nf (by omega)]; by_cases c : k < n
    · rw [if_pos c]; rfl
    · rw [if_neg c]
  rw [e0, e0] at h3
  rw [e1, e1] at h4
  exact h i hi j hj (pl i hi h1) (pl j hj h2) h3 h4
theorem ti_start {σ : Nat → Int32} {n : Nat} (hb : ∀ k, k < n → NB σ k) (hu : UQ n σ) (h0 : σ 0 = nI n) (hS : ∃ S, σ 5 = nI S ∧ S + n < 65536) : TI n 0 σ (rfMvN σ n) := by
  refine ⟨rfl, uq_mv hb hu, ?_, (rfMvN_0 (by omega) (by omega)).trans h0, ?_⟩
  · intro k hk h3
    rw [mvN_nf (by omega), if_pos hk] at h3 ⊢
    have h3 : mvp σ k = 0 := h3
    show mvl σ k = 0
    obtain ⟨x', v', e1, e2, h4, h5⟩ := mv_num (hb k hk)
    obtain ⟨p, s, x, v, m, b1, b2, b3, b4, b5, b6, b7, b8, b9, b10, b11, b12, -⟩ := hb k hk
    rcases h5 with ⟨g1, g2, g3⟩ | ⟨g1, g2, -⟩ | ⟨-, g2, g3⟩ | ⟨y, u1, u2, g1, -, -, -, -, -, -, g7⟩
    · rw [g3, b10]
      have hx : x = 0 := (nI_eq (by omega) (by omega)).mp (b9.symm.trans g1)
      rw [b12.1 hx]; decide
    · rw [e1, g2] at h3; exact absurd h3 (by decide)
    · rw [e1] at h3
      exact absurd ((nI_eq (a := x') (b := 0) (by omega) (by omega)).mp h3) (by omega)
    · rw [e1] at h3
      exact absurd ((nI_eq (a := x') (b := 0) (by omega) (by omega)).mp h3) (by omega)
  · obtain ⟨S, e, h⟩ := hS
    exact ⟨S, (rfMvN_0 (by omega) (by omega)).trans e, by omega⟩
theorem ci_s {n i : Nat} {τ : Nat → Int32} (h : i < n) : rfCi n (n - i) i τ = if nf τ i 3 = 0 then (match rfV τ (nf τ i 0) (nf τ i 1) n with
      | some j => rfCi n (n - (i + 1)) (i + 1) (rfAnew (nset τ i 3 (nI 6)) j (nf (nset τ i 3 (nI 6)) i 2))
      | none => if rfPlc τ n < τ 6 then rfCi n (n - (i + 1)) (i + 1) (rfSings τ i) else τ) else rfCi n (n - (i + 1)) (i + 1) τ := by
  rw [show n - i = (n - (i + 1)) + 1 by omega]
  rfl
section
variable {n i j : Nat} {σ τ : Nat → Int32}
theorem ti_skip (h : TI n i σ τ) (hi : i < n) (h3 : ¬ nf τ i 3 = 0) : TI n (i + 1) σ τ := by
  obtain ⟨h1, h2, h4, h5, S, h6, h7⟩ := h
  rw [ci_s hi, if_neg h3] at h1
  exact ⟨h1, h2, h4, h5, S, h6, by omega⟩
theorem ti_end (h : TI n i σ τ) (hi : n ≤ i) : τ = rfTick σ n := by
  have := h.1
  rw [show n - i = 0 by omega] at this
  exact this
theorem ti_stop (h : TI n i σ τ) (hi : i < n) (h3 : nf τ i 3 = 0) (hv : lwV τ (nf τ i 0) (nf τ i 1) n 0 = none) (hp : ¬ rfPlc τ n < τ 6) : τ = rfTick σ n := by
  have h1 := h.1
  rw [lwV_eq h.2.1] at hv
  rw [ci_s hi, if_pos h3, hv] at h1
  simp only [if_neg hp] at h1
  exact h1
theorem uq_of {τ' : Nat → Int32} (h : UQ n τ) (hp : ∀ k, k < n → rfPl τ' k → rfPl τ k) (e0 : ∀ k, nf τ' k 0 = nf τ k 0) (e1 : ∀ k, nf τ' k 1 = nf τ k 1) : UQ n τ' := by
  intro a ha b hb h1 h2 h3 h4
  rw [e0, e0] at h3
  rw [e1, e1] at h4
  exact h a ha b hb (hp a ha h1) (hp b hb h2) h3 h4
theorem n6_nf {k w : Nat} (hw : w < 8) : nf (nset τ i 3 (nI 6)) k w = if k = i ∧ w = 3 then nI 6 else nf τ k w := nf_set (by omega) hw
theorem ti_anew (h : TI n i σ τ) (hi : i < n) (h3 : nf τ i 3 = 0) (hv : lwV τ (nf τ i 0) (nf τ i 1) n 0 = some j) {z : Int32} (hz : nf (nset τ i 3 (nI 6)) i 2 = z) : TI n (i + 1) σ (rfAnew (nset τ i 3 (nI 6)) j z) := by
  obtain ⟨h1, h2, h4, h5, S, h6, h7⟩ := h
  subst hz
  have hv' := hv
  rw [lwV_eq h2] at hv
  rw [ci_s hi, if_pos h3, hv] at h1
  have h1 : rfCi n (n - (i + 1)) (i + 1) (rfAnew (nset τ i 3 (nI 6)) j (nf (nset τ i 3 (nI 6)) i 2)) = rfTick σ n := h1
  have hj : j < n ∧ rfPl τ j := by
    rcases lwV_spec τ (nf τ i 0) (nf τ i 1) n 0 with ⟨g, -⟩ | ⟨j', g1, -, g2, g3, -⟩
    · rw [hv'] at g; cases g
    · rw [hv'] at g1; cases g1; exact ⟨by omega, g3⟩
  have hne : ¬ i = j := fun e => by
    subst e
    have := hj.2
    unfold rfPl at this
    rw [h3] at this
    exact absurd this (by decide)
  refine ⟨h1, uq_of h2 ?_ ?_ ?_, ?_, ?_, S + 1, ?_, by omega⟩
  · intro k hk hp
    by_cases c : k = j
    · subst c; exact hj.2
    · unfold rfPl at hp ⊢
      rw [an_nf (by omega), if_neg c, n6_nf (by omega)] at hp
      by_cases d : k = i
      · rw [if_pos ⟨d, rfl⟩] at hp; exact absurd hp (by decide)
      · rw [if_neg (fun q => d q.1)] at hp; exact hp
  · intro k
    rw [an_nf (by omega)]
    by_cases c : k = j
    · subst c; rw [if_pos rfl, if_neg (by omega), if_neg (by omega), if_neg (by omega), if_neg (by omega), n6_nf (by omega), if_neg (by omega)]
    · rw [if_neg c, n6_nf (by omega), if_neg (by omega)]
  · intro k
    rw [an_nf (by omega)]
    by_cases c : k = j
    · subst c; rw [if_pos rfl, if_neg (by omega), if_neg (by omega), if_neg (by omega), if_neg (by omega), n6_nf (by omega), if_neg (by omega)]
    · rw [if_neg c, n6_nf (by omega), if_neg (by omega)]
  · intro k hk h3k
    rw [an_nf (by omega)] at h3k ⊢
    by_cases c : k = j
    · exfalso
      rw [if_pos c, if_neg (by omega), if_pos rfl] at h3k
      by_cases d : nf (nset τ i 3 (nI 6)) j 4 < nI 8 * nf (nset τ i 3 (nI 6)) i 2
      · rw [if_pos d] at h3k; exact absurd h3k (by decide)
      · rw [if_neg d] at h3k; exact absurd h3k (by decide)
    · rw [if_neg c, n6_nf (by omega)] at h3k ⊢
      by_cases d : k = i
      · rw [if_pos ⟨d, rfl⟩] at h3k; exact absurd h3k (by decide)
      · rw [if_neg (fun q => d q.1)] at h3k
        rw [if_neg (by omega)]
        exact h4 k hk h3k
  · rw [an_lo (by omega), if_neg (by omega), if_neg (by omega), nset_lo (by omega)]; exact h5
  · rw [an_lo (by omega), if_neg (by omega), if_pos rfl, nset_lo (by omega), h6, nI_add]
theorem ti_sing (h : TI n i σ τ) (hi : i < n) (h3 : nf τ i 3 = 0) (hv : lwV τ (nf τ i 0) (nf τ i 1) n 0 = none) (hp : rfPlc τ n < τ 6) : TI n (i + 1) σ (rfSings τ i) := by
  obtain ⟨h1, h2, h4, h5, S, h6, h7⟩ := h
  have hno : ∀ k, k < n → ¬ (rfPl τ k ∧ nf τ k 0 = nf τ i 0 ∧ nf τ k 1 = nf τ i 1) := by
    rcases lwV_spec τ (nf τ i 0) (nf τ i 1) n 0 with ⟨-, g⟩ | ⟨j', g1, -⟩
    · exact fun k hk => g k (Nat.zero_le _) (by omega)
    · rw [hv] at g1; cases g1
  rw [lwV_eq h2] at hv
  rw [ci_s hi, if_pos h3, hv] at h1
  simp only [if_pos hp] at h1
  refine ⟨h1, ?_, ?_, ?_, S + 1, ?_, by omega⟩
  · intro a ha b hb q1 q2 q3 q4
    have e : ∀ k w, (w = 0 ∨ w = 1) → nf (rfSings τ i) k w = nf τ k w := by
      intro k w hw
      rw [sg_nf (by omega)]
      by_cases c : k = i
      · subst c; rw [if_pos rfl, if_neg (by omega), if_neg (by omega), if_neg (by omega), if_neg (by omega)]
      · rw [if_neg c]
    have p : ∀ k, ¬ k = i → rfPl (rfSings τ i) k → rfPl τ k := by
      intro k c hk
      unfold rfPl at hk ⊢
      rw [sg_nf (by omega), if_neg c] at hk
      exact hk
    rw [e a 0 (Or.inl rfl), e b 0 (Or.inl rfl)] at q3
    rw [e a 1 (Or.inr rfl), e b 1 (Or.inr rfl)] at q4
    by_cases c1 : a = i
    · by_cases c2 : b = i
      · rw [c1, c2]
      · exact absurd ⟨p b c2 q2, by rw [← c1]; exact q3.symm, by rw [← c1]; exact q4.symm⟩ (hno b hb)
    · by_cases c2 : b = i
      · exact absurd ⟨p a c1 q1, by rw [← c2]; exact q3, by rw [← c2]; exact q4⟩ (hno a ha)
      · exact h2 a ha b hb (p a c1 q1) (p b c2 q2) q3 q4
  · intro k hk h3k
    rw [sg_nf (by omega)] at h3k ⊢
    by_cases c : k = i
    · rw [if_pos c, if_pos rfl] at h3k; exact absurd h3k (by decide)
    · rw [if_neg c] at h3k ⊢; exact h4 k hk h3k
  · rw [sg_lo (by omega), if_neg (by omega)]; exact h5
  · rw [sg_lo (by omega), if_pos rfl, h6, nI_add]
theorem bg_sg (hd : DZ n τ) (hi : i < n) (h3 : nf τ i 3 = 0) {z : Int32} (hz : nf τ i 2 = z) : (∀ j w, w < 8 → nf (rfSings τ i) j w = nf (lwBeg τ i (nI 1) z) j w) ∧ ∀ j, j < 9 → rfSings τ i j = lwBeg τ i (nI 1) z j := by
  have h4 := hd i hi h3
  refine ⟨fun j w hw => ?_, fun j hj => ?_⟩
  · rw [sg_nf hw, bg_nf hw]
    by_cases c : j = i
    · subst c
      rw [if_pos rfl, if_pos rfl]
      by_cases w3 : w = 3
      · subst w3; rfl
      by_cases w2 : w = 2
      · subst w2; rw [← hz]; rfl
      by_cases w4 : w = 4
      · subst w4; show nI 0 = nf τ j 4; rw [h4]; decide
      by_cases w6 : w = 6
      · subst w6; rfl
      simp only [if_neg w3, if_neg w4, if_neg w6, if_neg w2]
    · rw [if_neg c, if_neg c]
  · rw [sg_lo (by omega), bg_lo (by omega)]
end
/-- marks are of placed notes alone -/
def MK (n : Nat) (σ : Nat → Int32) : Prop := ∀ k, k < n → ¬ rfPl σ k → nf σ k 6 = 0
theorem ln_i {σ : Nat → Int32} {i w : Nat} (hw : w < 8) : nf (rfLN σ i).1 i w = nf σ i w := by rw [ln_nf hw, if_neg (fun z => absurd z.1 (Nat.lt_irrefl i))]
theorem ln_yes {σ : Nat → Int32} {n i : Nat} (hm : MK n σ) (hi : i < n) (h : nf (rfLN σ i).1 i 6 = nI 1) : rfLN σ (i + 1) = (rfFades (rfLN σ i).1 i, (rfLN σ i).2 + nI 1) := by
  have hp : rfPl (rfLN σ i).1 i := by
    unfold rfPl
    rw [ln_i (by omega)] at h ⊢
    by_cases c : rfPl σ i
    · exact c
    · rw [hm i hi c] at h; exact absurd h (by decide)
  rw [rfLN, if_pos ⟨hp, h⟩]
theorem ln_no {σ : Nat → Int32} {i : Nat} (h : ¬ nf (rfLN σ i).1 i 6 = nI 1) : rfLN σ (i + 1) = rfLN σ i := by rw [rfLN, if_neg (fun z => h z.2)]
/-- a note at the door that goes -/
theorem n6_U {κ : Nat → Int64} {σ : Nat → Int32} {u t : Nat} (hU : ∀ k w, k < 64 → w < 8 → nf σ k w = fld w (κ k)) {k : Nat} (hk : k < 64) (hu : u < 8) (ht : t < 2 ^ fBt u) : ∀ j w, j < 64 → w < 8 → nf (nset σ k u (nI t)) j w = fld w (updL κ k (fput u t (κ k)) j) := by
  intro j w hj hw
  rw [nf_set hu hw]
  by_cases c : j = k
  · subst c
    rw [updL_s, fld_put hu hw ht, ← hU j w hj hw]
    by_cases d : w = u
    · rw [if_pos ⟨rfl, d⟩, if_pos d]
    · rw [if_neg (fun z => d z.2), if_neg d]
  · rw [if_neg (fun z => c z.1), updL_n c, hU j w hj hw]
theorem lwV_lt {σ : Nat → Int32} {p q : Int32} {n j : Nat} (h : lwV σ p q n 0 = some j) : j < n := by
  rcases lwV_spec σ p q n 0 with ⟨g, -⟩ | ⟨j', g1, -, g2, -⟩
  · rw [h] at g; cases g
  · rw [h] at g1; cases g1; omega
