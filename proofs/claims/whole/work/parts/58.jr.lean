/-! 58.jr: both boxes together, from the start on and over every call -/
def JR (C : Nat) (β : BS) (μ : RS) : Prop := (∃ n, St C n β.1 μ.1) ∧ β.2.2.1 = μ.2.1.2 ∧ HL C β.2.1 μ.2.1.1 μ.2.1.2 ∧ TL β.2.2.2 μ.2.2.1 μ.2.2.2
theorem jr_C {C C' : Nat} {β : BS} {μ : RS} (h : JR C β μ) (hC : C ≤ C') : JR C' β μ := by
  obtain ⟨⟨n, h1⟩, h2, h3, h4⟩ := h
  exact ⟨⟨n, st_C h1 hC⟩, h2, hl_C h3 hC, h4⟩
theorem s0_sc : SC True 0 χ0 σ0 := by
  refine ⟨by omega, by decide +kernel, by decide +kernel, ?_, ?_, ⟨4, by omega, by omega, by decide +kernel⟩, ⟨0, by omega, by decide +kernel⟩, 2500, by omega, by omega, by decide +kernel⟩
  · intro j h1 h2 _
    rcases (show j = 1 ∨ j = 2 ∨ j = 3 ∨ j = 4 by omega) with rfl | rfl | rfl | rfl <;> decide +kernel
  · intro j h1
    rcases (show j = 0 ∨ j = 1 ∨ j = 2 by omega) with rfl | rfl | rfl <;> decide +kernel
theorem s0_fo : Fo χ0 σ0 := by
  refine ⟨7, by omega, by decide +kernel, by decide +kernel, ?_, by decide +kernel⟩
  intro j hj
  rcases (show j = 0 ∨ j = 1 ∨ j = 2 ∨ j = 3 ∨ j = 4 ∨ j = 5 ∨ j = 6 by omega) with rfl | rfl | rfl | rfl | rfl | rfl | rfl <;> decide +kernel
theorem s0_lz : LZ 0 0 σ0 [] [] [] := by
  have no {p : Nat → Prop} : ∀ k : Nat, k ∈ ([] : List Nat) ↔ k < 0 ∧ p k := fun k => ⟨fun h => absurd h List.not_mem_nil, fun h => absurd h.1 (Nat.not_lt_zero k)⟩
  exact ⟨no, no, no, List.Pairwise.nil, List.nodup_nil, List.Pairwise.nil, Nat.zero_le _, Nat.zero_le _, Nat.zero_le _, fun a h => absurd h List.not_mem_nil, 0, by decide +kernel, Nat.le_refl 0, fun k h => absurd h List.not_mem_nil⟩
theorem s0_st : St 0 0 χ0 σ0 := ⟨[], [], [], ⟨s0_sc, fun k h => absurd h (Nat.not_lt_zero k), s0_lz, rfl, rfl, rfl⟩, Nat.zero_le _, s0_fo⟩
theorem jr_start : JR 0 (χ0, (fun _ => χ0), 0, []) (σ0, ((fun _ _ => 0), 0), ((fun _ => 0), 0)) :=
  ⟨⟨0, s0_st⟩, rfl, ⟨Nat.zero_le _, fun i h => absurd h (Nat.not_lt_zero i)⟩, Nat.zero_le _, rfl, fun j h => absurd h (Nat.not_lt_zero j)⟩
section
variable {C : Nat} {β : BS} {σ : Nat → Int32} {η : Nat → Nat → Int32} {np : Nat} {tx : Nat → Int32} {ty : Nat}
theorem jr_ch (h : JR C β (σ, (η, np), (tx, ty))) {r : RC} {r' : KR} {C' : Nat} (hC : C ≤ C') (hk : CH C' r r') : r.1 = r'.2.1 ∧ JR C' (bxUp β r.2) (rfMu σ η np tx ty r') := by
  obtain ⟨χ, hh, sz, L⟩ := β
  obtain ⟨⟨n, h1⟩, h2, h3, h4⟩ := h
  have h2 : sz = np := h2
  subst h2
  obtain ⟨he, hc⟩ := hk
  refine ⟨he, ?_⟩
  rcases hc with ⟨c1, c2⟩ | ⟨χ', n', c1, c2, c3⟩
  · rw [c1]
    unfold rfMu
    rw [c2]
    exact jr_C ⟨⟨n, h1⟩, rfl, h3, h4⟩ hC
  · rw [c1]
    unfold rfMu
    rw [c2]
    exact ⟨⟨n', c3⟩, rfl, hl_rec (hl_C h3 hC) (st_C h1 hC), h4⟩
theorem jr_facts (h : JR C β (σ, (η, np), (tx, ty))) : ∃ n, St C n β.1 σ ∧ (∃ P Q D, Sm True C n β.1 σ P Q D ∧ D.length ≤ 6) ∧ Fo β.1 σ ∧ σ 0 = nI n ∧ n ≤ 200 ∧ np ≤ 4 ∧ 0 ≤ σ 8 ∧ ty ≤ 60 ∧ ∃ u0, u0 ≤ 60 ∧ σ 9 = nI u0 ∧ (β.1.2.1 3).length = u0 ∧ (∀ j, j < u0 → (β.1.2.1 3).getD j 0 = σ (10 + j)) ∧ (rdAll (β.1.2.1 3)).2 = 0 ∧ ∀ i, i < u0 → rfOk (rfDp σ i) (σ (10 + i)) := by
  obtain ⟨⟨n, h1⟩, h2, h3, h4⟩ := h
  obtain ⟨P, Q, D, hs, hD, hf⟩ := h1
  obtain ⟨m, f1, f2, f3, f4, f5⟩ := id hf
  obtain ⟨b, b1, b2, b3⟩ := hs.1.2.2.2.2.2.2.2
  refine ⟨n, ⟨P, Q, D, hs, hD, hf⟩, ⟨P, Q, D, hs, hD⟩, hf, hs.1.2.1, hs.1.1, h3.1, ?_, h4.1, m, f1, f2, f3, f4, f5, run_W f3 f4 f5⟩
  have b3 : σ 8 = nI b := b3
  show (0 : Int32) ≤ σ 8
  rw [b3]
  exact nI_pos' (by omega)
theorem jr_undo (h : JR C β (σ, (η, np), (tx, ty))) : (np = 0 → bxUndoV β = (-2) ∧ JR C (bxUndo β) (σ, (η, np), (tx, ty))) ∧ (¬ np = 0 → bxUndoV β = nI (np - 1) ∧ JR C (bxUndo β) (η (np - 1), (η, np - 1), (tx, ty))) := by
  obtain ⟨χ, hh, sz, L⟩ := β
  obtain ⟨⟨n, h1⟩, h2, h3, h4⟩ := h
  have h2 : sz = np := h2
  subst h2
  constructor
  · intro c
    refine ⟨if_pos c, ?_⟩
    show JR C (if sz = 0 then _ else _) _
    rw [if_pos c]
    exact ⟨⟨n, h1⟩, rfl, h3, h4⟩
  · intro c
    refine ⟨if_neg c, ?_⟩
    show JR C (if sz = 0 then _ else _) _
    rw [if_neg c]
    have h3 : HL C hh η sz := h3
    obtain ⟨n', hn⟩ := h3.2 (sz - 1) (by omega)
    exact ⟨⟨n', st_copy hn _⟩, rfl, ⟨by have := h3.1; show sz - 1 ≤ 4; omega, fun i hi => h3.2 i (Nat.lt_of_lt_of_le (show i < sz - 1 from hi) (Nat.sub_le sz 1))⟩, h4⟩
theorem jr_type (h : JR C β (σ, (η, np), (tx, ty))) (c : Int32) : bxTypeV β c = (rfTy tx ty c).2 ∧ JR C (bxType β c) (σ, (η, np), (rfTy tx ty c).1) := by
  obtain ⟨χ, hh, sz, L⟩ := β
  obtain ⟨⟨n, h1⟩, h2, h3, h4⟩ := h
  have hl : L.length = ty := h4.2.1
  have ht : ty ≤ 60 := h4.1
  show (if c < nI 32 then _ else if c ≤ nI 126 then (if L.length < 60 then _ else _) else _) = _ ∧ JR C (if c < nI 32 then _ else if c ≤ nI 126 then (if L.length < 60 then _ else _) else _) _
  unfold rfTy
  by_cases c1 : c < nI 32
  · rw [if_pos c1, if_pos c1, if_neg (fun z : nI 32 ≤ c ∧ c ≤ nI 126 => absurd z.1 (Int32.not_le.mpr c1))]
    exact ⟨rfl, ⟨n, h1⟩, h2, h3, h4⟩
  · rw [if_neg c1, if_neg c1]
    by_cases c2 : c ≤ nI 126
    · rw [if_pos c2, if_pos c2, if_pos (⟨Int32.not_lt.mp c1, c2⟩ : nI 32 ≤ c ∧ c ≤ nI 126)]
      by_cases c3 : ty = 60
      · rw [if_pos c3, if_neg (by omega), if_neg (by omega)]
        exact ⟨rfl, ⟨n, h1⟩, h2, h3, h4⟩
      · rw [if_neg c3, if_pos (by omega), if_pos (by omega)]
        exact ⟨by rw [hl], ⟨n, h1⟩, h2, h3, tl_app h4 c3⟩
    · rw [if_neg c2, if_neg c2, if_neg (fun z : nI 32 ≤ c ∧ c ≤ nI 126 => c2 z.2)]
      exact ⟨rfl, ⟨n, h1⟩, h2, h3, h4⟩
theorem jr_clear (h : JR C β (σ, (η, np), (tx, ty))) : nI β.2.2.2.length = nI ty ∧ JR C (β.1, β.2.1, β.2.2.1, []) (σ, (η, np), (tx, 0)) := by
  obtain ⟨h1, h2, h3, h4⟩ := h
  exact ⟨by rw [show β.2.2.2.length = ty from h4.2.1], h1, h2, h3, Nat.zero_le _, rfl, fun j hj => absurd hj (Nat.not_lt_zero j)⟩
end
theorem rf_fr {E : XE} {M : Nat} {μ : RS} {H H1 : Heap} (h : RfP E M μ H) (hq : ∀ q, bk M 8 q → H1[q]? = H[q]?) : RfP E M μ H1 := by
  obtain ⟨re, h1, h2, h3, ⟨f3, h4⟩, h5, ⟨f5, h6⟩, ⟨f6, h7⟩, f7, h8⟩ := h
  exact ⟨re, va_at.kept h1 (hq M ⟨by omega, by omega⟩), va_at.kept h2 (hq _ ⟨by omega, by omega⟩), va_at.kept h3 (hq _ ⟨by omega, by omega⟩), ⟨f3, va_at.kept h4 (hq _ ⟨by omega, by omega⟩)⟩, va_at.kept h5 (hq _ ⟨by omega, by omega⟩), ⟨f5, va_at.kept h6 (hq _ ⟨by omega, by omega⟩)⟩, ⟨f6, va_at.kept h7 (hq _ ⟨by omega, by omega⟩)⟩, f7, va_at.kept h8 (hq _ ⟨by omega, by omega⟩)⟩
/-- one box's writes leave the other as it is -/
theorem jx_M {E : XE} {z : Nat} {μ : RS} {H H1 : Heap} (h : RfP E (z + 118) μ H) (hO : Out (bk z 118) H H1) : RfP E (z + 118) μ H1 := rf_fr h (fun q hq => hO.2 q (fun w => by obtain ⟨a, b⟩ := w; obtain ⟨d, e⟩ := hq; omega))
theorem jx_B {E : XE} {z : Nat} {β : BS} {H H1 : Heap} (h : BoxP E z β H) (hO : Out (bk (z + 118) 8) H H1) : BoxP E z β H1 := h.fr (fun q hq => hO.2 q (fun w => by obtain ⟨a, b⟩ := w; obtain ⟨d, e⟩ := hq; omega))
theorem jx_A {z q : Nat} (h : bk z 118 q) : z ≤ q := h.1
theorem jx_A2 {z q : Nat} (h : bk (z + 118) 8 q) : z ≤ q := Nat.le_trans (Nat.le_add_right z 118) h.1
