/-! 66.lz: a turn: the class's choir and the law's rows, and what each call makes of them (pure) -/
section
variable {F : Prop} {C n : Nat} {χ : CS} {σ σ' : Nat → Int32} {P Q D : List Nat}
theorem sm_57 (h : Sm F C n χ σ P Q D) (e : ∀ k, k < n → ∀ w, w < 7 → ¬ w = 5 → nf σ' k w = nf σ k w) (e5 : ∀ k, k < n → (nf σ k 3 = nI 4 ∨ nf σ k 3 = nI 5) → nf σ' k 5 = nf σ k 5) (e7 : ∀ k, k < n → rfPl σ k → nf σ' k 7 = nf σ k 7) (el : ∀ j, j < 9 → σ' j = σ j) : Sm F C n χ σ' P Q D := by
  obtain ⟨s, hnt, ⟨a1, a2, a3, a4, a5, a6, a7, a8, a9, a10, S, c1, c2, c3⟩, l0, l1, l2⟩ := h
  have hP : ∀ k, k ∈ P → k < n ∧ rfPl σ k := fun k hk => (a1 k).mp hk
  refine ⟨?_, fun k hk => ⟨?_, ?_⟩, ⟨fun k => ?_, fun k => ?_, fun k => ?_, ?_, a5, a6, a7, a8, a9, ?_, S, (el 5 (by omega)).trans c1, c2, ?_⟩, l0, l1, l2⟩
  · refine sc_of s s.1 ?_ s.2.2.1 (fun j hj hj5 hF => ?_) rfl ⟨el 6 (by omega), el 7 (by omega), el 8 (by omega)⟩
    · rw [el 0 (by omega)]; exact s.2.1
    · rw [el j (by omega)]; exact s.2.2.2.1 j hj hj5 hF
  · obtain ⟨r1, r2⟩ := (hnt k hk).1
    refine ⟨fun z w hw h5 => ?_, fun z => ?_⟩
    · rw [e k hk 3 (by omega) (by omega)] at z
      rw [e k hk w hw h5]; exact r1 z w hw h5
    · rw [e k hk 3 (by omega) (by omega)] at z
      rw [e5 k hk z]; exact r2 z
  · obtain ⟨p, s, x, v, m, b1, b2, b3, b4, b5, b6, b7, b8, b9, b10, b11, b12, b13⟩ := (hnt k hk).2
    refine ⟨p, s, x, v, m, b1, b2, b3, b4, b5, b6, ?_, ?_, ?_, ?_, ?_, b12, fun z => ?_⟩
    · rw [e k hk 0 (by omega) (by omega)]; exact b7
    · rw [e k hk 2 (by omega) (by omega)]; exact b8
    · rw [e k hk 3 (by omega) (by omega)]; exact b9
    · rw [e k hk 4 (by omega) (by omega)]; exact b10
    · rw [e k hk 6 (by omega) (by omega)]; exact b11
    · have g : nf σ k 3 = nI 4 ∨ nf σ k 3 = nI 5 := by
        rcases z with z | z
        · exact Or.inl (by rw [b9, z])
        · exact Or.inr (by rw [b9, z])
      rw [e5 k hk g]; exact b13 z
  · rw [a1 k]
    constructor
    · rintro ⟨h1, h2⟩
      refine ⟨h1, ?_⟩
      unfold rfPl at h2 ⊢
      rw [e k h1 3 (by omega) (by omega)]; exact h2
    · rintro ⟨h1, h2⟩
      refine ⟨h1, ?_⟩
      unfold rfPl at h2 ⊢
      rw [e k h1 3 (by omega) (by omega)] at h2; exact h2
  · rw [a2 k]
    exact ⟨fun z => ⟨z.1, (e k z.1 3 (by omega) (by omega)).trans z.2⟩, fun z => ⟨z.1, (e k z.1 3 (by omega) (by omega)).symm.trans z.2⟩⟩
  · rw [a3 k]
    exact ⟨fun z => ⟨z.1, (e k z.1 3 (by omega) (by omega)).trans z.2⟩, fun z => ⟨z.1, (e k z.1 3 (by omega) (by omega)).symm.trans z.2⟩⟩
  · refine List.Pairwise.imp_of_mem (fun {a b} ha hb hab => ?_) a4
    rw [e7 a (hP a ha).1 (hP a ha).2, e7 b (hP b hb).1 (hP b hb).2]; exact hab
  · intro a ha b hb e0 e1
    rw [e a (hP a ha).1 0 (by omega) (by omega), e b (hP b hb).1 0 (by omega) (by omega)] at e0
    rw [e a (hP a ha).1 1 (by omega) (by omega), e b (hP b hb).1 1 (by omega) (by omega)] at e1
    exact a10 a ha b hb e0 e1
  · intro j hj
    obtain ⟨g, e', hg⟩ := c3 j hj
    exact ⟨g, (e7 j (hP j hj).1 (hP j hj).2).trans e', hg⟩
theorem st_57 (h : St C n χ σ) (e : ∀ k, k < n → ∀ w, w < 7 → ¬ w = 5 → nf σ' k w = nf σ k w) (e5 : ∀ k, k < n → (nf σ k 3 = nI 4 ∨ nf σ k 3 = nI 5) → nf σ' k 5 = nf σ k 5) (e7 : ∀ k, k < n → rfPl σ k → nf σ' k 7 = nf σ k 7) (el : ∀ j, j < 70 → σ' j = σ j) : St C n χ σ' := by
  obtain ⟨P, Q, D, h1, h2, h3⟩ := h
  exact ⟨P, Q, D, sm_57 h1 e e5 e7 (fun j hj => el j (by omega)), h2, Fo_same h3 rfl (fun j _ hj => el j hj)⟩
theorem st_ex8 (h : St C n χ σ) (e : ∀ k w, w < 8 → nf σ' k w = nf σ k w) (el : ∀ j, j < 70 → σ' j = σ j) : St C n χ σ' :=
  st_57 h (fun k _ w hw _ => e k w (by omega)) (fun k _ _ => e k 5 (by omega)) (fun k _ _ => e k 7 (by omega)) el
theorem st_up (h : St C n χ σ) {C' : Nat} (hC : C ≤ C') : St C' n χ σ := by
  obtain ⟨P, Q, D, h1, h2, h3⟩ := h
  exact ⟨P, Q, D, sm_C h1 hC, h2, h3⟩
theorem st_0 (h : St C n χ σ) : σ 0 = nI n ∧ n ≤ 200 := by
  obtain ⟨P, Q, D, h1, -⟩ := h
  exact ⟨h1.1.2.1, h1.1.1⟩
theorem st_nb (h : St C n χ σ) : ∀ k, k < n → NB σ k := by
  obtain ⟨P, Q, D, h1, -⟩ := h
  exact fun k hk => (h1.2.1 k hk).2
theorem st_uq (h : St C n χ σ) : UQ n σ := by
  obtain ⟨P, Q, D, h1, -⟩ := h
  intro i hi j hj h2 h3 h4 h5
  exact h1.2.2.1.2.2.2.2.2.2.2.2.2.1 i ((sm_P h1).mpr ⟨hi, h2⟩) j ((sm_P h1).mpr ⟨hj, h3⟩) h4 h5
theorem st_S (h : St C n χ σ) : ∃ S, σ 5 = nI S ∧ S ≤ C := by
  obtain ⟨P, Q, D, h1, -⟩ := h
  obtain ⟨S, c1, c2, -⟩ := h1.2.2.1.2.2.2.2.2.2.2.2.2.2
  exact ⟨S, c1, by omega⟩
theorem st_7 (h : St C n χ σ) : ∃ r, r ≤ 2 ∧ σ 7 = nI r := by
  obtain ⟨P, Q, D, h1, -⟩ := h
  exact h1.1.2.2.2.2.2.2.1
end
theorem ch_go {C n' : Nat} {r : RC} {r' : KR} {τ : Nat → Int32} {v : Int32} (h : CH C r r') (e : r' = (τ, v, true)) (e0 : τ 0 = nI n') (hn : n' < 2 ^ 31) : r.1 = v ∧ ∃ χ, r.2 = some χ ∧ St C n' χ τ := by
  subst e
  obtain ⟨h1, h2⟩ := h
  refine ⟨h1, ?_⟩
  rcases h2 with ⟨-, h3⟩ | ⟨χ, n, h3, -, h4⟩
  · cases h3
  · have h5 := (st_0 h4).1
    have h5 : τ 0 = nI n := h5
    rw [e0] at h5
    have h6 := (st_0 h4).2
    have : n' = n := (nI_eq hn (by omega)).mp h5
    subst this
    exact ⟨χ, h3, h4⟩
theorem ch_no {C : Nat} {r : RC} {r' : KR} {τ : Nat → Int32} {v : Int32} (h : CH C r r') (e : r' = (τ, v, false)) : r.1 = v ∧ r.2 = none := by
  subst e
  obtain ⟨h1, h2⟩ := h
  refine ⟨h1, ?_⟩
  rcases h2 with ⟨h3, -⟩ | ⟨χ, n, -, h3, -⟩
  · exact h3
  · cases h3
def FX (σ : Nat → Int32) : Prop := ∀ j, 9 ≤ j → j < 70 → σ j = σ0 j
def TR (C n : Nat) (β : BS) (σ : Nat → Int32) : Prop := St C n β.1 σ ∧ n ≤ C ∧ MK n σ ∧ FX σ ∧ β.2.2.2 = [] ∧ ∃ T, σ 1 = nI T ∧ T ≤ 20 * C
theorem mk_step {n n' k0 : Nat} {σ σ' : Nat → Int32} (h : MK n σ) (hn : ∀ k, k < n' → ¬ k = k0 → k < n) (e : ∀ k, k < n' → ¬ k = k0 → nf σ' k 3 = nf σ k 3 ∧ nf σ' k 6 = nf σ k 6) (h0 : nf σ' k0 6 = 0 ∨ rfPl σ' k0) : MK n' σ' := by
  intro k hk hp
  by_cases c : k = k0
  · subst c
    rcases h0 with h0 | h0
    · exact h0
    · exact absurd h0 hp
  · obtain ⟨e3, e6⟩ := e k hk c
    rw [e6]
    refine h k (hn k hk c) (fun z => hp ?_)
    unfold rfPl at z ⊢
    rw [e3]; exact z
theorem mk_eq8 {n : Nat} {σ σ' : Nat → Int32} (h : MK n σ) (e : ∀ k w, w < 8 → nf σ' k w = nf σ k w) : MK n σ' := by
  intro k hk hp
  rw [e k 6 (by omega)]
  refine h k hk (fun z => hp ?_)
  unfold rfPl at z ⊢
  rw [e k 3 (by omega)]; exact z
theorem mk_beg {n k : Nat} {σ : Nat → Int32} {st z : Int32} (h : MK n σ) : MK n (lwBeg σ k st z) :=
  mk_step (k0 := k) h (fun k hk _ => hk) (fun j _ c => ⟨by rw [bg_nf (by omega), if_neg c], by rw [bg_nf (by omega), if_neg c]⟩) (Or.inl (by rw [bg_nf (by omega), if_pos rfl]; exact nI_0))
theorem mk_fd {n k : Nat} {σ : Nat → Int32} {st : Int32} (h : MK n σ) : MK n (lwFd σ k st) :=
  mk_step (k0 := k) h (fun k hk _ => hk) (fun j _ c => ⟨by rw [fe_nf (by omega), if_neg c], by rw [fe_nf (by omega), if_neg c]⟩) (Or.inl (by rw [fe_nf (by omega), if_pos rfl]; exact nI_0))
theorem mk_an {n k : Nat} {σ : Nat → Int32} {z : Int32} (h : MK n σ) : MK n (rfAnew σ k z) :=
  mk_step (k0 := k) h (fun k hk _ => hk) (fun j _ c => ⟨by rw [an_nf (by omega), if_neg c], by rw [an_nf (by omega), if_neg c]⟩) (Or.inl (by rw [an_nf (by omega), if_pos rfl]; exact nI_0))
theorem mk_sg {n k : Nat} {σ : Nat → Int32} (h : MK n σ) : MK n (rfSings σ k) :=
  mk_step (k0 := k) h (fun k hk _ => hk) (fun j _ c => ⟨by rw [sg_nf (by omega), if_neg c], by rw [sg_nf (by omega), if_neg c]⟩) (Or.inl (by rw [sg_nf (by omega), if_pos rfl]; exact nI_0))
theorem mk_ff {n k : Nat} {σ : Nat → Int32} (h : MK n σ) : MK n (rfFades σ k) := mk_step (k0 := k) h (fun k hk _ => hk) (fun j _ c => ⟨by rw [fd_nf (by omega), if_neg c], by rw [fd_nf (by omega), if_neg c]⟩) (Or.inl (by rw [fd_nf (by omega), if_pos rfl]; exact nI_0))
theorem mk_lo {n j : Nat} {σ : Nat → Int32} {v : Int32} (hj : j < 70) (h : MK n σ) : MK n (upd σ j v) := mk_eq8 h (fun k w hw => nf_lo hj)
theorem mk_n6 {n k : Nat} {σ : Nat → Int32} (hk : k < n) (h : MK n σ) (h3 : nf σ k 3 = 0) : MK n (nset σ k 3 (nI 6)) := by
  refine mk_step (k0 := k) h (fun k hk _ => hk) (fun j _ c => ⟨by rw [n6_nf (by omega), if_neg (fun z => c z.1)], by rw [n6_nf (by omega), if_neg (by omega)]⟩) (Or.inl ?_)
  rw [n6_nf (by omega), if_neg (by omega)]
  refine h k hk (fun z => ?_)
  unfold rfPl at z
  rw [h3] at z
  exact absurd z (by decide)
theorem mk_6 {n k : Nat} {σ : Nat → Int32} (hk : k < n) (h : MK n σ) (hp : rfPl σ k) : MK n (nset σ k 6 (nI 1)) := by
  have e : ∀ j w, w < 8 → nf (nset σ k 6 (nI 1)) j w = if j = k ∧ w = 6 then nI 1 else nf σ j w := fun j w hw => nf_set (by omega) hw
  refine mk_step (k0 := k) h (fun k hk _ => hk) (fun j _ c => ⟨by rw [e j 3 (by omega), if_neg (by omega)], by rw [e j 6 (by omega), if_neg (fun z => c z.1)]⟩) (Or.inr ?_)
  unfold rfPl at hp ⊢
  rw [e k 3 (by omega), if_neg (by omega)]; exact hp
theorem mk_ln {n : Nat} {σ : Nat → Int32} (h : MK n σ) : ∀ m, MK n (rfLN σ m).1 := by
  intro m
  induction m with
  | zero => exact mk_lo (by omega) h
  | succ m ih =>
    rw [rfLN]
    by_cases c : rfPl (rfLN σ m).1 m ∧ nf (rfLN σ m).1 m 6 = nI 1
    · rw [if_pos c]; exact mk_ff ih
    · rw [if_neg c]; exact ih
theorem mk_ci {n : Nat} : ∀ (f k : Nat) (τ : Nat → Int32), k + f ≤ n → MK n τ → MK n (rfCi n f k τ) := by
  intro f
  induction f with
  | zero => exact fun k τ _ h => h
  | succ f ih =>
    intro k τ hk h
    rw [rfCi]
    by_cases c : nf τ k 3 = 0
    · rw [if_pos c]
      cases hv : rfV τ (nf τ k 0) (nf τ k 1) n with
      | some j => exact ih _ _ (by omega) (mk_an (mk_n6 (by omega) h c))
      | none =>
        by_cases d : rfPlc τ n < τ 6
        · simp only [if_pos d]; exact ih _ _ (by omega) (mk_sg h)
        · simp only [if_neg d]; exact h
    · rw [if_neg c]; exact ih _ _ (by omega) h
theorem mk_tick {n : Nat} {σ : Nat → Int32} (hb : ∀ k, k < n → NB σ k) (h : MK n σ) : MK n (rfTick σ n) := by
  refine mk_ci n 0 _ (by omega) ?_
  intro k hk hp
  rw [mvN_nf (by omega), if_pos hk]
  show nf σ k 6 = 0
  by_cases c : rfPl σ k
  · unfold rfPl at hp
    rw [mvN_nf (by omega), if_pos hk] at hp
    have hp : ¬ (nI 1 ≤ mvp σ k ∧ mvp σ k ≤ nI 4) := hp
    obtain ⟨x', v', e1, -, -, h4⟩ := mv_num (hb k hk)
    obtain ⟨p, s, x, v, m, b1, b2, b3, b4, b5, b6, b7, b8, b9, b10, b11, b12, -⟩ := hb k hk
    have hx : 1 ≤ x ∧ x ≤ 4 := (ph_pl (by omega) b9).mp c
    rcases h4 with ⟨h4, -⟩ | ⟨h4, -⟩ | ⟨-, h4, h5⟩ | ⟨y, u1, u2, h5, h6, -, -, -, -, -, h7⟩
    · have := (nI_eq (a := x) (b := 0) (by omega) (by omega)).mp (b9.symm.trans h4); omega
    · have := (nI_eq (a := x) (b := 6) (by omega) (by omega)).mp (b9.symm.trans h4); omega
    · exfalso
      apply hp
      rw [e1]
      exact ⟨nI_le h4 (by omega), nI_le (by omega) (by omega)⟩
    · have hy : x = y := (nI_eq (by omega) (by omega)).mp (b9.symm.trans h6)
      have : m = 0 := b12.2 (by omega)
      rw [b11, this]; decide
  · exact h k hk c
-- new notes
def lwNew0 (σ : Nat → Int32) (n : Nat) (p q z : Int32) : Nat → Int32 := fun i => if 70 + 8 * n ≤ i ∧ i < 78 + 8 * n then (if i = 70 + 8 * n then p else if i = 71 + 8 * n then q else if i = 72 + 8 * n then z else nI 0) else σ i
def lwNew (σ : Nat → Int32) (n : Nat) (p q z : Int32) : Nat → Int32 := upd (lwNew0 σ n p q z) 0 (nI (n + 1))
theorem ne_nf {σ : Nat → Int32} {n j w : Nat} {p q z : Int32} (hw : w < 8) : nf (lwNew σ n p q z) j w = if j = n then (if w = 0 then p else if w = 1 then q else if w = 2 then z else nI 0) else nf σ j w := by
  rw [lwNew, nf_lo (by omega)]
  unfold nf lwNew0
  by_cases c : j = n
  · subst c
    rw [if_pos rfl, if_pos ⟨by omega, by omega⟩]
    by_cases w0 : w = 0
    · rw [if_pos w0, if_pos (by omega)]
    by_cases w1 : w = 1
    · rw [if_neg w0, if_pos w1, if_neg (by omega), if_pos (by omega)]
    by_cases w2 : w = 2
    · rw [if_neg w0, if_neg w1, if_pos w2, if_neg (by omega), if_neg (by omega), if_pos (by omega)]
    · rw [if_neg w0, if_neg w1, if_neg w2, if_neg (by omega), if_neg (by omega), if_neg (by omega)]
  · rw [if_neg c, if_neg (by omega)]
theorem ne_lo {σ : Nat → Int32} {n j : Nat} {p q z : Int32} (hj : j < 70) : lwNew σ n p q z j = if j = 0 then nI (n + 1) else σ j := by
  rw [lwNew, upd_if]
  by_cases c : j = 0
  · rw [if_pos c, if_pos c]
  · rw [if_neg c, if_neg c]; unfold lwNew0; rw [if_neg (by omega)]
theorem ne_U {κ : Nat → Int64} {σ : Nat → Int32} (hU : ∀ k w, k < 64 → w < 8 → nf σ k w = fld w (κ k)) {n p q z : Nat} (hp : p < 4) (hq : q < 3) (hz : z < 128) : ∀ j w, j < 64 → w < 8 → nf (lwNew σ n (nI p) (nI q) (nI z)) j w = fld w (updL κ n (lN (p + 4 * q + 512 * z)) j) := by
  intro j w hj hw
  rw [ne_nf hw]
  by_cases c : j = n
  · subst c; rw [if_pos rfl, updL_s, new_fld hp hq hz hw]
  · rw [if_neg c, updL_n c, hU j w hj hw]
theorem mk_ne {n : Nat} {σ : Nat → Int32} {p q z : Int32} (h : MK n σ) : MK (n + 1) (lwNew σ n p q z) :=
  mk_step (k0 := n) h (fun k hk c => by omega) (fun j _ c => ⟨by rw [ne_nf (by omega), if_neg c], by rw [ne_nf (by omega), if_neg c]⟩) (Or.inl (by rw [ne_nf (by omega), if_pos rfl]; exact nI_0))
