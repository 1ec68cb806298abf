/-! 68.na: what the law compares after each turn (pure); the rows of cases by program -/
def lwAll (σ : Nat → Int32) (n : Nat) : Nat → Int32
  | 0 => nI 0
  | i + 1 => lwAll σ n i + (if rfVo σ i then rfHrd σ n i else nI 0)
theorem all_zs (σ : Nat → Int32) (n m : Nat) : lwAll σ n m = zs (fun k => rfHrd σ n k) (rg m (rfVo σ)) := zs_rg (R := lwAll σ n) rfl (fun i => rfl) m
def ns (v : Nat → Nat) : List Nat → Nat
  | [] => 0
  | x :: l => v x + ns v l
theorem zs_ns {f : Nat → Int32} {v : Nat → Nat} (L : List Nat) (h : ∀ k, k ∈ L → f k = nI (v k)) : zs f L = nI (ns v L) := by
  induction L with
  | nil => rfl
  | cons x L ih => rw [zs, ns, h x List.mem_cons_self, ih (fun k hk => h k (List.mem_cons_of_mem _ hk)), nI_add]
theorem ns_le {v : Nat → Nat} {B : Nat} (L : List Nat) (h : ∀ k, k ∈ L → v k ≤ B) : ns v L ≤ L.length * B := by
  induction L with
  | nil => exact Nat.zero_le _
  | cons x L ih =>
    have h1 := h x List.mem_cons_self
    have h2 := ih (fun k hk => h k (List.mem_cons_of_mem _ hk))
    rw [ns, List.length_cons, Nat.succ_mul]; omega
theorem ns_div {v : Nat → Nat} {b s : Nat} (hs : 0 < s) (L : List Nat) : ns (fun k => v k * b / s) L ≤ ns v L * b / s := by
  induction L with
  | nil => exact Nat.zero_le _
  | cons x L ih =>
    show v x * b / s + ns (fun k => v k * b / s) L ≤ (v x + ns v L) * b / s
    refine Nat.le_trans (Nat.add_le_add_left ih _) ?_
    rw [Nat.le_div_iff_mul_le hs, Nat.add_mul, Nat.add_mul]
    exact Nat.add_le_add (Nat.div_mul_le_self _ _) (Nat.div_mul_le_self _ _)
theorem rg_len {n : Nat} {p : Nat → Prop} [DecidablePred p] : (rg n p).length ≤ n := by
  unfold rg
  exact Nat.le_trans (List.length_filter_le _ _) (by rw [List.length_range]; exact Nat.le_refl _)
def vl (σ : Nat → Int32) (k : Nat) : Nat := (nf σ k 4).toNatClampNeg
theorem vl_eq {σ : Nat → Int32} {k : Nat} (h : NB σ k) : nf σ k 4 = nI (vl σ k) ∧ vl σ k ≤ 1016 := by
  obtain ⟨p, s, x, v, m, b1, b2, b3, b4, b5, b6, b7, b8, b9, b10, -⟩ := h
  unfold vl
  rw [b10, nI_clamp (by omega)]
  exact ⟨rfl, b5⟩
section
variable {C n : Nat} {β : BS} {σ : Nat → Int32}
theorem tr_bd (h : TR C n β σ) : ∃ b, 100 ≤ b ∧ b ≤ 8000 ∧ σ 8 = nI b := by
  obtain ⟨P, Q, D, h1, -⟩ := h.1
  exact sm_bd h1
theorem rg_nb (h : TR C n β σ) {k : Nat} (hk : k ∈ rg n (rfVo σ)) : NB σ k := st_nb h.1 k (mem_rg.mp hk).1
theorem sum_ns (h : TR C n β σ) : rfSum σ n = nI (ns (vl σ) (rg n (rfVo σ))) ∧ ns (vl σ) (rg n (rfVo σ)) ≤ 203200 := by
  refine ⟨?_, ?_⟩
  · rw [sum_zs]; exact zs_ns _ (fun k hk => (vl_eq (rg_nb h hk)).1)
  · have h1 := ns_le (B := 1016) (rg n (rfVo σ)) (fun k hk => (vl_eq (rg_nb h hk)).2)
    have h2 := rg_len (n := n) (p := rfVo σ)
    have h3 := (st_0 h.1).2
    have : (rg n (rfVo σ)).length * 1016 ≤ 200 * 1016 := Nat.mul_le_mul_right _ (by omega)
    omega
theorem hrd_ns (h : TR C n β σ) : ∃ u : Nat → Nat, (∀ k, k ∈ rg n (rfVo σ) → rfHrd σ n k = nI (u k) ∧ u k ≤ 1016) ∧ ∃ b, b ≤ 8000 ∧ σ 8 = nI b ∧ ns u (rg n (rfVo σ)) ≤ b := by
  obtain ⟨b, b1, b2, eb⟩ := tr_bd h
  obtain ⟨es, hs⟩ := sum_ns h
  by_cases c : ns (vl σ) (rg n (rfVo σ)) ≤ b
  · refine ⟨vl σ, fun k hk => ⟨?_, (vl_eq (rg_nb h hk)).2⟩, b, b2, eb, c⟩
    unfold rfHrd
    rw [es, eb, if_pos (nI_le c (by omega))]
    exact (vl_eq (rg_nb h hk)).1
  · have hs0 : 0 < ns (vl σ) (rg n (rfVo σ)) := by omega
    refine ⟨fun k => vl σ k * b / ns (vl σ) (rg n (rfVo σ)), fun k hk => ⟨?_, ?_⟩, b, b2, eb, ?_⟩
    · obtain ⟨e, hv⟩ := vl_eq (rg_nb h hk)
      have hm : vl σ k * b ≤ 1016 * 8000 := Nat.mul_le_mul hv b2
      unfold rfHrd
      rw [es, eb, if_neg (nI_ge (by omega) (by omega)), e, pk_mul, pk_div (by omega) hs0 (by omega)]
    · obtain ⟨e, hv⟩ := vl_eq (rg_nb h hk)
      have : vl σ k * b / ns (vl σ) (rg n (rfVo σ)) ≤ vl σ k := Nat.div_le_of_le_mul (by rw [Nat.mul_comm (ns (vl σ) (rg n (rfVo σ)))]; exact Nat.mul_le_mul_left _ (by omega))
      show vl σ k * b / ns (vl σ) (rg n (rfVo σ)) ≤ 1016
      omega
    · refine Nat.le_trans (ns_div hs0 _) ?_
      rw [Nat.mul_div_cancel_left _ hs0]
      exact Nat.le_refl _
/-- what is heard of all together is within the bound -/
theorem all_le (h : TR C n β σ) : ¬ σ 8 < lwAll σ n n := by
  obtain ⟨u, hu, b, b2, eb, hb⟩ := hrd_ns h
  rw [all_zs, zs_ns _ (fun k hk => (hu k hk).1), eb]
  exact Int32.not_lt.mpr (nI_le hb (by omega))
theorem all_hra (h : TR C n β σ) : rfHrA σ n = lwAll σ n n := by
  have := four_zs (f := fun k => rfHrd σ n k) (ph := fun k => nf σ k 0) (L := rg n (rfVo σ)) (fun k hk => nb_pt (rg_nb h hk))
  rw [z0a] at this
  unfold rfHrA
  rw [hro_zs, hro_zs, hro_zs, hro_zs, all_zs]
  exact this
theorem hro_nat (h : TR C n β σ) (p : Int32) : ∃ m, m ≤ 203200 ∧ rfHrO σ n p n = nI m := by
  obtain ⟨u, hu, -⟩ := hrd_ns h
  rw [hro_zs]
  obtain ⟨m, g1, g2⟩ := zs_nat (f := fun k => if nf σ k 0 = p then rfHrd σ n k else nI 0) (B := 1016) (rg n (rfVo σ)) (fun k hk => by
    show ∃ v, v ≤ 1016 ∧ (if nf σ k 0 = p then rfHrd σ n k else nI 0) = nI v
    by_cases c : nf σ k 0 = p
    · rw [if_pos c]; exact ⟨u k, (hu k hk).2, (hu k hk).1⟩
    · rw [if_neg c]; exact ⟨0, by omega, rfl⟩)
  have h2 := rg_len (n := n) (p := rfVo σ)
  have h3 := (st_0 h.1).2
  have : (rg n (rfVo σ)).length * 1016 ≤ 200 * 1016 := Nat.mul_le_mul_right _ (by omega)
  exact ⟨m, by omega, g2⟩
-- the desk's first formula
def MS (r : RM) (t s g : Int32) : Prop := r.1 = t ∧ r.2.1 0 = s ∧ r.2.2 0 = g
theorem ms_l {pr : Nat → Int32} {r : RM} {t s g c : Int32} {j : Nat} (h : MS r t s g) (hc : (c = nI 115 ∧ j = 0) ∨ (c = nI 97 ∧ j = 1) ∨ (c = nI 116 ∧ j = 2) ∨ (c = nI 98 ∧ j = 3)) : MS (rfMkS pr 0 c r) (pr j) s g := by
  obtain ⟨h1, h2, h3⟩ := h
  have key : ∀ c0 : Int32, c = c0 → ¬ c0 = nI 40 → ¬ (c0 = nI 43 ∨ c0 = nI 94) → ¬ c0 = nI 41 → ¬ c0 = nI 42 → ¬ (nI 48 ≤ c0 ∧ c0 ≤ nI 57) → (rfPB c0).toNatClampNeg = j → MS (rfMkS pr 0 c r) (pr j) s g := by
    intro c0 e a1 a2 a3 a4 a5 a6
    subst e
    unfold rfMkS
    rw [if_neg a1, if_neg a2, if_neg a3, if_neg a4, if_neg a5, a6]
    exact ⟨rfl, h2, h3⟩
  rcases hc with ⟨e, rfl⟩ | ⟨e, rfl⟩ | ⟨e, rfl⟩ | ⟨e, rfl⟩ <;> exact key _ e (by decide) (by decide) (by decide) (by decide) (by decide) (by decide)
theorem ms_p {pr : Nat → Int32} {r : RM} {t s g : Int32} (h : MS r t s g) : MS (rfMkS pr 0 (nI 43) r) t (rfJo s g t) (nI 43) := by
  obtain ⟨h1, h2, h3⟩ := h
  unfold rfMkS
  rw [if_neg (by decide), if_pos (Or.inl rfl)]
  exact ⟨h1, by rw [h1, h2, h3]; show upd r.2.1 0 (rfJo s g t) 0 = _; exact pk_us, (show upd r.2.2 0 (nI 43) 0 = nI 43 from pk_us)⟩
theorem fx_c (h : FX σ) : σ 9 = nI 7 ∧ σ 10 = nI 115 ∧ σ 11 = nI 43 ∧ σ 12 = nI 97 ∧ σ 13 = nI 43 ∧ σ 14 = nI 116 ∧ σ 15 = nI 43 ∧ σ 16 = nI 98 :=
  ⟨(h 9 (by omega) (by omega)).trans rfl, (h 10 (by omega) (by omega)).trans rfl, (h 11 (by omega) (by omega)).trans rfl, (h 12 (by omega) (by omega)).trans rfl, (h 13 (by omega) (by omega)).trans rfl, (h 14 (by omega) (by omega)).trans rfl, (h 15 (by omega) (by omega)).trans rfl, (h 16 (by omega) (by omega)).trans rfl⟩
theorem dp_s {i : Nat} {c : Int32} (e : σ (10 + i) = c) (h : rfDp σ i = 0) (h1 : ¬ c = nI 40) (h2 : ¬ c = nI 41) : rfDp σ (i + 1) = 0 := by
  rw [rfDp, e, if_neg h1, if_neg h2]; exact h
theorem jo_43 {a b : Nat} (h : a + b ≤ 1000000) : rfJo (nI a) (nI 43) (nI b) = nI (a + b) := by
  unfold rfJo rfCut
  rw [if_pos rfl, nI_add, if_pos (nI_le h (by omega))]
theorem mk_sum (h : FX σ) {pr f6 f7 : Nat → Int32} {a b c d : Nat} (ha : pr 0 = nI a) (hb : pr 1 = nI b) (hc : pr 2 = nI c) (hd : pr 3 = nI d) (hs : a + b + c + d ≤ 1000000) : rfMakes σ pr f6 f7 7 = nI (a + b + c + d) := by
  obtain ⟨-, e0, e1, e2, e3, e4, e5, e6⟩ := fx_c h
  have d0 : rfDp σ 0 = 0 := rfl
  have d1 : rfDp σ 1 = 0 := dp_s (i := 0) e0 d0 (by decide) (by decide)
  have d2 : rfDp σ 2 = 0 := dp_s (i := 1) e1 d1 (by decide) (by decide)
  have d3 : rfDp σ 3 = 0 := dp_s (i := 2) e2 d2 (by decide) (by decide)
  have d4 : rfDp σ 4 = 0 := dp_s (i := 3) e3 d3 (by decide) (by decide)
  have d5 : rfDp σ 5 = 0 := dp_s (i := 4) e4 d4 (by decide) (by decide)
  have d6 : rfDp σ 6 = 0 := dp_s (i := 5) e5 d5 (by decide) (by decide)
  have m0 : MS (rfMkN σ pr f6 f7 0) (nI 0) (nI 0) (nI 0) := by exact ⟨rfl, (show upd f6 0 (nI 0) 0 = nI 0 from pk_us), (show upd f7 0 (nI 0) 0 = nI 0 from pk_us)⟩
  have m1 : MS (rfMkN σ pr f6 f7 1) (pr 0) (nI 0) (nI 0) := by rw [rfMkN, d0]; exact ms_l m0 (Or.inl ⟨e0, rfl⟩)
  have m2 : MS (rfMkN σ pr f6 f7 2) (pr 0) (rfJo (nI 0) (nI 0) (pr 0)) (nI 43) := by rw [rfMkN, d1, show σ (10 + 1) = nI 43 from e1]; exact ms_p m1
  have m3 : MS (rfMkN σ pr f6 f7 3) (pr 1) (rfJo (nI 0) (nI 0) (pr 0)) (nI 43) := by rw [rfMkN, d2]; exact ms_l m2 (Or.inr (Or.inl ⟨e2, rfl⟩))
  have m4 : MS (rfMkN σ pr f6 f7 4) (pr 1) (rfJo (rfJo (nI 0) (nI 0) (pr 0)) (nI 43) (pr 1)) (nI 43) := by rw [rfMkN, d3, show σ (10 + 3) = nI 43 from e3]; exact ms_p m3
  have m5 : MS (rfMkN σ pr f6 f7 5) (pr 2) (rfJo (rfJo (nI 0) (nI 0) (pr 0)) (nI 43) (pr 1)) (nI 43) := by rw [rfMkN, d4]; exact ms_l m4 (Or.inr (Or.inr (Or.inl ⟨e4, rfl⟩)))
  have m6 : MS (rfMkN σ pr f6 f7 6) (pr 2) (rfJo (rfJo (rfJo (nI 0) (nI 0) (pr 0)) (nI 43) (pr 1)) (nI 43) (pr 2)) (nI 43) := by rw [rfMkN, d5, show σ (10 + 5) = nI 43 from e5]; exact ms_p m5
  have m7 : MS (rfMkN σ pr f6 f7 7) (pr 3) (rfJo (rfJo (rfJo (nI 0) (nI 0) (pr 0)) (nI 43) (pr 1)) (nI 43) (pr 2)) (nI 43) := by rw [rfMkN, d6]; exact ms_l m6 (Or.inr (Or.inr (Or.inr ⟨e6, rfl⟩)))
  obtain ⟨q1, q2, q3⟩ := m7
  unfold rfMakes
  rw [q1, q2, q3, ha, hb, hc, hd, show rfJo (nI 0) (nI 0) (nI a) = nI a from by unfold rfJo; rw [if_neg (by decide), if_neg (by decide)], jo_43 (by omega), jo_43 (by omega), jo_43 hs]
theorem mix_eq (h : TR C n β σ) (z : MZ) (sh : Nat → Int32) : mxOf (β.1.2.1 3) (shN β.1 sh 4) z = lwAll σ n n := by
  obtain ⟨P, Q, D, h1, h2, m, f1, f2, f3, f4, f5⟩ := h.1
  have hf := fx_c h.2.2.2.1
  have hm : m = 7 := (nI_eq (by omega) (by omega)).mp (f2.symm.trans hf.1)
  subst hm
  obtain ⟨a, ha, ea⟩ := hro_nat h (nI 0)
  obtain ⟨b, hb, eb⟩ := hro_nat h (nI 1)
  obtain ⟨c, hc, ec⟩ := hro_nat h (nI 2)
  obtain ⟨d, hd, ed⟩ := hro_nat h (nI 3)
  rw [q_mix h1 f1 f3 f4 f5 (v := rfMakes σ (fun j => rfHrO σ n (nI j) n) (fun _ => 0) (fun _ => 0) 7) ⟨_, _, _, fun j _ => rfl, rfl⟩, mk_sum h.2.2.2.1 ea eb ec ed (by omega), ← all_hra h]
  unfold rfHrA
  rw [ea, eb, ec, ed, nI_add, nI_add, nI_add]
-- parts
def PA (σ : Nat → Int32) (n i : Nat) (f : Nat → Int32) : Prop := ∀ p, p < 4 → f (5 * p) = rfPo σ (nI p) (nI 0) i ∧ f (5 * p + 1) = rfPo σ (nI p) (nI 1) i ∧ f (5 * p + 2) = rfPo σ (nI p) (nI 2) i ∧ f (5 * p + 3) = rfHrO σ n (nI p) i ∧ f (5 * p + 4) = rfPo σ (nI p) (nI 4) i
theorem pa_0 : PA σ n 0 (fun _ => 0) := fun p _ => ⟨nI_0.symm, nI_0.symm, nI_0.symm, nI_0.symm, nI_0.symm⟩
theorem u5 {f : Nat → Int32} {pp : Nat} {x0 x1 x2 x3 x4 : Int32} {k : Nat} : upd (upd (upd (upd (upd f (5 * pp) x0) (5 * pp + 1) x1) (5 * pp + 2) x2) (5 * pp + 3) x3) (5 * pp + 4) x4 k = if k = 5 * pp + 4 then x4 else if k = 5 * pp + 3 then x3 else if k = 5 * pp + 2 then x2 else if k = 5 * pp + 1 then x1 else if k = 5 * pp then x0 else f k := rfl
theorem pa_step {i pp : Nat} {f : Nat → Int32} {d0 d1 d2 d3 d4 : Int32} (h : PA σ n i f) (hp : pp < 4) (e : nf σ i 0 = nI pp) (h0 : d0 = if rfPl σ i then nI 1 else nI 0) (h1 : d1 = if nf σ i 3 = nI 5 then nI 1 else nI 0) (h2 : d2 = if rfVo σ i then nf σ i 4 else nI 0) (h3 : d3 = if rfVo σ i then rfHrd σ n i else nI 0) (h4 : d4 = if nf σ i 3 = 0 then nI 1 else nI 0) :
    PA σ n (i + 1) (upd (upd (upd (upd (upd f (5 * pp) (f (5 * pp) + d0)) (5 * pp + 1) (f (5 * pp + 1) + d1)) (5 * pp + 2) (f (5 * pp + 2) + d2)) (5 * pp + 3) (f (5 * pp + 3) + d3)) (5 * pp + 4) (f (5 * pp + 4) + d4)) := by
  intro p hp4
  obtain ⟨g0, g1, g2, g3, g4⟩ := h p hp4
  have i0 : rfIts σ (nI 0) i ↔ rfPl σ i := ⟨fun z => by rcases z with z | z | z | z; exact z.2; exact absurd z.1 (by decide); exact absurd z.1 (by decide); exact absurd (by decide) z.1, fun z => Or.inl ⟨by decide, z⟩⟩
  have i1 : rfIts σ (nI 1) i ↔ nf σ i 3 = nI 5 := ⟨fun z => by rcases z with z | z | z | z; exact absurd z.1 (by decide); exact z.2; exact absurd z.1 (by decide); exact absurd rfl z.2.1, fun z => Or.inr (Or.inl ⟨rfl, z⟩)⟩
  have i2 : rfIts σ (nI 2) i ↔ rfVo σ i := ⟨fun z => by rcases z with z | z | z | z; exact absurd z.1 (by decide); exact absurd z.1 (by decide); exact z.2; exact absurd rfl z.2.2.1, fun z => Or.inr (Or.inr (Or.inl ⟨rfl, z⟩))⟩
  have i4 : rfIts σ (nI 4) i ↔ nf σ i 3 = 0 := ⟨fun z => by rcases z with z | z | z | z; exact absurd z.1 (by decide); exact absurd z.1 (by decide); exact absurd z.1 (by decide); exact z.2.2.2, fun z => Or.inr (Or.inr (Or.inr ⟨by decide, by decide, by decide, z⟩))⟩
  have po : ∀ (wa : Int32) (X : Prop) [Decidable X], (rfIts σ wa i ↔ X) → rfPo σ (nI p) wa (i + 1) = rfPo σ (nI p) wa i + (if X then (if nf σ i 0 = nI p then (if wa = nI 2 then nf σ i 4 else nI 1) else nI 0) else nI 0) := by
    intro wa X _ hX
    rw [rfPo]
    by_cases c : X
    · rw [if_pos c, if_pos (hX.mpr c)]
    · rw [if_neg c, if_neg (fun z => c (hX.mp z))]
  rw [po (nI 0) _ i0, po (nI 1) _ i1, po (nI 2) _ i2, po (nI 4) _ i4, rfHrO]
  by_cases c : p = pp
  · subst c
    rw [if_pos e, if_pos e, if_pos e, if_pos e, if_pos e, if_neg (show ¬ nI 0 = nI 2 by decide), if_neg (show ¬ nI 1 = nI 2 by decide), if_pos (show nI 2 = nI 2 from rfl), if_neg (show ¬ nI 4 = nI 2 by decide), ← h0, ← h1, ← h2, ← h3, ← h4, ← g0, ← g1, ← g2, ← g3, ← g4]
    refine ⟨?_, ?_, ?_, ?_, ?_⟩
    · rw [u5, if_neg (show ¬ 5 * p = 5 * p + 4 by omega), if_neg (show ¬ 5 * p = 5 * p + 3 by omega), if_neg (show ¬ 5 * p = 5 * p + 2 by omega), if_neg (show ¬ 5 * p = 5 * p + 1 by omega), if_pos rfl]
    · rw [u5, if_neg (show ¬ 5 * p + 1 = 5 * p + 4 by omega), if_neg (show ¬ 5 * p + 1 = 5 * p + 3 by omega), if_neg (show ¬ 5 * p + 1 = 5 * p + 2 by omega), if_pos rfl]
    · rw [u5, if_neg (show ¬ 5 * p + 2 = 5 * p + 4 by omega), if_neg (show ¬ 5 * p + 2 = 5 * p + 3 by omega), if_pos rfl]
    · rw [u5, if_neg (show ¬ 5 * p + 3 = 5 * p + 4 by omega), if_pos rfl]
    · rw [u5, if_pos rfl]
  · have hne : ¬ nf σ i 0 = nI p := fun z => c ((nI_eq (by omega) (by omega)).mp (z.symm.trans e))
    have z : ∀ (X : Prop) [Decidable X], (if X then nI 0 else nI 0) = nI 0 := fun X _ => by by_cases c : X <;> simp [c]
    rw [if_neg hne, if_neg hne, if_neg hne, if_neg hne, if_neg hne, z, z, z, z]
    simp only [az0]
    refine ⟨?_, ?_, ?_, ?_, ?_⟩
    · rw [u5, if_neg (show ¬ 5 * p = 5 * pp + 4 by omega), if_neg (show ¬ 5 * p = 5 * pp + 3 by omega), if_neg (show ¬ 5 * p = 5 * pp + 2 by omega), if_neg (show ¬ 5 * p = 5 * pp + 1 by omega), if_neg (show ¬ 5 * p = 5 * pp by omega)]; exact g0
    · rw [u5, if_neg (show ¬ 5 * p + 1 = 5 * pp + 4 by omega), if_neg (show ¬ 5 * p + 1 = 5 * pp + 3 by omega), if_neg (show ¬ 5 * p + 1 = 5 * pp + 2 by omega), if_neg (show ¬ 5 * p + 1 = 5 * pp + 1 by omega), if_neg (show ¬ 5 * p + 1 = 5 * pp by omega)]; exact g1
    · rw [u5, if_neg (show ¬ 5 * p + 2 = 5 * pp + 4 by omega), if_neg (show ¬ 5 * p + 2 = 5 * pp + 3 by omega), if_neg (show ¬ 5 * p + 2 = 5 * pp + 2 by omega), if_neg (show ¬ 5 * p + 2 = 5 * pp + 1 by omega), if_neg (show ¬ 5 * p + 2 = 5 * pp by omega)]; exact g2
    · rw [u5, if_neg (show ¬ 5 * p + 3 = 5 * pp + 4 by omega), if_neg (show ¬ 5 * p + 3 = 5 * pp + 3 by omega), if_neg (show ¬ 5 * p + 3 = 5 * pp + 2 by omega), if_neg (show ¬ 5 * p + 3 = 5 * pp + 1 by omega), if_neg (show ¬ 5 * p + 3 = 5 * pp by omega)]; exact g3
    · rw [u5, if_neg (show ¬ 5 * p + 4 = 5 * pp + 4 by omega), if_neg (show ¬ 5 * p + 4 = 5 * pp + 3 by omega), if_neg (show ¬ 5 * p + 4 = 5 * pp + 2 by omega), if_neg (show ¬ 5 * p + 4 = 5 * pp + 1 by omega), if_neg (show ¬ 5 * p + 4 = 5 * pp by omega)]; exact g4
theorem pa_read {f : Nat → Int32} (h : PA σ n n f) {i : Nat} (hi : i < 20) : rfPartOf σ n (nI (i / 5)) (nI (i % 5)) = f i := by
  unfold rfPartOf
  rw [if_pos ⟨⟨nI_le (by omega) (by omega), nI_le (by omega) (by omega)⟩, nI_le (by omega) (by omega), nI_le (by omega) (by omega)⟩]
  obtain ⟨g0, g1, g2, g3, g4⟩ := h (i / 5) (by omega)
  rcases (show i % 5 = 0 ∨ i % 5 = 1 ∨ i % 5 = 2 ∨ i % 5 = 3 ∨ i % 5 = 4 by omega) with e | e | e | e | e
  · rw [e, if_neg (by decide), ← g0]; exact congrArg f (by omega)
  · rw [e, if_neg (by decide), ← g1]; exact congrArg f (by omega)
  · rw [e, if_neg (by decide), ← g2]; exact congrArg f (by omega)
  · rw [e, if_pos rfl, ← g3]; exact congrArg f (by omega)
  · rw [e, if_neg (by decide), ← g4]; exact congrArg f (by omega)
theorem pt_eq (h : TR C n β σ) {f : Nat → Int32} (hf : PA σ n n f) {i : Nat} (hi : i < 20) : bxPartOf β.1 (nI (i / 5)) (nI (i % 5)) = f i := by
  obtain ⟨P, Q, D, h1, -⟩ := h.1
  rw [q_part h1, pa_read hf hi]
-- voices by ages
def ag (σ : Nat → Int32) (j : Nat) : Nat := (nf σ j 7).toNatClampNeg
def bef (σ : Nat → Int32) : Option Nat → Int64
  | none => (-1)
  | some j => lN (ag σ j)
def o1 : Option Nat → Int32
  | none => (-1)
  | some k => nI k
def aft (σ : Nat → Int32) (o : Option Nat) (k : Nat) : Bool := match o with
  | none => true
  | some j => decide (ag σ j < ag σ k)
def les (σ : Nat → Int32) (o : Option Nat) (k : Nat) : Bool := match o with
  | none => true
  | some j => decide (ag σ k < ag σ j)
def lwFn (σ : Nat → Int32) (o : Option Nat) : Nat → Option Nat
  | 0 => none
  | k + 1 => if rfPl σ k ∧ aft σ o k = true ∧ les σ (lwFn σ o k) k = true then some k else lwFn σ o k
theorem fn_spec (σ : Nat → Int32) (o : Option Nat) : ∀ m, (lwFn σ o m = none ∧ ∀ k, k < m → ¬ (rfPl σ k ∧ aft σ o k = true)) ∨ ∃ j, lwFn σ o m = some j ∧ j < m ∧ rfPl σ j ∧ aft σ o j = true ∧ ∀ k, k < m → rfPl σ k → aft σ o k = true → ag σ j ≤ ag σ k := by
  intro m
  induction m with
  | zero => exact Or.inl ⟨rfl, fun k hk => absurd hk (Nat.not_lt_zero k)⟩
  | succ m ih =>
    rw [lwFn]
    rcases ih with ⟨e, h⟩ | ⟨j, e, h1, h2, h3, h4⟩
    · rw [e]
      by_cases c : rfPl σ m ∧ aft σ o m = true
      · rw [if_pos ⟨c.1, c.2, rfl⟩]
        refine Or.inr ⟨m, rfl, by omega, c.1, c.2, fun k hk hp ha => ?_⟩
        by_cases d : k = m
        · rw [d]; exact Nat.le_refl _
        · exact absurd ⟨hp, ha⟩ (h k (by omega))
      · rw [if_neg (fun z => c ⟨z.1, z.2.1⟩)]
        refine Or.inl ⟨rfl, fun k hk => ?_⟩
        by_cases d : k = m
        · rw [d]; exact c
        · exact h k (by omega)
    · rw [e]
      by_cases c : rfPl σ m ∧ aft σ o m = true ∧ les σ (some j) m = true
      · rw [if_pos c]
        have hlt : ag σ m < ag σ j := of_decide_eq_true c.2.2
        refine Or.inr ⟨m, rfl, by omega, c.1, c.2.1, fun k hk hp ha => ?_⟩
        by_cases d : k = m
        · rw [d]; exact Nat.le_refl _
        · have := h4 k (by omega) hp ha; omega
      · rw [if_neg c]
        refine Or.inr ⟨j, rfl, by omega, h2, h3, fun k hk hp ha => ?_⟩
        by_cases d : k = m
        · subst d
          by_cases q : ag σ k < ag σ j
          · exact absurd ⟨hp, ha, decide_eq_true q⟩ c
          · omega
        · exact h4 k (by omega) hp ha
def pv (σ : Nat → Int32) (n : Nat) : Nat → Option Nat
  | 0 => none
  | i + 1 => rfVa σ n (nI i) n
theorem pv_lt {i j : Nat} (h : pv σ n i = some j) : j < n := by
  cases i with
  | zero => cases h
  | succ i =>
    have h : rfVa σ n (nI i) n = some j := h
    rcases rfVa_spec σ n (nI i) n with ⟨e, -⟩ | ⟨j', e, h1, -⟩
    · rw [h] at e; cases e
    · rw [h] at e; cases e; exact h1
theorem fn_lt {o : Option Nat} {m j : Nat} (h : lwFn σ o m = some j) : j < m := by
  rcases fn_spec σ o m with ⟨e, -⟩ | ⟨j', e, h1, -⟩
  · rw [h] at e; cases e
  · rw [h] at e; cases e; exact h1
theorem vaP {χ : CS} {P Q D : List Nat} (h : Sm True C n χ σ P Q D) {i : Nat} (hi : i < P.length) : rfVa σ n (nI i) n = some P[i] := by
  have hl : P.length ≤ 8 := h.2.2.1.2.2.2.2.2.2.1
  rcases rfVa_spec σ n (nI i) n with ⟨-, hn⟩ | ⟨j, e, h1, h2, h3⟩
  · have := (sm_P h).mp (List.getElem_mem hi)
    exact absurd ⟨this.2, va_rank2 h hi⟩ (hn _ this.1)
  · rw [e]
    obtain ⟨i2, hi2, e2⟩ := in_sp ((sm_P h).mpr ⟨h1, h2⟩)
    have e3 := va_rank2 h hi2
    rw [e2, h3] at e3
    have : i = i2 := (nI_eq (by omega) (by omega)).mp e3
    subst this
    rw [e2]
theorem ag_lt {χ : CS} {P Q D : List Nat} (h : Sm True C n χ σ P Q D) (hC : C < 2 ^ 30) {a b : Nat} (ha : a < P.length) (hb : b < P.length) (hab : a < b) : ag σ P[a] < ag σ P[b] := by
  have hp := List.pairwise_iff_getElem.mp h.2.2.1.2.2.2.1 a b ha hb hab
  obtain ⟨S, c1, c2, c3⟩ := h.2.2.1.2.2.2.2.2.2.2.2.2.2
  obtain ⟨x, ex, hx⟩ := c3 _ (List.getElem_mem ha)
  obtain ⟨y, ey, hy⟩ := c3 _ (List.getElem_mem hb)
  unfold ag
  rw [ex, ey] at hp ⊢
  rw [nI_ltI (by omega) (by omega)] at hp
  rw [nI_clamp (by omega), nI_clamp (by omega)]
  exact hp
theorem tr_pl (h : TR C n β σ) : ∃ pl, pl ≤ 8 ∧ rfPlc σ n = nI pl := by
  obtain ⟨P, Q, D, h1, -⟩ := h.1
  exact ⟨P.length, h1.2.2.1.2.2.2.2.2.2.1, sm_plc h1⟩
theorem fn_va (h : TR C n β σ) (hC : C ≤ 60) {pl i : Nat} (hp8 : pl ≤ 8) (hpl : rfPlc σ n = nI pl) (hi : i < pl) : ∃ j, lwFn σ (pv σ n i) n = some j ∧ pv σ n (i + 1) = some j ∧ j < n ∧ bxVoice β.1 (nI i) = nI j := by
  obtain ⟨P, Q, D, h1, -⟩ := h.1
  have hl : P.length ≤ 8 := h1.2.2.1.2.2.2.2.2.2.1
  have hP : pl = P.length := (nI_eq (by omega) (by omega)).mp (hpl.symm.trans (sm_plc h1))
  subst hP
  have haf : ∀ c (hc : c < P.length), aft σ (pv σ n i) P[c] = true ↔ i ≤ c := by
    intro c hc
    cases i with
    | zero => exact ⟨fun _ => Nat.zero_le _, fun _ => rfl⟩
    | succ i =>
      have e : pv σ n (i + 1) = some P[i] := vaP h1 (by omega)
      rw [e]
      show decide (ag σ P[i] < ag σ P[c]) = true ↔ _
      rw [decide_eq_true_eq]
      constructor
      · intro z
        rcases Nat.lt_trichotomy i c with q | q | q
        · omega
        · subst q; omega
        · have := ag_lt h1 (by omega) hc (show i < P.length by omega) q; omega
      · intro z
        exact ag_lt h1 (by omega) (by omega) hc (by omega)
  have hin := (sm_P h1).mp (List.getElem_mem hi)
  have e2 : bxVoice β.1 (nI i) = nI P[i] := by
    rw [sm_va h1]
    unfold rfVoiceAt
    rw [if_pos (nI_pos' (by omega)), vaP h1 hi]; rfl
  refine ⟨P[i], ?_, vaP h1 hi, hin.1, e2⟩
  rcases fn_spec σ (pv σ n i) n with ⟨-, g⟩ | ⟨j, e, g1, g2, g3, g4⟩
  · exact absurd ⟨hin.2, (haf i hi).mpr (Nat.le_refl _)⟩ (g _ hin.1)
  · rw [e]
    obtain ⟨c, hc, ec⟩ := in_sp ((sm_P h1).mpr ⟨g1, g2⟩)
    subst ec
    have h5 := (haf c hc).mp g3
    have h6 := g4 _ hin.1 hin.2 ((haf i hi).mpr (Nat.le_refl _))
    rcases Nat.lt_or_ge i c with q | q
    · have := ag_lt h1 (by omega) hi hc q; omega
    · have : c = i := by omega
      subst this; rfl
theorem va_out (h : TR C n β σ) {pl : Nat} (hp8 : pl ≤ 8) (hpl : rfPlc σ n = nI pl) : bxVoice β.1 (nI pl) = (-4) := by
  obtain ⟨P, Q, D, h1, -⟩ := h.1
  have hl : P.length ≤ 8 := h1.2.2.1.2.2.2.2.2.2.1
  have hP : pl = P.length := (nI_eq (by omega) (by omega)).mp (hpl.symm.trans (sm_plc h1))
  subst hP
  unfold bxVoice
  rw [if_pos (nI_pos' (by omega)), h1.2.2.2.1]
  have e1 : lnAt (P.map nI) (nI P.length) = (-1) := by
    unfold lnAt
    rw [if_neg (fun z => by have := z.2; rw [List.length_map] at this; exact absurd this Int32.lt_irrefl)]
  rw [e1]; rfl
theorem cmp_aft (hF : FB n σ) {k : Nat} (hk : k < n) {i : Nat} (h : lg_cmp (nf σ k 7).toInt64 (bef σ (pv σ n i)) ≤ 0) : ¬ aft σ (pv σ n i) k = true := by
  obtain ⟨g, hg, e⟩ := hF k hk 7 (by decide)
  have hg : g < 65536 := hg
  intro ha
  have hgt : (nf σ k 7).toInt64 > bef σ (pv σ n i) := by
    show bef σ (pv σ n i) < (nf σ k 7).toInt64
    rw [e, lN_nI (by omega), Int64.lt_iff_toInt_lt, lN_ii (a := g) (by omega)]
    cases o : pv σ n i with
    | none => show (-1 : Int64).toInt < _; rw [show (-1 : Int64).toInt = -1 from by decide]; omega
    | some j =>
      obtain ⟨g', hg', e'⟩ := hF j (pv_lt o) 7 (by decide)
      have hg' : g' < 65536 := hg'
      rw [o] at ha
      have ha : ag σ j < ag σ k := of_decide_eq_true ha
      unfold ag at ha
      rw [e, e', nI_clamp (by omega), nI_clamp (by omega)] at ha
      show (lN (ag σ j)).toInt < _
      unfold ag
      rw [e', nI_clamp (by omega), lN_ii (by omega)]; omega
  have e1 : lg_cmp (nf σ k 7).toInt64 (bef σ (pv σ n i)) = 1 := by unfold lg_cmp; rw [if_pos hgt]
  rw [e1] at h
  exact absurd h (by decide)
theorem cmp_aft' (hF : FB n σ) {k : Nat} (hk : k < n) {i : Nat} (h : ¬ lg_cmp (nf σ k 7).toInt64 (bef σ (pv σ n i)) ≤ 0) : aft σ (pv σ n i) k = true := by
  obtain ⟨g, hg, e⟩ := hF k hk 7 (by decide)
  have hg : g < 65536 := hg
  have hgt : (nf σ k 7).toInt64 > bef σ (pv σ n i) := by
    by_cases c : (nf σ k 7).toInt64 > bef σ (pv σ n i)
    · exact c
    · exfalso
      apply h
      unfold lg_cmp
      rw [if_neg c]
      by_cases d : (nf σ k 7).toInt64 = bef σ (pv σ n i)
      · rw [if_pos d]; decide
      · rw [if_neg d]; decide
  have hgt : bef σ (pv σ n i) < (nf σ k 7).toInt64 := hgt
  cases o : pv σ n i with
  | none => rfl
  | some j =>
    obtain ⟨g', hg', e'⟩ := hF j (pv_lt o) 7 (by decide)
    have hg' : g' < 65536 := hg'
    rw [o] at hgt
    have hgt : lN (ag σ j) < (nf σ k 7).toInt64 := hgt
    unfold ag at hgt
    rw [e, e', lN_nI (by omega), nI_clamp (by omega), Int64.lt_iff_toInt_lt, lN_ii (by omega), lN_ii (by omega)] at hgt
    show decide (ag σ j < ag σ k) = true
    unfold ag
    rw [e, e', nI_clamp (by omega), nI_clamp (by omega), decide_eq_true_eq]
    omega
theorem les_n (hF : FB n σ) {j k : Nat} (hj : j < n) (hk : k < n) (h : nf σ j 7 ≤ nf σ k 7) : ¬ les σ (some j) k = true := by
  obtain ⟨g, hg, e⟩ := hF k hk 7 (by decide)
  obtain ⟨g', hg', e'⟩ := hF j hj 7 (by decide)
  have hg : g < 65536 := hg
  have hg' : g' < 65536 := hg'
  rw [e, e', nI_leI (by omega) (by omega)] at h
  show ¬ decide (ag σ k < ag σ j) = true
  unfold ag
  rw [e, e', nI_clamp (by omega), nI_clamp (by omega), decide_eq_true_eq]
  omega
theorem les_y (hF : FB n σ) {j k : Nat} (hj : j < n) (hk : k < n) (h : ¬ nf σ j 7 ≤ nf σ k 7) : les σ (some j) k = true := by
  obtain ⟨g, hg, e⟩ := hF k hk 7 (by decide)
  obtain ⟨g', hg', e'⟩ := hF j hj 7 (by decide)
  have hg : g < 65536 := hg
  have hg' : g' < 65536 := hg'
  rw [e, e', nI_leI (by omega) (by omega)] at h
  show decide (ag σ k < ag σ j) = true
  unfold ag
  rw [e, e', nI_clamp (by omega), nI_clamp (by omega), decide_eq_true_eq]
  omega
theorem bef_s (hF : FB n σ) {j : Nat} (hj : j < n) : (nf σ j 7).toInt64 = bef σ (some j) := by
  obtain ⟨g, hg, e⟩ := hF j hj 7 (by decide)
  have hg : g < 65536 := hg
  show _ = lN (ag σ j)
  unfold ag
  rw [e, lN_nI (by omega), nI_clamp (by omega)]
-- finds, who is next, free places
theorem fi_eq2 (h : TR C n β σ) {p q : Nat} (hp : p < 4) (hq : q < 3) : bxFind β.1 (nI p) (nI q) = oi (lwV σ (nI p) (nI q) n 0) := by
  obtain ⟨P, Q, D, h1, -⟩ := h.1
  rw [q_find h1, lwV_eq (st_uq h.1)]
  unfold rfFind
  rw [if_pos (pq_ok hp hq)]
theorem nx_eq (h : TR C n β σ) (hC : C ≤ 60) : xorNF (chHome β.1) = oi (rfNx σ n) := by
  obtain ⟨P, Q, D, h1, -⟩ := h.1
  exact q_next h1 (by omega)
theorem fr_1 (h : TR C n β σ) {pl : Nat} (hpl : rfPlc σ n = nI pl) (hp8 : pl ≤ 8) (c : σ 6 ≤ nI pl) : rfFree σ n = nI 0 := by
  obtain ⟨P, Q, D, h1, -⟩ := h.1
  obtain ⟨a, a1, a2, e, -⟩ := sm_free h1
  unfold rfFree
  rw [e, nI_leI (by omega) (by omega)] at c
  rw [hpl, e]
  by_cases d : a = pl
  · subst d; rw [if_pos (by rw [Int32.sub_self]; decide), Int32.sub_self, nI_0]
  · rw [if_neg (Int32.not_le.mpr (pk_sneg (by omega) (by omega)))]
theorem fr_2 (h : TR C n β σ) {pl : Nat} (hpl : rfPlc σ n = nI pl) (hp8 : pl ≤ 8) (c : ¬ σ 6 ≤ nI pl) : rfFree σ n = σ 6 - nI pl := by
  obtain ⟨P, Q, D, h1, -⟩ := h.1
  obtain ⟨a, a1, a2, e, -⟩ := sm_free h1
  unfold rfFree
  rw [e, nI_leI (by omega) (by omega)] at c
  rw [hpl, e]
  rw [pk_sub (by omega), if_pos (nI_pos' (by omega))]
theorem ahd_eq (σ : Nat → Int32) : ∀ n, rfMany σ (nI 0) n = rfAhd σ n := by
  intro n
  induction n with
  | zero => rfl
  | succ n ih => rw [rfMany, rfAhd, ih]; rfl
theorem ct_q (h : TR C n β σ) (w : Int32) : bxCount β w = rfCount σ n (nI β.2.2.1) (nI 0) w := by
  obtain ⟨P, Q, D, h1, -⟩ := h.1
  exact q_count h1 rfl (by rw [h.2.2.2.2.1]; rfl) w
theorem nt_q (h : TR C n β σ) {i : Nat} (hi : i < n) (w : Int32) : bxNote β.1 (nI i) w = rfNo σ n i w := by
  obtain ⟨P, Q, D, h1, -⟩ := h.1
  have h3 := (st_0 h.1).2
  rw [q_note h1]
  unfold rfNoteOf
  rw [if_pos ⟨nI_pos' (by omega), nI_lt hi (by omega)⟩, nI_clamp (by omega)]
theorem ct_0 (h : TR C n β σ) : bxCount β (nI 0) = nI n := by
  rw [ct_q h, rfCount, if_pos rfl]
theorem ct_1 (h : TR C n β σ) : bxCount β (nI 1) = rfPlc σ n := by
  rw [ct_q h, rfCount, if_neg (by decide), if_pos rfl]
theorem ct_2 (h : TR C n β σ) : bxCount β (nI 2) = rfFree σ n := by
  rw [ct_q h, rfCount, if_neg (by decide), if_neg (by decide), if_pos rfl]
theorem ct_3 (h : TR C n β σ) : bxCount β (nI 3) = rfMany σ (nI 5) n := by
  rw [ct_q h, rfCount, if_neg (by decide), if_neg (by decide), if_neg (by decide), if_pos rfl]
theorem ct_4 (h : TR C n β σ) : bxCount β (nI 4) = rfMany σ (nI 0) n := by
  rw [ct_q h, rfCount, if_neg (by decide), if_neg (by decide), if_neg (by decide), if_neg (by decide), if_pos rfl]
theorem ct_5 (h : TR C n β σ) : bxCount β (nI 5) = σ 1 := by
  rw [ct_q h, rfCount, if_neg (by decide), if_neg (by decide), if_neg (by decide), if_neg (by decide), if_neg (by decide), if_pos rfl]
theorem ct_6 (h : TR C n β σ) : bxCount β (nI 6) = rfSum σ n := by
  rw [ct_q h, rfCount, if_neg (by decide), if_neg (by decide), if_neg (by decide), if_neg (by decide), if_neg (by decide), if_neg (by decide), if_pos rfl]
theorem ct_7 (h : TR C n β σ) : bxCount β (nI 7) = rfHrA σ n := by
  rw [ct_q h, rfCount, if_neg (by decide), if_neg (by decide), if_neg (by decide), if_neg (by decide), if_neg (by decide), if_neg (by decide), if_neg (by decide), if_pos rfl]
theorem ct_8 (h : TR C n β σ) : bxCount β (nI 8) = σ 2 := by
  rw [ct_q h, rfCount, if_neg (by decide), if_neg (by decide), if_neg (by decide), if_neg (by decide), if_neg (by decide), if_neg (by decide), if_neg (by decide), if_neg (by decide), if_pos rfl]
theorem ct_9 (h : TR C n β σ) : bxCount β (nI 9) = σ 3 := by
  rw [ct_q h, rfCount, if_neg (by decide), if_neg (by decide), if_neg (by decide), if_neg (by decide), if_neg (by decide), if_neg (by decide), if_neg (by decide), if_neg (by decide), if_neg (by decide), if_pos rfl]
theorem ct_10 (h : TR C n β σ) : bxCount β (nI 10) = σ 4 := by
  rw [ct_q h, rfCount, if_neg (by decide), if_neg (by decide), if_neg (by decide), if_neg (by decide), if_neg (by decide), if_neg (by decide), if_neg (by decide), if_neg (by decide), if_neg (by decide), if_neg (by decide), if_pos rfl]
theorem ct_12 (h : TR C n β σ) : bxCount β (nI 12) = nI 0 := by
  rw [ct_q h, rfCount, if_neg (by decide), if_neg (by decide), if_neg (by decide), if_neg (by decide), if_neg (by decide), if_neg (by decide), if_neg (by decide), if_neg (by decide), if_neg (by decide), if_neg (by decide), if_neg (by decide), if_neg (by decide), if_pos rfl]
theorem ct_20 (h : TR C n β σ) : bxCount β (nI 20) = σ 6 := by
  rw [ct_q h, rfCount, if_neg (by decide), if_neg (by decide), if_neg (by decide), if_neg (by decide), if_neg (by decide), if_neg (by decide), if_neg (by decide), if_neg (by decide), if_neg (by decide), if_neg (by decide), if_neg (by decide), if_neg (by decide), if_neg (by decide), if_pos rfl]
theorem ct_21 (h : TR C n β σ) : bxCount β (nI 21) = σ 7 := by
  rw [ct_q h, rfCount, if_neg (by decide), if_neg (by decide), if_neg (by decide), if_neg (by decide), if_neg (by decide), if_neg (by decide), if_neg (by decide), if_neg (by decide), if_neg (by decide), if_neg (by decide), if_neg (by decide), if_neg (by decide), if_neg (by decide), if_neg (by decide), if_pos rfl]
theorem ct_22 (h : TR C n β σ) : bxCount β (nI 22) = σ 8 := by
  rw [ct_q h, rfCount, if_neg (by decide), if_neg (by decide), if_neg (by decide), if_neg (by decide), if_neg (by decide), if_neg (by decide), if_neg (by decide), if_neg (by decide), if_neg (by decide), if_neg (by decide), if_neg (by decide), if_neg (by decide), if_neg (by decide), if_neg (by decide), if_neg (by decide), if_pos rfl]
theorem ct_13 (h : TR C n β σ) : bxCount β (nI 13) = (-1) := by
  rw [ct_q h, rfCount, if_neg (by decide), if_neg (by decide), if_neg (by decide), if_neg (by decide), if_neg (by decide), if_neg (by decide), if_neg (by decide), if_neg (by decide), if_neg (by decide), if_neg (by decide), if_neg (by decide), if_neg (by decide), if_neg (by decide), if_neg (by decide), if_neg (by decide), if_neg (by decide)]
theorem ct_19 (h : TR C n β σ) : bxCount β (nI 19) = (-1) := by
  rw [ct_q h, rfCount, if_neg (by decide), if_neg (by decide), if_neg (by decide), if_neg (by decide), if_neg (by decide), if_neg (by decide), if_neg (by decide), if_neg (by decide), if_neg (by decide), if_neg (by decide), if_neg (by decide), if_neg (by decide), if_neg (by decide), if_neg (by decide), if_neg (by decide), if_neg (by decide)]
theorem ct_23 (h : TR C n β σ) : bxCount β (nI 23) = (-1) := by
  rw [ct_q h, rfCount, if_neg (by decide), if_neg (by decide), if_neg (by decide), if_neg (by decide), if_neg (by decide), if_neg (by decide), if_neg (by decide), if_neg (by decide), if_neg (by decide), if_neg (by decide), if_neg (by decide), if_neg (by decide), if_neg (by decide), if_neg (by decide), if_neg (by decide), if_neg (by decide)]
theorem nt_0 (h : TR C n β σ) {i : Nat} (hi : i < n) : bxNote β.1 (nI i) (nI 0) = nf σ i 0 := by
  rw [nt_q h hi, rfNo, if_pos rfl]
theorem nt_1 (h : TR C n β σ) {i : Nat} (hi : i < n) : bxNote β.1 (nI i) (nI 1) = nf σ i 1 := by
  rw [nt_q h hi, rfNo, if_neg (by decide), if_pos rfl]
theorem nt_2 (h : TR C n β σ) {i : Nat} (hi : i < n) : bxNote β.1 (nI i) (nI 2) = nf σ i 2 := by
  rw [nt_q h hi, rfNo, if_neg (by decide), if_neg (by decide), if_pos rfl]
theorem nt_3 (h : TR C n β σ) {i : Nat} (hi : i < n) : bxNote β.1 (nI i) (nI 3) = nf σ i 3 := by
  rw [nt_q h hi, rfNo, if_neg (by decide), if_neg (by decide), if_neg (by decide), if_pos rfl]
theorem nt_4 (h : TR C n β σ) {i : Nat} (hi : i < n) : bxNote β.1 (nI i) (nI 4) = (if rfVo σ i then nf σ i 4 else (-4)) := by
  rw [nt_q h hi, rfNo, if_neg (by decide), if_neg (by decide), if_neg (by decide), if_neg (by decide), if_pos rfl]
theorem nt_5 (h : TR C n β σ) {i : Nat} (hi : i < n) : bxNote β.1 (nI i) (nI 5) = (if rfVo σ i then rfHrd σ n i else (-4)) := by
  rw [nt_q h hi, rfNo, if_neg (by decide), if_neg (by decide), if_neg (by decide), if_neg (by decide), if_neg (by decide), if_pos rfl]
theorem nt_6 (h : TR C n β σ) {i : Nat} (hi : i < n) : bxNote β.1 (nI i) (nI 6) = nf σ i 6 := by
  rw [nt_q h hi, rfNo, if_neg (by decide), if_neg (by decide), if_neg (by decide), if_neg (by decide), if_neg (by decide), if_neg (by decide), if_pos rfl]
theorem nt_7 (h : TR C n β σ) {i : Nat} (hi : i < n) : bxNote β.1 (nI i) (nI 7) = (if nf σ i 3 = 0 then rfAhd σ i else (-4)) := by
  rw [nt_q h hi, rfNo, if_neg (by decide), if_neg (by decide), if_neg (by decide), if_neg (by decide), if_neg (by decide), if_neg (by decide), if_neg (by decide), if_pos rfl]
theorem nt_8 (h : TR C n β σ) {i : Nat} (hi : i < n) : bxNote β.1 (nI i) (nI 8) = (-1) := by
  rw [nt_q h hi, rfNo, if_neg (by decide), if_neg (by decide), if_neg (by decide), if_neg (by decide), if_neg (by decide), if_neg (by decide), if_neg (by decide), if_neg (by decide)]
end
