/-! 44.po: the history, the text and its fault -/
theorem st_C {C C' n : Nat} {χ : CS} {σ : Nat → Int32} (h : St C n χ σ) (hC : C ≤ C') : St C' n χ σ := by
  obtain ⟨P, Q, D, h1, h2, h3⟩ := h
  exact ⟨P, Q, D, sm_C h1 hC, h2, h3⟩
def HL (C : Nat) (h : Nat → CS) (η : Nat → Nat → Int32) (np : Nat) : Prop := np ≤ 4 ∧ ∀ i, i < np → ∃ n, St C n (h i) (η i)
def TL (L : List Int32) (tx : Nat → Int32) (ty : Nat) : Prop := ty ≤ 60 ∧ L.length = ty ∧ ∀ j, j < ty → L.getD j 0 = tx j
theorem hl_rec {C n np : Nat} {h : Nat → CS} {η : Nat → Nat → Int32} {χ : CS} {σ : Nat → Int32} (hH : HL C h η np) (hs : St C n χ σ) : HL C (hiRec h np χ) (rfRec η np σ) (hiLen np) := by
  unfold hiRec rfRec hiLen
  by_cases c : np = 4
  · subst c
    rw [if_pos rfl, if_pos rfl, if_pos rfl]
    refine ⟨Nat.le_refl 4, fun i hi => ?_⟩
    unfold hiPut hiDrop
    by_cases d : i = 3
    · rw [if_pos d]; show ∃ n, St C n _ (if i = 3 then σ else η (i + 1)); rw [if_pos d]; exact ⟨n, st_copy hs _⟩
    · rw [if_neg d]; show ∃ n, St C n (if i = 3 then h 0 else h (i + 1)) (if i = 3 then σ else η (i + 1)); rw [if_neg d, if_neg d]; exact hH.2 (i + 1) (by omega)
  · rw [if_neg c, if_neg c, if_neg c]
    have := hH.1
    refine ⟨by omega, fun i hi => ?_⟩
    unfold hiPut
    by_cases d : i = np
    · rw [if_pos d]; show ∃ n, St C n _ (if i = np then σ else η i); rw [if_pos d]; exact ⟨n, st_copy hs _⟩
    · rw [if_neg d]; show ∃ n, St C n (h i) (if i = np then σ else η i); rw [if_neg d]; exact hH.2 i (by omega)
theorem hl_C {C C' np : Nat} {h : Nat → CS} {η : Nat → Nat → Int32} (hH : HL C h η np) (hC : C ≤ C') : HL C' h η np :=
  ⟨hH.1, fun i hi => by obtain ⟨n, hn⟩ := hH.2 i hi; exact ⟨n, st_C hn hC⟩⟩
theorem tl_app {L : List Int32} {tx : Nat → Int32} {ty : Nat} {c : Int32} (h : TL L tx ty) (hne : ¬ ty = 60) : TL (L ++ [c]) (upd tx ty c) (ty + 1) := by
  obtain ⟨h1, h2, h3⟩ := h
  refine ⟨by omega, by rw [List.length_append, List.length_singleton, h2], fun j hj => ?_⟩
  by_cases d : j = ty
  · rw [d, pk_us, ← h2]; exact getD_app_eq
  · rw [pk_un d, getD_app_lt (by omega)]; exact h3 j (by omega)
/-- one sign, the class's reader and the reference's -/
theorem pb_neg (c : Int32) : (pnOf c = (-1) ↔ ¬ 0 ≤ rfPB c) ∧ (∀ j, j < 4 → (pnOf c = nI j ↔ rfPB c = nI j)) := by
  unfold pnOf rfPB
  by_cases c1 : c = nI 115
  · rw [if_pos c1, if_pos c1]; exact ⟨by decide, fun j _ => Iff.rfl⟩
  by_cases c2 : c = nI 97
  · rw [if_neg c1, if_neg c1, if_pos c2, if_pos c2]; exact ⟨by decide, fun j _ => Iff.rfl⟩
  by_cases c3 : c = nI 116
  · rw [if_neg c1, if_neg c1, if_neg c2, if_neg c2, if_pos c3, if_pos c3]; exact ⟨by decide, fun j _ => Iff.rfl⟩
  by_cases c4 : c = nI 98
  · rw [if_neg c1, if_neg c1, if_neg c2, if_neg c2, if_neg c3, if_neg c3, if_pos c4, if_pos c4]; exact ⟨by decide, fun j _ => Iff.rfl⟩
  rw [if_neg c1, if_neg c1, if_neg c2, if_neg c2, if_neg c3, if_neg c3, if_neg c4, if_neg c4]
  exact ⟨by decide, fun j hj => ⟨fun z => absurd z.symm (nI_m1 (by omega)), fun z => absurd z.symm (nI_m4 (by omega))⟩⟩
theorem pn_cases (c : Int32) : pnOf c = (-1) ∨ ∃ j, j < 4 ∧ pnOf c = nI j := by
  unfold pnOf
  by_cases c1 : c = nI 115
  · rw [if_pos c1]; exact Or.inr ⟨0, by omega, rfl⟩
  by_cases c2 : c = nI 97
  · rw [if_neg c1, if_pos c2]; exact Or.inr ⟨1, by omega, rfl⟩
  by_cases c3 : c = nI 116
  · rw [if_neg c1, if_neg c2, if_pos c3]; exact Or.inr ⟨2, by omega, rfl⟩
  by_cases c4 : c = nI 98
  · rw [if_neg c1, if_neg c2, if_neg c3, if_pos c4]; exact Or.inr ⟨3, by omega, rfl⟩
  rw [if_neg c1, if_neg c2, if_neg c3, if_neg c4]; exact Or.inl rfl
theorem i_m1 (x : Int32) : x + Int32.ofInt (-1) = x - nI 1 := by
  rw [Int32.sub_eq_add_neg]; congr 1
theorem fz_eq (z o c : Int32) : (rdTake z o c).2.2 = (rfFz z o c).2.2 ∧ ((rdTake z o c).2.2 = 0 → (rdTake z o c).1 = (rfFz z o c).1 ∧ (rdTake z o c).2.1 = (rfFz z o c).2.1) := by
  unfold rdTake rfFz
  by_cases c0 : z = 0
  · rw [if_pos (show z = nI 0 by rw [nI_0]; exact c0), if_pos c0]
    unfold rdThing rdOpen
    by_cases c1 : c = nI 40
    · rw [if_pos c1, if_pos c1]
      by_cases c2 : o = nI 6
      · rw [if_pos c2, if_pos c2]; exact ⟨rfl, fun _ => ⟨rfl, rfl⟩⟩
      · rw [if_neg c2, if_neg c2]; exact ⟨rfl, fun _ => ⟨by rw [nI_0]; exact c0, rfl⟩⟩
    · rw [if_neg c1, if_neg c1]
      have hp := (pb_neg c).1
      by_cases c2 : pnOf c = (-1)
      · rw [if_pos c2, if_neg (hp.mp c2)]; exact ⟨rfl, fun q => absurd q (by show ¬ nI 1 = 0; decide)⟩
      · rw [if_neg c2, if_pos (Classical.byContradiction (fun q => c2 (hp.mpr q)))]; exact ⟨rfl, fun _ => ⟨rfl, (az0 o).symm⟩⟩
  rw [if_neg (show ¬ z = nI 0 by rw [nI_0]; exact c0), if_neg c0]
  by_cases c1 : z = nI 2
  · rw [if_pos c1, if_pos c1]
    unfold rdDigit
    by_cases c2 : c < nI 48
    · rw [if_pos c2, if_neg (fun q => absurd q.1 (Int32.not_le.mpr c2))]; exact ⟨rfl, fun q => absurd q (by show ¬ nI 1 = 0; decide)⟩
    by_cases c3 : nI 57 < c
    · rw [if_neg c2, if_pos c3, if_neg (fun q => absurd q.2 (Int32.not_le.mpr c3))]; exact ⟨rfl, fun q => absurd q (by show ¬ nI 1 = 0; decide)⟩
    rw [if_neg c2, if_neg c3, if_pos ⟨Int32.not_lt.mp c2, Int32.not_lt.mp c3⟩]; exact ⟨rfl, fun _ => ⟨rfl, rfl⟩⟩
  rw [if_neg c1, if_neg c1]
  unfold rdBehind
  by_cases d1 : c = nI 43 ∨ c = nI 94
  · have n41 : ¬ (c = nI 41 ∧ 0 < o) := fun q => by rcases d1 with e | e <;> rw [q.1] at e <;> exact absurd e (by decide)
    have n42 : ¬ (c = nI 42 ∧ z = nI 1) := fun q => by rcases d1 with e | e <;> rw [q.1] at e <;> exact absurd e (by decide)
    rw [if_pos d1, if_neg n41, if_neg n42, if_pos d1]; exact ⟨rfl, fun _ => ⟨rfl, rfl⟩⟩
  by_cases d2 : c = nI 42 ∧ z = nI 1
  · have n41 : ¬ (c = nI 41 ∧ 0 < o) := fun q => by have e := d2.1; rw [q.1] at e; exact absurd e (by decide)
    rw [if_neg d1, if_pos d2, if_neg n41, if_pos d2]; exact ⟨rfl, fun _ => ⟨rfl, rfl⟩⟩
  by_cases d3 : c = nI 41 ∧ 0 < o
  · rw [if_neg d1, if_neg d2, if_pos d3, if_pos d3]; exact ⟨rfl, fun _ => ⟨rfl, (i_m1 o).symm⟩⟩
  rw [if_neg d1, if_neg d2, if_neg d3, if_neg d3, if_neg d2, if_neg d1]; exact ⟨rfl, fun _ => ⟨rfl, rfl⟩⟩
/-- the reader's state keeps its bounds -/
theorem tk_ok {z o : Nat} {c : Int32} (hz : z ≤ 3) (ho : o ≤ 6) (h : (rdTake (nI z) (nI o) c).2.2 = 0) : ∃ z' o', z' ≤ 3 ∧ o' ≤ 6 ∧ (rdTake (nI z) (nI o) c).1 = nI z' ∧ (rdTake (nI z) (nI o) c).2.1 = nI o' ∧
    ((z = 0 ∧ c = nI 40 ∧ z' = 0 ∧ o' = o + 1) ∨ (z = 0 ∧ ¬ c = nI 40 ∧ (∃ j, j < 4 ∧ pnOf c = nI j) ∧ z' = 1 ∧ o' = o) ∨ (z = 2 ∧ nI 48 ≤ c ∧ c ≤ nI 57 ∧ z' = 3 ∧ o' = o) ∨
     ((z = 1 ∨ z = 3) ∧ (c = nI 43 ∨ c = nI 94) ∧ z' = 0 ∧ o' = o) ∨ (z = 1 ∧ c = nI 42 ∧ z' = 2 ∧ o' = o) ∨ ((z = 1 ∨ z = 3) ∧ c = nI 41 ∧ 0 < o ∧ z' = 1 ∧ o' + 1 = o)) := by
  unfold rdTake at h ⊢
  by_cases c0 : z = 0
  · subst c0
    rw [if_pos rfl] at h ⊢
    unfold rdThing rdOpen at h ⊢
    by_cases c1 : c = nI 40
    · rw [if_pos c1] at h ⊢
      by_cases c2 : nI o = nI 6
      · rw [if_pos c2] at h; exact absurd h (by show ¬ nI 2 = 0; decide)
      · rw [if_neg c2]
        exact ⟨0, o + 1, by omega, by have : ¬ o = 6 := fun q => c2 (by rw [q]); omega, rfl, nI_add o 1, Or.inl ⟨rfl, c1, rfl, rfl⟩⟩
    · rw [if_neg c1] at h ⊢
      by_cases c2 : pnOf c = (-1)
      · rw [if_pos c2] at h; exact absurd h (by show ¬ nI 1 = 0; decide)
      · rw [if_neg c2]
        exact ⟨1, o, by omega, ho, rfl, rfl, Or.inr (Or.inl ⟨rfl, c1, (pn_cases c).resolve_left c2, rfl, rfl⟩)⟩
  have n0 : ¬ nI z = nI 0 := fun q => c0 ((nI_eq (by omega) (by omega)).mp q)
  rw [if_neg n0] at h ⊢
  by_cases c1 : z = 2
  · subst c1
    rw [if_pos rfl] at h ⊢
    unfold rdDigit at h ⊢
    by_cases c2 : c < nI 48
    · rw [if_pos c2] at h; exact absurd h (by show ¬ nI 1 = 0; decide)
    by_cases c3 : nI 57 < c
    · rw [if_neg c2, if_pos c3] at h; exact absurd h (by show ¬ nI 1 = 0; decide)
    rw [if_neg c2, if_neg c3]
    exact ⟨3, o, by omega, ho, rfl, rfl, Or.inr (Or.inr (Or.inl ⟨rfl, Int32.not_lt.mp c2, Int32.not_lt.mp c3, rfl, rfl⟩))⟩
  have n2 : ¬ nI z = nI 2 := fun q => c1 ((nI_eq (by omega) (by omega)).mp q)
  have hz13 : z = 1 ∨ z = 3 := by omega
  rw [if_neg n2] at h ⊢
  unfold rdBehind at h ⊢
  by_cases d1 : c = nI 43 ∨ c = nI 94
  · rw [if_pos d1]
    exact ⟨0, o, by omega, ho, rfl, rfl, Or.inr (Or.inr (Or.inr (Or.inl ⟨hz13, d1, rfl, rfl⟩)))⟩
  rw [if_neg d1] at h ⊢
  by_cases d2 : c = nI 42 ∧ nI z = nI 1
  · rw [if_pos d2]
    exact ⟨2, o, by omega, ho, rfl, rfl, Or.inr (Or.inr (Or.inr (Or.inr (Or.inl ⟨(nI_eq (by omega) (by omega)).mp d2.2, d2.1, rfl, rfl⟩))))⟩
  rw [if_neg d2] at h ⊢
  by_cases d3 : c = nI 41 ∧ 0 < nI o
  · have ho0 : 0 < o := by have := d3.2; rw [← nI_0, nI_ltI (by omega) (by omega)] at this; exact this
    rw [if_pos d3]
    exact ⟨1, o - 1, by omega, by omega, rfl, pk_sub (by omega), Or.inr (Or.inr (Or.inr (Or.inr (Or.inr ⟨hz13, d3.1, ho0, rfl, by omega⟩))))⟩
  rw [if_neg d3] at h; exact absurd h (by show ¬ nI 1 = 0; decide)
theorem end_eq {z o : Nat} (hz : z ≤ 3) (ho : o ≤ 6) : rdEnd (nI z) (nI o) ↔ ¬ rfFe (nI z) (nI o) := by
  unfold rdEnd rfFe
  rw [← nI_0, nI_eq (by omega) (by omega), nI_eq (by omega) (by omega), nI_eq (by omega) (by omega), nI_eq (by omega) (by omega), nI_eq (by omega) (by omega), nI_ltI (by omega) (by omega)]; omega
theorem fa_eq {L : List Int32} {tx : Nat → Int32} {ty : Nat} (hT : TL L tx ty) : ∀ f k z o, k + f = ty → z ≤ 3 → o ≤ 6 →
    ((rdGo (L.drop k) k (nI z) (nI o)).2 = 0 ∧ (rfFa tx f k (nI z) (nI o)).1 = (-4)) ∨ (¬ (rdGo (L.drop k) k (nI z) (nI o)).2 = 0 ∧ rfFa tx f k (nI z) (nI o) = rdGo (L.drop k) k (nI z) (nI o) ∧ ∃ i, i ≤ 60 ∧ (rdGo (L.drop k) k (nI z) (nI o)).1 = nI i) := by
  intro f
  induction f with
  | zero =>
    intro k z o hk hz ho
    have hk : k = ty := by omega
    subst hk
    rw [List.drop_eq_nil_of_le (by rw [hT.2.1]; exact Nat.le_refl _), rdGo, rfFa]
    have he := end_eq hz ho
    by_cases c : rdEnd (nI z) (nI o)
    · rw [if_pos c, if_neg (he.mp c)]; exact Or.inl ⟨nI_0, rfl⟩
    · rw [if_neg c, if_pos (Classical.byContradiction (fun q => c (he.mpr q)))]
      exact Or.inr ⟨show ¬ nI 3 = 0 by decide, rfl, k, hT.1, rfl⟩
  | succ f ih =>
    intro k z o hk hz ho
    have hkl : k < L.length := by rw [hT.2.1]; omega
    have hc : tx k = L.getD k 0 := (hT.2.2 k (by omega)).symm
    have hfz := fz_eq (nI z) (nI o) (L.getD k 0)
    rw [rdGo_s hkl, rfFa, hc]
    by_cases c : (rdTake (nI z) (nI o) (L.getD k 0)).2.2 = 0
    · rw [if_pos c, if_pos (by rw [← hfz.1]; exact c)]
      obtain ⟨z', o', h1, h2, h3, h4, -⟩ := tk_ok hz ho c
      rw [← (hfz.2 c).1, ← (hfz.2 c).2, h3, h4]
      exact ih (k + 1) z' o' (by omega) h1 h2
    · rw [if_neg c, if_neg (by rw [← hfz.1]; exact c)]
      refine Or.inr ⟨c, by rw [hfz.1], k, by have := hT.1; omega, rfl⟩
theorem ft_eq {L : List Int32} {tx : Nat → Int32} {ty : Nat} (hT : TL L tx ty) : ((rdAll L).2 = 0 ∧ (rfFt tx ty).1 = (-4)) ∨ (¬ (rdAll L).2 = 0 ∧ rfFt tx ty = rdAll L ∧ ¬ (rfFt tx ty).1 = (-4)) := by
  have h := fa_eq hT ty 0 0 0 (by omega) (by omega) (by omega)
  rw [List.drop_zero] at h
  rcases h with h | ⟨h1, h2, i, h3, h4⟩
  · exact Or.inl h
  · refine Or.inr ⟨h1, h2, ?_⟩
    show ¬ (rfFa tx ty 0 (nI 0) (nI 0)).1 = (-4)
    rw [h2, h4]; exact nI_m4 (by omega)
theorem q_fault {L : List Int32} {tx : Nat → Int32} {ty : Nat} (hT : TL L tx ty) (wa : Int32) : bxFault L wa = rfFV tx ty wa := by
  unfold bxFault rfFV
  by_cases c0 : wa < 0
  · rw [if_pos c0, if_neg (fun z => absurd z.1 (by rw [nI_0]; exact Int32.not_le.mpr c0))]
  by_cases c1 : wa ≤ nI 1
  · rw [if_neg c0, if_pos c1, if_pos (show nI 0 ≤ wa ∧ wa ≤ nI 1 from ⟨by rw [nI_0]; exact Int32.not_lt.mp c0, c1⟩)]
    rcases ft_eq hT with ⟨h1, h2⟩ | ⟨h1, h2, h3⟩
    · rw [if_pos h1, if_pos h2, h2]
    · rw [if_neg h1, if_neg h3, h2]
  · rw [if_neg c0, if_neg c1, if_neg (fun z => c1 z.2)]
theorem hp_eq {L : List Int32} {tx : Nat → Int32} {ty : Nat} (hT : TL L tx ty) : hpOf L = rfAdN tx ty 60 := by
  have h1 : ∀ k, k ≤ ty → (L.take k).foldl hpStep (nI 0) = rfAdN tx ty k := fun k => by
    induction k with
    | zero => intro _; rfl
    | succ k ih =>
      intro hk
      have hkl : k < L.length := by rw [hT.2.1]; omega
      rw [fold_s hkl, ih (by omega), rfAdN]
      unfold hpStep
      rw [hT.2.2 k (by omega)]
      have hp := (pb_neg (tx k)).1
      by_cases c : pnOf (tx k) = (-1)
      · rw [if_pos c, if_neg (fun z => (hp.mp c) (Int32.not_lt.mp z.2))]
      · rw [if_neg c, if_pos ⟨by omega, fun z => c (hp.mpr (Int32.not_le.mpr z))⟩]
  have h2 : ∀ k, ty ≤ k → rfAdN tx ty k = rfAdN tx ty ty := fun k => by
    induction k with
    | zero => intro h; rw [show ty = 0 from by omega]
    | succ k ih =>
      intro h
      by_cases c : ty = k + 1
      · rw [c]
      · rw [rfAdN, if_neg (fun z => by omega), az0, ih (by omega)]
  have := h1 ty (Nat.le_refl _)
  rw [List.take_of_length_le (by rw [hT.2.1]; exact Nat.le_refl _)] at this
  rw [h2 60 hT.1, ← this]; rfl
theorem k_adopt {C n : Nat} {β : BS} {σ tx : Nat → Int32} {ty : Nat} (h : St C n β.1 σ) (hT : TL β.2.2.2 tx ty) : CH C (bxAdopt β) (rfAdo σ tx ty) := by
  unfold bxAdopt rfAdo
  rcases ft_eq hT with ⟨h1, h2⟩ | ⟨h1, h2, h3⟩
  · rw [if_pos h1, if_pos h2]
    refine ⟨hp_eq hT, Or.inr ⟨_, n, rfl, rfl, ?_⟩⟩
    obtain ⟨P, Q, D, g1, g2, g3⟩ := h
    have hlo : ∀ j, (j < 9 ∨ 70 ≤ j) → rfAdA σ tx ty 60 j = σ j := fun j hj => by
      unfold rfAdA; rw [if_neg (by omega), pk_un (by omega)]
    have hsc := g1.1
    refine ⟨P, Q, D, sm_lo g1 rfl ⟨rfl, rfl, rfl⟩ (fun j w hw => hlo _ (Or.inr (by omega))) (hlo 5 (by omega)) ?_, g2, ty, hT.1, ?_, hT.2.1, fun j hj => ?_, h1⟩
    · refine sc_of hsc hsc.1 ((hlo 0 (by omega)).trans hsc.2.1) hsc.2.2.1 (fun j hj hj5 hF => (hsc.2.2.2.1 j hj hj5 hF).trans (hlo j (by omega)).symm) rfl ⟨hlo 6 (by omega), hlo 7 (by omega), hlo 8 (by omega)⟩
    · show rfAdA σ tx ty 60 9 = _
      unfold rfAdA; rw [if_neg (by omega), pk_us]
    · show β.2.2.2.getD j 0 = rfAdA σ tx ty 60 (10 + j)
      have := hT.1
      unfold rfAdA; rw [if_pos (by omega), show 10 + j - 10 = j from by omega, if_pos hj]; exact hT.2.2 j hj
  · rw [if_neg h1, if_neg h3]; exact ⟨rfl, Or.inl ⟨rfl, rfl⟩⟩
