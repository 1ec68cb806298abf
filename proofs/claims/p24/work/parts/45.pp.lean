/-! 45.pp: what the desk's formula makes -/
def rdSt (L : List Int32) : Nat → Int32 × Int32
  | 0 => (nI 0, nI 0)
  | i + 1 => ((rdTake (rdSt L i).1 (rdSt L i).2 (L.getD i 0)).1, (rdTake (rdSt L i).1 (rdSt L i).2 (L.getD i 0)).2.1)
theorem go_ok {L : List Int32} : ∀ f k, k + f = L.length → (rdGo (L.drop k) k (rdSt L k).1 (rdSt L k).2).2 = 0 → (∀ i, k ≤ i → i < L.length → (rdTake (rdSt L i).1 (rdSt L i).2 (L.getD i 0)).2.2 = 0) ∧ rdEnd (rdSt L L.length).1 (rdSt L L.length).2 := by
  intro f
  induction f with
  | zero =>
    intro k hk h
    have hk : k = L.length := by omega
    subst hk
    refine ⟨fun i h1 h2 => by omega, ?_⟩
    rw [List.drop_eq_nil_of_le (Nat.le_refl _), rdGo] at h
    by_cases c : rdEnd (rdSt L L.length).1 (rdSt L L.length).2
    · exact c
    · rw [if_neg c] at h; exact absurd h (by show ¬ nI 3 = 0; decide)
  | succ f ih =>
    intro k hk h
    rw [rdGo_s (by omega)] at h
    by_cases c : (rdTake (rdSt L k).1 (rdSt L k).2 (L.getD k 0)).2.2 = 0
    · rw [if_pos c] at h
      obtain ⟨h1, h2⟩ := ih (k + 1) (by omega) h
      refine ⟨fun i hi1 hi2 => ?_, h2⟩
      by_cases d : i = k
      · rw [d]; exact c
      · exact h1 i (by omega) hi2
    · rw [if_neg c] at h; exact absurd h c
/-- the places and depths that a formula without fault goes through -/
def RS2 (L : List Int32) (dp : Nat → Nat) (i z : Nat) : Prop := z ≤ 3 ∧ dp i ≤ 6 ∧ rdSt L i = (nI z, nI (dp i))
theorem run_ok {L : List Int32} {σ : Nat → Int32} {m : Nat} (hl : L.length = m) (hs : ∀ j, j < m → L.getD j 0 = σ (10 + j)) (h : (rdAll L).2 = 0) :
    (∀ i, i ≤ m → ∃ z, RS2 L (rfDp σ) i z) ∧ (∀ i, i < m → (rdTake (rdSt L i).1 (rdSt L i).2 (L.getD i 0)).2.2 = 0) ∧ rdEnd (rdSt L m).1 (rdSt L m).2 := by
  have hg := go_ok (L := L) L.length 0 (by omega) (by rw [List.drop_zero]; exact h)
  rw [hl] at hg
  have hok : ∀ i, i < m → (rdTake (rdSt L i).1 (rdSt L i).2 (L.getD i 0)).2.2 = 0 := fun i hi => hg.1 i (Nat.zero_le i) hi
  refine ⟨fun i => ?_, hok, hg.2⟩
  induction i with
  | zero => intro _; exact ⟨0, by omega, Nat.zero_le _, rfl⟩
  | succ i ih =>
    intro hi
    obtain ⟨z, hz, ho, he⟩ := ih (by omega)
    have hk := hok i (by omega)
    rw [he] at hk
    obtain ⟨z', o', h1, h2, h3, h4, h5⟩ := tk_ok hz ho hk
    have hd : rfDp σ (i + 1) = o' := by
      rw [rfDp, ← hs i (by omega)]
      rcases h5 with ⟨-, q, -, q2⟩ | ⟨-, q, ⟨j, hj, q3⟩, -, q2⟩ | ⟨-, q, q3, -, q2⟩ | ⟨-, q, -, q2⟩ | ⟨-, q, -, q2⟩ | ⟨-, q, q3, -, q2⟩
      · rw [if_pos q]; exact q2.symm
      · rw [if_neg q, if_neg (fun e => by rw [e] at q3; have : pnOf (nI 41) = (-1) := by decide
                                          rw [this] at q3; exact nI_m1 (by omega) q3.symm)]; exact q2.symm
      · rw [if_neg (fun e => by rw [e] at q; exact absurd q (by decide)), if_neg (fun e => by rw [e] at q; exact absurd q (by decide))]; exact q2.symm
      · rw [if_neg (fun e => by rw [e] at q; exact absurd q (by decide)), if_neg (fun e => by rw [e] at q; exact absurd q (by decide))]; exact q2.symm
      · rw [if_neg (fun e => by rw [e] at q; exact absurd q (by decide)), if_neg (fun e => by rw [e] at q; exact absurd q (by decide))]; exact q2.symm
      · rw [if_neg (fun e => by rw [e] at q; exact absurd q (by decide)), if_pos q]; omega
    refine ⟨z', h1, by rw [hd]; exact h2, ?_⟩
    rw [rdSt, he, h3, h4, hd]
theorem run_W {L : List Int32} {σ : Nat → Int32} {m : Nat} (hl : L.length = m) (hs : ∀ j, j < m → L.getD j 0 = σ (10 + j)) (h : (rdAll L).2 = 0) : ∀ i, i < m → rfOk (rfDp σ i) (σ (10 + i)) := by
  intro i hi
  obtain ⟨h1, h2, -⟩ := run_ok hl hs h
  obtain ⟨z, hz, ho, he⟩ := h1 i (by omega)
  have hk := h2 i hi
  rw [he] at hk
  obtain ⟨z', o', g1, g2, g3, g4, g5⟩ := tk_ok hz ho hk
  rw [← hs i hi]
  have hr : rfDp σ (i + 1) ≤ 6 := by obtain ⟨z2, q1, q2, q3⟩ := h1 (i + 1) (by omega); exact q2
  refine ⟨fun e => ?_, fun e => ?_, fun n1 n2 n3 n4 n5 => ?_⟩
  · rw [rfDp, ← hs i hi, if_pos e] at hr; omega
  · rcases g5 with ⟨-, q, -⟩ | ⟨-, -, ⟨j, hj, q3⟩, -⟩ | ⟨-, q, -⟩ | ⟨-, q, -⟩ | ⟨-, q, -⟩ | ⟨-, -, q, -⟩
    · rw [e] at q; exact absurd q (by decide)
    · rw [e] at q3; have : pnOf (nI 41) = (-1) := by decide
      rw [this] at q3; exact absurd q3.symm (nI_m1 (by omega))
    · rw [e] at q; exact absurd q (by decide)
    · rw [e] at q; exact absurd q (by decide)
    · rw [e] at q; exact absurd q (by decide)
    · exact q
  · rcases g5 with ⟨-, q, -⟩ | ⟨-, -, ⟨j, hj, q3⟩, -⟩ | ⟨-, q, q2, -⟩ | ⟨-, q, -⟩ | ⟨-, q, -⟩ | ⟨-, q, -⟩
    · exact absurd q n1
    · exact ⟨j, hj, ((pb_neg _).2 j hj).mp q3⟩
    · exact absurd ⟨q, q2⟩ n5
    · exact absurd q n2
    · exact absurd q n4
    · exact absurd q n3
