/-! 47.pr: mix and alone -/
theorem zs_nat {f : Nat → Int32} {B : Nat} (L : List Nat) (h : ∀ k, k ∈ L → ∃ v, v ≤ B ∧ f k = nI v) : ∃ m, m ≤ L.length * B ∧ zs f L = nI m := by
  induction L with
  | nil => exact ⟨0, Nat.zero_le _, rfl⟩
  | cons x L ih =>
    obtain ⟨m, h1, h2⟩ := ih (fun k hk => h k (List.mem_cons_of_mem _ hk))
    obtain ⟨v, h3, h4⟩ := h x List.mem_cons_self
    refine ⟨v + m, ?_, by rw [zs, h2, h4, nI_add]⟩
    rw [List.length_cons, Nat.succ_mul]; omega
section
variable {F : Prop} {C n : Nat} {χ : CS} {σ : Nat → Int32} {P Q D : List Nat}
theorem lev_nat (h : Sm F C n χ σ P Q D) {k : Nat} (hk : k < n) : ∃ v, v ≤ 1016 ∧ nf σ k 4 = nI v := by
  obtain ⟨p, s, x, v, m, -, -, -, -, hv, -, -, -, -, e, -⟩ := (h.2.1 k hk).2
  exact ⟨v, hv, e⟩
theorem sum_nat (h : Sm F C n χ σ P Q D) : ∃ s, s ≤ 12192 ∧ rfSum σ n = nI s := by
  have h1 : P.length ≤ 8 := h.2.2.1.2.2.2.2.2.2.1
  have h2 : Q.length ≤ 4 := h.2.2.1.2.2.2.2.2.2.2.1
  rw [sum_zs, sm_zs h, ← zs_app]
  obtain ⟨m, g1, g2⟩ := zs_nat (f := fun k => nf σ k 4) (B := 1016) (P ++ Q) (fun k hk => lev_nat h ((sm_vo h).mp hk).1)
  rw [List.length_append] at g1
  have : (P.length + Q.length) * 1016 ≤ 12 * 1016 := Nat.mul_le_mul_right _ (by omega)
  exact ⟨m, by omega, g2⟩
theorem hrd_nat (h : Sm F C n χ σ P Q D) {k : Nat} (hk : k < n) : ∃ v, v ≤ 1016 ∧ rfHrd σ n k = nI v := by
  obtain ⟨v, hv, e⟩ := lev_nat h hk
  obtain ⟨s, hs, es⟩ := sum_nat h
  obtain ⟨b, b1, b2, eb⟩ := sm_bd h
  unfold rfHrd
  rw [es, eb, e]
  by_cases c : s ≤ b
  · rw [if_pos (nI_le c (by omega))]; exact ⟨v, hv, rfl⟩
  · rw [if_neg (nI_ge (by omega) (by omega)), pk_mul]
    have hm : v * b ≤ 1016 * 8000 := Nat.mul_le_mul hv b2
    rw [pk_div (by omega) (by omega) (by omega)]
    refine ⟨v * b / s, ?_, rfl⟩
    have : v * b / s ≤ v := Nat.div_le_of_le_mul (by rw [Nat.mul_comm s v]; exact Nat.mul_le_mul_left v (by omega))
    omega
theorem hro_BV (h : Sm F C n χ σ P Q D) (p : Int32) : BV (rfHrO σ n p n) := by
  have h1 : P.length ≤ 8 := h.2.2.1.2.2.2.2.2.2.1
  have h2 : Q.length ≤ 4 := h.2.2.1.2.2.2.2.2.2.2.1
  rw [hro_zs, sm_zs h, ← zs_app]
  obtain ⟨m, g1, g2⟩ := zs_nat (f := fun k => if nf σ k 0 = p then rfHrd σ n k else nI 0) (B := 1016) (P ++ Q) (fun k hk => by
    by_cases c : nf σ k 0 = p
    · show ∃ v, v ≤ 1016 ∧ (if nf σ k 0 = p then rfHrd σ n k else nI 0) = nI v
      rw [if_pos c]; exact hrd_nat h ((sm_vo h).mp hk).1
    · show ∃ v, v ≤ 1016 ∧ (if nf σ k 0 = p then rfHrd σ n k else nI 0) = nI v
      rw [if_neg c]; exact ⟨0, by omega, rfl⟩)
  rw [List.length_append] at g1
  have : (P.length + Q.length) * 1016 ≤ 12 * 1016 := Nat.mul_le_mul_right _ (by omega)
  exact ⟨m, by omega, g2⟩
theorem shN_at (χ : CS) (sh : Nat → Int32) : ∀ k, k ≤ 4 → ∀ j, j < k → shN χ sh k j = chHrP χ (nI j) := by
  intro k
  induction k with
  | zero => intro _ j hj; omega
  | succ k ih =>
    intro hk j hj
    rw [shN, xput_nI (by decide) (by omega)]
    by_cases c : j = k
    · rw [c, pk_us]
    · rw [pk_un c]; exact ih (by omega) j (by omega)
theorem shA_at (χ : CS) (p : Int32) (sh : Nat → Int32) : ∀ k, k ≤ 4 → ∀ j, j < k → shA χ p sh k j = if nI j = p then chHrP χ p else nI 0 := by
  intro k
  induction k with
  | zero => intro _ j hj; omega
  | succ k ih =>
    intro hk j hj
    rw [shA, xput_nI (by decide) (by omega)]
    by_cases c : j = k
    · rw [c, pk_us]
    · rw [pk_un c]; exact ih (by omega) j (by omega)
theorem q_mix (h : Sm F C n χ σ P Q D) {m : Nat} (hm : m ≤ 60) (hl : (χ.2.1 3).length = m) (hs : ∀ j, j < m → (χ.2.1 3).getD j 0 = σ (10 + j)) (h0 : (rdAll (χ.2.1 3)).2 = 0) {z : MZ} {sh : Nat → Int32} {v : Int32} (hv : MadeR σ (fun j => rfHrO σ n (nI j) n) m v) : mxOf (χ.2.1 3) (shN χ sh 4) z = v := by
  obtain ⟨pr, f6, f7, h1, rfl⟩ := hv
  exact (mk_eq hl hm hs h0 (fun j hj => ⟨by rw [shN_at χ sh 4 (by omega) j hj, h1 j hj, sm_hrp h], by rw [h1 j hj]; exact hro_BV h _⟩) z f6 f7).1
theorem q_made (h : Sm F C n χ σ P Q D) {m : Nat} (hm : m ≤ 60) (hl : (χ.2.1 3).length = m) (hs : ∀ j, j < m → (χ.2.1 3).getD j 0 = σ (10 + j)) (h0 : (rdAll (χ.2.1 3)).2 = 0) {k : Nat} (hk : k < 4) {u v : Int32} (hu : MadeA χ (nI k) u) (hv : MadeR σ (fun j => if j = k then rfHrO σ n (nI k) n else nI 0) m v) : u = v := by
  obtain ⟨z, sh, rfl⟩ := hu
  obtain ⟨pr, f6, f7, h1, rfl⟩ := hv
  refine (mk_eq hl hm hs h0 (fun j hj => ?_) z f6 f7).1
  rw [shA_at χ _ sh 4 (by omega) j hj, h1 j hj]
  show (if nI j = nI k then chHrP χ (nI k) else nI 0) = (if j = k then rfHrO σ n (nI k) n else nI 0) ∧ BV (if j = k then rfHrO σ n (nI k) n else nI 0)
  by_cases c : j = k
  · rw [if_pos c, c, if_pos rfl]; exact ⟨sm_hrp h _, hro_BV h _⟩
  · rw [if_neg c, if_neg (fun q => c ((nI_eq (by omega) (by omega)).mp q))]; exact ⟨rfl, 0, by omega, rfl⟩
end
theorem al_eq {m a : Nat → Int32} (h : ∀ k, k < 4 → m k = a k) : ∀ k, k ≤ 4 → (alN m k).1 = (rfAl a k).1 ∧ (alN m k).2.1 = (rfAl a k).2.1 ∧ (((alN m k).2.2 = (-1) ∧ (rfAl a k).2.2 = (-4)) ∨ ∃ j, j < 4 ∧ (alN m k).2.2 = nI j ∧ (rfAl a k).2.2 = nI j) := by
  intro k
  induction k with
  | zero => intro _; exact ⟨rfl, rfl, Or.inl ⟨rfl, rfl⟩⟩
  | succ k ih =>
    intro hk
    obtain ⟨h1, h2, h3⟩ := ih (by omega)
    rw [alN, rfAl]
    unfold alStep rfSl4
    rw [← h k (by omega), h1, h2]
    refine ⟨?_, ?_, ?_⟩
    · show (if 0 < m k then _ else _) = _ + (if m k ≤ 0 then _ else _)
      by_cases c : m k ≤ 0
      · rw [if_neg (Int32.not_lt.mpr c), if_pos c, az0]
      · rw [if_pos (Int32.not_le.mp c), if_neg c]
    · show (if (rfAl a k).2.1 < m k then m k else (rfAl a k).2.1) = if m k ≤ (rfAl a k).2.1 then (rfAl a k).2.1 else m k
      by_cases c : m k ≤ (rfAl a k).2.1
      · rw [if_neg (Int32.not_lt.mpr c), if_pos c]
      · rw [if_pos (Int32.not_le.mp c), if_neg c]
    · show ((if (rfAl a k).2.1 < m k then nI k else (alN m k).2.2) = (-1) ∧ (if m k ≤ (rfAl a k).2.1 then (rfAl a k).2.2 else nI k) = (-4)) ∨ ∃ j, j < 4 ∧ (if (rfAl a k).2.1 < m k then nI k else (alN m k).2.2) = nI j ∧ (if m k ≤ (rfAl a k).2.1 then (rfAl a k).2.2 else nI k) = nI j
      by_cases c : m k ≤ (rfAl a k).2.1
      · rw [if_neg (Int32.not_lt.mpr c), if_pos c]; exact h3
      · rw [if_pos (Int32.not_le.mp c), if_neg c]; exact Or.inr ⟨k, by omega, rfl, rfl⟩
theorem q_alone {m a : Nat → Int32} (h : ∀ k, k < 4 → m k = a k) (w : Int32) : bxAlone m w = rfAlone a w := by
  obtain ⟨h1, h2, h3⟩ := al_eq h 4 (Nat.le_refl 4)
  unfold bxAlone rfAlone
  by_cases c0 : w < 0
  · rw [if_pos c0, if_neg (fun z => absurd z.1 (by rw [nI_0]; exact Int32.not_le.mpr c0))]
  by_cases c1 : w ≤ nI 1
  · rw [if_neg c0, if_pos c1, if_pos (show nI 0 ≤ w ∧ w ≤ nI 1 from ⟨by rw [nI_0]; exact Int32.not_lt.mp c0, c1⟩)]
    by_cases c2 : w = 0
    · rw [if_pos c2, if_pos c2, h1]
    · rw [if_neg c2, if_neg c2]
      rcases h3 with ⟨e1, e2⟩ | ⟨j, hj, e1, e2⟩
      · rw [e1, e2]; rfl
      · rw [e1, e2, xor_nI (by omega)]
  · rw [if_neg c0, if_neg c1, if_neg (fun z => c1 z.2)]
