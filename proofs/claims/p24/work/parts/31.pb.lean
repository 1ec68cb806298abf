/-! 31.pb: the relation of the class's choir and the reference's row; what reads see of it -/
def NR (F : Prop) (T : Nat → Nat → Int32) (σ : Nat → Int32) (k : Nat) : Prop :=
  (F ∨ ¬ nf σ k 3 = nI 6 → ∀ w, w < 7 → ¬ w = 5 → T w k = nf σ k w) ∧ (nf σ k 3 = nI 4 ∨ nf σ k 3 = nI 5 → T 5 k = nf σ k 5)
def NB (σ : Nat → Int32) (k : Nat) : Prop :=
  ∃ p s x v m : Nat, p < 4 ∧ 1 ≤ s ∧ s ≤ 127 ∧ x ≤ 6 ∧ v ≤ 1016 ∧ m ≤ 1 ∧ nf σ k 0 = nI p ∧ nf σ k 2 = nI s ∧ nf σ k 3 = nI x ∧ nf σ k 4 = nI v ∧ nf σ k 6 = nI m ∧ ((x = 0 → v = 0) ∧ (x = 0 ∨ x = 4 → m = 0)) ∧ (x = 4 ∨ x = 5 → ∃ b, nf σ k 5 = nI b ∧ v ≤ b ∧ b ≤ 1016)
def LZ (C n : Nat) (σ : Nat → Int32) (P Q D : List Nat) : Prop :=
  (∀ k, k ∈ P ↔ k < n ∧ rfPl σ k) ∧ (∀ k, k ∈ Q ↔ k < n ∧ nf σ k 3 = nI 5) ∧ (∀ k, k ∈ D ↔ k < n ∧ nf σ k 3 = nI 0) ∧
  P.Pairwise (fun a b => nf σ a 7 < nf σ b 7) ∧ Q.Nodup ∧ D.Pairwise (fun a b => a < b) ∧ P.length ≤ 8 ∧ Q.length ≤ 4 ∧ D.length ≤ 7 ∧
  (∀ a, a ∈ P → ∀ b, b ∈ P → nf σ a 0 = nf σ b 0 → nf σ a 1 = nf σ b 1 → a = b) ∧
  ∃ S, σ 5 = nI S ∧ S + D.length ≤ C ∧ ∀ k, k ∈ P → ∃ a, nf σ k 7 = nI a ∧ a < S
def SC (F : Prop) (n : Nat) (χ : CS) (σ : Nat → Int32) : Prop :=
  n ≤ 200 ∧ σ 0 = nI n ∧ χ.2.2.2 0 = nI n ∧ (∀ j, 0 < j → j < 5 → (F ∨ ¬ j = 2) → χ.2.2.2 j = σ j) ∧ (∀ j, j < 3 → χ.2.2.1 j = σ (6 + j)) ∧ (∃ a, 1 ≤ a ∧ a ≤ 8 ∧ σ 6 = nI a) ∧ (∃ r, r ≤ 2 ∧ σ 7 = nI r) ∧ ∃ b, 100 ≤ b ∧ b ≤ 8000 ∧ σ 8 = nI b
def Sm (F : Prop) (C n : Nat) (χ : CS) (σ : Nat → Int32) (P Q D : List Nat) : Prop :=
  SC F n χ σ ∧ (∀ k, k < n → NR F χ.1 σ k ∧ NB σ k) ∧ LZ C n σ P Q D ∧ χ.2.1 0 = P.map nI ∧ χ.2.1 1 = Q.map nI ∧ χ.2.1 2 = D.map nI
theorem ph_pl {σ : Nat → Int32} {k x : Nat} (hx : x ≤ 6) (h : nf σ k 3 = nI x) : rfPl σ k ↔ 1 ≤ x ∧ x ≤ 4 := by
  unfold rfPl; rw [h, nI_leI (by omega) (by omega), nI_leI (by omega) (by omega)]
theorem ph_vo {σ : Nat → Int32} {k x : Nat} (hx : x ≤ 6) (h : nf σ k 3 = nI x) : rfVo σ k ↔ 1 ≤ x ∧ x ≤ 5 := by
  unfold rfVo; rw [h, nI_leI (by omega) (by omega), nI_leI (by omega) (by omega)]
theorem ph_eq {σ : Nat → Int32} {k x : Nat} (y : Nat) (hx : x ≤ 6) (hy : y ≤ 6) (h : nf σ k 3 = nI x) : nf σ k 3 = nI y ↔ x = y := by
  rw [h, nI_eq (by omega) (by omega)]
section
variable {F : Prop} {C n : Nat} {χ : CS} {σ : Nat → Int32} {P Q D : List Nat}
theorem sm_P (h : Sm F C n χ σ P Q D) {k : Nat} : k ∈ P ↔ k < n ∧ rfPl σ k := h.2.2.1.1 k
theorem sm_Q (h : Sm F C n χ σ P Q D) {k : Nat} : k ∈ Q ↔ k < n ∧ nf σ k 3 = nI 5 := h.2.2.1.2.1 k
theorem sm_D (h : Sm F C n χ σ P Q D) {k : Nat} : k ∈ D ↔ k < n ∧ nf σ k 3 = nI 0 := h.2.2.1.2.2.1 k
theorem sm_n (h : Sm F C n χ σ P Q D) : n ≤ 200 := h.1.1
theorem sm_P2 (h : Sm F C n χ σ P Q D) : ∀ x, x ∈ P → x < 200 := fun x hx => by have := (sm_P h).mp hx; have := sm_n h; omega
theorem sm_Q2 (h : Sm F C n χ σ P Q D) : ∀ x, x ∈ Q → x < 200 := fun x hx => by have := (sm_Q h).mp hx; have := sm_n h; omega
theorem sm_D2 (h : Sm F C n χ σ P Q D) : ∀ x, x ∈ D → x < 200 := fun x hx => by have := (sm_D h).mp hx; have := sm_n h; omega
theorem sm_Pnd (h : Sm F C n χ σ P Q D) : P.Nodup := h.2.2.1.2.2.2.1.imp (fun {a b} hab e => by rw [e] at hab; exact Int32.lt_irrefl hab)
theorem sm_Qnd (h : Sm F C n χ σ P Q D) : Q.Nodup := h.2.2.1.2.2.2.2.1
theorem sm_Dnd (h : Sm F C n χ σ P Q D) : D.Nodup := h.2.2.1.2.2.2.2.2.1.imp (fun {a b} hab e => by omega)
theorem sm_g (h : Sm F C n χ σ P Q D) {k : Nat} (hk : k < n) (hp : ¬ nf σ k 3 = nI 6) (w : Nat) (hw : w < 7) (h5 : ¬ w = 5) : ntG χ.1 w (nI k) = nf σ k w := by
  rw [ntG_nI (by have := sm_n h; omega)]; exact (h.2.1 k hk).1.1 (Or.inr hp) w hw h5
theorem pl_n6 {k : Nat} (h : rfPl σ k) : ¬ nf σ k 3 = nI 6 := fun z => by unfold rfPl at h; rw [z] at h; exact absurd h.2 (by decide)
theorem e_n6 {k x : Nat} (h : nf σ k 3 = nI x) (hx : x < 6) : ¬ nf σ k 3 = nI 6 := fun z => by
  rw [h] at z; have := (nI_eq (by omega) (by omega)).mp z; omega
theorem sm_gP (h : Sm F C n χ σ P Q D) {k : Nat} (hk : k ∈ P) (w : Nat) (hw : w < 7) (h5 : ¬ w = 5) : ntG χ.1 w (nI k) = nf σ k w := sm_g h ((sm_P h).mp hk).1 (pl_n6 ((sm_P h).mp hk).2) w hw h5
theorem sm_gQ (h : Sm F C n χ σ P Q D) {k : Nat} (hk : k ∈ Q) (w : Nat) (hw : w < 7) (h5 : ¬ w = 5) : ntG χ.1 w (nI k) = nf σ k w := sm_g h ((sm_Q h).mp hk).1 (e_n6 ((sm_Q h).mp hk).2 (by omega)) w hw h5
theorem sm_gD (h : Sm F C n χ σ P Q D) {k : Nat} (hk : k ∈ D) (w : Nat) (hw : w < 7) (h5 : ¬ w = 5) : ntG χ.1 w (nI k) = nf σ k w := sm_g h ((sm_D h).mp hk).1 (e_n6 ((sm_D h).mp hk).2 (by omega)) w hw h5
theorem rfV_spec (σ : Nat → Int32) (p q : Int32) (n : Nat) : (rfV σ p q n = none ∧ ∀ k, k < n → ¬ (rfPl σ k ∧ nf σ k 0 = p ∧ nf σ k 1 = q)) ∨ ∃ j, rfV σ p q n = some j ∧ j < n ∧ rfPl σ j ∧ nf σ j 0 = p ∧ nf σ j 1 = q := by
  induction n with
  | zero => exact Or.inl ⟨rfl, fun k hk => absurd hk (Nat.not_lt_zero k)⟩
  | succ i ih =>
    rw [rfV]
    by_cases c : rfPl σ i ∧ nf σ i 0 = p ∧ nf σ i 1 = q
    · rw [if_pos c]; exact Or.inr ⟨i, rfl, by omega, c⟩
    · rw [if_neg c]
      rcases ih with ⟨e, h⟩ | ⟨j, e, h1, h2⟩
      · refine Or.inl ⟨e, fun k hk => ?_⟩
        by_cases d : k = i
        · rw [d]; exact c
        · exact h k (by omega)
      · exact Or.inr ⟨j, e, by omega, h2⟩
/-- the voice of a part and pitch -/
theorem sm_voice (h : Sm F C n χ σ P Q D) (p q : Int32) : (rfV σ p q n = none ∧ chVoice χ p q = (-1) ∧ ∀ k, k < n → ¬ (rfPl σ k ∧ nf σ k 0 = p ∧ nf σ k 1 = q)) ∨ ∃ j, j ∈ P ∧ rfV σ p q n = some j ∧ chVoice χ p q = nI j ∧ nf σ j 0 = p ∧ nf σ j 1 = q := by
  have hc : chVoice χ p q = frFst χ.1 p q (P.map nI) := by unfold chVoice; rw [h.2.2.2.1]
  have hi : ∀ x, x ∈ P → (ntIs χ.1 (nI x) p q ↔ nf σ x 0 = p ∧ nf σ x 1 = q) := fun x hx => by
    unfold ntIs; rw [sm_gP h hx 0 (by omega) (by omega), sm_gP h hx 1 (by omega) (by omega)]
  rw [hc]
  rcases rfV_spec σ p q n with ⟨e, hn⟩ | ⟨j, e, h1, h2, h3, h4⟩
  · rcases fst_map χ.1 p q P with ⟨e2, -⟩ | ⟨A, x, B, e1, e2, e3, -⟩
    · exact Or.inl ⟨e, e2, hn⟩
    · have hx : x ∈ P := by rw [e1]; simp
      exact absurd ⟨((sm_P h).mp hx).2, ((hi x hx).mp e3).1, ((hi x hx).mp e3).2⟩ (hn x ((sm_P h).mp hx).1)
  · have hj : j ∈ P := (sm_P h).mpr ⟨h1, h2⟩
    rcases fst_map χ.1 p q P with ⟨-, e2⟩ | ⟨A, x, B, e1, e2, e3, -⟩
    · exact absurd ((hi j hj).mpr ⟨h3, h4⟩) (e2 j hj)
    · have hx : x ∈ P := by rw [e1]; simp
      have hxi := (hi x hx).mp e3
      have : x = j := h.2.2.1.2.2.2.2.2.2.2.2.2.1 x hx j hj (hxi.1.trans h3.symm) (hxi.2.trans h4.symm)
      subst this
      exact Or.inr ⟨x, hx, e, e2, h3, h4⟩
theorem rfWt_spec (σ : Nat → Int32) (p q : Int32) : ∀ f k, (rfWt σ p q f k = none ∧ ∀ i, k ≤ i → i < k + f → ¬ (nf σ i 3 = 0 ∧ nf σ i 0 = p ∧ nf σ i 1 = q)) ∨ ∃ j, rfWt σ p q f k = some j ∧ k ≤ j ∧ j < k + f ∧ (nf σ j 3 = 0 ∧ nf σ j 0 = p ∧ nf σ j 1 = q) ∧ ∀ i, k ≤ i → i < j → ¬ (nf σ i 3 = 0 ∧ nf σ i 0 = p ∧ nf σ i 1 = q) := by
  intro f
  induction f with
  | zero => intro k; exact Or.inl ⟨rfl, fun i h1 h2 => by omega⟩
  | succ f ih =>
    intro k
    rw [rfWt]
    by_cases c : nf σ k 3 = 0 ∧ nf σ k 0 = p ∧ nf σ k 1 = q
    · rw [if_pos c]; exact Or.inr ⟨k, rfl, by omega, by omega, c, fun i h1 h2 => by omega⟩
    · rw [if_neg c]
      rcases ih (k + 1) with ⟨e, h⟩ | ⟨j, e, h1, h2, h3, h4⟩
      · refine Or.inl ⟨e, fun i h1 h2 => ?_⟩
        by_cases d : i = k
        · rw [d]; exact c
        · exact h i (by omega) (by omega)
      · refine Or.inr ⟨j, e, by omega, by omega, h3, fun i h5 h6 => ?_⟩
        by_cases d : i = k
        · rw [d]; exact c
        · exact h4 i (by omega) h6
theorem sm_wait (h : Sm F C n χ σ P Q D) (p q : Int32) : (rfWt σ p q n 0 = none ∧ chWait χ p q = (-1)) ∨ ∃ j, j ∈ D ∧ rfWt σ p q n 0 = some j ∧ chWait χ p q = nI j := by
  have hc : chWait χ p q = frFst χ.1 p q (D.map nI) := by unfold chWait; rw [h.2.2.2.2.2]
  have hi : ∀ x, x ∈ D → (ntIs χ.1 (nI x) p q ↔ nf σ x 3 = 0 ∧ nf σ x 0 = p ∧ nf σ x 1 = q) := fun x hx => by
    unfold ntIs; rw [sm_gD h hx 0 (by omega) (by omega), sm_gD h hx 1 (by omega) (by omega)]
    have := ((sm_D h).mp hx).2
    rw [nI_0] at this
    exact ⟨fun z => ⟨this, z⟩, fun z => z.2⟩
  rw [hc]
  have hs := h.2.2.1.2.2.2.2.2.1
  rcases rfWt_spec σ p q n 0 with ⟨e, hn⟩ | ⟨j, e, h1, h2, h3, h4⟩
  · rcases fst_map χ.1 p q D with ⟨e2, -⟩ | ⟨A, x, B, e1, e2, e3, -⟩
    · exact Or.inl ⟨e, e2⟩
    · have hx : x ∈ D := by rw [e1]; simp
      exact absurd ((hi x hx).mp e3) (hn x (by omega) (by have := ((sm_D h).mp hx).1; omega))
  · have hj : j ∈ D := (sm_D h).mpr ⟨by omega, by rw [nI_0]; exact h3.1⟩
    rcases fst_map χ.1 p q D with ⟨-, e2⟩ | ⟨A, x, B, e1, e2, e3, e4⟩
    · exact absurd ((hi j hj).mpr h3) (e2 j hj)
    · have hx : x ∈ D := by rw [e1]; simp
      have hxj : ¬ x < j := fun z => h4 x (by omega) z ((hi x hx).mp e3)
      have hjx : ¬ j < x := fun z => by
        rw [e1] at hj hs
        rcases List.mem_append.mp hj with hA | hB
        · exact e4 j hA ((hi j (by rw [e1]; exact List.mem_append_left _ hA)).mpr h3)
        · rcases List.mem_cons.mp hB with rfl | hB
          · omega
          · have := (List.pairwise_cons.mp (List.pairwise_append.mp hs).2.1).1 j hB; omega
      have : x = j := by omega
      subst this
      exact Or.inr ⟨x, hx, e, e2⟩
/-- counts -/
theorem sm_plc (h : Sm F C n χ σ P Q D) : rfPlc σ n = nI P.length := by
  rw [plc_zs, (rg_perm (sm_Pnd h) (fun k => sm_P h)).length_eq]
theorem sm_q5 (h : Sm F C n χ σ P Q D) : rfMany σ (nI 5) n = nI Q.length := by
  rw [many_zs, (rg_perm (p := fun k => nf σ k 3 = nI 5) (sm_Qnd h) (fun k => sm_Q h)).length_eq]
theorem sm_d0 (h : Sm F C n χ σ P Q D) : rfMany σ (nI 0) n = nI D.length := by
  rw [many_zs, (rg_perm (p := fun k => nf σ k 3 = nI 0) (sm_Dnd h) (fun k => sm_D h)).length_eq]
theorem sm_set (h : Sm F C n χ σ P Q D) (j : Nat) (hj : j < 3) : xat χ.2.2.1 3 (nI j) = σ (6 + j) := by
  rw [xat_nI (by decide) hj]; exact h.1.2.2.2.2.1 j hj
theorem sm_free (h : Sm F C n χ σ P Q D) : ∃ a, 1 ≤ a ∧ a ≤ 8 ∧ σ 6 = nI a ∧ chFree χ = nI (a - P.length) ∧ rfFree σ n = nI (a - P.length) := by
  obtain ⟨a, h1, h2, h3⟩ := h.1.2.2.2.2.2.1
  have hl : P.length ≤ 8 := h.2.2.1.2.2.2.2.2.2.1
  refine ⟨a, h1, h2, h3, ?_, ?_⟩
  · unfold chFree
    rw [sm_set h 0 (by omega), h3, h.2.2.2.1, List.length_map]
    unfold xmax
    by_cases c : P.length < a
    · rw [pk_sub (by omega), if_pos (nI_lt (by omega) (by omega))]
    · rw [show a - P.length = 0 from by omega]
      by_cases d : P.length = a
      · rw [← d, pk_sub (Nat.le_refl _), Nat.sub_self, if_neg (by decide)]
      · rw [if_neg (Int32.not_lt.mpr (by rw [nI_0]; exact Int32.le_of_lt (pk_sneg (by omega) (show a < P.length by omega))))]
  · unfold rfFree
    rw [h3, sm_plc h]
    by_cases c : P.length ≤ a
    · rw [pk_sub c, if_pos (nI_pos' (by omega))]
    · rw [show a - P.length = 0 from by omega, if_neg (Int32.not_le.mpr (pk_sneg (by omega) (show a < P.length by omega)))]
/-- the sum -/
theorem sm_vo (h : Sm F C n χ σ P Q D) {k : Nat} : k ∈ P ++ Q ↔ k < n ∧ rfVo σ k := by
  rw [List.mem_append, sm_P h, sm_Q h]
  by_cases c : k < n
  · obtain ⟨p, s, x, v, m, -, -, -, hx, -, -, -, -, e, -⟩ := (h.2.1 k c).2
    rw [ph_pl hx e, ph_vo hx e, ph_eq 5 hx (by omega) e]; omega
  · exact ⟨fun z => by omega, fun z => by omega⟩
theorem sm_PQnd (h : Sm F C n χ σ P Q D) : (P ++ Q).Nodup := by
  refine List.nodup_append.mpr ⟨sm_Pnd h, sm_Qnd h, fun a ha b hb e => ?_⟩
  subst e
  have h1 := ((sm_P h).mp ha).2
  have h2 := ((sm_Q h).mp hb).2
  unfold rfPl at h1; rw [h2] at h1; exact absurd h1.2 (by decide)
theorem sm_zs (h : Sm F C n χ σ P Q D) (f : Nat → Int32) : zs f (rg n (rfVo σ)) = zs f P + zs f Q := by
  rw [← zs_perm (rg_perm (sm_PQnd h) (fun k => sm_vo h)), zs_app]
theorem sm_part (h : Sm F C n χ σ P Q D) {k : Nat} (hk : k < n) : ∃ p, p < 4 ∧ nf σ k 0 = nI p := by
  obtain ⟨p, s, x, v, m, hp, -, -, -, -, -, e, -⟩ := (h.2.1 k hk).2
  exact ⟨p, hp, e⟩
theorem lv_zs (T : Nat → Nat → Int32) (p : Int32) (L : List Nat) : lvOf T p (L.map nI) = zs (fun k => if ntG T 0 (nI k) = p then ntG T 4 (nI k) else nI 0) L := by
  unfold lvOf; exact zs_fold0 (g := fun x => if ntG T 0 x = p then ntG T 4 x else nI 0) (lvStep T p) (fun a x => rfl) L
theorem hm_zs (T : Nat → Nat → Int32) (p : Int32) (L : List Nat) : hmOf T p (L.map nI) = zs (fun k => if ntG T 0 (nI k) = p then nI 1 else nI 0) L := by
  unfold hmOf; exact zs_fold0 (g := fun x => if ntG T 0 x = p then nI 1 else nI 0) (hmStep T p) (fun a x => rfl) L
theorem hr_zs (χ : CS) (p s : Int32) (L : List Nat) : chHrL χ p s (L.map nI) = zs (fun k => if ntG χ.1 0 (nI k) = p then chHrd χ (nI k) s else nI 0) L := by
  unfold chHrL; exact zs_fold0 (g := fun x => if ntG χ.1 0 x = p then chHrd χ x s else nI 0) (hrStep χ p s) (fun a x => rfl) L
theorem four {g : Int32} {x : Int32} {p : Nat} (hp : p < 4) (hx : x = nI p) : (((nI 0 + (if x = nI 0 then g else nI 0)) + (if x = nI 1 then g else nI 0)) + (if x = nI 2 then g else nI 0)) + (if x = nI 3 then g else nI 0) = g := by
  subst hx
  have : p = 0 ∨ p = 1 ∨ p = 2 ∨ p = 3 := by omega
  rcases this with rfl | rfl | rfl | rfl
  · rw [if_pos rfl, if_neg (by decide), if_neg (by decide), if_neg (by decide), az0, az0, az0, z0a]
  · rw [if_neg (by decide), if_pos rfl, if_neg (by decide), if_neg (by decide), az0, az0, az0, z0a]
  · rw [if_neg (by decide), if_neg (by decide), if_pos rfl, if_neg (by decide), az0, az0, az0, z0a]
  · rw [if_neg (by decide), if_neg (by decide), if_neg (by decide), if_pos rfl, az0, az0, az0, z0a]
theorem four_zs {f : Nat → Int32} {ph : Nat → Int32} {L : List Nat} (h : ∀ k, k ∈ L → ∃ p, p < 4 ∧ ph k = nI p) : (((nI 0 + zs (fun k => if ph k = nI 0 then f k else nI 0) L) + zs (fun k => if ph k = nI 1 then f k else nI 0) L) + zs (fun k => if ph k = nI 2 then f k else nI 0) L) + zs (fun k => if ph k = nI 3 then f k else nI 0) L = zs f L := by
  rw [z0a, zs_add, zs_add, zs_add]
  refine zs_congr (fun k hk => ?_)
  obtain ⟨p, hp, e⟩ := h k hk
  have := four (g := f k) hp e
  rw [z0a] at this
  exact this
theorem sm_lv (h : Sm F C n χ σ P Q D) (p : Int32) : lvOf χ.1 p (χ.2.1 0) + lvOf χ.1 p (χ.2.1 1) = zs (fun k => if nf σ k 0 = p then nf σ k 4 else nI 0) P + zs (fun k => if nf σ k 0 = p then nf σ k 4 else nI 0) Q := by
  rw [h.2.2.2.1, h.2.2.2.2.1, lv_zs, lv_zs]
  congr 1
  · exact zs_congr (fun k hk => by rw [sm_gP h hk 0 (by omega) (by omega), sm_gP h hk 4 (by omega) (by omega)])
  · exact zs_congr (fun k hk => by rw [sm_gQ h hk 0 (by omega) (by omega), sm_gQ h hk 4 (by omega) (by omega)])
theorem sm_sum (h : Sm F C n χ σ P Q D) : chSum χ = rfSum σ n := by
  rw [sum_zs, sm_zs h, ← zs_app, ← four_zs (f := fun k => nf σ k 4) (ph := fun k => nf σ k 0) (L := P ++ Q) (fun k hk => sm_part h ((sm_vo h).mp hk).1)]
  unfold chSum chSumN chSumN chSumN chSumN chSumN
  rw [sm_lv h, sm_lv h, sm_lv h, sm_lv h, ← zs_app, ← zs_app, ← zs_app, ← zs_app]
theorem sm_bd (h : Sm F C n χ σ P Q D) : ∃ b, 100 ≤ b ∧ b ≤ 8000 ∧ σ 8 = nI b := h.1.2.2.2.2.2.2.2
theorem sm_hrd (h : Sm F C n χ σ P Q D) {k : Nat} (hk : k ∈ P ++ Q) : chHrd χ (nI k) (chSum χ) = rfHrd σ n k := by
  have hg : ntG χ.1 4 (nI k) = nf σ k 4 := by
    rcases List.mem_append.mp hk with hk | hk
    · exact sm_gP h hk 4 (by omega) (by omega)
    · exact sm_gQ h hk 4 (by omega) (by omega)
  unfold chHrd rfHrd
  rw [hg, sm_sum h, sm_set h 2 (by omega)]
  by_cases c : rfSum σ n ≤ σ (6 + 2)
  · rw [if_pos c, if_pos c]
  · rw [if_neg c, if_neg c]
    obtain ⟨b, h1, h2, h3⟩ := sm_bd h
    rw [show (6 : Nat) + 2 = 8 from rfl, h3] at c ⊢
    rw [if_pos (Int32.lt_trans (show (0 : Int32) < nI b from by rw [← nI_0]; exact nI_lt (by omega) (by omega)) (Int32.not_le.mp c))]
theorem sm_hrp (h : Sm F C n χ σ P Q D) (p : Int32) : chHrP χ p = rfHrO σ n p n := by
  rw [hro_zs, sm_zs h]
  unfold chHrP
  rw [h.2.2.2.1, h.2.2.2.2.1, hr_zs, hr_zs]
  congr 1
  · exact zs_congr (fun k hk => by rw [sm_gP h hk 0 (by omega) (by omega), sm_hrd h (List.mem_append_left _ hk)])
  · exact zs_congr (fun k hk => by rw [sm_gQ h hk 0 (by omega) (by omega), sm_hrd h (List.mem_append_right _ hk)])
theorem sm_hra (h : Sm F C n χ σ P Q D) : chHrA χ = rfHrA σ n := by
  unfold chHrA chHrAN chHrAN chHrAN chHrAN chHrAN rfHrA
  rw [sm_hrp h, sm_hrp h, sm_hrp h, sm_hrp h, z0a]
end
