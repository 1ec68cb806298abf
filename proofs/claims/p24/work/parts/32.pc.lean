/-! 32.pc: who is sent home, voices by age, the door's order: what reads see -/
theorem pw_inj {f : Nat → Int32} {l : List Nat} (h : l.Pairwise (fun a b => f a < f b)) {a b : Nat} (ha : a ∈ l) (hb : b ∈ l) (e : f a = f b) : a = b := by
  induction l with
  | nil => cases ha
  | cons x l ih =>
    have h := List.pairwise_cons.mp h
    rcases List.mem_cons.mp ha with e1 | ha' <;> rcases List.mem_cons.mp hb with e2 | hb'
    · rw [e1, e2]
    · have := h.1 b hb'; rw [← e, e1] at this; exact absurd this Int32.lt_irrefl
    · have := h.1 a ha'; rw [e, e2] at this; exact absurd this Int32.lt_irrefl
    · exact ih h.2 ha' hb'
theorem key_lt {v v' a a' : Nat} (h : v < v') (ha : a < 2 ^ 30) : v * 1073741824 + a ≤ v' * 1073741824 + a' := by omega
theorem key_le {v v' a a' : Nat} (h : v' ≤ v) (ha : a' < a) : v' * 1073741824 + a' ≤ v * 1073741824 + a := by omega
section
variable {F : Prop} {C n : Nat} {χ : CS} {σ : Nat → Int32} {P Q D : List Nat}
/-- the key by which the rule r (0 or 1) chooses: the least goes -/
def hkey (r : Nat) (σ : Nat → Int32) (k : Nat) : Nat := if r = 0 then (nf σ k 4).toNatClampNeg * 1073741824 + (nf σ k 7).toNatClampNeg else (nf σ k 7).toNatClampNeg
theorem sm_age (h : Sm F C n χ σ P Q D) (hC : C < 2 ^ 30) {k : Nat} (hk : k ∈ P) : ∃ a v, a < 2 ^ 30 ∧ v ≤ 1016 ∧ nf σ k 7 = nI a ∧ nf σ k 4 = nI v := by
  obtain ⟨S, -, h2, h3⟩ := h.2.2.1.2.2.2.2.2.2.2.2.2.2
  obtain ⟨a, e, ha⟩ := h3 k hk
  obtain ⟨p, s, x, v, m, -, -, -, -, hv, -, -, -, -, e2, -⟩ := (h.2.1 k ((sm_P h).mp hk).1).2
  exact ⟨a, v, by omega, hv, e, e2⟩
theorem hkey_inj (h : Sm F C n χ σ P Q D) (hC : C < 2 ^ 30) {r i j : Nat} (hi : i ∈ P) (hj : j ∈ P) (e : hkey r σ i = hkey r σ j) : i = j := by
  obtain ⟨a, v, ha, hv, e1, e2⟩ := sm_age h hC hi
  obtain ⟨a', v', ha', hv', e3, e4⟩ := sm_age h hC hj
  unfold hkey at e
  rw [e1, e2, e3, e4, nI_clamp (by omega), nI_clamp (by omega), nI_clamp (by omega), nI_clamp (by omega)] at e
  have haa : a = a' := by
    by_cases c : r = 0
    · rw [if_pos c, if_pos c] at e; omega
    · rw [if_neg c, if_neg c] at e; exact e
  subst haa
  exact pw_inj (f := fun k => nf σ k 7) h.2.2.1.2.2.2.1 hi hj (e1.trans e3.symm)
theorem go_step (h : Sm F C n χ σ P Q D) (hC : C < 2 ^ 30) {r : Nat} (hr : r ≤ 1) {o : Int32} {S L : List Nat} {x : Nat} (hS : P = S ++ x :: L) {f : Int32}
    (hI : (f = (-1) ∧ ∀ y, y ∈ S → ¬ (o = 0 ∨ nf σ y 3 = nI 4)) ∨ ∃ j, j ∈ S ∧ (o = 0 ∨ nf σ j 3 = nI 4) ∧ f = nI j ∧ ∀ y, y ∈ S → (o = 0 ∨ nf σ y 3 = nI 4) → hkey r σ j ≤ hkey r σ y) :
    (goStep χ.1 (nI r) o f (nI x) = (-1) ∧ ∀ y, y ∈ S ++ [x] → ¬ (o = 0 ∨ nf σ y 3 = nI 4)) ∨ ∃ j, j ∈ S ++ [x] ∧ (o = 0 ∨ nf σ j 3 = nI 4) ∧ goStep χ.1 (nI r) o f (nI x) = nI j ∧ ∀ y, y ∈ S ++ [x] → (o = 0 ∨ nf σ y 3 = nI 4) → hkey r σ j ≤ hkey r σ y := by
  have hxP : x ∈ P := by rw [hS]; simp
  have hSP : ∀ y, y ∈ S → y ∈ P := fun y hy => by rw [hS]; exact List.mem_append_left _ hy
  by_cases c : o = 0 ∨ nf σ x 3 = nI 4
  · have c2 : o = 0 ∨ ntG χ.1 3 (nI x) = nI 4 := by rw [sm_gP h hxP 3 (by omega) (by omega)]; exact c
    rcases hI with ⟨rfl, hn⟩ | ⟨j, hj, hcj, rfl, hm⟩
    · rw [goY c2 (Or.inl rfl)]
      refine Or.inr ⟨x, by simp, c, rfl, fun y hy hcy => ?_⟩
      rcases List.mem_append.mp hy with hy | hy
      · exact absurd hcy (hn y hy)
      · rw [List.mem_singleton.mp hy]; exact Nat.le_refl _
    · have hjP := hSP j hj
      obtain ⟨a, v, ha, hv, e1, e2⟩ := sm_age h hC hxP
      obtain ⟨a', v', ha', hv', e3, e4⟩ := sm_age h hC hjP
      have hage : nf σ j 7 < nf σ x 7 := by
        have := h.2.2.1.2.2.2.1
        rw [hS] at this
        exact (List.pairwise_append.mp this).2.2 j hj x List.mem_cons_self
      rw [e1, e3, nI_ltI (by omega) (by omega)] at hage
      have kx : hkey r σ x = if r = 0 then v * 1073741824 + a else a := by unfold hkey; rw [e1, e2, nI_clamp (by omega), nI_clamp (by omega)]
      have kj : hkey r σ j = if r = 0 then v' * 1073741824 + a' else a' := by unfold hkey; rw [e3, e4, nI_clamp (by omega), nI_clamp (by omega)]
      have hj2 : j < 200 := sm_P2 h j hjP
      have hlev : (nI r = 0 ∧ ntG χ.1 4 (nI x) < ntG χ.1 4 (nI j)) ↔ (r = 0 ∧ v < v') := by
        rw [sm_gP h hxP 4 (by omega) (by omega), sm_gP h hjP 4 (by omega) (by omega), e2, e4, nI_ltI (by omega) (by omega), ← nI_0, nI_eq (by omega) (by omega)]
      by_cases d : r = 0 ∧ v < v'
      · rw [goY c2 (Or.inr (hlev.mpr d))]
        refine Or.inr ⟨x, by simp, c, rfl, fun y hy hcy => ?_⟩
        rcases List.mem_append.mp hy with hy | hy
        · have := hm y hy hcy
          rw [kj, if_pos d.1] at this
          rw [kx, if_pos d.1]
          exact Nat.le_trans (key_lt d.2 ha) this
        · rw [List.mem_singleton.mp hy]; exact Nat.le_refl _
      · rw [goF c2 (nI_m1 (by omega)) (fun z => d (hlev.mp z))]
        refine Or.inr ⟨j, List.mem_append_left _ hj, hcj, rfl, fun y hy hcy => ?_⟩
        rcases List.mem_append.mp hy with hy | hy
        · exact hm y hy hcy
        · rw [List.mem_singleton.mp hy, kj, kx]
          by_cases e : r = 0
          · rw [if_pos e, if_pos e]
            exact key_le (Nat.not_lt.mp (fun z => d ⟨e, z⟩)) hage
          · rw [if_neg e, if_neg e]; exact Nat.le_of_lt hage
  · have c2 : ¬ o = 0 ∧ ¬ ntG χ.1 3 (nI x) = nI 4 := by
      rw [sm_gP h hxP 3 (by omega) (by omega)]; exact ⟨fun z => c (Or.inl z), fun z => c (Or.inr z)⟩
    rw [goS c2.1 c2.2]
    rcases hI with ⟨rfl, hn⟩ | ⟨j, hj, hcj, rfl, hm⟩
    · refine Or.inl ⟨rfl, fun y hy => ?_⟩
      rcases List.mem_append.mp hy with hy | hy
      · exact hn y hy
      · rw [List.mem_singleton.mp hy]; exact c
    · refine Or.inr ⟨j, List.mem_append_left _ hj, hcj, rfl, fun y hy hcy => ?_⟩
      rcases List.mem_append.mp hy with hy | hy
      · exact hm y hy hcy
      · rw [List.mem_singleton.mp hy] at hcy; exact absurd hcy c
theorem go_fold (h : Sm F C n χ σ P Q D) (hC : C < 2 ^ 30) {r : Nat} (hr : r ≤ 1) {o : Int32} (L : List Nat) : ∀ (S : List Nat) (f : Int32), P = S ++ L →
    ((f = (-1) ∧ ∀ y, y ∈ S → ¬ (o = 0 ∨ nf σ y 3 = nI 4)) ∨ ∃ j, j ∈ S ∧ (o = 0 ∨ nf σ j 3 = nI 4) ∧ f = nI j ∧ ∀ y, y ∈ S → (o = 0 ∨ nf σ y 3 = nI 4) → hkey r σ j ≤ hkey r σ y) →
    (((L.map nI).foldl (goStep χ.1 (nI r) o) f = (-1) ∧ ∀ y, y ∈ P → ¬ (o = 0 ∨ nf σ y 3 = nI 4)) ∨ ∃ j, j ∈ P ∧ (o = 0 ∨ nf σ j 3 = nI 4) ∧ (L.map nI).foldl (goStep χ.1 (nI r) o) f = nI j ∧ ∀ y, y ∈ P → (o = 0 ∨ nf σ y 3 = nI 4) → hkey r σ j ≤ hkey r σ y) := by
  induction L with
  | nil => intro S f hS hI; rw [List.append_nil] at hS; subst hS; exact hI
  | cons x L ih =>
    intro S f hS hI
    rw [List.map_cons, List.foldl_cons]
    exact ih (S ++ [x]) _ (by rw [hS, List.append_assoc]; rfl) (go_step h hC hr hS hI)
theorem go_spec (h : Sm F C n χ σ P Q D) (hC : C < 2 ^ 30) {r : Nat} (hr : r ≤ 1) (o : Int32) :
    (chGo χ (nI r) o = (-1) ∧ ∀ y, y ∈ P → ¬ (o = 0 ∨ nf σ y 3 = nI 4)) ∨ ∃ j, j ∈ P ∧ (o = 0 ∨ nf σ j 3 = nI 4) ∧ chGo χ (nI r) o = nI j ∧ ∀ y, y ∈ P → (o = 0 ∨ nf σ y 3 = nI 4) → hkey r σ j ≤ hkey r σ y := by
  unfold chGo; rw [h.2.2.2.1]
  exact go_fold h hC hr P [] (-1) rfl (Or.inl ⟨rfl, fun y hy => by cases hy⟩)
theorem may_P (h : Sm F C n χ σ P Q D) {z : Int32} {k : Nat} (hk : k < n) (hm : rfMay σ z k) : k ∈ P := by
  refine (sm_P h).mpr ⟨hk, ?_⟩
  rcases hm with ⟨-, hm⟩ | ⟨-, hm⟩
  · exact hm
  · unfold rfPl; rw [hm]; exact ⟨by decide, by decide⟩
theorem bt_key (h : Sm F C n χ σ P Q D) (hC : C < 2 ^ 30) {r : Nat} (hr : r ≤ 1) (e7 : σ 7 = nI r) {i j : Nat} (hi : i ∈ P) (hj : j ∈ P) : rfBt σ i j = true ↔ hkey r σ i < hkey r σ j := by
  obtain ⟨a, v, ha, hv, e1, e2⟩ := sm_age h hC hi
  obtain ⟨a', v', ha', hv', e3, e4⟩ := sm_age h hC hj
  unfold rfBt hkey
  rw [e7, e1, e2, e3, e4, nI_clamp (by omega), nI_clamp (by omega), nI_clamp (by omega), nI_clamp (by omega)]
  simp only [Bool.or_eq_true, Bool.and_eq_true, decide_eq_true_eq]
  rw [nI_ltI (by omega) (by omega), nI_ltI (by omega) (by omega), ← nI_0, nI_eq (by omega) (by omega), nI_eq (by omega) (by omega), nI_eq (by omega) (by omega)]
  by_cases c : r = 0
  · rw [if_pos c, if_pos c]
    constructor
    · rintro (⟨-, z⟩ | ⟨z | z, z2⟩)
      · have : (v + 1) * 1073741824 ≤ v' * 1073741824 := Nat.mul_le_mul_right _ z
        omega
      · omega
      · subst z; omega
    · intro z
      rcases Nat.lt_trichotomy v v' with d | d | d
      · exact Or.inl ⟨c, d⟩
      · subst d; exact Or.inr ⟨Or.inr rfl, by omega⟩
      · have : (v' + 1) * 1073741824 ≤ v * 1073741824 := Nat.mul_le_mul_right _ d
        omega
  · rw [if_neg c, if_neg c]
    constructor
    · rintro (⟨z, -⟩ | ⟨-, z2⟩)
      · exact absurd z c
      · exact z2
    · intro z; exact Or.inr ⟨Or.inl (by omega), z⟩
theorem sh_spec (h : Sm F C n χ σ P Q D) (hC : C < 2 ^ 30) {r : Nat} (hr : r ≤ 1) (e7 : σ 7 = nI r) (z : Int32) : ∀ m, m ≤ n → (rfSH σ z m = none ∧ ∀ k, k < m → ¬ rfMay σ z k) ∨ ∃ j, rfSH σ z m = some j ∧ j < m ∧ rfMay σ z j ∧ ∀ k, k < m → rfMay σ z k → hkey r σ j ≤ hkey r σ k := by
  intro m
  induction m with
  | zero => intro _; exact Or.inl ⟨rfl, fun k hk => absurd hk (Nat.not_lt_zero k)⟩
  | succ i ih =>
    intro hm
    by_cases c : rfMay σ z i
    · rcases ih (by omega) with ⟨e, hn⟩ | ⟨j, e, h1, h2, h3⟩
      · refine Or.inr ⟨i, rfSH_no c e, by omega, c, fun k hk hc => ?_⟩
        by_cases d : k = i
        · rw [d]; exact Nat.le_refl _
        · exact absurd hc (hn k (by omega))
      · have hk := bt_key h hC hr e7 (may_P h (by omega) c) (may_P h (by omega) h2)
        by_cases b : rfBt σ i j = true
        · refine Or.inr ⟨i, rfSH_yes c e b, by omega, c, fun k hk2 hc => ?_⟩
          by_cases d : k = i
          · rw [d]; exact Nat.le_refl _
          · have := h3 k (by omega) hc; have := hk.mp b; omega
        · refine Or.inr ⟨j, rfSH_nay c e (by simpa using b), by omega, h2, fun k hk2 hc => ?_⟩
          by_cases d : k = i
          · rw [d]; have : ¬ hkey r σ i < hkey r σ j := fun z => b (hk.mpr z)
            omega
          · exact h3 k (by omega) hc
    · rw [rfSH, if_neg c]
      rcases ih (by omega) with ⟨e, hn⟩ | ⟨j, e, h1, h2, h3⟩
      · refine Or.inl ⟨e, fun k hk => ?_⟩
        by_cases d : k = i
        · rw [d]; exact c
        · exact hn k (by omega)
      · refine Or.inr ⟨j, e, by omega, h2, fun k hk hc => ?_⟩
        by_cases d : k = i
        · rw [d] at hc; exact absurd hc c
        · exact h3 k (by omega) hc
theorem go_sh (h : Sm F C n χ σ P Q D) (hC : C < 2 ^ 30) {r : Nat} (hr : r ≤ 1) (e7 : σ 7 = nI r) {o z : Int32} (hoz : ∀ k, k ∈ P → ((o = 0 ∨ nf σ k 3 = nI 4) ↔ rfMay σ z k)) :
    (rfSH σ z n = none ∧ chGo χ (nI r) o = (-1)) ∨ ∃ j, j ∈ P ∧ rfSH σ z n = some j ∧ chGo χ (nI r) o = nI j := by
  rcases go_spec h hC hr o with ⟨e, hn⟩ | ⟨j, hj, hc, e, hm⟩
  · rcases sh_spec h hC hr e7 z n (Nat.le_refl n) with ⟨e2, -⟩ | ⟨j, e2, h1, h2, -⟩
    · exact Or.inl ⟨e2, e⟩
    · have hjP := may_P h h1 h2
      exact absurd ((hoz j hjP).mpr h2) (hn j hjP)
  · rcases sh_spec h hC hr e7 z n (Nat.le_refl n) with ⟨-, hn⟩ | ⟨j2, e2, h1, h2, h3⟩
    · exact absurd ((hoz j hj).mp hc) (hn j ((sm_P h).mp hj).1)
    · have hjP := may_P h h1 h2
      have a1 := hm j2 hjP ((hoz j2 hjP).mpr h2)
      have a2 := h3 j ((sm_P h).mp hj).1 ((hoz j hj).mp hc)
      have : j = j2 := hkey_inj h hC hj hjP (by omega : hkey r σ j = hkey r σ j2)
      subst this
      exact Or.inr ⟨j, hj, e2, e⟩
/-- who would be sent home -/
theorem sm_next (h : Sm F C n χ σ P Q D) (hC : C < 2 ^ 30) : (rfNx σ n = none ∧ chHome χ = (-1)) ∨ ∃ j, j ∈ P ∧ rfNx σ n = some j ∧ chHome χ = nI j := by
  obtain ⟨r, hr2, e7⟩ := h.1.2.2.2.2.2.2.1
  have hx : xat χ.2.2.1 3 (nI 1) = nI r := (sm_set h 1 (by omega)).trans e7
  unfold chHome rfNx
  rw [hx, e7]
  by_cases c : r < 2
  · rw [if_pos (nI_lt c (by omega)), if_neg (fun z => by
      have h1 := z.1; have h2 := z.2
      rw [← nI_0, nI_eq (by omega) (by omega)] at h1
      rw [nI_eq (by omega) (by omega)] at h2
      omega)]
    have hr : r ≤ 1 := by omega
    unfold rfSz
    rw [many_zs]
    by_cases d : (rg n (fun k => nf σ k 3 = nI 4)).length = 0
    · have hno : ∀ k, k ∈ P → ¬ nf σ k 3 = nI 4 := fun k hk e => by
        have hk2 : k ∈ rg n (fun k => nf σ k 3 = nI 4) := mem_rg.mpr ⟨((sm_P h).mp hk).1, e⟩
        rw [List.length_eq_zero_iff.mp d] at hk2; cases hk2
      rw [d, if_pos (by decide)]
      have h1 : chGo χ (nI r) (nI 1) = (-1) := by
        rcases go_spec h hC hr (nI 1) with ⟨e, -⟩ | ⟨j, hj, hc, -⟩
        · exact e
        · exact absurd hc (fun z => z.elim (by decide) (hno j hj))
      rw [h1, if_pos rfl]
      exact go_sh h hC hr e7 (fun k hk => ⟨fun _ => Or.inl ⟨nI_0, ((sm_P h).mp hk).2⟩, fun _ => Or.inl nI_0⟩)
    · rw [if_neg (nI_nle (by omega) (by
        have : (rg n (fun k => nf σ k 3 = nI 4)).length ≤ n := by
          unfold rg; exact Nat.le_trans (List.length_filter_le _ _) (by rw [List.length_range]; exact Nat.le_refl _)
        have := sm_n h
        omega))]
      rcases go_sh h hC hr e7 (o := nI 1) (z := nI 1) (fun k hk => ⟨fun z => Or.inr ⟨by decide, z.elim (fun q => absurd q (by decide)) id⟩, fun z => z.elim (fun q => absurd q.1 (by decide)) (fun q => Or.inr q.2)⟩) with ⟨e, e2⟩ | ⟨j, hj, e, e2⟩
      · rcases sh_spec h hC hr e7 (nI 1) n (Nat.le_refl n) with ⟨-, hn⟩ | ⟨j, e3, -⟩
        · exfalso
          apply d
          rw [List.length_eq_zero_iff, List.eq_nil_iff_forall_not_mem]
          intro k hk
          have hk := mem_rg.mp hk
          exact hn k hk.1 (Or.inr ⟨by decide, hk.2⟩)
        · rw [e] at e3; cases e3
      · rw [e2, if_neg (nI_m1 (by have := sm_P2 h j hj; omega))]
        exact Or.inr ⟨j, hj, e, rfl⟩
  · have : r = 2 := by omega
    subst this
    rw [if_neg (show ¬ (nI 2 : Int32) < nI 2 by decide), if_pos (show ¬ nI 2 = 0 ∧ ¬ nI 2 = nI 1 by decide)]
    exact Or.inl ⟨rfl, rfl⟩
/-- voices by their ages -/
theorem va_rank (h : Sm F C n χ σ P Q D) {A B : List Nat} {x : Nat} (hP : P = A ++ x :: B) : rfOld σ x n = nI A.length := by
  rw [old_zs]
  have hp := h.2.2.1.2.2.2.1
  have hnd := sm_Pnd h
  rw [hP] at hp hnd
  have hp2 := List.pairwise_append.mp hp
  rw [(rg_perm (P := A) (p := fun j => rfPl σ j ∧ nf σ j 7 < nf σ x 7) (List.nodup_append.mp hnd).1 (fun k => ?_)).length_eq]
  constructor
  · intro hk
    have := (sm_P h).mp (show k ∈ P by rw [hP]; exact List.mem_append_left _ hk)
    exact ⟨this.1, this.2, hp2.2.2 k hk x List.mem_cons_self⟩
  · rintro ⟨h1, h2, h3⟩
    have hk : k ∈ P := (sm_P h).mpr ⟨h1, h2⟩
    rw [hP] at hk
    rcases List.mem_append.mp hk with hk | hk
    · exact hk
    · rcases List.mem_cons.mp hk with rfl | hk
      · exact absurd h3 Int32.lt_irrefl
      · exact absurd h3 (Int32.lt_asymm ((List.pairwise_cons.mp hp2.2.1).1 k hk))
theorem rfVa_spec (σ : Nat → Int32) (n : Nat) (ia : Int32) (m : Nat) : (rfVa σ n ia m = none ∧ ∀ k, k < m → ¬ (rfPl σ k ∧ rfOld σ k n = ia)) ∨ ∃ j, rfVa σ n ia m = some j ∧ j < m ∧ rfPl σ j ∧ rfOld σ j n = ia := by
  induction m with
  | zero => exact Or.inl ⟨rfl, fun k hk => absurd hk (Nat.not_lt_zero k)⟩
  | succ i ih =>
    rw [rfVa]
    by_cases c : rfPl σ i ∧ rfOld σ i n = ia
    · rw [if_pos c]; exact Or.inr ⟨i, rfl, by omega, c⟩
    · rw [if_neg c]
      rcases ih with ⟨e, h⟩ | ⟨j, e, h1, h2⟩
      · refine Or.inl ⟨e, fun k hk => ?_⟩
        by_cases d : k = i
        · rw [d]; exact c
        · exact h k (by omega)
      · exact Or.inr ⟨j, e, by omega, h2⟩
theorem sp_at {P : List Nat} {i : Nat} (h : i < P.length) : P = P.take i ++ P[i] :: P.drop (i + 1) := by
  rw [← List.drop_eq_getElem_cons h, List.take_append_drop]
theorem in_sp {P : List Nat} {x : Nat} (h : x ∈ P) : ∃ i, ∃ hi : i < P.length, P[i] = x := List.getElem_of_mem h
theorem va_rank2 (h : Sm F C n χ σ P Q D) {i : Nat} (hi : i < P.length) : rfOld σ P[i] n = nI i := by
  rw [va_rank h (sp_at hi), List.length_take, Nat.min_eq_left (by omega)]
theorem xor_nI {a : Nat} (ha : a < 2 ^ 31) : xorNF (nI a) = nI a := by unfold xorNF; rw [if_neg (nI_m1 ha)]
theorem sm_va (h : Sm F C n χ σ P Q D) (ia : Int32) : bxVoice χ ia = rfVoiceAt σ n ia := by
  unfold bxVoice rfVoiceAt
  by_cases c0 : 0 ≤ ia
  · rw [if_pos c0, if_pos c0]
    obtain ⟨i, hi, rfl⟩ := nI_of (Int32.not_lt.mpr c0)
    have hl : P.length ≤ 8 := h.2.2.1.2.2.2.2.2.2.1
    rw [h.2.2.2.1]
    by_cases c : i < P.length
    · rw [lnAt_nI (by rw [List.length_map]; exact c) (by rw [List.length_map]; omega)]
      have e1 : (P.map nI).getD i 0 = nI P[i] := by
        rw [List.getD_eq_getElem?_getD, List.getElem?_map, List.getElem?_eq_getElem c]; rfl
      have hx : P[i] < 200 := sm_P2 h _ (List.getElem_mem c)
      rw [e1, xor_nI (by omega)]
      rcases rfVa_spec σ n (nI i) n with ⟨-, hn⟩ | ⟨j, e, h1, h2, h3⟩
      · have := (sm_P h).mp (List.getElem_mem c)
        exact absurd ⟨this.2, va_rank2 h c⟩ (hn _ this.1)
      · rw [e]
        obtain ⟨i2, hi2, e2⟩ := in_sp ((sm_P h).mpr ⟨h1, h2⟩)
        have e3 := va_rank2 h hi2
        rw [e2, h3] at e3
        have : i = i2 := (nI_eq (by omega) (by omega)).mp e3
        subst this
        rw [e2]; rfl
    · have e1 : lnAt (P.map nI) (nI i) = (-1) := by
        unfold lnAt; rw [if_neg (fun z => by have := z.2; rw [List.length_map, nI_ltI (by omega) (by omega)] at this; exact c this)]
      rw [e1]
      rcases rfVa_spec σ n (nI i) n with ⟨e, -⟩ | ⟨j, e, h1, h2, h3⟩
      · rw [e]; rfl
      · obtain ⟨i2, hi2, e2⟩ := in_sp ((sm_P h).mpr ⟨h1, h2⟩)
        have e3 := va_rank2 h hi2
        rw [e2, h3] at e3
        have : i = i2 := (nI_eq (by omega) (by omega)).mp e3
        omega
  · rw [if_neg c0, if_neg c0]
/-- the door -/
theorem ix_map (c : Nat) (hc : c < 200) (D : List Nat) : ∀ k, (∀ x, x ∈ D → x < 200) → (lnIxF (nI c) (D.map nI) k = (-1) ∧ ¬ c ∈ D) ∨ ∃ A B, D = A ++ c :: B ∧ lnIxF (nI c) (D.map nI) k = nI (k + A.length) := by
  induction D with
  | nil => intro k _; exact Or.inl ⟨rfl, fun z => by cases z⟩
  | cons x D ih =>
    intro k hD
    rw [List.map_cons, lnIxF]
    by_cases e : x = c
    · rw [if_pos (by rw [e])]; exact Or.inr ⟨[], D, by rw [e]; rfl, rfl⟩
    · rw [if_neg (fun z => e ((nIx (hD x List.mem_cons_self) hc).mp z))]
      rcases ih (k + 1) (fun y hy => hD y (List.mem_cons_of_mem _ hy)) with ⟨h1, h2⟩ | ⟨A, B, h1, h2⟩
      · refine Or.inl ⟨h1, fun z => ?_⟩
        rcases List.mem_cons.mp z with z | z
        · exact e z.symm
        · exact h2 z
      · exact Or.inr ⟨x :: A, B, by rw [h1]; rfl, by rw [h2, List.length_cons, show k + 1 + A.length = k + (A.length + 1) from by omega]⟩
theorem sm_door (h : Sm F C n χ σ P Q D) {k : Nat} (hk : k < n) : xorNF (lnIxF (nI k) (χ.2.1 2) 0) = if nf σ k 3 = 0 then rfAhd σ k else (-4) := by
  have hk2 : k < 200 := by have := sm_n h; omega
  rw [h.2.2.2.2.2]
  rcases ix_map k hk2 D 0 (sm_D2 h) with ⟨e, hn⟩ | ⟨A, B, hD, e⟩
  · rw [e, if_neg (fun z => hn ((sm_D h).mpr ⟨hk, by rw [nI_0]; exact z⟩))]; rfl
  · have hkD : k ∈ D := by rw [hD]; simp
    have hp := h.2.2.1.2.2.2.2.2.1
    have hnd := sm_Dnd h
    have hl : D.length ≤ 7 := h.2.2.1.2.2.2.2.2.2.2.2.1
    have hA : A.length ≤ 7 := by rw [hD, List.length_append] at hl; omega
    rw [hD] at hp hnd
    have hp2 := List.pairwise_append.mp hp
    rw [e, if_pos (by rw [← nI_0]; exact ((sm_D h).mp hkD).2), ahd_zs, Nat.zero_add, xor_nI (by omega)]
    rw [(rg_perm (P := A) (p := fun j => nf σ j 3 = 0) (List.nodup_append.mp hnd).1 (fun j => ?_)).length_eq]
    constructor
    · intro hj
      have := (sm_D h).mp (show j ∈ D by rw [hD]; exact List.mem_append_left _ hj)
      exact ⟨hp2.2.2 j hj k List.mem_cons_self, by rw [← nI_0]; exact this.2⟩
    · rintro ⟨h1, h2⟩
      have hj : j ∈ D := (sm_D h).mpr ⟨by omega, by rw [nI_0]; exact h2⟩
      rw [hD] at hj
      rcases List.mem_append.mp hj with hj | hj
      · exact hj
      · rcases List.mem_cons.mp hj with rfl | hj
        · omega
        · have := (List.pairwise_cons.mp hp2.2.1).1 j hj; omega
end
