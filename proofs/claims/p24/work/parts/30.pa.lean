/-! 30.pa: sums over lists of notes, reads and writes of the two rows of notes -/
theorem z0a (x : Int32) : nI 0 + x = x := by rw [nI_0, Int32.zero_add]
theorem az0 (x : Int32) : x + nI 0 = x := by rw [nI_0, Int32.add_zero]
def zs (f : Nat → Int32) : List Nat → Int32
  | [] => nI 0
  | x :: l => f x + zs f l
theorem zs_perm {f : Nat → Int32} {a b : List Nat} (h : a.Perm b) : zs f a = zs f b := by
  induction h with
  | nil => rfl
  | cons x _ ih => rw [zs, zs, ih]
  | swap x y l => simp only [zs]; rw [← Int32.add_assoc, ← Int32.add_assoc, Int32.add_comm (f y) (f x)]
  | trans _ _ h1 h2 => exact h1.trans h2
theorem zs_app {f : Nat → Int32} (a b : List Nat) : zs f (a ++ b) = zs f a + zs f b := by
  induction a with
  | nil => rw [List.nil_append, zs, z0a]
  | cons x a ih => rw [List.cons_append, zs, zs, ih, Int32.add_assoc]
theorem zs_congr {f g : Nat → Int32} {a : List Nat} (h : ∀ x ∈ a, f x = g x) : zs f a = zs g a := by
  induction a with
  | nil => rfl
  | cons x a ih => rw [zs, zs, h x List.mem_cons_self, ih (fun y hy => h y (List.mem_cons_of_mem _ hy))]
theorem zs_add {f g : Nat → Int32} (a : List Nat) : zs f a + zs g a = zs (fun x => f x + g x) a := by
  induction a with
  | nil => rw [zs, zs, zs, z0a]
  | cons x a ih => rw [zs, zs, zs, ← ih]; grind
theorem zs_filter {f : Nat → Int32} {p : Nat → Bool} (a : List Nat) : zs f (a.filter p) = zs (fun x => if p x then f x else nI 0) a := by
  induction a with
  | nil => rfl
  | cons x a ih =>
    rw [List.filter_cons]
    by_cases c : p x
    · rw [if_pos c, zs, zs, ih, if_pos c]
    · rw [if_neg c, zs, ih, if_neg c, z0a]
theorem zs_zero (a : List Nat) : zs (fun _ => nI 0) a = nI 0 := by
  induction a with
  | nil => rfl
  | cons x a ih => rw [zs, ih, z0a]
theorem zs_one (a : List Nat) : zs (fun _ => nI 1) a = nI a.length := by
  induction a with
  | nil => rfl
  | cons x a ih => rw [zs, ih, nI_add, List.length_cons, Nat.add_comm]
theorem zs_fold {g : Int32 → Int32} (s : Int32 → Int32 → Int32) (hs : ∀ a x, s a x = a + g x) (P : List Nat) : ∀ z, (P.map nI).foldl s z = z + zs (fun k => g (nI k)) P := by
  induction P with
  | nil => intro z; rw [List.map_nil, List.foldl_nil, zs, az0]
  | cons x P ih => intro z; rw [List.map_cons, List.foldl_cons, ih, hs, zs, Int32.add_assoc]
theorem zs_fold0 {g : Int32 → Int32} (s : Int32 → Int32 → Int32) (hs : ∀ a x, s a x = a + g x) (P : List Nat) : (P.map nI).foldl s (nI 0) = zs (fun k => g (nI k)) P := by
  rw [zs_fold s hs, z0a]
def rg (n : Nat) (p : Nat → Prop) [DecidablePred p] : List Nat := (List.range n).filter (fun k => decide (p k))
theorem mem_rg {n k : Nat} {p : Nat → Prop} [DecidablePred p] : k ∈ rg n p ↔ k < n ∧ p k := by
  unfold rg; rw [List.mem_filter, List.mem_range]; simp
theorem rg_nodup {n : Nat} {p : Nat → Prop} [DecidablePred p] : (rg n p).Nodup := List.Nodup.sublist List.filter_sublist List.nodup_range
theorem rg_lt {n : Nat} {p : Nat → Prop} [DecidablePred p] : (rg n p).Pairwise (fun a b => a < b) := List.Pairwise.sublist List.filter_sublist List.pairwise_lt_range
theorem rg_perm {n : Nat} {p : Nat → Prop} [DecidablePred p] {P : List Nat} (hN : P.Nodup) (hm : ∀ k, k ∈ P ↔ k < n ∧ p k) : P.Perm (rg n p) :=
  (List.perm_ext_iff_of_nodup hN rg_nodup).mpr (fun k => (hm k).trans mem_rg.symm)
theorem rg_succ {n : Nat} {p : Nat → Prop} [DecidablePred p] : rg (n + 1) p = rg n p ++ (if p n then [n] else []) := by
  unfold rg; rw [List.range_succ, List.filter_append]
  congr 1
  by_cases c : p n
  · rw [if_pos c]; simp [c]
  · rw [if_neg c]; simp [c]
theorem zs_rg {g : Nat → Int32} {p : Nat → Prop} [DecidablePred p] {R : Nat → Int32} (h0 : R 0 = nI 0) (hs : ∀ i, R (i + 1) = R i + (if p i then g i else nI 0)) (n : Nat) : R n = zs g (rg n p) := by
  induction n with
  | zero => rw [h0]; rfl
  | succ i ih =>
    rw [hs, ih, rg_succ, zs_app]
    congr 1
    by_cases c : p i
    · rw [if_pos c, if_pos c, zs, zs, az0]
    · rw [if_neg c, if_neg c, zs]
/-- the reference's counts and sums over lists -/
theorem many_zs (σ : Nat → Int32) (z : Int32) (n : Nat) : rfMany σ z n = nI (rg n (fun k => nf σ k 3 = z)).length := by
  rw [zs_rg (R := rfMany σ z) (g := fun _ => nI 1) (p := fun k => nf σ k 3 = z) rfl (fun i => rfl) n, zs_one]
theorem plc_zs (σ : Nat → Int32) (n : Nat) : rfPlc σ n = nI (rg n (rfPl σ)).length := by
  rw [zs_rg (R := rfPlc σ) (g := fun _ => nI 1) (p := rfPl σ) rfl (fun i => rfl) n, zs_one]
theorem sum_zs (σ : Nat → Int32) (n : Nat) : rfSum σ n = zs (fun k => nf σ k 4) (rg n (rfVo σ)) := zs_rg (R := rfSum σ) rfl (fun i => rfl) n
theorem ahd_zs (σ : Nat → Int32) (n : Nat) : rfAhd σ n = nI (rg n (fun k => nf σ k 3 = 0)).length := by
  rw [zs_rg (R := rfAhd σ) (g := fun _ => nI 1) (p := fun k => nf σ k 3 = 0) rfl (fun i => rfl) n, zs_one]
theorem hro_zs (σ : Nat → Int32) (n : Nat) (p : Int32) (m : Nat) : rfHrO σ n p m = zs (fun k => if nf σ k 0 = p then rfHrd σ n k else nI 0) (rg m (rfVo σ)) := zs_rg (R := rfHrO σ n p) rfl (fun i => rfl) m
theorem old_zs (σ : Nat → Int32) (k : Nat) (n : Nat) : rfOld σ k n = nI (rg n (fun j => rfPl σ j ∧ nf σ j 7 < nf σ k 7)).length := by
  rw [zs_rg (R := rfOld σ k) (g := fun _ => nI 1) (p := fun j => rfPl σ j ∧ nf σ j 7 < nf σ k 7) rfl (fun i => rfl) n, zs_one]
theorem po_zs (σ : Nat → Int32) (pa wa : Int32) (n : Nat) : rfPo σ pa wa n = zs (fun k => if nf σ k 0 = pa then (if wa = nI 2 then nf σ k 4 else nI 1) else nI 0) (rg n (rfIts σ wa)) := zs_rg (R := rfPo σ pa wa) rfl (fun i => rfl) n
/-- reads behind writes: the reference -/
theorem nf_same {σ : Nat → Int32} {k w : Nat} {v : Int32} : nf (nset σ k w v) k w = v := pk_us
theorem nf_other {σ : Nat → Int32} {k w k2 w2 : Nat} {v : Int32} (h : w < 8) (h2 : w2 < 8) (hne : k2 ≠ k ∨ w2 ≠ w) : nf (nset σ k w v) k2 w2 = nf σ k2 w2 := pk_un (by omega)
theorem nf_k {σ : Nat → Int32} {k w k2 w2 : Nat} {v : Int32} (hne : ¬ k2 = k) (h : w < 8) (h2 : w2 < 8) : nf (nset σ k w v) k2 w2 = nf σ k2 w2 := nf_other h h2 (Or.inl hne)
theorem nf_w {σ : Nat → Int32} {k w k2 w2 : Nat} {v : Int32} (hne : ¬ w2 = w) (h : w < 8) (h2 : w2 < 8) : nf (nset σ k w v) k2 w2 = nf σ k2 w2 := nf_other h h2 (Or.inr hne)
theorem nf_lo {σ : Nat → Int32} {j k w : Nat} {v : Int32} (h : j < 70) : nf (upd σ j v) k w = nf σ k w := pk_un (by omega)
theorem nf_set {σ : Nat → Int32} {k w k2 w2 : Nat} {v : Int32} (h : w < 8) (h2 : w2 < 8) : nf (nset σ k w v) k2 w2 = if k2 = k ∧ w2 = w then v else nf σ k2 w2 := by
  by_cases c : k2 = k ∧ w2 = w
  · rw [if_pos c, c.1, c.2]; exact nf_same
  · rw [if_neg c]; exact nf_other h h2 (by omega)
/-- reads behind writes: the class -/
theorem ntG_nI {T : Nat → Nat → Int32} {w k : Nat} (hk : k < 200) : ntG T w (nI k) = T w k := xat_nI (by decide) hk
theorem ntPut_at {T : Nat → Nat → Int32} {w k w2 k2 : Nat} {v : Int32} (hk : k < 200) : ntPut T w (nI k) v w2 k2 = if k2 = k ∧ w2 = w then v else T w2 k2 := by
  unfold ntPut updF
  rw [xput_nI (by decide) hk]
  by_cases c : w2 = w
  · subst c
    rw [if_pos rfl]
    by_cases d : k2 = k
    · subst d; rw [if_pos ⟨rfl, rfl⟩, pk_us]
    · rw [if_neg (fun z => d z.1), pk_un d]
  · rw [if_neg c, if_neg (fun z => c z.2)]
/-- lists of notes in the class -/
theorem nIx {a b : Nat} (ha : a < 200) (hb : b < 200) : nI a = nI b ↔ a = b := nI_eq (by omega) (by omega)
theorem nI_m1 {a : Nat} (ha : a < 2 ^ 31) : ¬ nI a = (-1) := fun z => nI_pos ha (by rw [z]; decide)
theorem nI_m4 {a : Nat} (ha : a < 2 ^ 31) : ¬ nI a = (-4) := fun z => nI_pos ha (by rw [z]; decide)
theorem rem_map {P : List Nat} {k : Nat} (hP : ∀ x ∈ P, x < 200) (hk : k < 200) : lnRem (P.map nI) (nI k) = (P.filter (fun x => decide (¬ x = k))).map nI := by
  unfold lnRem; rw [List.filter_map]
  congr 1
  apply List.filter_congr
  intro x hx
  simp only [Function.comp]
  rw [decide_eq_decide, nIx (hP x hx) hk]
theorem app_map {N : Nat} {P : List Nat} {k : Nat} (h : P.length < N) : lnApp N (P.map nI) (nI k) = (P ++ [k]).map nI := by
  unfold lnApp; rw [List.length_map, if_pos h, List.map_append]; rfl
theorem fst_spec (T : Nat → Nat → Int32) (p q : Int32) (L : List Int32) : (frFst T p q L = (-1) ∧ ∀ x ∈ L, ¬ ntIs T x p q) ∨ ∃ A x B, L = A ++ x :: B ∧ frFst T p q L = x ∧ ntIs T x p q ∧ ∀ y ∈ A, ¬ ntIs T y p q := by
  induction L with
  | nil => exact Or.inl ⟨rfl, fun x hx => by cases hx⟩
  | cons z L ih =>
    rw [frFst]
    by_cases c : ntIs T z p q
    · rw [if_pos c]; exact Or.inr ⟨[], z, L, rfl, rfl, c, fun y hy => by cases hy⟩
    · rw [if_neg c]
      rcases ih with ⟨e, h⟩ | ⟨A, x, B, e1, e2, e3, e4⟩
      · refine Or.inl ⟨e, fun x hx => ?_⟩
        rcases List.mem_cons.mp hx with rfl | hx
        · exact c
        · exact h x hx
      · refine Or.inr ⟨z :: A, x, B, by rw [e1]; rfl, e2, e3, fun y hy => ?_⟩
        rcases List.mem_cons.mp hy with rfl | hy
        · exact c
        · exact e4 y hy
theorem fst_map (T : Nat → Nat → Int32) (p q : Int32) (P : List Nat) : (frFst T p q (P.map nI) = (-1) ∧ ∀ x ∈ P, ¬ ntIs T (nI x) p q) ∨ ∃ A x B, P = A ++ x :: B ∧ frFst T p q (P.map nI) = nI x ∧ ntIs T (nI x) p q ∧ ∀ y ∈ A, ¬ ntIs T (nI y) p q := by
  rcases fst_spec T p q (P.map nI) with ⟨e, h⟩ | ⟨A, x, B, e1, e2, e3, e4⟩
  · exact Or.inl ⟨e, fun x hx => h _ (List.mem_map_of_mem hx)⟩
  · obtain ⟨A1, B1, rfl, rfl, hB⟩ := List.map_eq_append_iff.mp e1
    obtain ⟨x1, B2, rfl, rfl, rfl⟩ := List.map_eq_cons_iff.mp hB
    exact Or.inr ⟨A1, x1, B2, rfl, e2, e3, fun y hy => e4 _ (List.mem_map_of_mem hy)⟩
