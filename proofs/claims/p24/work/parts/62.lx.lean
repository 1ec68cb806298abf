/-! 62.lx: what the law's own methods do to the notes' fields (pure) -/
def lwV (σ : Nat → Int32) (p q : Int32) : Nat → Nat → Option Nat
  | 0, _ => none
  | f + 1, k => if rfPl σ k ∧ nf σ k 0 = p ∧ nf σ k 1 = q then some k else lwV σ p q f (k + 1)
theorem lwV_s {σ : Nat → Int32} {p q : Int32} {n i : Nat} (h : i < n) : lwV σ p q (n - i) i = if rfPl σ i ∧ nf σ i 0 = p ∧ nf σ i 1 = q then some i else lwV σ p q (n - (i + 1)) (i + 1) := by
  rw [show n - i = (n - (i + 1)) + 1 by omega, lwV]
theorem lwV_spec (σ : Nat → Int32) (p q : Int32) : ∀ f k, (lwV σ p q f k = none ∧ ∀ i, k ≤ i → i < k + f → ¬ (rfPl σ i ∧ nf σ i 0 = p ∧ nf σ i 1 = q)) ∨ ∃ j, lwV σ p q f k = some j ∧ k ≤ j ∧ j < k + f ∧ rfPl σ j ∧ nf σ j 0 = p ∧ nf σ j 1 = q := by
  intro f
  induction f with
  | zero => exact fun k => Or.inl ⟨rfl, fun i h1 h2 => by omega⟩
  | succ f ih =>
    intro k
    rw [lwV]
    by_cases c : rfPl σ k ∧ nf σ k 0 = p ∧ nf σ k 1 = q
    · rw [if_pos c]
      exact Or.inr ⟨k, rfl, Nat.le_refl _, by omega, c⟩
    · rw [if_neg c]
      rcases ih (k + 1) with ⟨h1, h2⟩ | ⟨j, h1, h2, h3, h4⟩
      · refine Or.inl ⟨h1, fun i h3 h4 => ?_⟩
        by_cases d : i = k
        · subst d; exact c
        · exact h2 i (by omega) (by omega)
      · exact Or.inr ⟨j, h1, by omega, by omega, h4⟩
/-- no two placed notes of one part and pitch -/
def UQ (n : Nat) (σ : Nat → Int32) : Prop := ∀ i, i < n → ∀ j, j < n → rfPl σ i → rfPl σ j → nf σ i 0 = nf σ j 0 → nf σ i 1 = nf σ j 1 → i = j
theorem lwV_eq {n : Nat} {σ : Nat → Int32} (h : UQ n σ) (p q : Int32) : lwV σ p q n 0 = rfV σ p q n := by
  rcases lwV_spec σ p q n 0 with ⟨h1, h2⟩ | ⟨j, h1, -, h3, h4, h5, h6⟩
  · rcases rfV_spec σ p q n with ⟨g1, -⟩ | ⟨i, g1, g2, g3⟩
    · rw [h1, g1]
    · exact absurd g3 (h2 i (Nat.zero_le _) (by omega))
  · rcases rfV_spec σ p q n with ⟨-, g2⟩ | ⟨i, g1, g2, g3, g4, g5⟩
    · exact absurd ⟨h4, h5, h6⟩ (g2 j (by omega))
    · rw [h1, g1, h i g2 j (by omega) g3 h4 (g4.trans h5.symm) (g5.trans h6.symm)]
-- begins, fades
def lwBeg (σ : Nat → Int32) (k : Nat) (st z : Int32) : Nat → Int32 := rfStamp (nset (nset (nset σ k 2 z) k 3 st) k 6 (nI 0)) k
theorem bg_nf {σ : Nat → Int32} {k j w : Nat} {st z : Int32} (hw : w < 8) : nf (lwBeg σ k st z) j w = if j = k then (if w = 2 then z else if w = 3 then st else if w = 6 then nI 0 else if w = 7 then σ 5 else nf σ k w) else nf σ j w := by
  rw [lwBeg, rfStamp, nf_lo (by omega), nf_set (by omega) hw, nf_set (by omega) hw, nf_set (by omega) hw, nf_set (by omega) hw, nset_lo (by omega), nset_lo (by omega), nset_lo (by omega)]
  grind
theorem bg_lo {σ : Nat → Int32} {k j : Nat} {st z : Int32} (hj : j < 70) : lwBeg σ k st z j = if j = 5 then σ 5 + nI 1 else σ j := by
  rw [lwBeg, st_lo hj, nset_lo (by omega), nset_lo (by omega), nset_lo (by omega), nset_lo hj, nset_lo hj, nset_lo hj]
theorem bg_U {κ : Nat → Int64} {σ : Nat → Int32} (hU : ∀ k w, k < 64 → w < 8 → nf σ k w = fld w (κ k)) {k st z S : Nat} (hk : k < 64) (hst : st < 8) (hz : z < 128) (hS : S < 65536) (h5 : σ 5 = nI S) :
    ∀ j w, j < 64 → w < 8 → nf (lwBeg σ k (nI st) (nI z)) j w = fld w (updL κ k (fput 7 S (fput 6 0 (fput 3 st (fput 2 z (κ k))))) j) := by
  intro j w hj hw
  rw [bg_nf hw]
  by_cases c : j = k
  · subst c
    rw [if_pos rfl, updL_s, fld_put (by decide) hw (show S < 2 ^ 16 by omega), fld_put (by decide) hw (by decide), fld_put (by decide) hw (show st < 2 ^ 3 by omega), fld_put (by decide) hw (show z < 2 ^ 7 by omega), ← hU j w hj hw, h5]
    grind
  · rw [if_neg c, updL_n c, hU j w hj hw]
def lwFd (σ : Nat → Int32) (k : Nat) (st : Int32) : Nat → Int32 := nset (nset (nset σ k 5 (nf σ k 4)) k 3 st) k 6 (nI 0)
theorem fe_nf {σ : Nat → Int32} {k j w : Nat} {st : Int32} (hw : w < 8) : nf (lwFd σ k st) j w = if j = k then (if w = 3 then st else if w = 5 then nf σ k 4 else if w = 6 then nI 0 else nf σ k w) else nf σ j w := by
  rw [lwFd, nf_set (by omega) hw, nf_set (by omega) hw, nf_set (by omega) hw]
  grind
theorem fe_lo {σ : Nat → Int32} {k j : Nat} {st : Int32} (hj : j < 70) : lwFd σ k st j = σ j := by
  rw [lwFd, nset_lo hj, nset_lo hj, nset_lo hj]
theorem fe_U {κ : Nat → Int64} {σ : Nat → Int32} (hU : ∀ k w, k < 64 → w < 8 → nf σ k w = fld w (κ k)) {k st : Nat} (hk : k < 64) (hst : st < 8) :
    ∀ j w, j < 64 → w < 8 → nf (lwFd σ k (nI st)) j w = fld w (updL κ k (fput 6 0 (fput 3 st (fput 5 (fvN (κ k) 19 11) (κ k)))) j) := by
  intro j w hj hw
  have e4 : nf σ k 4 = nI (fvN (κ k) 19 11) := hU k 4 hk (by decide)
  rw [fe_nf hw]
  by_cases c : j = k
  · subst c
    rw [if_pos rfl, updL_s, fld_put (by decide) hw (by decide), fld_put (by decide) hw (show st < 2 ^ 3 by omega), fld_put (by decide) hw (show fvN (κ j) 19 11 < 2 ^ 11 from fvN_lt), ← hU j w hj hw, e4]
    grind
  · rw [if_neg c, updL_n c, hU j w hj hw]
theorem bg_an {σ : Nat → Int32} {k : Nat} {st z : Int32} (h : st = if nf σ k 4 < nI 8 * z then nI 1 else nI 2) : (∀ j w, w < 8 → nf (rfAnew σ k z) j w = nf (lwBeg σ k st z) j w) ∧ ∀ j, j < 9 → rfAnew σ k z j = upd (lwBeg σ k st z) 4 (σ 4 + nI 1) j := by
  refine ⟨fun j w hw => ?_, fun j hj => ?_⟩
  · rw [an_nf hw, bg_nf hw, h]
  · rw [an_lo (by omega), upd_if, bg_lo (by omega)]
theorem fe_fd {σ : Nat → Int32} {k j w : Nat} (hw : w < 8) : nf (rfFades σ k) j w = nf (lwFd σ k (nI 4)) j w := by rw [fd_nf hw, fe_nf hw]
-- who is sent home
def hk (σ : Nat → Int32) (j : Nat) : Nat := (if σ 7 = 0 then (nf σ j 4).toNatClampNeg else 0) * 65536 + (nf σ j 7).toNatClampNeg
def lwLs (σ : Nat → Int32) : Option Nat → Nat
  | none => 99999999999
  | some j => hk σ j
def lwHS (σ : Nat → Int32) (z : Int32) : Nat → Option Nat
  | 0 => none
  | i + 1 => if σ 7 < nI 2 ∧ rfMay σ z i ∧ hk σ i < lwLs σ (lwHS σ z i) then some i else lwHS σ z i
theorem lN_nI {t : Nat} (ht : t < 2 ^ 31) : (nI t).toInt64 = lN t := by
  apply Int64.toInt_inj.mp
  rw [Int32.toInt_toInt64, nI_toInt ht, lN_toInt (by omega)]
theorem hk_or {a g : Nat} (ha : a < 2048) (hg : g < 65536) : (((nI a).toInt64 <<< ((nI 16).toInt64 &&& 63)) ||| (nI g).toInt64) = lN (a * 65536 + g) := by
  rw [show (nI a).toInt64 = lN a from lN_nI (by omega), show (nI g).toInt64 = lN g from lN_nI (by omega)]
  apply tb_ext
  intro i hi
  rw [tb_or, tb_shl 16 (by decide) _ hi, tb_lN, tb_lN, tb_lN, Nat.mul_comm a 65536, show 65536 * a + g = 2 ^ 16 * a + g from rfl, Nat.testBit_two_pow_mul_add a (show g < 2 ^ 16 by omega)]
  by_cases c : i < 16
  · simp [c, show ¬ 16 ≤ i by omega, hi]
  · rw [Nat.testBit_lt_two_pow (show g < 2 ^ i from Nat.lt_of_lt_of_le (show g < 2 ^ 16 by omega) (Nat.pow_le_pow_right (by decide) (by omega)))]
    simp [c, show 16 ≤ i by omega, hi, show i - 16 < 64 by omega]
theorem cmp_ge {x y : Nat} (hx : x < 2 ^ 62) (hy : y < 2 ^ 62) (h : 0 ≤ lg_cmp (lN x) (lN y)) : ¬ x < y := by
  intro c
  have e : lg_cmp (lN x) (lN y) = -1 := by
    unfold lg_cmp
    have h1 : ¬ lN x > lN y := by
      show ¬ lN y < lN x
      rw [Int64.lt_iff_toInt_lt, lN_ii (by omega), lN_ii (by omega)]; omega
    have h2 : ¬ lN x = lN y := by
      rw [← Int64.toInt_inj, lN_ii (by omega), lN_ii (by omega)]; omega
    rw [if_neg h1, if_neg h2]
  rw [e] at h
  exact absurd h (by decide)
theorem cmp_lt {x y : Nat} (hx : x < 2 ^ 62) (hy : y < 2 ^ 62) (h : ¬ 0 ≤ lg_cmp (lN x) (lN y)) : x < y := by
  by_cases c : x < y
  · exact c
  exfalso
  apply h
  unfold lg_cmp
  by_cases d : lN x > lN y
  · rw [if_pos d]; decide
  · rw [if_neg d]
    have e : lN x = lN y := by
      have d : ¬ lN y < lN x := d
      rw [Int64.lt_iff_toInt_lt, lN_ii (by omega), lN_ii (by omega)] at d
      rw [← Int64.toInt_inj, lN_ii (by omega), lN_ii (by omega)]; omega
    rw [if_pos e]; decide
/-- fields within their bits -/
def FB (n : Nat) (σ : Nat → Int32) : Prop := ∀ k, k < n → ∀ w, w < 8 → ∃ m, m < 2 ^ fBt w ∧ nf σ k w = nI m
theorem fb_U {κ : Nat → Int64} {σ : Nat → Int32} {n : Nat} (hn : n ≤ 64) (hU : ∀ k w, k < 64 → w < 8 → nf σ k w = fld w (κ k)) : FB n σ := fun k hk w hw => ⟨_, fvN_lt, hU k w (by omega) hw⟩
theorem hk_lt {n : Nat} {σ : Nat → Int32} (h : FB n σ) {j : Nat} (hj : j < n) : hk σ j < 2 ^ 62 := by
  obtain ⟨a, ha, ea⟩ := h j hj 4 (by decide)
  obtain ⟨g, hg, eg⟩ := h j hj 7 (by decide)
  have ha : a < 2048 := ha
  have hg : g < 65536 := hg
  unfold hk
  rw [ea, eg, nI_clamp (by omega), nI_clamp (by omega)]
  by_cases c : σ 7 = 0
  · rw [if_pos c]; omega
  · rw [if_neg c]; omega
theorem lwHS_lt {σ : Nat → Int32} {z : Int32} : ∀ {i j : Nat}, lwHS σ z i = some j → j < i ∧ rfMay σ z j := by
  intro i
  induction i with
  | zero => intro j h; cases h
  | succ i ih =>
    intro j h
    rw [lwHS] at h
    by_cases c : σ 7 < nI 2 ∧ rfMay σ z i ∧ hk σ i < lwLs σ (lwHS σ z i)
    · rw [if_pos c] at h; cases h; exact ⟨by omega, c.2.1⟩
    · rw [if_neg c] at h; have := ih h; exact ⟨by omega, this.2⟩
theorem ls_lt {n : Nat} {σ : Nat → Int32} (h : FB n σ) {z : Int32} {i : Nat} (hi : i ≤ n) : lwLs σ (lwHS σ z i) < 2 ^ 62 := by
  cases c : lwHS σ z i with
  | none => show 99999999999 < _; decide
  | some j => exact hk_lt h (by have := (lwHS_lt c).1; omega)
theorem hk_bt {n : Nat} {σ : Nat → Int32} (h : FB n σ) (h7 : σ 7 = 0 ∨ σ 7 = nI 1) {i j : Nat} (hi : i < n) (hj : j < n) : hk σ i < hk σ j ↔ rfBt σ i j = true := by
  obtain ⟨a, ha, ea⟩ := h i hi 4 (by decide)
  obtain ⟨g, hg, eg⟩ := h i hi 7 (by decide)
  obtain ⟨a', ha', ea'⟩ := h j hj 4 (by decide)
  obtain ⟨g', hg', eg'⟩ := h j hj 7 (by decide)
  have ha : a < 2048 := ha
  have hg : g < 65536 := hg
  have ha' : a' < 2048 := ha'
  have hg' : g' < 65536 := hg'
  unfold hk rfBt
  rw [ea, eg, ea', eg', nI_clamp (by omega), nI_clamp (by omega), nI_clamp (by omega), nI_clamp (by omega)]
  rcases h7 with h7 | h7
  · rw [h7, if_pos rfl, if_pos rfl]
    simp only [decide_true, Bool.true_and, show decide ((0 : Int32) = nI 1) = false from by decide, Bool.false_or, Bool.or_eq_true, Bool.and_eq_true, decide_eq_true_eq]
    rw [nI_ltI (by omega) (by omega), nI_ltI (by omega) (by omega), nI_eq (by omega) (by omega)]
    omega
  · rw [h7, if_neg (by decide), if_neg (by decide)]
    simp only [show decide (nI 1 = (0 : Int32)) = false from by decide, Bool.false_and, Bool.false_or, decide_true, Bool.true_or, Bool.true_and, decide_eq_true_eq]
    rw [nI_ltI (by omega) (by omega)]
    omega
theorem lwHS_eq {n : Nat} {σ : Nat → Int32} (h : FB n σ) (h7 : ∃ r, r ≤ 2 ∧ σ 7 = nI r) : lwHS σ (rfSz σ n) n = rfNx σ n := by
  obtain ⟨r, hr, e7⟩ := h7
  unfold rfNx
  by_cases c : σ 7 < nI 2
  · rw [if_pos c]
    have h7 : σ 7 = 0 ∨ σ 7 = nI 1 := by
      rw [e7] at c ⊢
      rcases (show r = 0 ∨ r = 1 ∨ r = 2 by omega) with rfl | rfl | rfl
      · exact Or.inl (by decide)
      · exact Or.inr rfl
      · exact absurd c (by decide)
    have key : ∀ i, i ≤ n → lwHS σ (rfSz σ n) i = rfSH σ (rfSz σ n) i := by
      intro i
      induction i with
      | zero => intro _; rfl
      | succ i ih =>
        intro hi
        rw [lwHS, rfSH]
        by_cases d : rfMay σ (rfSz σ n) i
        · rw [if_pos d, ← ih (by omega)]
          cases e : lwHS σ (rfSz σ n) i with
          | none =>
            have hlt : hk σ i < lwLs σ none := by
              obtain ⟨a, ha, ea⟩ := h i (by omega) 4 (by decide)
              obtain ⟨g, hg, eg⟩ := h i (by omega) 7 (by decide)
              have ha : a < 2048 := ha
              have hg : g < 65536 := hg
              show hk σ i < 99999999999
              unfold hk
              rw [ea, eg, nI_clamp (by omega), nI_clamp (by omega)]
              by_cases c7 : σ 7 = 0
              · rw [if_pos c7]; omega
              · rw [if_neg c7]; omega
            rw [if_pos ⟨c, d, hlt⟩]
          | some j =>
            have hb := hk_bt h h7 (show i < n by omega) (show j < n by have := (lwHS_lt e).1; omega)
            by_cases f : hk σ i < hk σ j
            · rw [if_pos (⟨c, d, f⟩ : _ ∧ _ ∧ hk σ i < lwLs σ (some j))]
              show some i = if rfBt σ i j = true then some i else some j
              rw [if_pos (hb.mp f)]
            · rw [if_neg (fun z : _ ∧ _ ∧ hk σ i < lwLs σ (some j) => f z.2.2)]
              show some j = if rfBt σ i j = true then some i else some j
              rw [if_neg (fun z => f (hb.mpr z))]
        · rw [if_neg d, if_neg (fun z => d z.2.1), ih (by omega)]
    exact key n (Nat.le_refl _)
  · rw [if_neg c]
    have key : ∀ i, lwHS σ (rfSz σ n) i = none := by
      intro i
      induction i with
      | zero => rfl
      | succ i ih => rw [lwHS, if_neg (fun z => c z.1), ih]
    exact key n
-- share
theorem sh_nat {a b : Nat} (hb : 0 < b) : (a + b - 1) / b = a / b + (if 0 < a % b then 1 else 0) := by
  have e := Nat.div_add_mod a b
  have hlt := Nat.mod_lt a hb
  by_cases c : 0 < a % b
  · have e1 : a + b - 1 = b * (a / b + 1) + (a % b - 1) := by rw [Nat.mul_add]; omega
    rw [if_pos c, e1, Nat.mul_add_div hb, Nat.div_eq_of_lt (show a % b - 1 < b by omega)]
  · have e1 : a + b - 1 = b * (a / b) + (b - 1) := by omega
    rw [if_neg c, e1, Nat.mul_add_div hb, Nat.div_eq_of_lt (show b - 1 < b by omega)]
theorem sh_mod {a b : Nat} (ha : a < 2 ^ 20) (hb : 0 < b) (hb2 : b < 100) : nI a - nI a / nI b * nI b = nI (a % b) := by
  rw [pk_div (by omega) hb (by omega), pk_mul]
  have e := Nat.div_add_mod a b
  have e2 : a / b * b = b * (a / b) := Nat.mul_comm _ _
  rw [pk_sub (by omega)]
  exact congrArg nI (by omega)
theorem sh_t {a b : Nat} (ha : a < 2 ^ 20) (hb : 0 < b) (hb2 : b < 100) (h : ¬ nI a - nI a / nI b * nI b ≤ 0) : nI a / nI b + nI 1 = rfUp (nI a) (nI b) := by
  rw [sh_mod ha hb hb2] at h
  have c : 0 < a % b := by
    rcases Nat.eq_zero_or_pos (a % b) with e | e
    · rw [e] at h; exact absurd (show nI 0 ≤ 0 by decide) h
    · exact e
  rw [up_nI ha hb hb2, pk_div (by omega) hb (by omega), nI_add, sh_nat hb, if_pos c]
theorem sh_f {a b : Nat} (ha : a < 2 ^ 20) (hb : 0 < b) (hb2 : b < 100) (h : nI a - nI a / nI b * nI b ≤ 0) : nI a / nI b + nI 0 = rfUp (nI a) (nI b) := by
  rw [sh_mod ha hb hb2] at h
  have hlt := Nat.mod_lt a hb
  have c : ¬ 0 < a % b := by
    intro c
    rw [show (0 : Int32) = nI 0 from rfl, nI_leI (by omega) (by omega)] at h
    omega
  rw [up_nI ha hb hb2, pk_div (by omega) hb (by omega), nI_add, sh_nat hb, if_neg c]
theorem vo_1 : ∀ m, m < 8 → ¬ nI m ≤ 0 → ¬ nI 6 ≤ nI m → (nI 1 ≤ nI m ∧ nI m ≤ nI 5) := by decide +kernel
theorem vo_0 : ∀ m, m < 8 → (nI m ≤ 0 ∨ nI 6 ≤ nI m) → ¬ (nI 1 ≤ nI m ∧ nI m ≤ nI 5) := by decide +kernel
theorem vo_t {σ : Nat → Int32} {i : Nat} (h : ∃ m, m < 2 ^ fBt 3 ∧ nf σ i 3 = nI m) (h1 : ¬ nf σ i 3 ≤ 0) (h2 : ¬ nI 6 ≤ nf σ i 3) : rfVo σ i := by
  obtain ⟨m, hm, e⟩ := h
  unfold rfVo
  rw [e] at h1 h2 ⊢
  exact vo_1 m hm h1 h2
theorem vo_f {σ : Nat → Int32} {i : Nat} (h : ∃ m, m < 2 ^ fBt 3 ∧ nf σ i 3 = nI m) (h1 : nf σ i 3 ≤ 0 ∨ nI 6 ≤ nf σ i 3) : ¬ rfVo σ i := by
  obtain ⟨m, hm, e⟩ := h
  unfold rfVo
  rw [e] at h1 ⊢
  exact vo_0 m hm h1
def lowF (v n : Int32) : Int32 := (v &&& nI 2147483647) - (v &&& nI 2147483647) / n * n
theorem rem_nI {a d : Nat} (ha : a < 2 ^ 31) (h0 : 0 < d) (hd : d < 2 ^ 31) : nI a - nI a / nI d * nI d = nI (a % d) := by
  rw [pk_div ha h0 hd, pk_mul]
  have e := Nat.div_add_mod a d
  have e2 : a / d * d = d * (a / d) := Nat.mul_comm _ _
  rw [pk_sub (by omega)]
  exact congrArg nI (by omega)
theorem and_31 (v : Int32) : ∃ k, k < 2 ^ 31 ∧ v &&& nI 2147483647 = nI k := by
  refine ⟨v.toBitVec.toNat % 2 ^ 31, Nat.mod_lt _ (by decide), ?_⟩
  apply Int32.toBitVec_inj.mp
  rw [Int32.toBitVec_and]
  apply BitVec.eq_of_toNat_eq
  rw [BitVec.toNat_and]
  show v.toBitVec.toNat &&& 2147483647 = (BitVec.ofNat 32 (v.toBitVec.toNat % 2 ^ 31)).toNat
  rw [BitVec.toNat_ofNat, show 2147483647 = 2 ^ 31 - 1 from rfl, Nat.and_two_pow_sub_one_eq_mod, Nat.mod_eq_of_lt (Nat.lt_of_lt_of_le (Nat.mod_lt _ (by decide)) (by decide))]
theorem low_ex (v : Int32) (m : Nat) (h0 : 0 < m) (hm : m < 2 ^ 31) : ∃ r, r < m ∧ lowF v (nI m) = nI r := by
  obtain ⟨k, hk, e⟩ := and_31 v
  refine ⟨k % m, Nat.mod_lt _ h0, ?_⟩
  unfold lowF
  rw [e]
  exact rem_nI hk h0 hm
