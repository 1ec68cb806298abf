/-! 40.pk: how a level moves -/
theorem up_nI {a b : Nat} (ha : a < 2 ^ 20) (hb : 0 < b) (hb2 : b < 100) : rfUp (nI a) (nI b) = nI ((a + b - 1) / b) := by
  unfold rfUp
  rw [nI_add, pk_sub (by omega), pk_div (by omega) hb (by omega)]
theorem xdiv_up {a b : Int32} (hb : 0 < b) : xdiv a b = rfUp a b := by unfold xdiv rfUp; rw [if_pos hb]
theorem min_nI {a b : Nat} (ha : a < 2 ^ 31) (hb : b < 2 ^ 31) : yMin (nI a) (nI b) = nI (min a b) := by
  unfold yMin
  by_cases c : a ≤ b
  · rw [if_pos (nI_le c hb), Nat.min_eq_left c]
  · rw [if_neg (nI_ge (by omega) ha), Nat.min_eq_right (by omega)]
theorem max_nI {v u r : Nat} (hv : v < 2 ^ 29) (hu : u < 2 ^ 29) (hr : r < 2 ^ 29) : yMax (nI v - nI u) (nI r) = nI (max (v - u) r) := by
  unfold yMax
  by_cases c : u ≤ v
  · rw [pk_sub c]
    by_cases d : r ≤ v - u
    · rw [if_pos (nI_le d (by omega)), Nat.max_eq_left d]
    · rw [if_neg (nI_ge (by omega) (by omega)), Nat.max_eq_right (by omega)]
  · rw [if_neg (Int32.not_le.mpr (Int32.lt_of_lt_of_le (pk_sneg (by omega) (by omega)) (nI_pos' (by omega)))), Nat.max_eq_right (by omega)]
theorem xmin_y (a b : Int32) : xmin a b = yMin b a := by
  unfold xmin yMin
  by_cases c : b < a
  · rw [if_pos c, if_pos (Int32.le_of_lt c)]
  · rw [if_neg c]
    by_cases d : b ≤ a
    · rw [if_pos d]; exact Int32.le_antisymm (Int32.not_lt.mp c) d
    · rw [if_neg d]
theorem xmax_y (a b : Int32) : xmax a b = yMax b a := by
  unfold xmax yMax
  by_cases c : a < b
  · rw [if_pos c, if_pos (Int32.le_of_lt c)]
  · rw [if_neg c]
    by_cases d : a ≤ b
    · rw [if_pos d]; exact Int32.le_antisymm d (Int32.not_lt.mp c)
    · rw [if_neg d]
theorem tb_hold {p : Nat} (hp : p < 4) : xat (st_val 1) 4 (nI p) = nI 600 + nI 100 * nI p := by
  have : p = 0 ∨ p = 1 ∨ p = 2 ∨ p = 3 := by omega
  rcases this with rfl | rfl | rfl | rfl <;> decide
theorem tb_rise {p : Nat} (hp : p < 4) : xat (st_val 2) 4 (nI p) = rfRise (nI p) ∧ ∃ r, 0 < r ∧ r < 100 ∧ rfRise (nI p) = nI r := by
  have : p = 0 ∨ p = 1 ∨ p = 2 ∨ p = 3 := by omega
  rcases this with rfl | rfl | rfl | rfl
  · exact ⟨by decide, 2, by omega, by omega, by decide⟩
  · exact ⟨by decide, 4, by omega, by omega, by decide⟩
  · exact ⟨by decide, 5, by omega, by omega, by decide⟩
  · exact ⟨by decide, 8, by omega, by omega, by decide⟩
theorem tb_sink {p : Nat} (hp : p < 4) : xat (st_val 3) 4 (nI p) = rfSink (nI p) ∧ ∃ r, 0 < r ∧ r < 100 ∧ rfSink (nI p) = nI r := by
  have : p = 0 ∨ p = 1 ∨ p = 2 ∨ p = 3 := by omega
  rcases this with rfl | rfl | rfl | rfl
  · exact ⟨by decide, 10, by omega, by omega, by decide⟩
  · exact ⟨by decide, 8, by omega, by omega, by decide⟩
  · exact ⟨by decide, 12, by omega, by omega, by decide⟩
  · exact ⟨by decide, 6, by omega, by omega, by decide⟩
theorem tb_fade {p : Nat} (hp : p < 4) : xat (st_val 0) 4 (nI p) = rfFade (nI p) ∧ ∃ r, 0 < r ∧ r < 100 ∧ rfFade (nI p) = nI r := by
  have : p = 0 ∨ p = 1 ∨ p = 2 ∨ p = 3 := by omega
  rcases this with rfl | rfl | rfl | rfl
  · exact ⟨by decide, 6, by omega, by omega, by decide⟩
  · exact ⟨by decide, 8, by omega, by omega, by decide⟩
  · exact ⟨by decide, 10, by omega, by omega, by decide⟩
  · exact ⟨by decide, 16, by omega, by omega, by decide⟩
def mvp (σ : Nat → Int32) (k : Nat) : Int32 :=
  if nf σ k 3 = nI 1 then (if rfRs σ k = rfPeak σ k then nI 2 else nI 1) else
  if nf σ k 3 = nI 2 then (if rfSk σ k = rfRest σ k then nI 3 else nI 2) else
  if nf σ k 3 = nI 4 then (if rfDn σ k (rfFade (nf σ k 0)) = 0 then nI 6 else nI 4) else
  if nf σ k 3 = nI 5 then (if rfDn σ k (nI 3) = 0 then nI 6 else nI 5) else nf σ k 3
def mvl (σ : Nat → Int32) (k : Nat) : Int32 :=
  if nf σ k 3 = nI 1 then rfRs σ k else if nf σ k 3 = nI 2 then rfSk σ k else if nf σ k 3 = nI 4 then rfDn σ k (rfFade (nf σ k 0)) else if nf σ k 3 = nI 5 then rfDn σ k (nI 3) else nf σ k 4
def MV (σ : Nat → Int32) (k w : Nat) : Int32 := if w = 3 then mvp σ k else if w = 4 then mvl σ k else nf σ k w
theorem set2 {σ : Nat → Int32} {k j w : Nat} {a b : Int32} (hw : w < 8) : nf (nset (nset σ k 3 a) k 4 b) j w = if j = k then (if w = 3 then a else if w = 4 then b else nf σ k w) else nf σ j w := by
  rw [nf_set (by omega) hw, nf_set (by omega) hw]; grind
theorem mv_nf {σ : Nat → Int32} {k j w : Nat} (hw : w < 8) : nf (rfMv σ k) j w = if j = k then MV σ k w else nf σ j w := by
  unfold rfMv MV mvp mvl
  by_cases c1 : nf σ k 3 = nI 1
  · rw [if_pos c1, if_pos c1, if_pos c1, set2 hw]
  rw [if_neg c1, if_neg c1, if_neg c1]
  by_cases c2 : nf σ k 3 = nI 2
  · rw [if_pos c2, if_pos c2, if_pos c2, set2 hw]
  rw [if_neg c2, if_neg c2, if_neg c2]
  by_cases c3 : nf σ k 3 = nI 4
  · rw [if_pos c3, if_pos c3, if_pos c3, set2 hw]
  rw [if_neg c3, if_neg c3, if_neg c3]
  by_cases c4 : nf σ k 3 = nI 5
  · rw [if_pos c4, if_pos c4, if_pos c4, set2 hw]
  rw [if_neg c4, if_neg c4, if_neg c4, nf_set (by omega) hw]
  grind
/-- numbers: what a move makes of a note within its bounds -/
theorem mv_num {σ : Nat → Int32} {k : Nat} (h : NB σ k) : ∃ x' v' : Nat, mvp σ k = nI x' ∧ mvl σ k = nI v' ∧ v' ≤ 1016 ∧
    ((nf σ k 3 = nI 0 ∧ x' = 0 ∧ mvl σ k = nf σ k 4) ∨ (nf σ k 3 = nI 6 ∧ x' = 6 ∧ mvl σ k = nf σ k 4) ∨ ((nf σ k 3 = nI 1 ∨ nf σ k 3 = nI 2 ∨ nf σ k 3 = nI 3) ∧ 1 ≤ x' ∧ x' ≤ 3) ∨
     ∃ y v b, (y = 4 ∨ y = 5) ∧ nf σ k 3 = nI y ∧ nf σ k 4 = nI v ∧ nf σ k 5 = nI b ∧ b ≤ 1016 ∧ v' ≤ b ∧ v ≤ 1016 ∧ ((x' = 6 ∧ v' = 0) ∨ (x' = y ∧ v' < v))) := by
  obtain ⟨p, s, x, v, m, b1, b2, b3, b4, b5, b6, b7, b8, b9, b10, b11, b12, b13⟩ := h
  have hpk : rfPeak σ k = nI (8 * s) := by unfold rfPeak; rw [b8, pk_mul]
  have hre : rfRest σ k = nI (8 * s * (600 + 100 * p) / 1000) := by
    unfold rfRest; rw [hpk, b7, pk_mul, nI_add, pk_mul, pk_div ?_ (by omega) (by omega)]
    have : 8 * s * (600 + 100 * p) ≤ 1016 * 900 := Nat.mul_le_mul (by omega) (by omega)
    omega
  have hR : 8 * s * (600 + 100 * p) / 1000 ≤ 8 * s := by
    have : 8 * s * (600 + 100 * p) ≤ 8 * s * 900 := Nat.mul_le_mul_left _ (by omega)
    omega
  have hx : x = 0 ∨ x = 1 ∨ x = 2 ∨ x = 3 ∨ x = 4 ∨ x = 5 ∨ x = 6 := by omega
  rcases hx with rfl | rfl | rfl | rfl | rfl | rfl | rfl
  · refine ⟨0, v, ?_, ?_, b5, Or.inl ⟨b9, rfl, ?_⟩⟩
    · unfold mvp; rw [b9]; rfl
    · unfold mvl; rw [b9]; exact b10
    · unfold mvl; rw [b9]; rfl
  · obtain ⟨-, r, r1, r2, r3⟩ := tb_rise b1
    have hrs : rfRs σ k = nI (min (v + (8 * s + r - 1) / r) (8 * s)) := by
      have hd : (8 * s + r - 1) / r ≤ 8 * s + r - 1 := Nat.div_le_self _ _
      unfold rfRs; rw [hpk, b7, r3, b10, up_nI (by omega) r1 r2, nI_add, min_nI (by omega) (by omega)]
    refine ⟨if rfRs σ k = rfPeak σ k then 2 else 1, min (v + (8 * s + r - 1) / r) (8 * s), ?_, ?_, by omega, Or.inr (Or.inr (Or.inl ⟨Or.inl b9, ?_⟩))⟩
    · unfold mvp; rw [if_pos b9]
      by_cases c : rfRs σ k = rfPeak σ k
      · rw [if_pos c, if_pos c]
      · rw [if_neg c, if_neg c]
    · unfold mvl; rw [if_pos b9]; exact hrs
    · by_cases c : rfRs σ k = rfPeak σ k
      · rw [if_pos c]; omega
      · rw [if_neg c]; omega
  · obtain ⟨-, r, r1, r2, r3⟩ := tb_sink b1
    have n1 : ¬ nf σ k 3 = nI 1 := by rw [b9]; decide
    have hsk : rfSk σ k = nI (max (v - (8 * s - 8 * s * (600 + 100 * p) / 1000 + r - 1) / r) (8 * s * (600 + 100 * p) / 1000)) := by
      have hd : (8 * s - 8 * s * (600 + 100 * p) / 1000 + r - 1) / r ≤ 8 * s - 8 * s * (600 + 100 * p) / 1000 + r - 1 := Nat.div_le_self _ _
      unfold rfSk; rw [hpk, hre, b7, r3, b10, pk_sub hR, up_nI (by omega) r1 r2, max_nI (by omega) (by omega) (by omega)]
    have hle := Nat.sub_le v ((8 * s - 8 * s * (600 + 100 * p) / 1000 + r - 1) / r)
    refine ⟨if rfSk σ k = rfRest σ k then 3 else 2, max (v - (8 * s - 8 * s * (600 + 100 * p) / 1000 + r - 1) / r) (8 * s * (600 + 100 * p) / 1000), ?_, ?_, by omega, Or.inr (Or.inr (Or.inl ⟨Or.inr (Or.inl b9), ?_⟩))⟩
    · unfold mvp; rw [if_neg n1, if_pos b9]
      by_cases c : rfSk σ k = rfRest σ k
      · rw [if_pos c, if_pos c]
      · rw [if_neg c, if_neg c]
    · unfold mvl; rw [if_neg n1, if_pos b9]; exact hsk
    · by_cases c : rfSk σ k = rfRest σ k
      · rw [if_pos c]; omega
      · rw [if_neg c]; omega
  · refine ⟨3, v, ?_, ?_, b5, Or.inr (Or.inr (Or.inl ⟨Or.inr (Or.inr b9), by omega, by omega⟩))⟩
    · unfold mvp; rw [b9]; rfl
    · unfold mvl; rw [b9]; exact b10
  · obtain ⟨b, c1, c2, c3⟩ := b13 (Or.inl rfl)
    obtain ⟨-, r, r1, r2, r3⟩ := tb_fade b1
    have n1 : ¬ nf σ k 3 = nI 1 := by rw [b9]; decide
    have n2 : ¬ nf σ k 3 = nI 2 := by rw [b9]; decide
    have hd : (b + r - 1) / r ≤ b + r - 1 := Nat.div_le_self _ _
    have hdn : rfDn σ k (rfFade (nf σ k 0)) = nI (v - (b + r - 1) / r) := by
      unfold rfDn; rw [b7, r3, b10, c1, up_nI (by omega) r1 r2, ← nI_0, max_nI (by omega) (by omega) (by omega), Nat.max_eq_left (by omega)]
    have hpos : 0 < b → 1 ≤ (b + r - 1) / r := fun hb => (Nat.le_div_iff_mul_le r1).mpr (by omega)
    have hle := Nat.sub_le v ((b + r - 1) / r)
    refine ⟨if rfDn σ k (rfFade (nf σ k 0)) = 0 then 6 else 4, v - (b + r - 1) / r, ?_, ?_, by omega, Or.inr (Or.inr (Or.inr ⟨4, v, b, Or.inl rfl, b9, b10, c1, c3, by omega, by omega, ?_⟩))⟩
    · unfold mvp; rw [if_neg n1, if_neg n2, if_pos b9]
      by_cases c : rfDn σ k (rfFade (nf σ k 0)) = 0
      · rw [if_pos c, if_pos c]
      · rw [if_neg c, if_neg c]
    · unfold mvl; rw [if_neg n1, if_neg n2, if_pos b9]; exact hdn
    · by_cases c : rfDn σ k (rfFade (nf σ k 0)) = 0
      · rw [if_pos c]; rw [hdn, ← nI_0, nI_eq (by omega) (by omega)] at c; exact Or.inl ⟨rfl, c⟩
      · rw [if_neg c]; rw [hdn, ← nI_0, nI_eq (by omega) (by omega)] at c
        exact Or.inr ⟨rfl, Nat.sub_lt (by omega) (hpos (by omega))⟩
  · obtain ⟨b, c1, c2, c3⟩ := b13 (Or.inr rfl)
    have n1 : ¬ nf σ k 3 = nI 1 := by rw [b9]; decide
    have n2 : ¬ nf σ k 3 = nI 2 := by rw [b9]; decide
    have n4 : ¬ nf σ k 3 = nI 4 := by rw [b9]; decide
    have hdn : rfDn σ k (nI 3) = nI (v - (b + 3 - 1) / 3) := by
      unfold rfDn; rw [b10, c1, up_nI (by omega) (by omega) (by omega), ← nI_0, max_nI (by omega) (by omega) (by omega), Nat.max_eq_left (by omega)]
    refine ⟨if rfDn σ k (nI 3) = 0 then 6 else 5, v - (b + 3 - 1) / 3, ?_, ?_, by omega, Or.inr (Or.inr (Or.inr ⟨5, v, b, Or.inr rfl, b9, b10, c1, c3, by omega, by omega, ?_⟩))⟩
    · unfold mvp; rw [if_neg n1, if_neg n2, if_neg n4, if_pos b9]
      by_cases c : rfDn σ k (nI 3) = 0
      · rw [if_pos c, if_pos c]
      · rw [if_neg c, if_neg c]
    · unfold mvl; rw [if_neg n1, if_neg n2, if_neg n4, if_pos b9]; exact hdn
    · by_cases c : rfDn σ k (nI 3) = 0
      · rw [if_pos c]; rw [hdn, ← nI_0, nI_eq (by omega) (by omega)] at c; exact Or.inl ⟨rfl, c⟩
      · rw [if_neg c]; rw [hdn, ← nI_0, nI_eq (by omega) (by omega)] at c
        exact Or.inr ⟨rfl, by omega⟩
  · refine ⟨6, v, ?_, ?_, b5, Or.inr (Or.inl ⟨b9, rfl, ?_⟩)⟩
    · unfold mvp; rw [b9]; rfl
    · unfold mvl; rw [b9]; exact b10
    · unfold mvl; rw [b9]; rfl
/-- the class's move of a note that is as the reference's -/
theorem mv_at {T : Nat → Nat → Int32} {σ : Nat → Int32} {k : Nat} (hk : k < 200) (hb : NB σ k) (h : ∀ w, w < 7 → ¬ w = 5 → T w k = nf σ k w) (h5 : nf σ k 3 = nI 4 ∨ nf σ k 3 = nI 5 → T 5 k = nf σ k 5) {j w : Nat} (hw : w < 7) :
    ntMove T (nI k) w j = if j = k then (if w = 3 then mvp σ k else if w = 4 then mvl σ k else T w k) else T w j := by
  obtain ⟨p, s, x, v, m, b1, b2, b3, b4, b5, b6, b7, b8, b9, b10, b11, b12, b13⟩ := hb
  have e0 := h 0 (by omega) (by omega)
  have e2 := h 2 (by omega) (by omega)
  have e3 := h 3 (by omega) (by omega)
  have e4 := h 4 (by omega) (by omega)
  have htop : ntTop T (nI k) = rfPeak σ k := by unfold ntTop rfPeak; rw [ntG_nI hk, e2]
  have hrest : ntRest T (nI k) = rfRest σ k := by unfold ntRest rfRest; rw [htop, ntG_nI hk, e0, b7, tb_hold b1]
  unfold ntMove
  rw [ntG_nI hk, e3]
  unfold mvp mvl
  by_cases c1 : nf σ k 3 = nI 1
  · rw [if_pos c1, if_pos c1, if_pos c1]
    obtain ⟨r0, r, r1, r2, r3⟩ := tb_rise b1
    have hr : ntRisen T (nI k) = rfRs σ k := by
      unfold ntRisen rfRs
      rw [htop, ntG_nI hk, ntG_nI hk, e4, e0, b7, r0, xdiv_up (by rw [r3, ← nI_0]; exact nI_lt r1 (by omega)), xmin_y]
    unfold ntRise
    rw [hr, htop]
    by_cases c : rfRs σ k = rfPeak σ k
    · rw [if_pos c, if_pos c, ntPut_at hk, ntPut_at hk]; grind
    · rw [if_neg c, if_neg c, ntPut_at hk]; grind
  rw [if_neg c1, if_neg c1, if_neg c1]
  by_cases c2 : nf σ k 3 = nI 2
  · rw [if_pos c2, if_pos c2, if_pos c2]
    obtain ⟨r0, r, r1, r2, r3⟩ := tb_sink b1
    have hr : ntSunk T (nI k) = rfSk σ k := by
      unfold ntSunk rfSk
      rw [htop, hrest, ntG_nI hk, ntG_nI hk, e4, e0, b7, r0, xdiv_up (by rw [r3, ← nI_0]; exact nI_lt r1 (by omega)), xmax_y]
    unfold ntSink
    rw [hr, hrest]
    by_cases c : rfSk σ k = rfRest σ k
    · rw [if_pos c, if_pos c, ntPut_at hk, ntPut_at hk]; grind
    · rw [if_neg c, if_neg c, ntPut_at hk]; grind
  rw [if_neg c2, if_neg c2, if_neg c2]
  by_cases c3 : nf σ k 3 = nI 4
  · rw [if_pos c3, if_pos c3, if_pos c3]
    obtain ⟨r0, r, r1, r2, r3⟩ := tb_fade b1
    have hr : ntLeft T (nI k) (xat (st_val 0) 4 (ntG T 0 (nI k))) = rfDn σ k (rfFade (nf σ k 0)) := by
      unfold ntLeft rfDn
      rw [ntG_nI hk, ntG_nI hk, ntG_nI hk, e4, e0, h5 (Or.inl c3), b7, r0, xdiv_up (by rw [r3, ← nI_0]; exact nI_lt r1 (by omega)), xmax_y, nI_0]
    unfold ntGo ntEnd
    rw [hr]
    by_cases c : rfDn σ k (rfFade (nf σ k 0)) = 0
    · rw [if_pos c, if_pos c, ntPut_at hk, ntPut_at hk]; grind
    · rw [if_neg c, if_neg c, ntPut_at hk]; grind
  rw [if_neg c3, if_neg c3, if_neg c3]
  by_cases c4 : nf σ k 3 = nI 5
  · rw [if_pos c4, if_pos c4, if_pos c4]
    have hr : ntLeft T (nI k) (nI 3) = rfDn σ k (nI 3) := by
      unfold ntLeft rfDn
      rw [ntG_nI hk, ntG_nI hk, e4, h5 (Or.inr c4), xdiv_up (by decide), xmax_y, nI_0]
    unfold ntGo ntEnd
    rw [hr]
    by_cases c : rfDn σ k (nI 3) = 0
    · rw [if_pos c, if_pos c, ntPut_at hk, ntPut_at hk]; grind
    · rw [if_neg c, if_neg c, ntPut_at hk]; grind
  rw [if_neg c4, if_neg c4, if_neg c4]
  grind
