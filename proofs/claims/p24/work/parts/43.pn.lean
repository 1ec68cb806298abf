/-! 43.pn: calls of ticks, what would be -/
section
variable {C n : Nat} {χ : CS} {σ : Nat → Int32} {P Q D : List Nat}
theorem st_it (h : St C n χ σ) (hC : C < 2 ^ 30) : ∀ k, St C n (tkN χ k) (rfIt σ n k) := by
  intro k
  induction k with
  | zero => exact h
  | succ k ih => exact st_tick ih hC
theorem st_sum (h : St C n χ σ) : chSum χ = rfSum σ n := by
  obtain ⟨P, Q, D, h1, -, -⟩ := h
  exact sm_sum h1
theorem k_tick (h : St C n χ σ) (hC : C < 2 ^ 30) (ta : Int32) : CH C (bxTick χ ta) (rfTk σ n ta) := by
  have h1 : χ.2.2.2 1 = σ 1 := by
    obtain ⟨P, Q, D, h1, -, -⟩ := h
    exact h1.1.2.2.2.1 1 (by omega) (by omega) (Or.inr (by omega))
  unfold bxTick rfTk
  by_cases c1 : ta < nI 1
  · rw [if_pos c1, if_neg (fun z => absurd z.1 (Int32.not_le.mpr c1))]; exact ⟨rfl, Or.inl ⟨rfl, rfl⟩⟩
  by_cases c2 : ta ≤ nI 100
  rotate_left
  · rw [if_neg c1, if_neg c2, if_neg (fun z => c2 z.2)]; exact ⟨rfl, Or.inl ⟨rfl, rfl⟩⟩
  rw [if_neg c1, if_pos c2, if_pos (show nI 1 ≤ ta ∧ ta ≤ nI 100 from ⟨Int32.not_lt.mp c1, c2⟩), h1]
  by_cases c3 : σ 1 + ta ≤ nI 50000
  · rw [if_pos c3, if_pos c3]
    exact ⟨st_sum (st_it h hC _), Or.inr ⟨_, n, rfl, rfl, st_it h hC _⟩⟩
  · rw [if_neg c3, if_neg c3]; exact ⟨rfl, Or.inl ⟨rfl, rfl⟩⟩
/-- a copy -/
theorem xcpy_at {f g : Nat → Int32} {a b m j : Nat} (ha : a < 2 ^ 31) (hb : b < 2 ^ 31) (hma : m ≤ a) (hmb : m ≤ b) (hj : j < m) : xcpy f a g b (nI m) j = f j := by
  unfold xcpy
  rw [if_pos ⟨by rw [← nI_0]; exact nI_lt (by omega) (by omega), nI_le hma ha, nI_le hmb hb⟩, nI_clamp (by omega), pk_cpy_in (by omega) (by omega)]
  congr 1; omega
theorem sm_copy {F : Prop} (h : Sm F C n χ σ P Q D) (χa : CS) : Sm F C n (chCopy χ χa) σ P Q D := by
  obtain ⟨⟨s1, s2, s3, s4, s5, s6⟩, hnt, hlz, l0, l1, l2⟩ := h
  refine ⟨⟨s1, s2, s3, s4, fun j hj => ?_, s6⟩, fun j hj => ?_, hlz, l0, l1, l2⟩
  · show xcpy χ.2.2.1 3 χa.2.2.1 3 (nI 3) j = _
    rw [xcpy_at (by omega) (by omega) (by omega) (by omega) hj]; exact s5 j hj
  · refine nr_same (hnt j hj) (fun w hw => rfl) (fun w hw => ?_)
    show xcpy (χ.1 w) 200 (χa.1 w) 200 (χ.2.2.2 0) j = _
    rw [s3, xcpy_at (by omega) (by omega) (by omega) (by omega) hj]
theorem st_copy (h : St C n χ σ) (χa : CS) : St C n (chCopy χ χa) σ := by
  obtain ⟨P, Q, D, h1, h2, h3⟩ := h
  exact ⟨P, Q, D, sm_copy h1 χa, h2, Fo_same h3 rfl (fun _ _ _ => rfl)⟩
theorem pk_eq2 (h : St C n χ σ) (hC : C < 2 ^ 30) : ∀ k, (pkN χ k).1 = tkN χ k ∧ (pkN χ k).2 = rfPk σ n k := by
  intro k
  induction k with
  | zero => exact ⟨rfl, rfl⟩
  | succ k ih =>
    refine ⟨?_, ?_⟩
    · show chTick (pkN χ k).1 = chTick (tkN χ k); rw [ih.1]
    · show xmax (pkN χ k).2 (chSum (chTick (pkN χ k).1)) = _
      rw [ih.1, ih.2, rfPk, show chTick (tkN χ k) = tkN χ (k + 1) from rfl, st_sum (st_it h hC (k + 1))]; rfl
theorem q_peak (h : St C n χ σ) (hC : C < 2 ^ 30) (χa : CS) (ta : Int32) : bxPeak (chCopy χ χa) ta = rfPeakOf σ n ta := by
  have hc := st_copy h χa
  unfold bxPeak rfPeakOf
  by_cases c1 : ta < nI 1
  · rw [if_pos c1, if_neg (fun z => absurd z.1 (Int32.not_le.mpr c1))]
  by_cases c2 : ta ≤ nI 200
  · rw [if_neg c1, if_pos c2, if_pos ⟨Int32.not_lt.mp c1, c2⟩, (pk_eq2 hc hC _).2]
  · rw [if_neg c1, if_neg c2, if_neg (fun z => c2 z.2)]
theorem st_free (h : St C n χ σ) : (chFree χ ≤ 0 ↔ rfFree σ n = 0) := by
  obtain ⟨P, Q, D, h1, -, -⟩ := h
  obtain ⟨a, h1, h2, h3, h4, h5⟩ := sm_free h1
  rw [h4, h5, ← nI_0, nI_leI (by omega) (by omega), nI_eq (by omega) (by omega)]; omega
theorem fi_eq {T : Nat} (hC : C < 2 ^ 30) (hT : ∀ t, t < T → rfFree (rfIt σ n t) n = 0) (hT2 : T ≤ 201) (hT3 : T = 201 ∨ ¬ rfFree (rfIt σ n T) n = 0) : ∀ f t (χ : CS), t + f = 201 → t ≤ T → St C n χ (rfIt σ n t) → fiN f t χ = if T = 201 then (-4) else nI T := by
  intro f
  induction f with
  | zero => intro t χ h1 h2 _; rw [fiN, if_pos (by omega)]
  | succ f ih =>
    intro t χ h1 h2 h
    rw [fiN]
    by_cases c : t < T
    · rw [if_pos ((st_free h).mpr (hT t c))]
      exact ih (t + 1) _ (by omega) (by omega) (st_tick h hC)
    · have : t = T := by omega
      subst this
      have hne : ¬ t = 201 := by omega
      rw [if_neg (fun z => hT3.elim hne (fun q => q ((st_free h).mp z))), if_neg hne]
theorem q_free (h : St C n χ σ) (hC : C < 2 ^ 30) : ∃ T, (∀ t, t < T → rfFree (rfIt σ n t) n = 0) ∧ T ≤ 201 ∧ (T = 201 ∨ ¬ rfFree (rfIt σ n T) n = 0) ∧ ∀ χa, fiN 201 0 (chCopy χ χa) = if T = 201 then (-4) else nI T := by
  obtain ⟨T, h1, h2⟩ := pk_least (fun t => t = 201 ∨ ¬ rfFree (rfIt σ n t) n = 0) ⟨201, Or.inl rfl⟩
  have hle : T ≤ 201 := by
    by_cases c : T ≤ 201
    · exact c
    · exact absurd (Or.inl rfl) (h2 201 (by omega))
  have hT : ∀ t, t < T → rfFree (rfIt σ n t) n = 0 := fun t ht => Classical.byContradiction (fun z => h2 t ht (Or.inr z))
  exact ⟨T, hT, hle, h1, fun χa => fi_eq hC hT hle h1 201 0 _ (by omega) (by omega) (st_copy h χa)⟩
/-- silence -/
def rfW (σ : Nat → Int32) (n : Nat) : Nat → Int32 := fun j => if j = 2 then nI 0 else if 70 ≤ j ∧ j < 70 + 8 * n ∧ (j - 70) % 8 = 3 ∧ σ j = nI 0 then nI 6 else σ j
theorem rfW_nf {σ : Nat → Int32} {n j w : Nat} (hw : w < 8) : nf (rfW σ n) j w = if w = 3 ∧ j < n ∧ nf σ j 3 = nI 0 then nI 6 else nf σ j w := by
  unfold nf rfW
  rw [if_neg (by omega)]
  by_cases c : w = 3 ∧ j < n ∧ σ (70 + 8 * j + 3) = nI 0
  · rw [if_pos c, c.1, if_pos ⟨by omega, by omega, by omega, c.2.2⟩]
  · rw [if_neg c, if_neg (fun z => c ⟨by omega, by omega, by
      have h3 : w = 3 := by omega
      rw [h3] at z; exact z.2.2.2⟩)]
theorem sm_W (h : Sm True C n χ σ P Q D) : Sm False C n (setL χ 2 []) (rfW σ n) P Q [] := by
  have hlo : ∀ j, j < 70 → ¬ j = 2 → rfW σ n j = σ j := fun j hj h2 => by unfold rfW; rw [if_neg h2, if_neg (fun z => by omega)]
  have hnot : ∀ j, ¬ nf σ j 3 = nI 0 → ∀ w, w < 8 → nf (rfW σ n) j w = nf σ j w := fun j h3 w hw => by rw [rfW_nf hw, if_neg (fun z => h3 z.2.2)]
  have hne3 : ∀ j w, w < 8 → ¬ w = 3 → nf (rfW σ n) j w = nf σ j w := fun j w hw h3 => by rw [rfW_nf hw, if_neg (fun z => h3 z.1)]
  have h0e : ∀ j, j < n → nf σ j 3 = nI 0 → nf (rfW σ n) j 3 = nI 6 := fun j hj h3 => by rw [rfW_nf (by omega), if_pos ⟨rfl, hj, h3⟩]
  obtain ⟨⟨s1, s2, s3, s4, s5, s6, s7, s8⟩, hnt, ⟨a1, a2, a3, a4, a5, a6, a7, a8, a9, a10, S, c1, c2, c3⟩, l0, l1, l2⟩ := h
  refine ⟨⟨s1, (hlo 0 (by omega) (by omega)).trans s2, s3, fun j hj hj5 hF => ?_, fun j hj => ?_, ?_, ?_, ?_⟩, fun j hj => ?_, ⟨fun j => ?_, fun j => ?_, fun j => ?_, ?_, a5, List.Pairwise.nil, a7, a8, by simp, ?_, S, ?_, ?_, ?_⟩, l0, l1, rfl⟩
  · have : ¬ j = 2 := hF.elim False.elim id
    rw [hlo j (by omega) this]; exact s4 j hj hj5 (Or.inr this)
  · rw [hlo (6 + j) (by omega) (by omega)]; exact s5 j hj
  · rw [hlo 6 (by omega) (by omega)]; exact s6
  · rw [hlo 7 (by omega) (by omega)]; exact s7
  · rw [hlo 8 (by omega) (by omega)]; exact s8
  · by_cases c : nf σ j 3 = nI 0
    · have h6 := h0e j hj c
      obtain ⟨p, s, x, v, m, b1, b2, b3, b4, b5, b6, b7, b8, b9, b10, b11, b12, b13⟩ := (hnt j hj).2
      have hx : x = 0 := (ph_eq 0 b4 (by omega) b9).mp c
      refine ⟨⟨fun hF => ?_, fun h4 => ?_⟩, p, s, 6, v, m, b1, b2, b3, by omega, b5, b6, ?_, ?_, h6, ?_, ?_, ⟨fun z => by omega, fun z => by omega⟩, fun z => by omega⟩
      · exact absurd h6 (hF.elim False.elim id)
      · rw [ph_eq 4 (by omega) (by omega) h6, ph_eq 5 (by omega) (by omega) h6] at h4; omega
      · rw [hne3 j 0 (by omega) (by omega)]; exact b7
      · rw [hne3 j 2 (by omega) (by omega)]; exact b8
      · rw [hne3 j 4 (by omega) (by omega)]; exact b10
      · rw [hne3 j 6 (by omega) (by omega)]; exact b11
    · have hs := nr_same (hnt j hj) (fun w hw => hnot j c w (by omega)) (fun w _ => rfl)
      exact ⟨⟨fun hF => hs.1.1 (Or.inl trivial), hs.1.2⟩, hs.2⟩
  · by_cases c : nf σ j 3 = nI 0
    · by_cases d : j < n
      · rw [a1 j, ph_pl (x := 6) (by omega) (h0e j d c)]
        unfold rfPl; rw [c]; exact ⟨fun z => absurd z.2.1 (by decide), fun z => by omega⟩
      · rw [a1 j]; exact ⟨fun z => absurd z.1 d, fun z => absurd z.1 d⟩
    · unfold rfPl; rw [hnot j c 3 (by omega)]; exact a1 j
  · by_cases c : nf σ j 3 = nI 0
    · by_cases d : j < n
      · rw [a2 j, ph_eq 5 (by omega) (by omega) (h0e j d c), c]; exact ⟨fun z => absurd z.2 (by decide), fun z => by omega⟩
      · rw [a2 j]; exact ⟨fun z => absurd z.1 d, fun z => absurd z.1 d⟩
    · rw [hnot j c 3 (by omega)]; exact a2 j
  · by_cases c : nf σ j 3 = nI 0
    · by_cases d : j < n
      · rw [ph_eq 0 (by omega) (by omega) (h0e j d c)]; exact ⟨fun z => absurd z List.not_mem_nil, fun z => by omega⟩
      · exact ⟨fun z => absurd z List.not_mem_nil, fun z => absurd z.1 d⟩
    · rw [hnot j c 3 (by omega)]; exact ⟨fun z => absurd z List.not_mem_nil, fun z => absurd z.2 c⟩
  · exact a4.imp (fun {a b} hab => by rw [hne3 a 7 (by omega) (by omega), hne3 b 7 (by omega) (by omega)]; exact hab)
  · intro a ha b hb e0 e1
    rw [hne3 a 0 (by omega) (by omega), hne3 b 0 (by omega) (by omega)] at e0
    rw [hne3 a 1 (by omega) (by omega), hne3 b 1 (by omega) (by omega)] at e1
    exact a10 a ha b hb e0 e1
  · rw [hlo 5 (by omega) (by omega)]; exact c1
  · simp; omega
  · intro j hj
    obtain ⟨g, e, hg⟩ := c3 j hj
    exact ⟨g, by rw [hne3 j 7 (by omega) (by omega)]; exact e, hg⟩
def SLv (s : Nat → Int32) (j w : Nat) : Int32 := if nI 1 ≤ nf s j 3 ∧ nf s j 3 ≤ nI 3 then FD s j w else if nf s j 3 = 0 then (if w = 3 then nI 6 else nf s j w) else nf s j w
theorem FD_congr {σ σ' : Nat → Int32} {j w : Nat} (h : ∀ w, w < 8 → nf σ' j w = nf σ j w) (hw : w < 8) : FD σ' j w = FD σ j w := by
  unfold FD; rw [h 4 (by omega), h w hw]
theorem SLv_congr {σ σ' : Nat → Int32} {j w : Nat} (h : ∀ w, w < 8 → nf σ' j w = nf σ j w) (hw : w < 8) : SLv σ' j w = SLv σ j w := by
  unfold SLv; rw [h 3 (by omega), FD_congr h hw, h w hw]
theorem sl_lo {σ : Nat → Int32} {n j : Nat} (hj : j < 70) (i : Nat) : (rfSl σ n i).1 j = (rfLN σ n).1 j := by
  induction i with
  | zero => rfl
  | succ i ih =>
    show nset (rfSl1 (rfSl σ n i) i).1 i 3 _ j = _
    rw [nset_lo hj, ← ih]
    unfold rfSl1
    by_cases c : nI 1 ≤ nf (rfSl σ n i).1 i 3 ∧ nf (rfSl σ n i).1 i 3 ≤ nI 3
    · rw [if_pos c]; exact rfFades_0 hj
    · rw [if_neg c]
theorem sl_nf {σ : Nat → Int32} {n j w : Nat} (hw : w < 8) (i : Nat) : nf (rfSl σ n i).1 j w = if j < i then SLv (rfLN σ n).1 j w else nf (rfLN σ n).1 j w := by
  induction i generalizing j w with
  | zero => rw [if_neg (Nat.not_lt_zero j)]; rfl
  | succ i ih =>
    have hi : ∀ w, w < 8 → nf (rfSl σ n i).1 i w = nf (rfLN σ n).1 i w := fun w hw => by rw [ih hw, if_neg (Nat.lt_irrefl i)]
    show nf (nset (rfSl1 (rfSl σ n i) i).1 i 3 (if nf (rfSl1 (rfSl σ n i) i).1 i 3 = 0 then nI 6 else nf (rfSl1 (rfSl σ n i) i).1 i 3)) j w = _
    have hs1 : ∀ j w, w < 8 → nf (rfSl1 (rfSl σ n i) i).1 j w = if j = i ∧ (nI 1 ≤ nf (rfLN σ n).1 i 3 ∧ nf (rfLN σ n).1 i 3 ≤ nI 3) then FD (rfLN σ n).1 i w else nf (rfSl σ n i).1 j w := fun j w hw => by
      unfold rfSl1
      rw [hi 3 (by omega)]
      by_cases c : nI 1 ≤ nf (rfLN σ n).1 i 3 ∧ nf (rfLN σ n).1 i 3 ≤ nI 3
      · rw [if_pos c, fd_FD hw]
        by_cases d : j = i
        · rw [if_pos d, if_pos ⟨d, c⟩, FD_congr hi hw]
        · rw [if_neg d, if_neg (fun z => d z.1)]
      · rw [if_neg c, if_neg (fun z => c z.2)]
    rw [nf_set (by omega) hw]
    by_cases d : j = i
    · subst d
      rw [if_pos (show j < j + 1 by omega)]
      unfold SLv
      by_cases c : nI 1 ≤ nf (rfLN σ n).1 j 3 ∧ nf (rfLN σ n).1 j 3 ≤ nI 3
      · have g : ∀ w, w < 8 → nf (rfSl1 (rfSl σ n j) j).1 j w = FD (rfLN σ n).1 j w := fun w hw => by rw [hs1 j w hw, if_pos ⟨rfl, c⟩]
        have : FD (rfLN σ n).1 j 3 = nI 4 := if_pos rfl
        rw [g 3 (by omega), g w hw, this, if_pos c, if_neg (show ¬ nI 4 = 0 by decide)]
        by_cases w3 : w = 3
        · rw [if_pos ⟨rfl, w3⟩, w3, this]
        · rw [if_neg (fun z => w3 z.2)]
      · have g : ∀ w, w < 8 → nf (rfSl1 (rfSl σ n j) j).1 j w = nf (rfLN σ n).1 j w := fun w hw => by rw [hs1 j w hw, if_neg (fun z => c z.2), hi w hw]
        rw [g 3 (by omega), g w hw, if_neg c]
        by_cases e : nf (rfLN σ n).1 j 3 = 0
        · rw [if_pos e, if_pos e]
          by_cases w3 : w = 3
          · rw [if_pos ⟨rfl, w3⟩, if_pos w3]
          · rw [if_neg (fun z => w3 z.2), if_neg w3]
        · rw [if_neg e, if_neg e]
          by_cases w3 : w = 3
          · rw [if_pos ⟨rfl, w3⟩, w3]
          · rw [if_neg (fun z => w3 z.2)]
    · rw [if_neg (fun z => d z.1), hs1 j w hw, if_neg (fun z => d z.1), ih hw]
      by_cases e : j < i
      · rw [if_pos e, if_pos (by omega)]
      · rw [if_neg e, if_neg (by omega)]
theorem sl_ct (σ : Nat → Int32) (n : Nat) : ∀ i, ∃ m, m ≤ n + i ∧ (rfSl σ n i).2 = nI m := by
  intro i
  induction i with
  | zero =>
    refine ⟨(rg n (fun j => rfPl σ j ∧ nf σ j 6 = nI 1)).length, ?_, ?_⟩
    · unfold rg; exact Nat.le_trans (List.length_filter_le _ _) (by rw [List.length_range]; exact Nat.le_refl _)
    · show (rfLN σ n).2 = _; rw [ln_ct, zs_one]
  | succ i ih =>
    obtain ⟨m, h1, h2⟩ := ih
    show ∃ m, m ≤ n + (i + 1) ∧ (rfSl1 (rfSl σ n i) i).2 = nI m
    unfold rfSl1
    by_cases c : nI 1 ≤ nf (rfSl σ n i).1 i 3 ∧ nf (rfSl σ n i).1 i 3 ≤ nI 3
    · rw [if_pos c]; exact ⟨m + 1, by omega, by show (rfSl σ n i).2 + nI 1 = _; rw [h2, nI_add]⟩
    · rw [if_neg c]; exact ⟨m, by omega, h2⟩
theorem sm_all (h : Sm True C n χ σ P Q D) : Sm False C n (chAll χ) (rfSl σ n n).1 P Q [] := by
  have hw := sm_W h
  have hf := la_fold (q := fun k => decide (¬ nf σ k 3 = nI 4)) P _ _ hw (fun _ z => z) (sm_Pnd h) (fun k hk => by
    have hk0 : ¬ nf σ k 3 = nI 0 := fun z => by have := ((sm_P h).mp hk).2; unfold rfPl at this; rw [z] at this; exact absurd this.1 (by decide)
    rw [rfW_nf (by omega), if_neg (fun z => hk0 z.2.2), decide_eq_true_eq])
  have hct : chAll χ = (P.map nI).foldl laStep (setL χ 2 []) := by unfold chAll; rw [h.2.2.2.1]
  rw [← hct] at hf
  refine sm_eq hf (fun j w hw => ?_) (fun j hj => ?_)
  · have hPn := sm_Pnd h
    have hln : ∀ w, w < 8 → nf (rfLN σ n).1 j w = if j < n ∧ rfPl σ j ∧ nf σ j 6 = nI 1 then FD σ j w else nf σ j w := fun w hw => ln_nf hw n
    rw [sl_nf hw, fdL_nf hw P _ hPn]
    by_cases d : j < n
    rotate_left
    · have hP : ¬ j ∈ P := fun z => d ((sm_P h).mp z).1
      rw [if_neg d, if_neg (fun z => hP z.1), rfW_nf hw, if_neg (fun z => d z.2.1), hln w hw, if_neg (fun z => d z.1)]
    rw [if_pos d]
    obtain ⟨p, s, x, v, m, b1, b2, b3, b4, b5, b6, b7, b8, b9, b10, b11, b12, b13⟩ := (h.2.1 j d).2
    by_cases cP : j ∈ P
    · have hpl := ((sm_P h).mp cP).2
      have hx := (ph_pl b4 b9).mp hpl
      have hk0 : ¬ nf σ j 3 = nI 0 := by rw [ph_eq 0 b4 (by omega) b9]; omega
      have hW : ∀ w, w < 8 → nf (rfW σ n) j w = nf σ j w := fun w hw => by rw [rfW_nf hw, if_neg (fun z => hk0 z.2.2)]
      rw [FD_congr hW hw, hW w hw]
      by_cases g : nf σ j 3 = nI 4
      · have hx4 : x = 4 := (ph_eq 4 b4 (by omega) b9).mp g
        have hm0 : m = 0 := b12.2 (Or.inr hx4)
        have hl : ∀ w, w < 8 → nf (rfLN σ n).1 j w = nf σ j w := fun w hw => by rw [hln w hw, if_neg (fun z => by have := z.2.2; rw [b11, hm0] at this; exact absurd this (by decide))]
        rw [if_neg (fun z => by have := z.2; rw [decide_eq_true_eq] at this; exact this g), SLv_congr hl hw]
        unfold SLv
        rw [g, if_neg (by decide), if_neg (by decide)]
      · rw [if_pos ⟨cP, decide_eq_true g⟩]
        by_cases g6 : nf σ j 6 = nI 1
        · have hl : ∀ w, w < 8 → nf (rfLN σ n).1 j w = FD σ j w := fun w hw => by rw [hln w hw, if_pos ⟨d, hpl, g6⟩]
          unfold SLv
          have e3 : FD σ j 3 = nI 4 := if_pos rfl
          rw [hl 3 (by omega), e3, if_neg (by decide), if_neg (by decide), hl w hw]
        · have hl : ∀ w, w < 8 → nf (rfLN σ n).1 j w = nf σ j w := fun w hw => by rw [hln w hw, if_neg (fun z => g6 z.2.2)]
          rw [SLv_congr hl hw]
          unfold SLv
          have hx4 : ¬ x = 4 := fun z => g (by rw [b9, z])
          rw [if_pos (by rw [b9]; exact ⟨nI_le (by omega) (by omega), nI_le (by omega) (by omega)⟩)]
    · have hpl : ¬ rfPl σ j := fun z => cP ((sm_P h).mpr ⟨d, z⟩)
      have hx : ¬ (1 ≤ x ∧ x ≤ 4) := fun z => hpl ((ph_pl b4 b9).mpr z)
      have hl : ∀ w, w < 8 → nf (rfLN σ n).1 j w = nf σ j w := fun w hw => by rw [hln w hw, if_neg (fun z => hpl z.2.1)]
      rw [if_neg (fun z => cP z.1), SLv_congr hl hw, rfW_nf hw]
      unfold SLv
      rw [if_neg (fun z => by rw [b9, nI_leI (by omega) (by omega), nI_leI (by omega) (by omega)] at z; omega)]
      by_cases g : nf σ j 3 = nI 0
      · rw [if_pos (by rw [← nI_0]; exact g)]
        by_cases w3 : w = 3
        · rw [if_pos w3, if_pos ⟨w3, d, g⟩]
        · rw [if_neg w3, if_neg (fun z => w3 z.1)]
      · rw [if_neg (by rw [← nI_0]; exact g), if_neg (fun z => g z.2.2)]
  · rw [sl_lo (by omega), fdL_lo (by omega)]
    unfold rfW
    by_cases c : j = 2
    · rw [if_pos c, c, ln_2]
    · rw [if_neg c, if_neg (fun z => by omega), rfLN_0 (by omega) c]
/-- all voices fade or leave, and are quieter each tick -/
def IV (n : Nat) (σ : Nat → Int32) (t : Nat) : Prop := ∀ k, k < n → NB σ k ∧ ((∃ v, nf σ k 4 = nI v ∧ v + t ≤ 1016 ∧ (nf σ k 3 = nI 4 ∨ nf σ k 3 = nI 5)) ∨ nf σ k 3 = nI 6)
theorem ci_no {n : Nat} {σ : Nat → Int32} (h : ∀ k, k < n → ¬ nf σ k 3 = 0) : ∀ f k, k + f ≤ n → rfCi n f k σ = σ := by
  intro f
  induction f with
  | zero => intro k _; rfl
  | succ f ih => intro k hk; rw [rfCi, if_neg (h k (by omega)), ih (k + 1) (by omega)]
theorem iv_tick {n : Nat} {σ : Nat → Int32} {t : Nat} (hn : n ≤ 200) (h : IV n σ t) : IV n (rfTick σ n) (t + 1) := by
  have hm : ∀ k, k < n → ∀ w, w < 8 → nf (rfMvN σ n) k w = nf (rfMv σ k) k w := fun k hk w hw => by rw [mvN_nf hw, if_pos hk, mv_nf hw, if_pos rfl]
  have hstep : ∀ k, k < n → NB (rfMvN σ n) k ∧ ((∃ v, nf (rfMvN σ n) k 4 = nI v ∧ v + (t + 1) ≤ 1016 ∧ (nf (rfMvN σ n) k 3 = nI 4 ∨ nf (rfMvN σ n) k 3 = nI 5)) ∨ nf (rfMvN σ n) k 3 = nI 6) := fun k hk => by
    obtain ⟨hnb, hc⟩ := h k hk
    obtain ⟨x', v', e1, e2, e3, e4⟩ := mv_num hnb
    have n3 : nf (rfMvN σ n) k 3 = nI x' := by rw [hm k hk 3 (by omega), mv_nf (by omega), if_pos rfl]; exact e1
    have n4 : nf (rfMvN σ n) k 4 = nI v' := by rw [hm k hk 4 (by omega), mv_nf (by omega), if_pos rfl]; exact e2
    rcases hc with ⟨v, g1, g2, g3⟩ | g
    · have hph : ¬ nf σ k 3 = nI 6 := fun z => by rw [z] at g3; exact absurd g3 (by decide)
      have hnr := mv_nr (F := True) (T := fun w k => nf σ k w) (σ := σ) (k := k) (by omega) ⟨⟨fun _ w _ _ => rfl, fun _ => rfl⟩, hnb⟩ hph
      have hnb2 : NB (rfMvN σ n) k := (nr_same (F := True) (T := fun w k => nf (rfMv σ k) k w) (T' := fun w k => nf (rfMv σ k) k w) ⟨⟨fun _ w _ _ => rfl, fun _ => rfl⟩, hnr.2⟩ (fun w hw => hm k hk w (by omega)) (fun w _ => rfl)).2
      refine ⟨hnb2, ?_⟩
      rcases e4 with ⟨q, -, -⟩ | ⟨q, -, -⟩ | ⟨q, -⟩ | ⟨y, v2, b, hy, q, q4, -, -, -, q5, r⟩
      · rw [q] at g3; exact absurd g3 (by decide)
      · exact absurd q hph
      · rcases q with q | q | q <;> rw [q] at g3 <;> exact absurd g3 (by decide)
      · rcases r with ⟨r1, r2⟩ | ⟨r1, r2⟩
        · exact Or.inr (by rw [n3, r1])
        · rw [g1, nI_eq (by omega) (by omega)] at q4
          exact Or.inl ⟨v', n4, by omega, by rw [n3, r1]; rcases hy with rfl | rfl
                                             · exact Or.inl rfl
                                             · exact Or.inr rfl⟩
    · rcases e4 with ⟨q, -, -⟩ | ⟨q, q2, q3⟩ | ⟨q, -⟩ | ⟨y, v2, b, hy, q, -⟩
      · rw [q] at g; exact absurd g (by decide)
      · have hsame : ∀ w, w < 8 → nf (rfMvN σ n) k w = nf σ k w := fun w hw => by
          rw [mvN_nf hw, if_pos hk, MV]
          by_cases w3 : w = 3
          · rw [if_pos w3, w3, e1, q2, g]
          · rw [if_neg w3]
            by_cases w4 : w = 4
            · rw [if_pos w4, w4, q3]
            · rw [if_neg w4]
        refine ⟨(nr_same (F := True) (T := fun w k => nf σ k w) (T' := fun w k => nf σ k w) ⟨⟨fun _ w _ _ => rfl, fun _ => rfl⟩, hnb⟩ (fun w hw => hsame w (by omega)) (fun w _ => rfl)).2, Or.inr (by rw [n3, q2])⟩
      · rcases q with q | q | q <;> rw [q] at g <;> exact absurd g (by decide)
      · rw [q] at g; rcases hy with rfl | rfl <;> exact absurd g (by decide)
  have hno : ∀ k, k < n → ¬ nf (rfMvN σ n) k 3 = 0 := fun k hk z => by
    rcases (hstep k hk).2 with ⟨v, -, -, q⟩ | q
    · rw [z] at q; exact absurd q (by decide)
    · rw [z] at q; exact absurd q (by decide)
  have he : rfTick σ n = rfMvN σ n := by rw [rfTick, ci_no hno n 0 (by omega)]
  rw [he]; exact hstep
theorem con_0 {F : Prop} (h : Sm F C n χ σ P Q D) : rfCon σ n ≤ 0 ↔ P.length + Q.length = 0 := by
  have h1 : P.length ≤ 8 := h.2.2.1.2.2.2.2.2.2.1
  have h2 : Q.length ≤ 4 := h.2.2.1.2.2.2.2.2.2.2.1
  unfold rfCon
  rw [sm_plc h, sm_q5 h, nI_add, ← nI_0, nI_leI (by omega) (by omega)]; omega
theorem sm_its (h : Sm False C n χ σ P Q D) (hC : C < 2 ^ 30) (hD6 : D.length ≤ 6) : ∀ t, ∃ P' Q' D', Sm False C n (tkN χ t) (rfIt σ n t) P' Q' D' ∧ D'.length ≤ 6 := by
  intro t
  induction t with
  | zero => exact ⟨P, Q, D, h, hD6⟩
  | succ t ih =>
    obtain ⟨P', Q', D', h1, h2⟩ := ih
    exact sm_tick h1 hC h2
theorem sl_eq {T : Nat} (hC : C < 2 ^ 30) (hs : ∀ t, ∃ P' Q' D', Sm False C n (tkN χ t) (rfIt σ n t) P' Q' D' ∧ D'.length ≤ 6) (hT : ∀ t, t < T → ¬ rfCon (rfIt σ n t) n ≤ 0) (hT2 : rfCon (rfIt σ n T) n ≤ 0) : ∀ f t, t ≤ T → T - t < f → slN f (tkN χ t) = T - t := by
  intro f
  induction f with
  | zero => intro t _ h; omega
  | succ f ih =>
    intro t ht hf
    obtain ⟨P', Q', D', h1, -⟩ := hs t
    rw [slN, h1.2.2.2.1, h1.2.2.2.2.1, List.length_map, List.length_map]
    by_cases c : t = T
    · subst c
      rw [if_pos ((con_0 h1).mp hT2)]; omega
    · rw [if_neg (fun z => hT t (by omega) ((con_0 h1).mpr z)), show chTick (tkN χ t) = tkN χ (t + 1) from rfl, ih (t + 1) (by omega) (by omega)]; omega
theorem q_sil (h : St C n χ σ) (hC : C < 2 ^ 30) : ∃ T, 0 ≤ (rfSl σ n n).2 ∧ (∀ t, t < T → ¬ rfCon (rfIt (rfSl σ n n).1 n t) n ≤ 0) ∧ rfCon (rfIt (rfSl σ n n).1 n T) n ≤ 0 ∧ ∀ χa, nI (slN 1000000 (chAll (chCopy χ χa))) = nI T := by
  obtain ⟨P, Q, D, h1, -, -⟩ := h
  have hn := sm_n h1
  have hnn : 0 ≤ (rfSl σ n n).2 := by
    obtain ⟨m, h2, h3⟩ := sl_ct σ n n
    rw [h3]; exact nI_pos' (by omega)
  have ha : ∀ χa, Sm False C n (chAll (chCopy χ χa)) (rfSl σ n n).1 P Q [] := fun χa => sm_all (sm_copy h1 χa)
  have hiv : ∀ t, IV n (rfIt (rfSl σ n n).1 n t) t := fun t => by
    induction t with
    | zero =>
      intro k hk
      have hs := ha χ
      obtain ⟨p, s, x, v, m, b1, b2, b3, b4, b5, b6, b7, b8, b9, b10, b11, b12, b13⟩ := (hs.2.1 k hk).2
      refine ⟨(hs.2.1 k hk).2, ?_⟩
      have hP : ∀ w, w < 8 → nf (rfSl σ n n).1 k w = SLv (rfLN σ n).1 k w := fun w hw => by rw [sl_nf hw, if_pos hk]
      have hno3 : ¬ (1 ≤ x ∧ x ≤ 3) := fun z => by
        have e3 := hP 3 (by omega)
        show False
        rw [show nf (rfSl σ n n).1 k 3 = nI x from b9] at e3
        unfold SLv at e3
        by_cases c : nI 1 ≤ nf (rfLN σ n).1 k 3 ∧ nf (rfLN σ n).1 k 3 ≤ nI 3
        · rw [if_pos c] at e3
          have : FD (rfLN σ n).1 k 3 = nI 4 := if_pos rfl
          rw [this, nI_eq (by omega) (by omega)] at e3; omega
        · rw [if_neg c] at e3
          by_cases d : nf (rfLN σ n).1 k 3 = 0
          · rw [if_pos d, if_pos rfl, nI_eq (by omega) (by omega)] at e3; omega
          · rw [if_neg d] at e3
            rw [← e3] at c
            exact c ⟨nI_le z.1 (by omega), nI_le z.2 (by omega)⟩
      have hno0 : ¬ x = 0 := fun z => by
        have := (sm_D hs (k := k)).mpr ⟨hk, by rw [b9, z]⟩
        cases this
      have hx : x = 4 ∨ x = 5 ∨ x = 6 := by omega
      rcases hx with rfl | rfl | rfl
      · exact Or.inl ⟨v, b10, by omega, Or.inl b9⟩
      · exact Or.inl ⟨v, b10, by omega, Or.inr b9⟩
      · exact Or.inr b9
    | succ t ih => exact iv_tick hn ih
  have hend : rfCon (rfIt (rfSl σ n n).1 n 1017) n ≤ 0 := by
    obtain ⟨P', Q', D', g1, -⟩ := sm_its (ha χ) hC (by simp) 1017
    rw [con_0 g1]
    have h6 : ∀ k, k < n → nf (rfIt (rfSl σ n n).1 n 1017) k 3 = nI 6 := fun k hk => by
      rcases (hiv 1017 k hk).2 with ⟨v, -, q, -⟩ | q
      · omega
      · exact q
    have hP : P' = [] := List.eq_nil_iff_forall_not_mem.mpr (fun k hk => by
      have := (sm_P g1).mp hk
      have q := this.2; unfold rfPl at q; rw [h6 k this.1] at q; exact absurd q.2 (by decide))
    have hQ : Q' = [] := List.eq_nil_iff_forall_not_mem.mpr (fun k hk => by
      have := (sm_Q g1).mp hk
      have q := this.2; rw [h6 k this.1] at q; exact absurd q (by decide))
    rw [hP, hQ]; rfl
  obtain ⟨T, t1, t2⟩ := pk_least (fun t => rfCon (rfIt (rfSl σ n n).1 n t) n ≤ 0) ⟨1017, hend⟩
  have hle : T ≤ 1017 := by
    by_cases c : T ≤ 1017
    · exact c
    · exact absurd hend (t2 1017 (by omega))
  refine ⟨T, hnn, t2, t1, fun χa => ?_⟩
  have := sl_eq hC (fun t => sm_its (ha χa) hC (by simp) t) t2 t1 1000000 0 (by omega) (by omega)
  rw [show tkN (chAll (chCopy χ χa)) 0 = chAll (chCopy χ χa) from rfl] at this
  rw [this]; rfl
end
