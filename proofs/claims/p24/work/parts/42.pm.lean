/-! 42.pm: a tick -/
def mvF : List Nat → (Nat → Int32) → (Nat → Int32)
  | [], σ => σ
  | x :: l, σ => mvF l (rfMv σ x)
theorem MV_congr {σ σ' : Nat → Int32} {j w : Nat} (h : ∀ w, w < 8 → nf σ' j w = nf σ j w) (hw : w < 8) : MV σ' j w = MV σ j w := by
  unfold MV mvp mvl rfRs rfSk rfDn rfRest rfPeak
  rw [h 0 (by omega), h 2 (by omega), h 3 (by omega), h 4 (by omega), h 5 (by omega), h w hw]
theorem mvF_lo {j : Nat} (hj : j < 70) (l : List Nat) : ∀ σ, mvF l σ j = σ j := by
  induction l with
  | nil => intro σ; rfl
  | cons x l ih => intro σ; rw [mvF, ih, rfMv_0 hj]
theorem mvF_nf {j w : Nat} (hw : w < 8) (l : List Nat) : ∀ σ, l.Nodup → nf (mvF l σ) j w = if j ∈ l then MV σ j w else nf σ j w := by
  induction l with
  | nil => intro σ _; rw [if_neg List.not_mem_nil]; rfl
  | cons x l ih =>
    intro σ hnd
    have hnd2 := List.nodup_cons.mp hnd
    rw [mvF, ih _ hnd2.2]
    by_cases c : j = x
    · subst c
      rw [if_neg hnd2.1, if_pos List.mem_cons_self, mv_nf hw, if_pos rfl]
    · have hs : ∀ w, w < 8 → nf (rfMv σ x) j w = nf σ j w := fun w hw => by rw [mv_nf hw, if_neg c]
      rw [MV_congr hs hw, hs w hw]
      by_cases d : j ∈ l
      · rw [if_pos d, if_pos (List.mem_cons_of_mem _ d)]
      · rw [if_neg d, if_neg (fun z => (List.mem_cons.mp z).elim c d)]
theorem mvN_nf {σ : Nat → Int32} {j w : Nat} (hw : w < 8) (m : Nat) : nf (rfMvN σ m) j w = if j < m then MV σ j w else nf σ j w := by
  induction m generalizing j w with
  | zero => rw [if_neg (Nat.not_lt_zero j), rfMvN, nf_lo (by omega)]
  | succ i ih =>
    rw [rfMvN, mv_nf hw]
    by_cases c : j = i
    · rw [if_pos c, c, if_pos (show i < i + 1 by omega)]
      exact MV_congr (fun w hw => by rw [ih hw, if_neg (Nat.lt_irrefl i)]) hw
    · rw [if_neg c, ih hw]
      by_cases d : j < i
      · rw [if_pos d, if_pos (by omega)]
      · rw [if_neg d, if_neg (by omega)]
theorem mvN_lo1 {σ : Nat → Int32} (m : Nat) : rfMvN σ m 1 = σ 1 + nI 1 := by
  induction m with
  | zero => rw [rfMvN, upd_if, if_pos rfl]
  | succ i ih => rw [rfMvN, rfMv_0 (by omega), ih]
theorem mvN_L3 {kk : Nat} (hk : ¬ kk = 3) (i : Nat) : ∀ χ : CS, (mvN kk i χ).2.1 3 = χ.2.1 3 := by
  induction i with
  | zero => intro χ; rfl
  | succ i ih =>
    intro χ
    rw [mvN, ih]
    unfold mvStep
    by_cases c : ntSings (setT χ (ntMove χ.1 (lnAt (χ.2.1 kk) (nI i)))).1 (lnAt (χ.2.1 kk) (nI i))
    · rw [if_pos c]; rfl
    · rw [if_neg c]
      show (if 3 = kk then _ else χ.2.1 3) = χ.2.1 3
      rw [if_neg (fun z => hk z.symm)]
theorem odN_L3 (i : Nat) : ∀ χ : CS, (odN i χ).2.1 3 = χ.2.1 3 := by
  induction i with
  | zero => intro χ; rfl
  | succ i ih =>
    intro χ
    rw [odN]
    by_cases c : 0 < (χ.2.1 2).length
    · rw [if_pos c]
      by_cases d : odV χ = (-1) ∧ chFree χ = 0
      · rw [if_pos d]
      · rw [if_neg d, ih]
        unfold odStep
        by_cases e : odV χ = (-1)
        · rw [if_pos e]; rfl
        · rw [if_neg e]; rfl
    · rw [if_neg c]
theorem ci_hi {n j : Nat} (h1 : 9 ≤ j) (h2 : j < 70) : ∀ (f k : Nat) (σ : Nat → Int32), rfCi n f k σ j = σ j := by
  intro f
  induction f with
  | zero => intro k σ; rfl
  | succ f ih =>
    intro k σ
    rw [rfCi]
    by_cases c : nf σ k 3 = 0
    · rw [if_pos c]
      cases hv : rfV σ (nf σ k 0) (nf σ k 1) n with
      | some v => simp only []; rw [ih, an_hi j h1 h2, nset_lo h2]
      | none =>
        simp only []
        by_cases c2 : rfPlc σ n < σ 6
        · rw [if_pos c2, ih, sg_hi j h1 h2]
        · rw [if_neg c2]
    · rw [if_neg c, ih]
theorem tick_L3 (χ : CS) : (chTick χ).2.1 3 = χ.2.1 3 := by
  unfold chTick chDoor
  rw [odN_L3]
  unfold chMove
  rw [mvN_L3 (by omega), mvN_L3 (by omega)]; rfl
theorem tick_hi {σ : Nat → Int32} {n j : Nat} (h1 : 9 ≤ j) (h2 : j < 70) : rfTick σ n j = σ j := by
  rw [rfTick, ci_hi h1 h2, rfMvN_0 h2 (by omega)]
theorem Fo_tick {χ : CS} {σ : Nat → Int32} {n : Nat} (h : Fo χ σ) : Fo (chTick χ) (rfTick σ n) := Fo_same h (tick_L3 χ) (fun j h1 h2 => tick_hi h1 h2)
section
variable {F : Prop} {C n : Nat} {χ : CS} {σ : Nat → Int32} {P Q D : List Nat}
theorem at_mid {A B : List Nat} {x : Nat} (h : (A ++ x :: B).length < 2 ^ 31) : lnAt ((A ++ x :: B).map nI) (nI A.length) = nI x := by
  have hl : A.length < (A ++ x :: B).length := by rw [List.length_append, List.length_cons]; omega
  rw [lnAt_nI (by rw [List.length_map]; exact hl) (by rw [List.length_map]; exact h), List.getD_eq_getElem?_getD, List.getElem?_map, List.getElem?_append_right (Nat.le_refl _), Nat.sub_self]
  rfl
theorem fl_mid {A B : List Nat} {x : Nat} (h : (A ++ x :: B).Nodup) : (A ++ x :: B).filter (fun y => decide (¬ y = x)) = A ++ B := by
  have h1 := List.nodup_append.mp h
  have h2 := List.nodup_cons.mp h1.2.1
  rw [List.filter_append, List.filter_cons, if_neg (by simp), fl_no h2.1, fl_no (fun z => h1.2.2 x z x List.mem_cons_self rfl)]
theorem mv_P (R : List Nat) : ∀ (B : List Nat) (χ : CS) (σ : Nat → Int32), Sm F C n χ σ (R.reverse ++ B) Q D → ∃ P', Sm F C n (mvN 0 R.length χ) (mvF R σ) P' Q D := by
  induction R with
  | nil => intro B χ σ h; exact ⟨_, h⟩
  | cons x R ih =>
    intro B χ σ h
    rw [List.reverse_cons, List.append_assoc] at h
    have h : Sm F C n χ σ (R.reverse ++ x :: B) Q D := h
    have hl := h.2.2.1.2.2.2.2.2.2.1
    have hx : x ∈ R.reverse ++ x :: B := by simp
    have hxQ : ¬ x ∈ Q := fun z => by have := ((sm_Q h).mp z).2; have q := ((sm_P h).mp hx).2; unfold rfPl at q; rw [this] at q; exact absurd q.2 (by decide)
    have hst : mvStep 0 χ R.length = mvd 0 χ x := by
      unfold mvStep mvd
      rw [h.2.2.2.1, ← List.length_reverse (as := R), at_mid (by omega)]
    rw [List.length_cons, mvN, mvF, hst]
    rcases sm_move h (Or.inl ⟨rfl, hx⟩) with g | g
    · exact ih (x :: B) _ _ g
    · rw [fl_mid (sm_Pnd h), fl_no hxQ] at g
      exact ih B _ _ g
theorem mv_Q (R : List Nat) : ∀ (B : List Nat) (χ : CS) (σ : Nat → Int32), Sm F C n χ σ P (R.reverse ++ B) D → ∃ Q', Sm F C n (mvN 1 R.length χ) (mvF R σ) P Q' D := by
  induction R with
  | nil => intro B χ σ h; exact ⟨_, h⟩
  | cons x R ih =>
    intro B χ σ h
    rw [List.reverse_cons, List.append_assoc] at h
    have h : Sm F C n χ σ P (R.reverse ++ x :: B) D := h
    have hl := h.2.2.1.2.2.2.2.2.2.2.1
    have hx : x ∈ R.reverse ++ x :: B := by simp
    have hxP : ¬ x ∈ P := fun z => by have := ((sm_Q h).mp hx).2; have q := ((sm_P h).mp z).2; unfold rfPl at q; rw [this] at q; exact absurd q.2 (by decide)
    have hst : mvStep 1 χ R.length = mvd 1 χ x := by
      unfold mvStep mvd
      rw [h.2.2.2.2.1, ← List.length_reverse (as := R), at_mid (by omega)]
    rw [List.length_cons, mvN, mvF, hst]
    rcases sm_move h (Or.inr ⟨rfl, hx⟩) with g | g
    · exact ih (x :: B) _ _ g
    · rw [fl_mid (sm_Qnd h), fl_no hxP] at g
      exact ih B _ _ g
theorem sm_time (h : Sm F C n χ σ P Q D) : Sm F C n (setS χ 1 (χ.2.2.2 1 + nI 1)) (upd σ 1 (σ 1 + nI 1)) P Q D := by
  have hsc := h.1
  refine sm_lo h rfl ⟨rfl, rfl, rfl⟩ (fun j w hw => nf_lo (by omega)) (pk_un (by omega)) ?_
  refine sc_of hsc hsc.1 ((pk_un (by omega)).trans hsc.2.1) hsc.2.2.1 (fun j hj hj5 hF => ?_) rfl ⟨pk_un (by omega), pk_un (by omega), pk_un (by omega)⟩
  show (if j = 1 then χ.2.2.2 1 + nI 1 else χ.2.2.2 j) = upd σ 1 (σ 1 + nI 1) j
  rw [upd_if, hsc.2.2.2.1 j hj hj5 hF, hsc.2.2.2.1 1 (by omega) (by omega) (Or.inr (by omega))]
theorem sm_mvs (h : Sm F C n χ σ P Q D) : ∃ P' Q', Sm F C n (chMove 1 (chMove 0 (setS χ 1 (χ.2.2.2 1 + nI 1)))) (rfMvN σ n) P' Q' D := by
  have h1 := sm_time h
  obtain ⟨P', h2⟩ := mv_P P.reverse [] _ _ (show Sm F C n (setS χ 1 (χ.2.2.2 1 + nI 1)) (upd σ 1 (σ 1 + nI 1)) (P.reverse.reverse ++ []) Q D by rw [List.reverse_reverse, List.append_nil]; exact h1)
  have e0 : mvN 0 P.reverse.length (setS χ 1 (χ.2.2.2 1 + nI 1)) = chMove 0 (setS χ 1 (χ.2.2.2 1 + nI 1)) := by
    unfold chMove; rw [h1.2.2.2.1, List.length_map, List.length_reverse]
  rw [e0] at h2
  obtain ⟨Q', h3⟩ := mv_Q Q.reverse [] _ _ (show Sm F C n (chMove 0 (setS χ 1 (χ.2.2.2 1 + nI 1))) (mvF P.reverse (upd σ 1 (σ 1 + nI 1))) P' (Q.reverse.reverse ++ []) D by rw [List.reverse_reverse, List.append_nil]; exact h2)
  have e1 : mvN 1 Q.reverse.length (chMove 0 (setS χ 1 (χ.2.2.2 1 + nI 1))) = chMove 1 (chMove 0 (setS χ 1 (χ.2.2.2 1 + nI 1))) := by
    unfold chMove; rw [← List.length_map (f := nI) (as := Q.reverse), List.map_reverse, ← h2.2.2.2.2.1, List.length_reverse]; rfl
  rw [e1] at h3
  refine ⟨P', Q', sm_eq h3 (fun j w hw => ?_) (fun j hj => ?_)⟩
  · have hPn : P.reverse.Nodup := List.pairwise_reverse.mpr ((sm_Pnd h).imp Ne.symm)
    have hQn : Q.reverse.Nodup := List.pairwise_reverse.mpr ((sm_Qnd h).imp Ne.symm)
    have hu : ∀ w, w < 8 → nf (upd σ 1 (σ 1 + nI 1)) j w = nf σ j w := fun w hw => nf_lo (by omega)
    rw [mvN_nf hw, mvF_nf hw _ _ hQn]
    have hP2 : ∀ w, w < 8 → nf (mvF P.reverse (upd σ 1 (σ 1 + nI 1))) j w = if j ∈ P then MV σ j w else nf σ j w := fun w hw => by
      rw [mvF_nf hw _ _ hPn, MV_congr hu hw, hu w hw]; simp only [List.mem_reverse]
    by_cases cP : j ∈ P
    · have hjn := ((sm_P h).mp cP)
      have cQ : ¬ j ∈ Q.reverse := fun z => by
        have := ((sm_Q h).mp (List.mem_reverse.mp z)).2; have q := hjn.2; unfold rfPl at q; rw [this] at q; exact absurd q.2 (by decide)
      rw [if_neg cQ, hP2 w hw, if_pos cP, if_pos hjn.1]
    · have hP3 : ∀ w, w < 8 → nf (mvF P.reverse (upd σ 1 (σ 1 + nI 1))) j w = nf σ j w := fun w hw => by rw [hP2 w hw, if_neg cP]
      by_cases cQ : j ∈ Q
      · rw [if_pos (List.mem_reverse.mpr cQ), MV_congr hP3 hw, if_pos ((sm_Q h).mp cQ).1]
      · rw [if_neg (fun z => cQ (List.mem_reverse.mp z)), hP3 w hw]
        by_cases d : j < n
        · rw [if_pos d]
          obtain ⟨p, s, x, v, m, b1, b2, b3, b4, b5, b6, b7, b8, b9, -⟩ := (h.2.1 j d).2
          have n1 : ¬ (1 ≤ x ∧ x ≤ 4) := fun z => cP ((sm_P h).mpr ⟨d, (ph_pl b4 b9).mpr z⟩)
          have n2 : ¬ x = 5 := fun z => cQ ((sm_Q h).mpr ⟨d, by rw [b9, z]⟩)
          have ne : ∀ y, y ≤ 6 → ¬ x = y → ¬ nf σ j 3 = nI y := fun y hy hne => by rw [b9, nI_eq (by omega) (by omega)]; exact hne
          unfold MV mvp mvl
          rw [if_neg (ne 1 (by omega) (by omega)), if_neg (ne 2 (by omega) (by omega)), if_neg (ne 4 (by omega) (by omega)), if_neg (ne 5 (by omega) (by omega)), if_neg (ne 1 (by omega) (by omega)), if_neg (ne 2 (by omega) (by omega)), if_neg (ne 4 (by omega) (by omega)), if_neg (ne 5 (by omega) (by omega))]
          by_cases w3 : w = 3
          · rw [if_pos w3, w3]
          · rw [if_neg w3]
            by_cases w4 : w = 4
            · rw [if_pos w4, w4]
            · rw [if_neg w4]
        · rw [if_neg d]
  · rw [mvF_lo (by omega), mvF_lo (by omega), upd_if]
    by_cases c : j = 1
    · rw [if_pos c, c, mvN_lo1]
    · rw [if_neg c, rfMvN_0 (by omega) c]
theorem sm_ci (hC : C < 2 ^ 30) (f : Nat) : ∀ (k : Nat) (χ : CS) (σ : Nat → Int32) (P Q D : List Nat) (m : Nat), f = n - k → Sm F C n χ σ P Q D → (∀ d, d ∈ D → k ≤ d) → D.length ≤ m → ∃ P' Q' D', Sm F C n (odN m χ) (rfCi n f k σ) P' Q' D' ∧ D'.length ≤ D.length := by
  induction f with
  | zero =>
    intro k χ σ P Q D m hf h hd hm
    have hD : D = [] := List.eq_nil_iff_forall_not_mem.mpr (fun d hdd => by have := hd d hdd; have := ((sm_D h).mp hdd).1; omega)
    have e : odN m χ = χ := by
      cases m with
      | zero => rfl
      | succ m => rw [odN, h.2.2.2.2.2, hD, if_neg (by simp)]
    rw [e, rfCi]
    exact ⟨P, Q, D, h, Nat.le_refl _⟩
  | succ f ih =>
    intro k χ σ P Q D m hf h hd hm
    have hkn : k < n := by omega
    have hk2 : k < 200 := by have := sm_n h; omega
    rw [rfCi]
    by_cases c : nf σ k 3 = 0
    · rw [if_pos c]
      have hkD : k ∈ D := (sm_D h).mpr ⟨hkn, by rw [nI_0]; exact c⟩
      have hpw := h.2.2.1.2.2.2.2.2.1
      obtain ⟨D', hDD⟩ : ∃ D', D = k :: D' := by
        cases D with
        | nil => cases hkD
        | cons d D' =>
          rcases List.mem_cons.mp hkD with e | e
          · exact ⟨D', by rw [e]⟩
          · have := (List.pairwise_cons.mp hpw).1 k e
            have := hd d List.mem_cons_self
            omega
      obtain ⟨m, rfl⟩ : ∃ m', m = m' + 1 := ⟨m - 1, by rw [hDD, List.length_cons] at hm; omega⟩
      have hfl : D.filter (fun x => decide (¬ x = k)) = D' := by
        have hn := sm_Dnd h
        rw [hDD] at hn ⊢
        have := fl_mid (A := []) hn
        simpa using this
      have hlen : D'.length + 1 = D.length := by rw [hDD, List.length_cons]
      have hd' : ∀ d, d ∈ D' → k + 1 ≤ d := fun d hdd => by
        rw [hDD] at hpw; have := (List.pairwise_cons.mp hpw).1 d hdd; omega
      have hX : odX χ = nI k := by
        unfold odX; rw [h.2.2.2.2.2, hDD]
        exact at_mid (A := []) (by rw [hDD] at hm; have := h.2.2.1.2.2.2.2.2.2.2.2.1; rw [hDD] at this; exact Nat.lt_of_le_of_lt this (by omega))
      have hV : odV χ = chVoice χ (nf σ k 0) (nf σ k 1) := by
        unfold odV; rw [hX, sm_gD h hkD 0 (by omega) (by omega), sm_gD h hkD 1 (by omega) (by omega)]
      have hpos : 0 < (χ.2.1 2).length := by rw [h.2.2.2.2.2, List.length_map]; omega
      rw [odN, if_pos hpos]
      rcases sm_voice h (nf σ k 0) (nf σ k 1) with ⟨e, e2, hno⟩ | ⟨j, hj, e, e2, -⟩
      · rw [e]
        simp only []
        obtain ⟨a, ha1, ha8, e6, hfr, -⟩ := sm_free h
        have hP8 : P.length ≤ 8 := h.2.2.1.2.2.2.2.2.2.1
        rw [sm_plc h, e6]
        by_cases g : P.length < a
        · rw [if_pos (nI_lt g (by omega)), if_neg (fun z => by have := z.2; rw [hfr, ← nI_0, nI_eq (by omega) (by omega)] at this; omega)]
          have hs : odStep χ = chCome (lR χ 2 (nI k)) (nI k) := by unfold odStep; rw [hV, e2, if_pos rfl, hX]
          rw [hs]
          have h1 := sm_sing h hC hkD (by omega) hno
          rw [hfl] at h1
          obtain ⟨P2, Q2, D2, g1, g2⟩ := ih (k + 1) _ _ _ _ _ m (by omega) h1 hd' (by omega)
          exact ⟨P2, Q2, D2, g1, by omega⟩
        · rw [if_neg (nI_nlt (by omega) (by omega)), if_pos ⟨by rw [hV, e2], by rw [hfr, show a - P.length = 0 from by omega, nI_0]⟩]
          exact ⟨P, Q, D, h, Nat.le_refl _⟩
      · rw [e]
        simp only []
        have hj2 := sm_P2 h j hj
        have hjV : ¬ odV χ = (-1) := by rw [hV, e2]; exact nI_m1 (by omega)
        rw [if_neg (fun z => hjV z.1)]
        obtain ⟨s, s1, s2, s3⟩ := sm_str h hkn
        have hg := sm_gone h hkD
        have hst : nf (nset σ k 3 (nI 6)) k 2 = nI s := (nf_w (by omega) (by omega) (by omega)).trans s3
        have hs : odStep χ = chAnew (setT (lR χ 2 (nI k)) (ntEnd (lR χ 2 (nI k)).1 (nI k))) (nI j) (nI s) := by
          unfold odStep; rw [if_neg hjV, hX, hV, e2]
          congr 1
          show ntG (ntPut χ.1 3 (nI k) (nI 6)) 2 (nI k) = nI s
          rw [ntG_nI hk2, ntPut_at hk2, if_neg (by omega), ← s3]
          exact (h.2.1 k hkn).1.1 (Or.inr (by rw [c]; decide)) 2 (by omega) (by omega)
        rw [hs, hst]
        have h1 := sm_anew hg.2 (by omega) hj s1 s2
        rw [hfl, Nat.sub_add_cancel hg.1] at h1
        obtain ⟨P2, Q2, D2, g1, g2⟩ := ih (k + 1) _ _ _ _ _ m (by omega) h1 hd' (by omega)
        exact ⟨P2, Q2, D2, g1, by omega⟩
    · rw [if_neg c]
      exact ih (k + 1) χ σ P Q D m (by omega) h (fun d hdd => by
        have h1 := hd d hdd
        have h2 := ((sm_D h).mp hdd).2
        rw [nI_0] at h2
        have : ¬ d = k := fun z => c (by rw [← z]; exact h2)
        omega) hm
theorem sm_tick (h : Sm F C n χ σ P Q D) (hC : C < 2 ^ 30) (hD6 : D.length ≤ 6) : ∃ P' Q' D', Sm F C n (chTick χ) (rfTick σ n) P' Q' D' ∧ D'.length ≤ 6 := by
  obtain ⟨P1, Q1, h1⟩ := sm_mvs h
  obtain ⟨P2, Q2, D2, h2, h3⟩ := sm_ci hC n 0 _ _ _ _ _ 6 (by omega) h1 (fun d _ => Nat.zero_le d) hD6
  exact ⟨P2, Q2, D2, h2, by omega⟩
theorem st_tick (h : St C n χ σ) (hC : C < 2 ^ 30) : St C n (chTick χ) (rfTick σ n) := by
  obtain ⟨P, Q, D, h1, h2, h3⟩ := h
  obtain ⟨P2, Q2, D2, g1, g2⟩ := sm_tick h1 hC h2
  exact ⟨P2, Q2, D2, g1, g2, Fo_tick h3⟩
end
