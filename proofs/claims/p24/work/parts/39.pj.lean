/-! 39.pj: pedal, set; fades in a row -/
def FD (σ : Nat → Int32) (j w : Nat) : Int32 := if w = 3 then nI 4 else if w = 5 then nf σ j 4 else if w = 6 then nI 0 else nf σ j w
def fdL (q : Nat → Bool) : List Nat → (Nat → Int32) → (Nat → Int32)
  | [], σ => σ
  | x :: l, σ => fdL q l (if q x then rfFades σ x else σ)
theorem fd_FD {σ : Nat → Int32} {k j w : Nat} (hw : w < 8) : nf (rfFades σ k) j w = if j = k then FD σ k w else nf σ j w := fd_nf hw
theorem fdL_lo {q : Nat → Bool} {j : Nat} (hj : j < 70) (l : List Nat) : ∀ σ, fdL q l σ j = σ j := by
  induction l with
  | nil => intro σ; rfl
  | cons x l ih =>
    intro σ
    rw [fdL, ih]
    by_cases c : q x
    · rw [if_pos c]; exact rfFades_0 hj
    · rw [if_neg c]
theorem fdL_nf {q : Nat → Bool} {j w : Nat} (hw : w < 8) (l : List Nat) : ∀ σ, l.Nodup → nf (fdL q l σ) j w = if j ∈ l ∧ q j = true then FD σ j w else nf σ j w := by
  induction l with
  | nil => intro σ _; rw [if_neg (fun z => by cases z.1)]; rfl
  | cons x l ih =>
    intro σ hnd
    have hnd2 := List.nodup_cons.mp hnd
    rw [fdL, ih _ hnd2.2]
    by_cases c : j = x
    · subst c
      rw [if_neg (fun z => hnd2.1 z.1)]
      by_cases d : q j = true
      · rw [if_pos d, if_pos ⟨List.mem_cons_self, d⟩, fd_FD hw, if_pos rfl]
      · rw [if_neg d, if_neg (fun z => d z.2)]
    · have hs : ∀ w, w < 8 → nf (if q x = true then rfFades σ x else σ) j w = nf σ j w := fun w hw => by
        by_cases d : q x = true
        · rw [if_pos d, fd_FD hw, if_neg c]
        · rw [if_neg d]
      have hF : FD (if q x = true then rfFades σ x else σ) j w = FD σ j w := by unfold FD; rw [hs w hw, hs 4 (by omega)]
      have hm : (j ∈ x :: l ∧ q j = true) ↔ (j ∈ l ∧ q j = true) := by
        rw [List.mem_cons]; exact ⟨fun z => ⟨z.1.elim (fun e => absurd e c) id, z.2⟩, fun z => ⟨Or.inr z.1, z.2⟩⟩
      rw [hF, hs w hw]
      by_cases d : j ∈ l ∧ q j = true
      · rw [if_pos d, if_pos (hm.mpr d)]
      · rw [if_neg d, if_neg (fun z => d (hm.mp z))]
theorem ln_2 {σ : Nat → Int32} (m : Nat) : (rfLN σ m).1 2 = nI 0 := by
  induction m with
  | zero => show upd σ 2 (nI 0) 2 = nI 0; exact if_pos rfl
  | succ i ih =>
    rw [rfLN]
    by_cases g : rfPl (rfLN σ i).1 i ∧ nf (rfLN σ i).1 i 6 = nI 1
    · rw [if_pos g]; show rfFades (rfLN σ i).1 i 2 = nI 0; rw [rfFades_0 (by omega)]; exact ih
    · rw [if_neg g]; exact ih
section
variable {F : Prop} {C n : Nat} {χ : CS} {σ : Nat → Int32} {P Q D : List Nat}
theorem sm_lo {χ' : CS} {σ' : Nat → Int32} (h : Sm F C n χ σ P Q D) (hT : χ'.1 = χ.1) (hL : χ'.2.1 0 = χ.2.1 0 ∧ χ'.2.1 1 = χ.2.1 1 ∧ χ'.2.1 2 = χ.2.1 2) (hnf : ∀ j w, w < 8 → nf σ' j w = nf σ j w) (h5 : σ' 5 = σ 5) (hsc : SC F n χ' σ') : Sm F C n χ' σ' P Q D := by
  obtain ⟨-, hnt, ⟨a1, a2, a3, a4, a5, a6, a7, a8, a9, a10, S, c1, c2, c3⟩, l0, l1, l2⟩ := h
  refine ⟨hsc, fun j hj => nr_same (hnt j hj) (fun w hw => hnf j w (by omega)) (fun w hw => by rw [hT]), ⟨fun j => ?_, fun j => ?_, fun j => ?_, ?_, a5, a6, a7, a8, a9, ?_, S, h5.trans c1, c2, ?_⟩, hL.1.trans l0, hL.2.1.trans l1, hL.2.2.trans l2⟩
  · unfold rfPl; rw [hnf j 3 (by omega)]; exact a1 j
  · rw [hnf j 3 (by omega)]; exact a2 j
  · rw [hnf j 3 (by omega)]; exact a3 j
  · exact a4.imp (fun {a b} hab => by rw [hnf a 7 (by omega), hnf b 7 (by omega)]; exact hab)
  · intro a ha b hb e0 e1
    rw [hnf a 0 (by omega), hnf b 0 (by omega)] at e0
    rw [hnf a 1 (by omega), hnf b 1 (by omega)] at e1
    exact a10 a ha b hb e0 e1
  · intro j hj
    obtain ⟨g, e, hg⟩ := c3 j hj
    exact ⟨g, by rw [hnf j 7 (by omega)]; exact e, hg⟩
theorem sm_eq {σ' : Nat → Int32} (h : Sm F C n χ σ P Q D) (hnf : ∀ j w, w < 8 → nf σ' j w = nf σ j w) (hlo : ∀ j, j < 9 → σ' j = σ j) : Sm F C n χ σ' P Q D := by
  refine sm_lo h rfl ⟨rfl, rfl, rfl⟩ hnf (hlo 5 (by omega)) ?_
  have hsc := h.1
  refine sc_of hsc hsc.1 ?_ hsc.2.2.1 (fun j hj hj5 hF => ?_) rfl ⟨hlo 6 (by omega), hlo 7 (by omega), hlo 8 (by omega)⟩
  · rw [hlo 0 (by omega)]; exact hsc.2.1
  · rw [hlo j (by omega)]; exact hsc.2.2.2.1 j hj hj5 hF
theorem mp_fold {q : Nat → Bool} (l : List Nat) : ∀ (χ : CS) (σ : Nat → Int32) (z : Int32), Sm F C n χ σ P Q D → (∀ k, k ∈ l → k ∈ P) → l.Nodup → (∀ k, k ∈ l → (q k = true ↔ nf σ k 6 = nI 1)) →
    Sm F C n ((l.map nI).foldl (mpStep (nI 0)) (χ, z)).1 (fdL q l σ) P Q D ∧ ((l.map nI).foldl (mpStep (nI 0)) (χ, z)).2 = z + zs (fun k => if q k then nI 1 else nI 0) l := by
  induction l with
  | nil => intro χ σ z h _ _ _; rw [List.map_nil, List.foldl_nil, zs, az0]; exact ⟨h, rfl⟩
  | cons x l ih =>
    intro χ σ z h hP hnd hq
    have hnd2 := List.nodup_cons.mp hnd
    have hx := hP x List.mem_cons_self
    have hqx := hq x List.mem_cons_self
    rw [List.map_cons, List.foldl_cons, fdL, zs]
    by_cases c : nf σ x 6 = nI 1
    · have e : mpStep (nI 0) (χ, z) (nI x) = (setT χ (ntDown χ.1 (nI x) (nI 4)), z + nI 1) := by
        unfold mpStep; rw [if_pos ⟨nI_0, by rw [sm_gP h hx 6 (by omega) (by omega)]; exact c⟩]
      rw [e, if_pos (hqx.mpr c), if_pos (hqx.mpr c), ← Int32.add_assoc]
      refine ih _ _ _ (sm_fade h hx) (fun k hk => hP k (List.mem_cons_of_mem _ hk)) hnd2.2 (fun k hk => ?_)
      rw [fd_FD (by omega), if_neg (show ¬ k = x from fun z => hnd2.1 (z ▸ hk))]
      exact hq k (List.mem_cons_of_mem _ hk)
    · have e : mpStep (nI 0) (χ, z) (nI x) = (χ, z) := by
        unfold mpStep; rw [if_neg (fun z => c (by have := z.2; rw [sm_gP h hx 6 (by omega) (by omega)] at this; exact this))]
      rw [e, if_neg (fun z => c (hqx.mp z)), if_neg (fun z => c (hqx.mp z)), z0a]
      exact ih _ _ _ h (fun k hk => hP k (List.mem_cons_of_mem _ hk)) hnd2.2 (fun k hk => hq k (List.mem_cons_of_mem _ hk))
theorem la_fold {q : Nat → Bool} (l : List Nat) : ∀ (χ : CS) (σ : Nat → Int32), Sm F C n χ σ P Q D → (∀ k, k ∈ l → k ∈ P) → l.Nodup → (∀ k, k ∈ l → (q k = true ↔ ¬ nf σ k 3 = nI 4)) →
    Sm F C n ((l.map nI).foldl laStep χ) (fdL q l σ) P Q D := by
  induction l with
  | nil => intro χ σ h _ _ _; rw [List.map_nil, List.foldl_nil]; exact h
  | cons x l ih =>
    intro χ σ h hP hnd hq
    have hnd2 := List.nodup_cons.mp hnd
    have hx := hP x List.mem_cons_self
    have hqx := hq x List.mem_cons_self
    rw [List.map_cons, List.foldl_cons, fdL]
    by_cases c : nf σ x 3 = nI 4
    · have e : laStep χ (nI x) = χ := by
        unfold laStep; rw [if_pos (by rw [sm_gP h hx 3 (by omega) (by omega)]; exact c)]
      rw [e, if_neg (fun z => (hqx.mp z) c)]
      exact ih _ _ h (fun k hk => hP k (List.mem_cons_of_mem _ hk)) hnd2.2 (fun k hk => hq k (List.mem_cons_of_mem _ hk))
    · have e : laStep χ (nI x) = setT χ (ntDown χ.1 (nI x) (nI 4)) := by
        unfold laStep; rw [if_neg (fun z => c (by rw [sm_gP h hx 3 (by omega) (by omega)] at z; exact z))]
      rw [e, if_pos (hqx.mpr c)]
      refine ih _ _ (sm_fade h hx) (fun k hk => hP k (List.mem_cons_of_mem _ hk)) hnd2.2 (fun k hk => ?_)
      rw [fd_FD (by omega), if_neg (show ¬ k = x from fun z => hnd2.1 (z ▸ hk))]
      exact hq k (List.mem_cons_of_mem _ hk)
theorem ln_nf {σ : Nat → Int32} {j w : Nat} (hw : w < 8) (m : Nat) : nf (rfLN σ m).1 j w = if j < m ∧ rfPl σ j ∧ nf σ j 6 = nI 1 then FD σ j w else nf σ j w := by
  induction m generalizing j w with
  | zero => rw [if_neg (fun z => absurd z.1 (Nat.not_lt_zero j)), rfLN, nf_lo (by omega)]
  | succ i ih =>
    have hi : ∀ w, w < 8 → nf (rfLN σ i).1 i w = nf σ i w := fun w hw => by rw [ih hw, if_neg (fun z => absurd z.1 (Nat.lt_irrefl i))]
    rw [rfLN]
    have hc : (rfPl (rfLN σ i).1 i ∧ nf (rfLN σ i).1 i 6 = nI 1) ↔ (rfPl σ i ∧ nf σ i 6 = nI 1) := by unfold rfPl; rw [hi 3 (by omega), hi 6 (by omega)]
    by_cases c : rfPl σ i ∧ nf σ i 6 = nI 1
    · rw [if_pos (hc.mpr c)]
      show nf (rfFades (rfLN σ i).1 i) j w = _
      rw [fd_FD hw]
      by_cases d : j = i
      · rw [if_pos d, d, if_pos ⟨by omega, c⟩]
        unfold FD; rw [hi 4 (by omega), hi w hw]
      · rw [if_neg d, ih hw]
        by_cases e : j < i ∧ rfPl σ j ∧ nf σ j 6 = nI 1
        · rw [if_pos e, if_pos ⟨by omega, e.2⟩]
        · rw [if_neg e, if_neg (fun z => e ⟨by omega, z.2⟩)]
    · rw [if_neg (fun z => c (hc.mp z)), ih hw]
      by_cases e : j < i ∧ rfPl σ j ∧ nf σ j 6 = nI 1
      · rw [if_pos e, if_pos ⟨by omega, e.2⟩]
      · rw [if_neg e, if_neg (fun z => by
          by_cases d : j = i
          · subst d; exact c z.2
          · exact e ⟨by omega, z.2⟩)]
theorem ln_ct (σ : Nat → Int32) (m : Nat) : (rfLN σ m).2 = zs (fun _ => nI 1) (rg m (fun j => rfPl σ j ∧ nf σ j 6 = nI 1)) := by
  refine zs_rg (R := fun m => (rfLN σ m).2) rfl (fun i => ?_) m
  have hi : ∀ w, w < 8 → nf (rfLN σ i).1 i w = nf σ i w := fun w hw => by rw [ln_nf hw, if_neg (fun z => absurd z.1 (Nat.lt_irrefl i))]
  have hc : (rfPl (rfLN σ i).1 i ∧ nf (rfLN σ i).1 i 6 = nI 1) ↔ (rfPl σ i ∧ nf σ i 6 = nI 1) := by unfold rfPl; rw [hi 3 (by omega), hi 6 (by omega)]
  show (rfLN σ (i + 1)).2 = (rfLN σ i).2 + _
  rw [rfLN]
  by_cases c : rfPl σ i ∧ nf σ i 6 = nI 1
  · rw [if_pos (hc.mpr c), if_pos c]
  · rw [if_neg (fun z => c (hc.mp z)), if_neg c, az0]
theorem sm_pd (h : Sm F C n χ σ P Q D) (d : Int32) : Sm F C n (setS χ 2 d) (upd σ 2 d) P Q D := by
  have hsc := h.1
  refine sm_lo h rfl ⟨rfl, rfl, rfl⟩ (fun j w hw => nf_lo (by omega)) (pk_un (by omega)) ?_
  refine sc_of hsc hsc.1 ((pk_un (by omega)).trans hsc.2.1) hsc.2.2.1 (fun j hj hj5 hF => ?_) rfl ⟨pk_un (by omega), pk_un (by omega), pk_un (by omega)⟩
  show (if j = 2 then d else χ.2.2.2 j) = upd σ 2 d j
  rw [upd_if, hsc.2.2.2.1 j hj hj5 hF]
theorem k_ped (h : Sm True C n χ σ P Q D) (hD6 : D.length ≤ 6) (hf : Fo χ σ) (da : Int32) : CH C (bxPed χ da) (rfPd σ n da) := by
  unfold bxPed rfPd
  by_cases c0 : da < 0
  · rw [if_pos c0, if_neg (fun z => absurd z.1 (by rw [nI_0]; exact Int32.not_le.mpr c0))]; exact ⟨rfl, Or.inl ⟨rfl, rfl⟩⟩
  by_cases c1 : da ≤ nI 1
  rotate_left
  · rw [if_neg c0, if_neg c1, if_neg (fun z => c1 z.2)]; exact ⟨rfl, Or.inl ⟨rfl, rfl⟩⟩
  rw [if_neg c0, if_pos c1, if_pos (show nI 0 ≤ da ∧ da ≤ nI 1 from ⟨by rw [nI_0]; exact Int32.not_lt.mp c0, c1⟩), h.1.2.2.2.1 2 (by omega) (by omega) (Or.inl trivial)]
  by_cases c2 : da = σ 2
  · rw [if_pos c2, if_pos c2.symm]; exact ⟨rfl, Or.inl ⟨rfl, rfl⟩⟩
  rw [if_neg c2, if_neg (fun z => c2 z.symm)]
  obtain ⟨d, hd, rfl⟩ := i_nat (by omega) (by rw [nI_0]; exact Int32.not_lt.mp c0) c1
  have hs := sm_pd h (nI d)
  have hl0 : (setS χ 2 (nI d)).2.1 0 = P.map nI := h.2.2.2.1
  have : d = 0 ∨ d = 1 := by omega
  rcases this with rfl | rfl
  · rw [if_neg (by decide)]
    have hm := mp_fold (q := fun k => decide (nf σ k 6 = nI 1)) P _ _ (nI 0) hs (fun _ z => z) (sm_Pnd h) (fun k hk => by rw [nf_lo (by omega), decide_eq_true_eq])
    have hct : chPed χ (nI 0) = (P.map nI).foldl (mpStep (nI 0)) (setS χ 2 (nI 0), nI 0) := by unfold chPed; rw [h.2.2.2.1]
    rw [← hct] at hm
    have hnf0 : ∀ j w, nf (upd σ 2 (nI 0)) j w = nf σ j w := fun j w => nf_lo (by omega)
    have hq : Sm True C n (chPed χ (nI 0)).1 (rfLN (upd σ 2 (nI 0)) n).1 P Q D := by
      refine sm_eq hm.1 (fun j w hw => ?_) (fun j hj => ?_)
      · rw [ln_nf hw, fdL_nf hw P _ (sm_Pnd h)]
        have e : (j < n ∧ rfPl (upd σ 2 (nI 0)) j ∧ nf (upd σ 2 (nI 0)) j 6 = nI 1) ↔ (j ∈ P ∧ decide (nf σ j 6 = nI 1) = true) := by
          unfold rfPl; rw [hnf0, hnf0, decide_eq_true_eq, ← and_assoc, sm_P h]
        by_cases g : j ∈ P ∧ decide (nf σ j 6 = nI 1) = true
        · rw [if_pos g, if_pos (e.mpr g)]
        · rw [if_neg g, if_neg (fun z => g (e.mp z))]
      · rw [fdL_lo (by omega)]
        by_cases c : j = 2
        · subst c
          rw [ln_2]; exact pk_us.symm
        · rw [rfLN_0 (by omega) c]
    refine ⟨?_, Or.inr ⟨_, n, rfl, rfl, _, _, _, hq, hD6, ?_⟩⟩
    · show (chPed χ (nI 0)).2 = (rfLN (upd σ 2 (nI 0)) n).2
      have hL : (P.filter (fun k => decide (nf σ k 6 = nI 1))).Perm (rg n (fun j => rfPl (upd σ 2 (nI 0)) j ∧ nf (upd σ 2 (nI 0)) j 6 = nI 1)) := by
        refine rg_perm ((sm_Pnd h).sublist List.filter_sublist) (fun k => ?_)
        rw [List.mem_filter, decide_eq_true_eq]
        unfold rfPl
        rw [hnf0, hnf0, sm_P h, and_assoc]
      rw [hm.2, ln_ct, ← zs_perm hL, zs_filter, z0a]
    · refine Fo_same hf ?_ (fun j h1 h2 => (rfLN_0 h2 (by omega)).trans (pk_un (by omega)))
      show ((χ.2.1 0).foldl (mpStep (nI 0)) (setS χ 2 (nI 0), nI 0)).1.2.1 3 = _
      rw [mpFold_L]; rfl
  · rw [if_pos rfl]
    have hct : chPed χ (nI 1) = (setS χ 2 (nI 1), nI 0) := by
      unfold chPed
      have : ∀ (L : List Int32) (r : CS × Int32), L.foldl (mpStep (nI 1)) r = r := fun L => by
        induction L with
        | nil => intro r; rfl
        | cons x L ih =>
          intro r
          rw [List.foldl_cons]
          have : mpStep (nI 1) r x = r := by unfold mpStep; rw [if_neg (fun z => absurd z.1 (by decide))]
          rw [this]; exact ih r
      rw [this]
    rw [hct]
    exact ⟨rfl, Or.inr ⟨_, n, rfl, rfl, _, _, _, hs, hD6, Fo_same hf rfl (fun j h1 h2 => pk_un (by omega))⟩⟩
theorem sm_set_of (h : Sm F C n χ σ P Q D) {w : Nat} (hw : w < 3) {v lo hi : Nat} (h1 : lo ≤ v) (h2 : v ≤ hi) (hb : (w = 0 → 1 ≤ lo ∧ hi ≤ 8) ∧ (w = 1 → hi ≤ 2) ∧ (w = 2 → 100 ≤ lo ∧ hi ≤ 8000)) : Sm F C n (setG χ (xput χ.2.2.1 3 (nI w) (nI v))) (upd σ (6 + w) (nI v)) P Q D := by
  obtain ⟨hn, e0, e1, e2, e3, e4, e5, e6⟩ := h.1
  refine sm_lo h rfl ⟨rfl, rfl, rfl⟩ (fun j w hw => nf_lo (by omega)) (pk_un (by omega)) ⟨hn, (pk_un (by omega)).trans e0, e1, fun j hj hj5 hF => (e2 j hj hj5 hF).trans (pk_un (by omega)).symm, fun j hj => ?_, ?_, ?_, ?_⟩
  · show xput χ.2.2.1 3 (nI w) (nI v) j = _
    rw [xput_nI (by decide) hw, upd_if, upd_if, e3 j hj]
    by_cases c : j = w
    · rw [if_pos c, if_pos (by rw [c])]
    · rw [if_neg c, if_neg (by omega)]
  · by_cases c : w = 0
    · subst c; exact ⟨v, by omega, by omega, pk_us⟩
    · rw [pk_un (by omega)]; exact e4
  · by_cases c : w = 1
    · subst c; exact ⟨v, by omega, pk_us⟩
    · rw [pk_un (by omega)]; exact e5
  · by_cases c : w = 2
    · subst c; exact ⟨v, by omega, by omega, pk_us⟩
    · rw [pk_un (by omega)]; exact e6
theorem k_set1 (h : Sm True C n χ σ P Q D) (hD6 : D.length ≤ 6) (hf : Fo χ σ) {w : Nat} (hw : w < 3) {lo hi : Nat} (h1 : lo ≤ hi) (h2 : hi ≤ 8000) (hb : (w = 0 → 1 ≤ lo ∧ hi ≤ 8) ∧ (w = 1 → hi ≤ 2) ∧ (w = 2 → 100 ≤ lo ∧ hi ≤ 8000)) (va : Int32) :
    CH C (if va < nI lo then ((-1), none) else if va ≤ nI hi then (xat χ.2.2.1 3 (nI w), some (setG χ (xput χ.2.2.1 3 (nI w) va))) else ((-1), none)) (if nI lo ≤ va ∧ va ≤ nI hi then (upd σ (6 + w) va, σ (6 + w), true) else (σ, (-1), false)) := by
  by_cases c1 : va < nI lo
  · rw [if_pos c1, if_neg (fun z => absurd z.1 (Int32.not_le.mpr c1))]; exact ⟨rfl, Or.inl ⟨rfl, rfl⟩⟩
  by_cases c2 : va ≤ nI hi
  rotate_left
  · rw [if_neg c1, if_neg c2, if_neg (fun z => c2 z.2)]; exact ⟨rfl, Or.inl ⟨rfl, rfl⟩⟩
  rw [if_neg c1, if_pos c2, if_pos (show nI lo ≤ va ∧ va ≤ nI hi from ⟨Int32.not_lt.mp c1, c2⟩)]
  obtain ⟨v, hv, rfl⟩ := i_nat (by omega) (Int32.le_trans (nI_le (Nat.zero_le lo) (by omega)) (Int32.not_lt.mp c1)) c2
  have hv1 : lo ≤ v := (nI_leI (by omega) (by omega)).mp (Int32.not_lt.mp c1)
  exact ⟨sm_set h w hw, Or.inr ⟨_, n, rfl, rfl, _, _, _, sm_set_of h hw hv1 hv hb, hD6, Fo_same hf rfl (fun j h1 h2 => pk_un (by omega))⟩⟩
theorem k_set (h : Sm True C n χ σ P Q D) (hD6 : D.length ≤ 6) (hf : Fo χ σ) (wa va : Int32) : CH C (bxSet χ wa va) (rfSt σ wa va) := by
  unfold bxSet rfSt
  by_cases c0 : wa < 0
  · rw [if_pos c0, if_neg (fun z => by rw [z] at c0; exact Int32.lt_irrefl c0), if_neg (fun z => by rw [z] at c0; exact absurd c0 (by decide)), if_neg (fun z => by rw [z] at c0; exact absurd c0 (by decide))]; exact ⟨rfl, Or.inl ⟨rfl, rfl⟩⟩
  by_cases c1 : nI 3 ≤ wa
  · rw [if_neg c0, if_pos c1, if_neg (fun z => by rw [z] at c1; exact absurd c1 (by decide)), if_neg (fun z => by rw [z] at c1; exact absurd c1 (by decide)), if_neg (fun z => by rw [z] at c1; exact absurd c1 (by decide))]; exact ⟨rfl, Or.inl ⟨rfl, rfl⟩⟩
  rw [if_neg c0, if_neg c1]
  obtain ⟨w, hw, rfl⟩ := i_natL (by omega) (Int32.not_lt.mp c0) (Int32.not_le.mp c1)
  have : w = 0 ∨ w = 1 ∨ w = 2 := by omega
  rcases this with rfl | rfl | rfl
  · rw [if_pos nI_0]
    exact k_set1 (lo := 1) (hi := 8) h hD6 hf hw (by omega) (by omega) (by omega) va
  · rw [if_neg (show ¬ nI 1 = 0 by decide), if_pos (show nI 1 = nI 1 from rfl)]
    exact k_set1 (lo := 0) (hi := 2) h hD6 hf hw (by omega) (by omega) (by omega) va
  · rw [if_neg (show ¬ nI 2 = 0 by decide), if_neg (show ¬ nI 2 = nI 1 by decide), if_pos (show nI 2 = nI 2 from rfl)]
    exact k_set1 (lo := 100) (hi := 8000) h hD6 hf hw (by omega) (by omega) (by omega) va
end
