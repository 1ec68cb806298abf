/-! 38.pi: knock, release, set -/
def Fo (χ : CS) (σ : Nat → Int32) : Prop := ∃ m, m ≤ 60 ∧ σ 9 = nI m ∧ (χ.2.1 3).length = m ∧ (∀ j, j < m → (χ.2.1 3).getD j 0 = σ (10 + j)) ∧ (rdAll (χ.2.1 3)).2 = 0
def St (C : Nat) (n : Nat) (χ : CS) (σ : Nat → Int32) : Prop := ∃ P Q D, Sm True C n χ σ P Q D ∧ D.length ≤ 6 ∧ Fo χ σ
/-- a call that may change: the class's answer and state, the reference's -/
def CH (C : Nat) (r : RC) (r' : KR) : Prop := r.1 = r'.2.1 ∧ ((r.2 = none ∧ r'.2.2 = false) ∨ ∃ χ n, r.2 = some χ ∧ r'.2.2 = true ∧ St C n χ r'.1)
theorem Fo_same {χ χ' : CS} {σ σ' : Nat → Int32} (h : Fo χ σ) (e : χ'.2.1 3 = χ.2.1 3) (e2 : ∀ j, 9 ≤ j → j < 70 → σ' j = σ j) : Fo χ' σ' := by
  obtain ⟨m, h1, h2, h3, h4, h5⟩ := h
  refine ⟨m, h1, by rw [e2 9 (by omega) (by omega)]; exact h2, by rw [e]; exact h3, fun j hj => by rw [e, e2 (10 + j) (by omega) (by omega)]; exact h4 j hj, by rw [e]; exact h5⟩
theorem go_congr {T T' : Nat → Nat → Int32} {P : List Nat} (hg : ∀ k, k ∈ P → ∀ w, (w = 3 ∨ w = 4) → ntG T' w (nI k) = ntG T w (nI k)) (rule o : Int32) (L : List Nat) : ∀ f, (∀ k, k ∈ L → k ∈ P) → (f = (-1) ∨ ∃ k, k ∈ P ∧ f = nI k) → (L.map nI).foldl (goStep T' rule o) f = (L.map nI).foldl (goStep T rule o) f := by
  induction L with
  | nil => intro f _ _; rw [List.map_nil, List.foldl_nil, List.foldl_nil]
  | cons x L ih =>
    intro f hL hf
    have hx := hL x List.mem_cons_self
    rw [List.map_cons, List.foldl_cons, List.foldl_cons]
    have e : goStep T' rule o f (nI x) = goStep T rule o f (nI x) := by
      unfold goStep
      rw [hg x hx 3 (Or.inl rfl), hg x hx 4 (Or.inr rfl)]
      rcases hf with hf | ⟨k, hk, hf⟩
      · by_cases c : ¬ o = 0 ∧ ¬ ntG T 3 (nI x) = nI 4
        · rw [if_pos c, if_pos c]
        · rw [if_neg c, if_neg c, if_pos (Or.inl hf), if_pos (Or.inl hf)]
      · rw [hf, hg k hk 4 (Or.inr rfl)]
    rw [e]
    refine ih _ (fun k hk => hL k (List.mem_cons_of_mem _ hk)) ?_
    unfold goStep
    by_cases c : ¬ o = 0 ∧ ¬ ntG T 3 (nI x) = nI 4
    · rw [if_pos c]; exact hf
    · rw [if_neg c]
      by_cases d : f = (-1) ∨ (rule = 0 ∧ ntG T 4 (nI x) < ntG T 4 f)
      · rw [if_pos d]; exact Or.inr ⟨x, hx, rfl⟩
      · rw [if_neg d]; exact hf
theorem nw_0 {σ : Nat → Int32} {n : Nat} {p q s : Int32} : nf (rfNew σ n p q s) n 0 = p := by rw [nw_nf (by omega), if_pos rfl]; rfl
theorem nw_1 {σ : Nat → Int32} {n : Nat} {p q s : Int32} : nf (rfNew σ n p q s) n 1 = q := by rw [nw_nf (by omega), if_pos rfl]; rfl
theorem nw_3 {σ : Nat → Int32} {n : Nat} {p q s : Int32} : nf (rfNew σ n p q s) n 3 = nI 0 := by rw [nw_nf (by omega), if_pos rfl]; rfl
section
variable {F : Prop} {C n : Nat} {χ : CS} {σ : Nat → Int32} {P Q D : List Nat}
theorem home_new (h : Sm F C n χ σ P Q D) (hn : n < 200) {p q s : Int32} : chHome (chTake0 χ p q s) = chHome χ := by
  have hg : ∀ k, k ∈ P → ∀ w, (w = 3 ∨ w = 4) → ntG (ntApp χ.1 (χ.2.2.2 0) p q s) w (nI k) = ntG χ.1 w (nI k) := fun k hk w hw => by
    have hk2 := sm_P2 h k hk
    have := ((sm_P h).mp hk).1
    rw [ntG_nI hk2, ntG_nI hk2, h.1.2.2.1, ap_at hn, if_neg (by omega)]
  have hgo : ∀ r o, chGo (chTake0 χ p q s) r o = chGo χ r o := fun r o => by
    show (χ.2.1 0).foldl (goStep (ntApp χ.1 (χ.2.2.2 0) p q s) r o) (-1) = (χ.2.1 0).foldl (goStep χ.1 r o) (-1)
    rw [h.2.2.2.1]
    exact go_congr hg r o P (-1) (fun _ z => z) (Or.inl rfl)
  have hs : (chTake0 χ p q s).2.2.1 = χ.2.2.1 := rfl
  unfold chHome
  rw [hgo, hgo, hs]
theorem fl_app {D : List Nat} {n : Nat} (h : ∀ j, j ∈ D → j < n) : (D ++ [n]).filter (fun x => decide (¬ x = n)) = D := by
  rw [List.filter_append, List.filter_eq_self.mpr (fun a ha => decide_eq_true (by have := h a ha; omega))]
  simp
theorem kn_free (h : Sm True C n χ σ P Q D) (hC : C + 1 < 2 ^ 30) (hn : n < 200) (hD6 : D.length ≤ 6) {p s : Nat} {q : Int32} (hp : p < 4) (h1 : 1 ≤ s) (h2 : s ≤ 127) (hP8 : P.length < 8) (hno : ∀ k, k < n → ¬ (rfPl σ k ∧ nf σ k 0 = nI p ∧ nf σ k 1 = q)) :
    Sm True (C + 1) (n + 1) (chCome (chTake0 χ (nI p) q (nI s)) (nI n)) (rfSings (rfNew σ n (nI p) q (nI s)) n) (P ++ [n]) Q D := by
  have hs := sm_new h hn hD6 (q := q) hp h1 h2
  have hDn : ∀ j, j ∈ D → j < n := fun j hj => ((sm_D h).mp hj).1
  have hg := sm_sing hs hC (k := n) (by simp) hP8 (fun j hj z => by
    rw [nw_0, nw_1] at z
    obtain ⟨z1, z2, z3⟩ := z
    by_cases c : j = n
    · unfold rfPl at z1; rw [c, nw_3] at z1; exact absurd z1.1 (by decide)
    · unfold rfPl at z1
      rw [nw_nf (by omega), if_neg c] at z1 z2 z3
      exact hno j (by omega) ⟨z1, z2, z3⟩)
  rw [fl_app hDn] at hg
  refine sm_ext hg rfl ⟨rfl, rfl, ?_⟩ rfl
  exact (h.2.2.2.2.2).trans hg.2.2.2.2.2.symm
theorem kn_send (h : Sm True C n χ σ P Q D) (hC : C + 1 < 2 ^ 30) (hn : n < 200) (hD6 : D.length ≤ 6) {p s : Nat} {q : Int32} (hp : p < 4) (h1 : 1 ≤ s) (h2 : s ≤ 127) {j : Nat} (hj : j ∈ P) (hQ : Q.length < 4) (hno : ∀ k, k < n → ¬ (rfPl σ k ∧ nf σ k 0 = nI p ∧ nf σ k 1 = q)) :
    Sm True (C + 1) (n + 1) (chCome (chSend (chTake0 χ (nI p) q (nI s)) (nI j)) (nI n)) (rfSings (rfSent (rfNew σ n (nI p) q (nI s)) j) n) (P.filter (fun x => decide (¬ x = j)) ++ [n]) (Q ++ [j]) D := by
  have hs := sm_new h hn hD6 (q := q) hp h1 h2
  have hse := sm_send hs hj hQ
  have hDn : ∀ j, j ∈ D → j < n := fun j hj => ((sm_D h).mp hj).1
  have hjn := ((sm_P h).mp hj).1
  have hfl := fl_lt hj
  have hP8 : P.length ≤ 8 := h.2.2.1.2.2.2.2.2.2.1
  have hg := sm_sing hse hC (k := n) (by simp) (by omega) (fun i hi z => by
    rw [sn_nf (j := n) (w := 0) (by omega), sn_nf (j := n) (w := 1) (by omega), if_neg (show ¬ n = j by omega), if_neg (show ¬ n = j by omega), nw_0, nw_1] at z
    obtain ⟨z1, z2, z3⟩ := z
    by_cases c2 : i = j
    · subst c2; unfold rfPl at z1; rw [sn_nf (by omega), if_pos rfl, if_pos rfl] at z1; exact absurd z1.2 (by decide)
    unfold rfPl at z1
    rw [sn_nf (by omega), if_neg c2] at z1 z2 z3
    by_cases c : i = n
    · rw [c, nw_3] at z1; exact absurd z1.1 (by decide)
    · rw [nw_nf (by omega), if_neg c] at z1 z2 z3
      exact hno i (by omega) ⟨z1, z2, z3⟩)
  rw [fl_app hDn] at hg
  refine sm_ext hg rfl ⟨rfl, rfl, ?_⟩ rfl
  exact (h.2.2.2.2.2).trans hg.2.2.2.2.2.symm
theorem kn_wait (h : Sm True C n χ σ P Q D) (hn : n < 200) (hD6 : D.length < 6) {p s : Nat} {q : Int32} (hp : p < 4) (h1 : 1 ≤ s) (h2 : s ≤ 127) :
    Sm True (C + 1) (n + 1) (lA (chTake0 χ (nI p) q (nI s)) 2 6 (nI n)) (rfNew σ n (nI p) q (nI s)) P Q (D ++ [n]) := by
  have hs := sm_new h hn (by omega) (q := q) hp h1 h2
  refine sm_ext hs rfl ⟨rfl, rfl, ?_⟩ rfl
  show lnApp 6 (χ.2.1 2) (nI n) = (D ++ [n]).map nI
  rw [h.2.2.2.2.2, app_map hD6]
theorem nw_hi {σ : Nat → Int32} {n : Nat} {p q s : Int32} : ∀ j, 9 ≤ j → j < 70 → rfNew σ n p q s j = σ j := fun j h1 h2 => by rw [nw_lo h2, if_neg (by omega)]
theorem sg_hi {σ : Nat → Int32} {k : Nat} : ∀ j, 9 ≤ j → j < 70 → rfSings σ k j = σ j := fun j h1 h2 => by rw [sg_lo h2, if_neg (by omega)]
theorem sn_hi {σ : Nat → Int32} {k : Nat} : ∀ j, 9 ≤ j → j < 70 → rfSent σ k j = σ j := fun j h1 h2 => by rw [sn_lo h2, if_neg (by omega)]
theorem an_hi {σ : Nat → Int32} {k : Nat} {z : Int32} : ∀ j, 9 ≤ j → j < 70 → rfAnew σ k z j = σ j := fun j h1 h2 => by rw [an_lo h2, if_neg (by omega), if_neg (by omega)]
theorem k_knock (h : Sm True C n χ σ P Q D) (hD6 : D.length ≤ 6) (hf : Fo χ σ) (hC : C + 1 < 2 ^ 30) (pa qa za : Int32) : CH (C + 1) (bxKnock χ pa qa za) (rfKn σ n pa qa za) := by
  unfold bxKnock rfKn
  have hx := xp_iff pa
  by_cases c1 : xPart pa
  rotate_left
  · rw [if_neg c1, if_neg (fun z => c1 (hx.mpr z.1))]; exact ⟨rfl, Or.inl ⟨rfl, rfl⟩⟩
  by_cases c2 : xPitch qa
  rotate_left
  · rw [if_pos c1, if_neg c2, if_neg (fun z => c2 (by have := z.2.1; rw [nI_0] at this; exact this))]; exact ⟨rfl, Or.inl ⟨rfl, rfl⟩⟩
  by_cases c3 : za < nI 1
  · rw [if_pos c1, if_pos c2, if_pos c3, if_neg (fun z => absurd z.2.2.1 (Int32.not_le.mpr c3))]; exact ⟨rfl, Or.inl ⟨rfl, rfl⟩⟩
  by_cases c4 : za ≤ nI 127
  rotate_left
  · rw [if_pos c1, if_pos c2, if_neg c3, if_neg c4, if_neg (fun z => c4 z.2.2.2)]; exact ⟨rfl, Or.inl ⟨rfl, rfl⟩⟩
  rw [if_pos c1, if_pos c2, if_neg c3, if_pos c4, if_pos (show (nI 0 ≤ pa ∧ pa ≤ nI 3) ∧ (nI 0 ≤ qa ∧ qa ≤ nI 127) ∧ (nI 1 ≤ za ∧ za ≤ nI 127) from ⟨hx.mp c1, by rw [nI_0]; exact c2, Int32.not_lt.mp c3, c4⟩)]
  obtain ⟨p, hp, rfl⟩ := i_natL (by omega) c1.1 c1.2
  obtain ⟨s, hs, rfl⟩ := i_nat (by omega) (Int32.le_trans (by decide : nI 0 ≤ nI 1) (Int32.not_lt.mp c3)) c4
  have hs1 : 1 ≤ s := (nI_leI (by omega) (by omega)).mp (Int32.not_lt.mp c3)
  have hn2 := sm_n h
  rcases sm_voice h (nI p) qa with ⟨e, e2, hno⟩ | ⟨j, hj, e, e2, -⟩
  rotate_left
  · have hj2 := sm_P2 h j hj
    rw [e, e2, if_neg (nI_m1 (by omega))]
    refine ⟨rfl, Or.inr ⟨_, n, rfl, rfl, _, _, _, sm_anew h (by omega) hj hs1 hs, hD6, Fo_same hf rfl an_hi⟩⟩
  rw [e, e2, if_pos rfl]
  show CH (C + 1) _ (rfKnN σ n (nI p) qa (nI s))
  unfold rfKnN
  obtain ⟨a, ha1, ha8, e6, hfr, -⟩ := sm_free h
  have hlP : P.length ≤ 8 := h.2.2.1.2.2.2.2.2.2.1
  have hlQ : Q.length ≤ 4 := h.2.2.1.2.2.2.2.2.2.2.1
  have hc0 := h.1.2.2.1
  by_cases c5 : n = 200
  · rw [if_pos c5, if_neg (fun z => by
      have := z.1; rw [hc0, nI_ltI (by omega) (by omega)] at this; omega)]
    exact ⟨rfl, Or.inl ⟨rfl, rfl⟩⟩
  rw [if_neg c5]
  have hn : n < 200 := by omega
  have hlt : χ.2.2.2 0 < nI 200 := by rw [hc0]; exact nI_lt hn (by omega)
  have hfr0 : chFree (chTake0 χ (nI p) qa (nI s)) = chFree χ := rfl
  rw [sm_plc h, e6]
  by_cases c6 : P.length < a
  · rw [if_pos (nI_lt c6 (by omega))]
    have hnm : ¬ chMust χ := fun z => by
      have := z.1; rw [hfr, ← nI_0, nI_eq (by omega) (by omega)] at this; omega
    rw [if_pos (show chTakes χ from ⟨hlt, Or.inl hnm⟩), hc0]
    have hct : chTake χ (nI p) qa (nI s) = chCome (chTake0 χ (nI p) qa (nI s)) (nI n) := by
      unfold chTake; rw [if_neg hnm, hfr0, if_neg (fun z => by rw [hfr, ← nI_0, nI_eq (by omega) (by omega)] at z; omega), hc0]
    rw [hct]
    exact ⟨rfl, Or.inr ⟨_, n + 1, rfl, rfl, _, _, _, kn_free h hC hn hD6 hp hs1 hs (by omega) hno, hD6, Fo_same hf rfl (fun j h1 h2 => (sg_hi j h1 h2).trans (nw_hi j h1 h2))⟩⟩
  rw [if_neg (nI_nlt (by omega) (by omega))]
  have hf0 : chFree χ = 0 := by rw [hfr, show a - P.length = 0 from by omega, nI_0]
  have hwait : chMust χ → CH (C + 1) (if chTakes χ then (χ.2.2.2 0, some (chTake χ (nI p) qa (nI s))) else ((-3), none)) (if rfMany σ (nI 0) n = nI 6 then (σ, (-3), false) else (rfNew σ n (nI p) qa (nI s), nI n, true)) := fun hm => by
    rw [sm_d0 h]
    have hl2 : (χ.2.1 2).length = D.length := by rw [h.2.2.2.2.2, List.length_map]
    by_cases c7 : D.length = 6
    · rw [if_pos (show nI D.length = nI 6 by rw [c7]), if_neg (show ¬ chTakes χ from fun z => z.2.elim (fun q => q hm) (fun q => by rw [hl2, nI_ltI (by omega) (by omega)] at q; omega))]
      exact ⟨rfl, Or.inl ⟨rfl, rfl⟩⟩
    · rw [if_neg (show ¬ nI D.length = nI 6 from fun z => c7 ((nI_eq (by omega) (by omega)).mp z)), if_pos (show chTakes χ from ⟨hlt, Or.inr (by rw [hl2]; exact nI_lt (by omega) (by omega))⟩), hc0]
      have hct : chTake χ (nI p) qa (nI s) = lA (chTake0 χ (nI p) qa (nI s)) 2 6 (nI n) := by
        unfold chTake; rw [if_pos hm, hc0]
      rw [hct]
      exact ⟨rfl, Or.inr ⟨_, n + 1, rfl, rfl, _, _, _, kn_wait h hn (by omega) hp hs1 hs, by rw [List.length_append, List.length_singleton]; omega, Fo_same hf rfl nw_hi⟩⟩
  have hl1 : (χ.2.1 1).length = Q.length := by rw [h.2.2.2.2.1, List.length_map]
  by_cases c8 : Q.length = 4
  · have hlv : rfLv σ n = none := by
      unfold rfLv; rw [sm_plc h, e6, if_neg (nI_nlt (by omega) (by omega)), sm_q5 h, if_pos (by rw [c8])]
    rw [hlv]
    exact hwait ⟨hf0, Or.inl (by rw [hl1, c8]; exact Int32.le_refl _)⟩
  have hlv : rfLv σ n = rfNx σ n := by
    unfold rfLv; rw [sm_plc h, e6, if_neg (nI_nlt (by omega) (by omega)), sm_q5 h, if_neg (fun z => c8 ((nI_eq (by omega) (by omega)).mp z))]
  rw [hlv]
  rcases sm_next h (by omega) with ⟨g1, g2⟩ | ⟨j, hj, g1, g2⟩
  · rw [g1]; exact hwait ⟨hf0, Or.inr g2⟩
  · rw [g1]
    have hj2 := sm_P2 h j hj
    have hnm : ¬ chMust χ := fun z => z.2.elim (fun q => by rw [hl1, nI_leI (by omega) (by omega)] at q; omega) (fun q => by rw [g2] at q; exact nI_m1 (by omega) q)
    rw [if_pos (show chTakes χ from ⟨hlt, Or.inl hnm⟩), hc0]
    have hct : chTake χ (nI p) qa (nI s) = chCome (chSend (chTake0 χ (nI p) qa (nI s)) (nI j)) (nI n) := by
      unfold chTake; rw [if_neg hnm, hfr0, if_pos hf0, home_new h hn, g2, hc0]
    rw [hct]
    exact ⟨rfl, Or.inr ⟨_, n + 1, rfl, rfl, _, _, _, kn_send h hC hn hD6 hp hs1 hs hj (by omega) hno, hD6, Fo_same hf rfl (fun i h1 h2 => (sg_hi i h1 h2).trans ((sn_hi i h1 h2).trans (nw_hi i h1 h2)))⟩⟩
theorem k_rel (h : Sm True C n χ σ P Q D) (hD6 : D.length ≤ 6) (hf : Fo χ σ) (pa qa : Int32) : CH C (bxRel χ pa qa) (rfRl σ n pa qa) := by
  unfold bxRel rfRl
  have hx := xp_iff pa
  by_cases c1 : xPart pa
  rotate_left
  · rw [if_neg c1, if_neg (fun z => c1 (hx.mpr z.1))]; exact ⟨rfl, Or.inl ⟨rfl, rfl⟩⟩
  by_cases c2 : xPitch qa
  rotate_left
  · rw [if_pos c1, if_neg c2, if_neg (fun z => c2 (by have := z.2; rw [nI_0] at this; exact this))]; exact ⟨rfl, Or.inl ⟨rfl, rfl⟩⟩
  rw [if_pos c1, if_pos c2, if_pos (show (nI 0 ≤ pa ∧ pa ≤ nI 3) ∧ (nI 0 ≤ qa ∧ qa ≤ nI 127) from ⟨hx.mp c1, by rw [nI_0]; exact c2⟩)]
  have hW : chSinger χ pa qa = (-1) → CH C (if chSinger χ pa qa = (-1) then (if chWait χ pa qa = (-1) then (((-2), none) : RC) else (chWait χ pa qa, some (chLet χ (chWait χ pa qa)))) else (chSinger χ pa qa, some (chLet χ (chSinger χ pa qa)))) (rfRlW σ n pa qa) := fun hs => by
    rw [if_pos hs]
    unfold rfRlW
    rcases sm_wait h pa qa with ⟨e, e2⟩ | ⟨k, hk, e, e2⟩
    · rw [e, e2, if_pos rfl]; exact ⟨rfl, Or.inl ⟨rfl, rfl⟩⟩
    · have hk2 := sm_D2 h k hk
      rw [e, e2, if_neg (nI_m1 (by omega))]
      have hct : chLet χ (nI k) = setT (lR χ 2 (nI k)) (ntEnd (lR χ 2 (nI k)).1 (nI k)) := by
        unfold chLet; rw [if_pos (by rw [sm_gD h hk 3 (by omega) (by omega), ← nI_0]; exact ((sm_D h).mp hk).2)]
      rw [hct]
      have hg := sm_gone h hk
      exact ⟨rfl, Or.inr ⟨_, n, rfl, rfl, _, _, _, sm_C hg.2 (by omega), by have := fl_lt hk; omega, Fo_same hf rfl (fun j h1 h2 => nset_lo h2)⟩⟩
  rcases sm_voice h pa qa with ⟨e, e2, -⟩ | ⟨j, hj, e, e2, -⟩
  · rw [e]
    exact hW (by unfold chSinger; rw [if_pos e2])
  rw [e]
  have hj2 := sm_P2 h j hj
  have hjn := ((sm_P h).mp hj).1
  have hpl := ((sm_P h).mp hj).2
  obtain ⟨p0, s0, x0, v0, m0, b1, b2, b3, b4, b5, b6, b7, b8, b9, b10, b11, b12, b13⟩ := (h.2.1 j hjn).2
  show CH C _ (if ¬ nf σ j 3 = nI 4 ∧ nf σ j 6 = 0 then (if σ 2 = nI 1 then ((nset σ j 6 (nI 1), nI j, true) : KR) else (rfFades σ j, nI j, true)) else rfRlW σ n pa qa)
  have hgj := sm_gP h hj
  by_cases c3 : nf σ j 3 = nI 4
  · rw [if_neg (show ¬ (¬ nf σ j 3 = nI 4 ∧ nf σ j 6 = 0) from fun z => z.1 c3)]
    exact hW (by unfold chSinger; rw [e2, if_neg (nI_m1 (by omega)), hgj 3 (by omega) (by omega), if_pos c3])
  by_cases c4 : m0 = 0
  · subst c4
    rw [if_pos (show ¬ nf σ j 3 = nI 4 ∧ nf σ j 6 = 0 from ⟨c3, by rw [b11]; decide⟩)]
    have hs : chSinger χ pa qa = nI j := by
      unfold chSinger; rw [e2, if_neg (nI_m1 (by omega)), hgj 3 (by omega) (by omega), if_neg c3, hgj 6 (by omega) (by omega), b11, if_neg (by decide)]
    rw [hs, if_neg (nI_m1 (by omega))]
    have hn0 : ¬ ntG χ.1 3 (nI j) = 0 := by
      rw [hgj 3 (by omega) (by omega), ← nI_0, ph_eq 0 b4 (by omega) b9]; have := (ph_pl b4 b9).mp hpl; omega
    by_cases c5 : σ 2 = nI 1
    · rw [if_pos c5]
      have hct : chLet χ (nI j) = setT χ (ntPut χ.1 6 (nI j) (nI 1)) := by
        unfold chLet; rw [if_neg hn0, h.1.2.2.2.1 2 (by omega) (by omega) (Or.inl trivial), if_pos c5]
      rw [hct]
      exact ⟨rfl, Or.inr ⟨_, n, rfl, rfl, _, _, _, sm_mark h hj c3, hD6, Fo_same hf rfl (fun j h1 h2 => nset_lo h2)⟩⟩
    · rw [if_neg c5]
      have hct : chLet χ (nI j) = setT χ (ntDown χ.1 (nI j) (nI 4)) := by
        unfold chLet; rw [if_neg hn0, h.1.2.2.2.1 2 (by omega) (by omega) (Or.inl trivial), if_neg c5]
      rw [hct]
      exact ⟨rfl, Or.inr ⟨_, n, rfl, rfl, _, _, _, sm_fade h hj, hD6, Fo_same hf rfl (fun j h1 h2 => rfFades_0 h2)⟩⟩
  · have hm : m0 = 1 := by omega
    subst hm
    rw [if_neg (show ¬ (¬ nf σ j 3 = nI 4 ∧ nf σ j 6 = 0) from fun z => by have := z.2; rw [b11] at this; exact absurd this (by decide))]
    exact hW (by unfold chSinger; rw [e2, if_neg (nI_m1 (by omega)), hgj 3 (by omega) (by omega), if_neg c3, hgj 6 (by omega) (by omega), if_pos b11])
end
