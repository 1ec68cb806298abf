/-! 14.box: walks, by program -/
theorem MixP.fr {E : XE} {a : Nat} {z : MZ} {H H1 : Heap} (h : MixP E a z H) (hq : ∀ q, bk a 3 q → H1[q]? = H[q]?) : MixP E a z H1 :=
  ⟨va_at.kept h.1 (hq a ⟨by omega, by omega⟩), va_at.kept h.2.1 (hq _ ⟨by omega, by omega⟩), va_at.kept h.2.2 (hq _ ⟨by omega, by omega⟩)⟩
theorem RdP.fr {E : XE} {a : Nat} {p o q r : Int32} {H H1 : Heap} (h : RdP E a p o q r H) (hq : H1[a]? = H[a]?) : RdP E a p o q r H1 := by
  unfold RdP at h ⊢
  exact va_at.kept h hq
abbrev BS : Type := CS × (Nat → CS) × Nat × List Int32
abbrev BxO (E : XE) (B : Nat) (H : Heap) : Prop := XO E B 7 [.ref (B + 1), .ref (B + 19), .ref (B + 37), .ref (B + 111), .ref (B + 113), .ref (B + 114), .ref (B + 117)] H
def BoxP (E : XE) (B : Nat) (β : BS) (H : Heap) : Prop := BxO E B H ∧ ChoP E (B + 1) β.1 H ∧ HisP E (B + 37) β.2.1 β.2.2.1 H ∧ ForP E (B + 111) β.2.2.2 H ∧ (∃ χa, ChoP E (B + 19) χa H) ∧ (∃ p o q r, RdP E (B + 113) p o q r H) ∧ (∃ z, MixP E (B + 114) z H) ∧ ∃ sh, XI E (B + 117) 4 sh H
theorem BoxP.fr {E : XE} {B : Nat} {β : BS} {H H1 : Heap} (h : BoxP E B β H) (hq : ∀ q, bk B 118 q → H1[q]? = H[q]?) : BoxP E B β H1 := by
  obtain ⟨h1, h2, h3, h4, ⟨χa, h5⟩, ⟨p, o, q, r, h6⟩, ⟨z, h7⟩, sh, h8⟩ := h
  exact ⟨va_at.kept h1 (hq _ ⟨by omega, by omega⟩), h2.fr (fun q z => hq q (by obtain ⟨u, v⟩ := z; exact ⟨by omega, by omega⟩)), h3.fr (fun q z => hq q (by obtain ⟨u, v⟩ := z; exact ⟨by omega, by omega⟩)), h4.fr (fun q z => hq q (by obtain ⟨u, v⟩ := z; exact ⟨by omega, by omega⟩)), ⟨χa, h5.fr (fun q z => hq q (by obtain ⟨u, v⟩ := z; exact ⟨by omega, by omega⟩))⟩, ⟨p, o, q, r, h6.fr (hq _ ⟨by omega, by omega⟩)⟩, ⟨z, h7.fr (fun q z => hq q (by obtain ⟨u, v⟩ := z; exact ⟨by omega, by omega⟩))⟩, sh, va_at.kept h8 (hq _ ⟨by omega, by omega⟩)⟩
def bxUp (β : BS) : Option CS → BS
  | none => β
  | some χ => (χ, hiRec β.2.1 β.2.2.1 β.1, hiLen β.2.2.1, β.2.2.2)
abbrev xPart (p : Int32) : Prop := 0 ≤ p ∧ p < nI 4
abbrev xPitch (p : Int32) : Prop := 0 ≤ p ∧ p ≤ nI 127
abbrev RC : Type := Int32 × Option CS
def bxKnock (χ : CS) (p q z : Int32) : RC :=
  if xPart p then if xPitch q then if z < nI 1 then ((-1), none) else if z ≤ nI 127 then
    (if chVoice χ p q = (-1) then (if chTakes χ then (χ.2.2.2 0, some (chTake χ p q z)) else ((-3), none)) else (chVoice χ p q, some (chAnew χ (chVoice χ p q) z)))
  else ((-1), none) else ((-1), none) else ((-1), none)
def bxRel (χ : CS) (p q : Int32) : RC :=
  if xPart p then if xPitch q then
    (if chSinger χ p q = (-1) then (if chWait χ p q = (-1) then ((-2), none) else (chWait χ p q, some (chLet χ (chWait χ p q)))) else (chSinger χ p q, some (chLet χ (chSinger χ p q))))
  else ((-1), none) else ((-1), none)
def bxPed (χ : CS) (d : Int32) : RC :=
  if d < 0 then ((-1), none) else if d ≤ nI 1 then (if d = χ.2.2.2 2 then ((-2), none) else ((chPed χ d).2, some (chPed χ d).1)) else ((-1), none)
def tkN (χ : CS) : Nat → CS
  | 0 => χ
  | k + 1 => chTick (tkN χ k)
def bxTick (χ : CS) (t : Int32) : RC :=
  if t < nI 1 then ((-1), none) else if t ≤ nI 100 then (if χ.2.2.2 1 + t ≤ nI 50000 then (chSum (tkN χ t.toNatClampNeg), some (tkN χ t.toNatClampNeg)) else ((-3), none)) else ((-1), none)
def bxSet (χ : CS) (w v : Int32) : RC :=
  if w < 0 then ((-1), none) else if nI 3 ≤ w then ((-1), none) else if v < xat (st_val 4) 3 w then ((-1), none) else if v ≤ xat (st_val 5) 3 w then (xat χ.2.2.1 3 w, some (setG χ (xput χ.2.2.1 3 w v))) else ((-1), none)
def bxNote (χ : CS) (x w : Int32) : Int32 :=
  if x < 0 then (-1) else if x < χ.2.2.2 0 then
    (if w = nI 0 then ntG χ.1 0 x else if w = nI 1 then ntG χ.1 1 x else if w = nI 2 then ntG χ.1 2 x else if w = nI 3 then ntG χ.1 3 x else
     if w = nI 4 then (if ntSings χ.1 x then ntG χ.1 4 x else (-4)) else if w = nI 5 then (if ntSings χ.1 x then chHrd χ x (chSum χ) else (-4)) else
     if w = nI 6 then ntG χ.1 6 x else if w = nI 7 then xorNF (lnIxF x (χ.2.1 2) 0) else (-1)) else (-1)
def bxVoice (χ : CS) (i : Int32) : Int32 := if 0 ≤ i then xorNF (lnAt (χ.2.1 0) i) else (-1)
def bxFind (χ : CS) (p q : Int32) : Int32 := if xPart p then if xPitch q then xorNF (chVoice χ p q) else (-1) else (-1)
def bxPartOf (χ : CS) (p w : Int32) : Int32 :=
  if xPart p then (if w = nI 0 then hmOf χ.1 p (χ.2.1 0) else if w = nI 1 then hmOf χ.1 p (χ.2.1 1) else if w = nI 2 then lvOf χ.1 p (χ.2.1 0) + lvOf χ.1 p (χ.2.1 1) else if w = nI 3 then chHrP χ p else if w = nI 4 then hmOf χ.1 p (χ.2.1 2) else (-1)) else (-1)
def bxCount (β : BS) (w : Int32) : Int32 :=
  if w = nI 0 then β.1.2.2.2 0 else if w = nI 1 then nI (β.1.2.1 0).length else if w = nI 2 then chFree β.1 else if w = nI 3 then nI (β.1.2.1 1).length else if w = nI 4 then nI (β.1.2.1 2).length else if w = nI 5 then β.1.2.2.2 1 else if w = nI 6 then chSum β.1 else if w = nI 7 then chHrA β.1 else if w = nI 8 then β.1.2.2.2 2 else if w = nI 9 then β.1.2.2.2 3 else if w = nI 10 then β.1.2.2.2 4 else if w = nI 11 then nI β.2.2.1 else if w = nI 12 then nI β.2.2.2.length else if w = nI 20 then xat β.1.2.2.1 3 (nI 0) else if w = nI 21 then xat β.1.2.2.1 3 (nI 1) else if w = nI 22 then xat β.1.2.2.1 3 (nI 2) else (-1)
def pkN (χ : CS) : Nat → CS × Int32
  | 0 => (χ, nI 0)
  | k + 1 => (chTick (pkN χ k).1, xmax (pkN χ k).2 (chSum (chTick (pkN χ k).1)))
def bxPeak (χ : CS) (t : Int32) : Int32 := if t < nI 1 then (-1) else if t ≤ nI 200 then (pkN χ t.toNatClampNeg).2 else (-1)
def slN : Nat → CS → Nat
  | 0, _ => 0
  | k + 1, χ => if (χ.2.1 0).length + (χ.2.1 1).length = 0 then 0 else slN k (chTick χ) + 1
def fiN : Nat → Nat → CS → Int32
  | 0, _, _ => (-4)
  | k + 1, t, χ => if chFree χ ≤ 0 then fiN k (t + 1) (chTick χ) else nI t
def bxUndo (β : BS) : BS := if β.2.2.1 = 0 then β else (chCopy (β.2.1 (β.2.2.1 - 1)) β.1, β.2.1, β.2.2.1 - 1, β.2.2.2)
def bxUndoV (β : BS) : Int32 := if β.2.2.1 = 0 then (-2) else nI (β.2.2.1 - 1)
def bxTypeV (β : BS) (c : Int32) : Int32 := if c < nI 32 then (-1) else if c ≤ nI 126 then (if β.2.2.2.length < 60 then nI (β.2.2.2.length + 1) else (-3)) else (-1)
def bxType (β : BS) (c : Int32) : BS := if c < nI 32 then β else if c ≤ nI 126 then (if β.2.2.2.length < 60 then (β.1, β.2.1, β.2.2.1, β.2.2.2 ++ [c]) else β) else β
abbrev rdAll (L : List Int32) : Int32 × Int32 := rdGo L 0 (nI 0) (nI 0)
def bxFault (L : List Int32) (w : Int32) : Int32 := if w < 0 then (-1) else if w ≤ nI 1 then (if (rdAll L).2 = 0 then (-4) else if w = 0 then (rdAll L).1 else (rdAll L).2) else (-1)
def bxAdopt (β : BS) : RC := if (rdAll β.2.2.2).2 = 0 then (hpOf β.2.2.2, some (setL β.1 3 β.2.2.2)) else ((-2), none)
def shN (χ : CS) (sh : Nat → Int32) : Nat → Nat → Int32
  | 0 => sh
  | k + 1 => xput (shN χ sh k) 4 (nI k) (chHrP χ (nI k))
def shA (χ : CS) (p : Int32) (sh : Nat → Int32) : Nat → Nat → Int32
  | 0 => sh
  | k + 1 => xput (shA χ p sh k) 4 (nI k) (if nI k = p then chHrP χ p else nI 0)
def MadeA (χ : CS) (p v : Int32) : Prop := ∃ (z : MZ) (sh : Nat → Int32), v = mxOf (χ.2.1 3) (shA χ p sh 4) z
abbrev AZ : Type := Int32 × Int32 × Int32
def alStep (r : AZ) (k : Nat) (v : Int32) : AZ := (if 0 < v then r.1 + nI 1 else r.1, if r.2.1 < v then v else r.2.1, if r.2.1 < v then nI k else r.2.2)
def alN (m : Nat → Int32) : Nat → AZ
  | 0 => (nI 0, nI 0, (-1))
  | k + 1 => alStep (alN m k) k (m k)
def bxAlone (m : Nat → Int32) (w : Int32) : Int32 := if w < 0 then (-1) else if w ≤ nI 1 then (if w = 0 then (alN m 4).1 else xorNF (alN m 4).2.2) else (-1)
theorem slN_le (k : Nat) : ∀ χ : CS, slN k χ ≤ k := by
  induction k with
  | zero => intro χ; exact Nat.le_refl _
  | succ k ih => intro χ; rw [slN]; by_cases h : (χ.2.1 0).length + (χ.2.1 1).length = 0
                 · rw [if_pos h]; omega
                 · rw [if_neg h]; have := ih (chTick χ); omega
theorem tk_nat {t : Int32} (h1 : nI 1 ≤ t) : ∃ k : Nat, k < 2 ^ 31 ∧ t = nI k ∧ t.toNatClampNeg = k := by
  have h0 : ¬ t < 0 := fun z => absurd (Int32.lt_of_le_of_lt h1 z) (by decide)
  obtain ⟨k, hk, rfl⟩ := nI_of h0
  exact ⟨k, hk, rfl, nI_clamp hk⟩
theorem tk_lt {t : Int32} {i : Nat} {c : Int32} (h1 : nI 1 ≤ t) (h2 : t ≤ c) (hi : i ≤ t.toNatClampNeg) (h : ¬ t ≤ nI i) : i < t.toNatClampNeg := by
  obtain ⟨k, hk, rfl, e⟩ := tk_nat h1
  rw [e] at hi ⊢
  rcases Nat.lt_or_ge i k with q | q
  · exact q
  · exact absurd (nI_le q (by omega)) h
theorem tk_ge {t : Int32} {i : Nat} {c : Int32} (h1 : nI 1 ≤ t) (h2 : t ≤ c) (hi : i ≤ t.toNatClampNeg) (h : t ≤ nI i) : i = t.toNatClampNeg := by
  obtain ⟨k, hk, rfl, e⟩ := tk_nat h1
  rw [e] at hi ⊢
  have := (nI_leI hk (by omega)).mp h
  omega
theorem fi_lt {i : Nat} (hi : i ≤ 201) (h : ¬ nI 200 < nI i) : i < 201 := by
  rcases Nat.lt_or_ge i 201 with q | q
  · exact q
  · exact absurd (nI_lt (a := 200) (b := i) (by omega) (by omega)) h
theorem fi_ge {i : Nat} (hi : i ≤ 201) (h : nI 200 < nI i) : 201 ≤ i := (nI_ltI (by omega) (by omega)).mp h
theorem ch_of {c : Int32} (h1 : nI 32 ≤ c) (h2 : c ≤ nI 126) : isCh c ∧ (c.toUInt32 % 65536).toInt32 = c := by
  have h0 : ¬ c < 0 := fun z => absurd (Int32.lt_of_le_of_lt h1 z) (by decide)
  obtain ⟨k, hk, rfl⟩ := nI_of h0
  have hk2 : k ≤ 126 := (nI_leI hk (by decide)).mp h2
  refine ⟨⟨k, by omega, rfl⟩, ?_⟩
  rw [pk_char, pk_tn (by omega), Nat.mod_eq_of_lt (by omega)]
theorem ForP.nil {E : XE} {a : Nat} {L : List Int32} {H H1 : Heap} (h : ForP E a L H) (hX : XO E a 1 [.ref (a + 1), .int (nI 0)] H1) (hO : Out (fun q => q = a) H H1) : ForP E a [] H1 := by
  obtain ⟨h1, h2, h5, f, h3, h4⟩ := h
  exact ⟨hX, Nat.zero_le _, fun x hx => absurd hx List.not_mem_nil, f, va_at.kept h3 (hO.2 _ (fun z => by have z : a + 1 = a := z; omega)), fun j hj => absurd hj (Nat.not_lt_zero _)⟩
theorem alN_up {m : Nat → Int32} {k : Nat} {v : Int32} : ∀ j, j ≤ k → alN (upd m k v) j = alN m j := by
  intro j
  induction j with
  | zero => intro _; rfl
  | succ j ih => intro h; rw [alN, alN, ih (by omega), pk_un (by omega)]
theorem al_1 {m : Nat → Int32} {k : Nat} {v : Int32} : (alN (upd m k v) (k + 1)).1 = if 0 < v then (alN m k).1 + nI 1 else (alN m k).1 := by
  rw [alN, alN_up k (Nat.le_refl _), pk_us]; rfl
theorem al_2 {m : Nat → Int32} {k : Nat} {v : Int32} : (alN (upd m k v) (k + 1)).2.1 = if (alN m k).2.1 < v then v else (alN m k).2.1 := by
  rw [alN, alN_up k (Nat.le_refl _), pk_us]; rfl
theorem al_3 {m : Nat → Int32} {k : Nat} {v : Int32} : (alN (upd m k v) (k + 1)).2.2 = if (alN m k).2.1 < v then nI k else (alN m k).2.2 := by
  rw [alN, alN_up k (Nat.le_refl _), pk_us]; rfl
abbrev rm_X7_knock : Room := ({ frames := 6, cells := 0, slots := 0, locals := 135 } : Room)
set_option maxRecDepth 100000 in
set_option maxHeartbeats 600000 in
theorem c_X7_knock (l : Launch) (E : XE) (B : Nat) (β : BS) (pa : Int32) (qa : Int32) (ya : Int32) (H : Heap) (hP : BoxP E B β H) : Wr l E yX7_knock cX7_knock 5 (some .int) rm_X7_knock [.ref B, .int pa, .int qa, .int ya] H (bk B 118) (fun v H1 => v = (bxKnock β.1 pa qa ya).1 ∧ BoxP E B (bxUp β (bxKnock β.1 pa qa ya).2) H1) := by
  refine met_of (by decide) (Nat.le_of_ble_eq_true rfl) (fun p e s m args below meth c hBD Q hQ ls hl => ?_)
  obtain ⟨S, hr, hlk, hnm, hE, hH⟩ := hBD
  subst hH
  have hl : lv_has ls 5 [(0, .ref B), (1, .int pa), (2, .int qa), (3, .int ya)] := hl
  have hO : Out (bk B 118) s.heap s.heap := Out.rf
  have hS : va_S (bk B 118) s.heap s.heap [] := va_S.rf
  obtain ⟨hB, hC, hHi, hT, ⟨χa, hAh⟩, ⟨p0, o0, q0, r0, hR⟩, ⟨z, hM⟩, sh, hSh⟩ := hP
  refine lv_iload_n S.1 S.2.1 dX7_knock_0 rfl (lv_at hl 1 rfl) ?_
  refine xk_R (v := (bI (xPart pa))) (x_runS (As := [.int pa]) (rest := []) S hE hS (fun _ h => h.elim) (c_X7_isPart l E pa _) kv_X7_isPart kw9_7 kw9_8 ⟨Nat.le_of_ble_eq_true rfl, Nat.le_of_ble_eq_true rfl⟩ rfl rfl rfl hl.1 rfl (Nat.le_of_ble_eq_true rfl) dX7_knock_1 ⟨Nat.zero_le _, Nat.zero_le _⟩) ?_
  refine lv_if_eq (tgt := 25) S.1 S.2.1 dX7_knock_4 rfl (fun h1 => ?_) (fun h1 => ?_)
  · skip
    have h1 := bI_0 h1
    refine lv_iconst (v := (-1)) S.1 S.2.1 dX7_knock_25 (by decide) ?_
    subst hQ
    refine x_retW S hr hlk (rfl) hS hO ?_ dX7_knock_26
    exact by rw [bxKnock, if_neg h1]; exact ⟨rfl, ⟨hB, hC, hHi, hT, ⟨_, hAh⟩, ⟨_, _, _, _, hR⟩, ⟨_, hM⟩, _, hSh⟩⟩
  · skip
    have h1 := bI_n0 h1
    refine lv_iload_n S.1 S.2.1 dX7_knock_7 rfl (lv_at hl 2 rfl) ?_
    refine xk_R (v := (bI (xPitch qa))) (x_runS (As := [.int qa]) (rest := []) S hE hS (fun _ h => h.elim) (c_X7_isPitch l E qa _) kv_X7_isPitch kw10_9 kw10_10 ⟨Nat.le_of_ble_eq_true rfl, Nat.le_of_ble_eq_true rfl⟩ rfl rfl rfl hl.1 rfl (Nat.le_of_ble_eq_true rfl) dX7_knock_8 ⟨Nat.zero_le _, Nat.zero_le _⟩) ?_
    refine lv_if_eq (tgt := 25) S.1 S.2.1 dX7_knock_11 rfl (fun h2 => ?_) (fun h2 => ?_)
    · skip
      have h2 := bI_0 h2
      refine lv_iconst (v := (-1)) S.1 S.2.1 dX7_knock_25 (by decide) ?_
      subst hQ
      refine x_retW S hr hlk (rfl) hS hO ?_ dX7_knock_26
      exact by rw [bxKnock, if_pos h1, if_neg h2]; exact ⟨rfl, ⟨hB, hC, hHi, hT, ⟨_, hAh⟩, ⟨_, _, _, _, hR⟩, ⟨_, hM⟩, _, hSh⟩⟩
    · skip
      have h2 := bI_n0 h2
      refine lv_iload_n S.1 S.2.1 dX7_knock_14 rfl (lv_at hl 3 rfl) ?_
      refine lv_iconst (v := (nI 1)) S.1 S.2.1 dX7_knock_15 (by decide) ?_
      refine lv_icmp_lt (tgt := 25) S.1 S.2.1 dX7_knock_16 rfl (fun h3 => ?_) (fun h3 => ?_)
      · skip
        refine lv_iconst (v := (-1)) S.1 S.2.1 dX7_knock_25 (by decide) ?_
        subst hQ
        refine x_retW S hr hlk (rfl) hS hO ?_ dX7_knock_26
        exact by rw [bxKnock, if_pos h1, if_pos h2, if_pos h3]; exact ⟨rfl, ⟨hB, hC, hHi, hT, ⟨_, hAh⟩, ⟨_, _, _, _, hR⟩, ⟨_, hM⟩, _, hSh⟩⟩
      · skip
        refine lv_iload_n S.1 S.2.1 dX7_knock_19 rfl (lv_at hl 3 rfl) ?_
        refine lv_bipush (v := (nI 127)) S.1 S.2.1 dX7_knock_20 (by decide) ?_
        refine lv_icmp_le (tgt := 27) S.1 S.2.1 dX7_knock_22 rfl (fun h4 => ?_) (fun h4 => ?_)
        · skip
          refine lv_aload_n S.1 S.2.1 dX7_knock_27 rfl (lv_at hl 0 rfl) ?_
          refine x_get S hE (hB) (C := RX7) (T := TX7) (N := 7) rfl inlX7 0 (by decide) (v := .ref (B + 1)) rfl kw1_15 rfl dX7_knock_28 ?_
          refine lv_iload_n S.1 S.2.1 dX7_knock_31 rfl (lv_at hl 1 rfl) ?_
          refine lv_iload_n S.1 S.2.1 dX7_knock_32 rfl (lv_at hl 2 rfl) ?_
          refine xk_R (v := (chVoice β.1 pa qa)) (x_runVN (As := [.int pa, .int qa]) (rest := []) S hE hS (fun _ h => h.elim) (c_X0_voiceOf l E (B + 1) β.1 pa qa _ hC) kv_X0_voiceOf nw53 kw10_12 kw10_13 (x_recv hE (hC.1) (ci := 0) rfl) ⟨Nat.le_of_ble_eq_true rfl, Nat.le_of_ble_eq_true rfl⟩ rfl rfl rfl hl.1 rfl (Nat.le_of_ble_eq_true rfl) dX7_knock_33 ⟨Nat.zero_le _, Nat.zero_le _⟩) ?_
          refine lv_istore S.1 S.2.1 dX7_knock_36 hl (by decide) rfl (fun ls hl => ?_)
          have hl : lv_has ls 5 [(4, .int (chVoice β.1 pa qa)), (0, .ref B), (1, .int pa), (2, .int qa), (3, .int ya)] := hl
          refine lv_iload S.1 S.2.1 dX7_knock_38 (lv_at hl 0 rfl) ?_
          refine lv_iconst (v := (-1)) S.1 S.2.1 dX7_knock_40 (by decide) ?_
          refine lv_icmp_ne (tgt := 57) S.1 S.2.1 dX7_knock_41 rfl (fun h5 => ?_) (fun h5 => ?_)
          · skip
            refine lv_aload_n S.1 S.2.1 dX7_knock_57 rfl (lv_at hl 1 rfl) ?_
            refine x_get S hE (hB) (C := RX7) (T := TX7) (N := 7) rfl inlX7 2 (by decide) (v := .ref (B + 37)) rfl kw1_20 rfl dX7_knock_58 ?_
            refine lv_aload_n S.1 S.2.1 dX7_knock_61 rfl (lv_at hl 1 rfl) ?_
            refine x_get S hE (hB) (C := RX7) (T := TX7) (N := 7) rfl inlX7 0 (by decide) (v := .ref (B + 1)) rfl kw1_15 rfl dX7_knock_62 ?_
            refine xk_V (x_runVN (As := [.ref (B + 1)]) (rest := []) S hE hS (bk_in (k := 37) (by decide)) (c_X2_record l E (B + 37) (B + 1) β.2.2.1 β.2.1 β.1 _ hHi hC (by omega)) kv_X2_record nw61 kw17_6 kw17_7 (x_recv hE (hHi.2.1) (ci := 2) rfl) ⟨Nat.le_of_ble_eq_true rfl, Nat.le_of_ble_eq_true rfl⟩ rfl rfl rfl hl.1 rfl (Nat.le_of_ble_eq_true rfl) dX7_knock_65 ⟨Nat.zero_le _, Nat.zero_le _⟩) hS (bk_in (k := 37) (by decide)) (fun H locs hX hO1 hS => ?_)
            have hO := out_in hO hO1 (k := 37) (by decide)
            have hB := va_at.kept hB (hO1.2 _ (fun y => by obtain ⟨u', v'⟩ := y; omega))
            have hC := hC.fr (fun q z => hO1.2 q (fun y => by obtain ⟨u, v⟩ := z; obtain ⟨u', v'⟩ := y; omega))
            have hAh := hAh.fr (fun q z => hO1.2 q (fun y => by obtain ⟨u, v⟩ := z; obtain ⟨u', v'⟩ := y; omega))
            have hT := hT.fr (fun q z => hO1.2 q (fun y => by obtain ⟨u, v⟩ := z; obtain ⟨u', v'⟩ := y; omega))
            have hR := hR.fr (hO1.2 _ (fun y => by obtain ⟨u', v'⟩ := y; omega))
            have hM := hM.fr (fun q z => hO1.2 q (fun y => by obtain ⟨u, v⟩ := z; obtain ⟨u', v'⟩ := y; omega))
            have hSh := va_at.kept hSh (hO1.2 _ (fun y => by obtain ⟨u', v'⟩ := y; omega))
            have hHi := hX
            refine lv_iload S.1 S.2.1 dX7_knock_68 (lv_at hl 0 rfl) ?_
            refine lv_iconst (v := (-1)) S.1 S.2.1 dX7_knock_70 (by decide) ?_
            refine lv_icmp_ne (tgt := 85) S.1 S.2.1 dX7_knock_71 rfl (fun h6 => ?_) (fun h6 => ?_)
            · skip
              refine lv_aload_n S.1 S.2.1 dX7_knock_85 rfl (lv_at hl 1 rfl) ?_
              refine x_get S hE (hB) (C := RX7) (T := TX7) (N := 7) rfl inlX7 0 (by decide) (v := .ref (B + 1)) rfl kw1_15 rfl dX7_knock_86 ?_
              refine lv_iload S.1 S.2.1 dX7_knock_89 (lv_at hl 0 rfl) ?_
              refine lv_iload_n S.1 S.2.1 dX7_knock_91 rfl (lv_at hl 4 rfl) ?_
              refine xk_V (x_runVN (As := [.int (chVoice β.1 pa qa), .int ya]) (rest := []) S hE hS (bk_in (k := 1) (by decide)) (c_X0_beginAnew l E (B + 1) β.1 (chVoice β.1 pa qa) ya _ hC) kv_X0_beginAnew nw76 kw19_11 kw19_12 (x_recv hE (hC.1) (ci := 0) rfl) ⟨Nat.le_of_ble_eq_true rfl, Nat.le_of_ble_eq_true rfl⟩ rfl rfl rfl hl.1 rfl (Nat.le_of_ble_eq_true rfl) dX7_knock_92 ⟨Nat.zero_le _, Nat.zero_le _⟩) hS (bk_in (k := 1) (by decide)) (fun H locs hX hO1 hS => ?_)
              have hO := out_in hO hO1 (k := 1) (by decide)
              have hB := va_at.kept hB (hO1.2 _ (fun y => by obtain ⟨u', v'⟩ := y; omega))
              have hAh := hAh.fr (fun q z => hO1.2 q (fun y => by obtain ⟨u, v⟩ := z; obtain ⟨u', v'⟩ := y; omega))
              have hHi := hHi.fr (fun q z => hO1.2 q (fun y => by obtain ⟨u, v⟩ := z; obtain ⟨u', v'⟩ := y; omega))
              have hT := hT.fr (fun q z => hO1.2 q (fun y => by obtain ⟨u, v⟩ := z; obtain ⟨u', v'⟩ := y; omega))
              have hR := hR.fr (hO1.2 _ (fun y => by obtain ⟨u', v'⟩ := y; omega))
              have hM := hM.fr (fun q z => hO1.2 q (fun y => by obtain ⟨u, v⟩ := z; obtain ⟨u', v'⟩ := y; omega))
              have hSh := va_at.kept hSh (hO1.2 _ (fun y => by obtain ⟨u', v'⟩ := y; omega))
              have hC : ChoP E (B + 1) (chAnew β.1 (chVoice β.1 pa qa) ya) H := hX
              refine lv_iload S.1 S.2.1 dX7_knock_95 (lv_at hl 0 rfl) ?_
              subst hQ
              refine x_retW S hr hlk (rfl) hS hO ?_ dX7_knock_97
              exact by rw [bxKnock, if_pos h1, if_pos h2, if_neg h3, if_pos h4, if_neg h5]; exact ⟨rfl, ⟨hB, hC, hHi, hT, ⟨_, hAh⟩, ⟨_, _, _, _, hR⟩, ⟨_, hM⟩, _, hSh⟩⟩
            · exact absurd h6 h5
          · skip
            refine lv_aload_n S.1 S.2.1 dX7_knock_44 rfl (lv_at hl 1 rfl) ?_
            refine x_get S hE (hB) (C := RX7) (T := TX7) (N := 7) rfl inlX7 0 (by decide) (v := .ref (B + 1)) rfl kw1_15 rfl dX7_knock_45 ?_
            refine xk_R (v := (bI (chTakes β.1))) (x_runVN (As := []) (rest := []) S hE hS (fun _ h => h.elim) (c_X0_takesNewNote l E (B + 1) β.1 _ hC) kv_X0_takesNewNote nw60 kw16_21 kw16_22 (x_recv hE (hC.1) (ci := 0) rfl) ⟨Nat.le_of_ble_eq_true rfl, Nat.le_of_ble_eq_true rfl⟩ rfl rfl rfl hl.1 rfl (Nat.le_of_ble_eq_true rfl) dX7_knock_48 ⟨Nat.zero_le _, Nat.zero_le _⟩) ?_
            refine lv_if_ne (tgt := 57) S.1 S.2.1 dX7_knock_51 rfl (fun h7 => ?_) (fun h7 => ?_)
            · skip
              have h7 := bI_n0 h7
              refine lv_aload_n S.1 S.2.1 dX7_knock_57 rfl (lv_at hl 1 rfl) ?_
              refine x_get S hE (hB) (C := RX7) (T := TX7) (N := 7) rfl inlX7 2 (by decide) (v := .ref (B + 37)) rfl kw1_20 rfl dX7_knock_58 ?_
              refine lv_aload_n S.1 S.2.1 dX7_knock_61 rfl (lv_at hl 1 rfl) ?_
              refine x_get S hE (hB) (C := RX7) (T := TX7) (N := 7) rfl inlX7 0 (by decide) (v := .ref (B + 1)) rfl kw1_15 rfl dX7_knock_62 ?_
              refine xk_V (x_runVN (As := [.ref (B + 1)]) (rest := []) S hE hS (bk_in (k := 37) (by decide)) (c_X2_record l E (B + 37) (B + 1) β.2.2.1 β.2.1 β.1 _ hHi hC (by omega)) kv_X2_record nw61 kw17_6 kw17_7 (x_recv hE (hHi.2.1) (ci := 2) rfl) ⟨Nat.le_of_ble_eq_true rfl, Nat.le_of_ble_eq_true rfl⟩ rfl rfl rfl hl.1 rfl (Nat.le_of_ble_eq_true rfl) dX7_knock_65 ⟨Nat.zero_le _, Nat.zero_le _⟩) hS (bk_in (k := 37) (by decide)) (fun H locs hX hO1 hS => ?_)
              have hO := out_in hO hO1 (k := 37) (by decide)
              have hB := va_at.kept hB (hO1.2 _ (fun y => by obtain ⟨u', v'⟩ := y; omega))
              have hC := hC.fr (fun q z => hO1.2 q (fun y => by obtain ⟨u, v⟩ := z; obtain ⟨u', v'⟩ := y; omega))
              have hAh := hAh.fr (fun q z => hO1.2 q (fun y => by obtain ⟨u, v⟩ := z; obtain ⟨u', v'⟩ := y; omega))
              have hT := hT.fr (fun q z => hO1.2 q (fun y => by obtain ⟨u, v⟩ := z; obtain ⟨u', v'⟩ := y; omega))
              have hR := hR.fr (hO1.2 _ (fun y => by obtain ⟨u', v'⟩ := y; omega))
              have hM := hM.fr (fun q z => hO1.2 q (fun y => by obtain ⟨u, v⟩ := z; obtain ⟨u', v'⟩ := y; omega))
              have hSh := va_at.kept hSh (hO1.2 _ (fun y => by obtain ⟨u', v'⟩ := y; omega))
              have hHi := hX
              refine lv_iload S.1 S.2.1 dX7_knock_68 (lv_at hl 0 rfl) ?_
              refine lv_iconst (v := (-1)) S.1 S.2.1 dX7_knock_70 (by decide) ?_
              refine lv_icmp_ne (tgt := 85) S.1 S.2.1 dX7_knock_71 rfl (fun h8 => ?_) (fun h8 => ?_)
              · exact absurd h5 h8
              · skip
                refine lv_aload_n S.1 S.2.1 dX7_knock_74 rfl (lv_at hl 1 rfl) ?_
                refine x_get S hE (hB) (C := RX7) (T := TX7) (N := 7) rfl inlX7 0 (by decide) (v := .ref (B + 1)) rfl kw1_15 rfl dX7_knock_75 ?_
                refine lv_iload_n S.1 S.2.1 dX7_knock_78 rfl (lv_at hl 2 rfl) ?_
                refine lv_iload_n S.1 S.2.1 dX7_knock_79 rfl (lv_at hl 3 rfl) ?_
                refine lv_iload_n S.1 S.2.1 dX7_knock_80 rfl (lv_at hl 4 rfl) ?_
                refine xk_W (x_runVN (As := [.int pa, .int qa, .int ya]) (rest := []) S hE hS (bk_in (k := 1) (by decide)) (c_X0_takeNewNote l E (B + 1) β.1 pa qa ya _ hC) kv_X0_takeNewNote nw68 kw18_12 kw18_13 (x_recv hE (hC.1) (ci := 0) rfl) ⟨Nat.le_of_ble_eq_true rfl, Nat.le_of_ble_eq_true rfl⟩ rfl rfl rfl hl.1 rfl (Nat.le_of_ble_eq_true rfl) dX7_knock_81 ⟨Nat.zero_le _, Nat.zero_le _⟩) hS (bk_in (k := 1) (by decide)) (fun v0 H locs hX hO1 hS => ?_)
                obtain ⟨hv0, hX⟩ := hX
                subst hv0
                have hO := out_in hO hO1 (k := 1) (by decide)
                have hB := va_at.kept hB (hO1.2 _ (fun y => by obtain ⟨u', v'⟩ := y; omega))
                have hAh := hAh.fr (fun q z => hO1.2 q (fun y => by obtain ⟨u, v⟩ := z; obtain ⟨u', v'⟩ := y; omega))
                have hHi := hHi.fr (fun q z => hO1.2 q (fun y => by obtain ⟨u, v⟩ := z; obtain ⟨u', v'⟩ := y; omega))
                have hT := hT.fr (fun q z => hO1.2 q (fun y => by obtain ⟨u, v⟩ := z; obtain ⟨u', v'⟩ := y; omega))
                have hR := hR.fr (hO1.2 _ (fun y => by obtain ⟨u', v'⟩ := y; omega))
                have hM := hM.fr (fun q z => hO1.2 q (fun y => by obtain ⟨u, v⟩ := z; obtain ⟨u', v'⟩ := y; omega))
                have hSh := va_at.kept hSh (hO1.2 _ (fun y => by obtain ⟨u', v'⟩ := y; omega))
                have hC := hX
                subst hQ
                refine x_retW S hr hlk (rfl) hS hO ?_ dX7_knock_84
                exact by rw [bxKnock, if_pos h1, if_pos h2, if_neg h3, if_pos h4, if_pos h5, if_pos h7]; exact ⟨rfl, ⟨hB, hC, hHi, hT, ⟨_, hAh⟩, ⟨_, _, _, _, hR⟩, ⟨_, hM⟩, _, hSh⟩⟩
            · skip
              have h7 := bI_0 h7
              refine lv_bipush (v := (-3)) S.1 S.2.1 dX7_knock_54 (by decide) ?_
              subst hQ
              refine x_retW S hr hlk (rfl) hS hO ?_ dX7_knock_56
              exact by rw [bxKnock, if_pos h1, if_pos h2, if_neg h3, if_pos h4, if_pos h5, if_neg h7]; exact ⟨rfl, ⟨hB, hC, hHi, hT, ⟨_, hAh⟩, ⟨_, _, _, _, hR⟩, ⟨_, hM⟩, _, hSh⟩⟩
        · skip
          refine lv_iconst (v := (-1)) S.1 S.2.1 dX7_knock_25 (by decide) ?_
          subst hQ
          refine x_retW S hr hlk (rfl) hS hO ?_ dX7_knock_26
          exact by rw [bxKnock, if_pos h1, if_pos h2, if_neg h3, if_neg h4]; exact ⟨rfl, ⟨hB, hC, hHi, hT, ⟨_, hAh⟩, ⟨_, _, _, _, hR⟩, ⟨_, hM⟩, _, hSh⟩⟩
abbrev rm_X7_release : Room := ({ frames := 5, cells := 0, slots := 0, locals := 114 } : Room)
set_option maxRecDepth 100000 in
set_option maxHeartbeats 600000 in
theorem c_X7_release (l : Launch) (E : XE) (B : Nat) (β : BS) (pa : Int32) (qa : Int32) (H : Heap) (hP : BoxP E B β H) : Wr l E yX7_release cX7_release 4 (some .int) rm_X7_release [.ref B, .int pa, .int qa] H (bk B 118) (fun v H1 => v = (bxRel β.1 pa qa).1 ∧ BoxP E B (bxUp β (bxRel β.1 pa qa).2) H1) := by
  refine met_of (by decide) (Nat.le_of_ble_eq_true rfl) (fun p e s m args below meth c hBD Q hQ ls hl => ?_)
  obtain ⟨S, hr, hlk, hnm, hE, hH⟩ := hBD
  subst hH
  have hl : lv_has ls 4 [(0, .ref B), (1, .int pa), (2, .int qa)] := hl
  have hO : Out (bk B 118) s.heap s.heap := Out.rf
  have hS : va_S (bk B 118) s.heap s.heap [] := va_S.rf
  obtain ⟨hB, hC, hHi, hT, ⟨χa, hAh⟩, ⟨p0, o0, q0, r0, hR⟩, ⟨z, hM⟩, sh, hSh⟩ := hP
  refine lv_iload_n S.1 S.2.1 dX7_release_0 rfl (lv_at hl 1 rfl) ?_
  refine xk_R (v := (bI (xPart pa))) (x_runS (As := [.int pa]) (rest := []) S hE hS (fun _ h => h.elim) (c_X7_isPart l E pa _) kv_X7_isPart kw9_7 kw9_8 ⟨Nat.le_of_ble_eq_true rfl, Nat.le_of_ble_eq_true rfl⟩ rfl rfl rfl hl.1 rfl (Nat.le_of_ble_eq_true rfl) dX7_release_1 ⟨Nat.zero_le _, Nat.zero_le _⟩) ?_
  refine lv_if_eq (tgt := 14) S.1 S.2.1 dX7_release_4 rfl (fun h1 => ?_) (fun h1 => ?_)
  · skip
    have h1 := bI_0 h1
    refine lv_iconst (v := (-1)) S.1 S.2.1 dX7_release_14 (by decide) ?_
    subst hQ
    refine x_retW S hr hlk (rfl) hS hO ?_ dX7_release_15
    exact by rw [bxRel, if_neg h1]; exact ⟨rfl, ⟨hB, hC, hHi, hT, ⟨_, hAh⟩, ⟨_, _, _, _, hR⟩, ⟨_, hM⟩, _, hSh⟩⟩
  · skip
    have h1 := bI_n0 h1
    refine lv_iload_n S.1 S.2.1 dX7_release_7 rfl (lv_at hl 2 rfl) ?_
    refine xk_R (v := (bI (xPitch qa))) (x_runS (As := [.int qa]) (rest := []) S hE hS (fun _ h => h.elim) (c_X7_isPitch l E qa _) kv_X7_isPitch kw10_9 kw10_10 ⟨Nat.le_of_ble_eq_true rfl, Nat.le_of_ble_eq_true rfl⟩ rfl rfl rfl hl.1 rfl (Nat.le_of_ble_eq_true rfl) dX7_release_8 ⟨Nat.zero_le _, Nat.zero_le _⟩) ?_
    refine lv_if_ne (tgt := 16) S.1 S.2.1 dX7_release_11 rfl (fun h2 => ?_) (fun h2 => ?_)
    · skip
      have h2 := bI_n0 h2
      refine lv_aload_n S.1 S.2.1 dX7_release_16 rfl (lv_at hl 0 rfl) ?_
      refine x_get S hE (hB) (C := RX7) (T := TX7) (N := 7) rfl inlX7 0 (by decide) (v := .ref (B + 1)) rfl kw1_15 rfl dX7_release_17 ?_
      refine lv_iload_n S.1 S.2.1 dX7_release_20 rfl (lv_at hl 1 rfl) ?_
      refine lv_iload_n S.1 S.2.1 dX7_release_21 rfl (lv_at hl 2 rfl) ?_
      refine xk_R (v := (chSinger β.1 pa qa)) (x_runVN (As := [.int pa, .int qa]) (rest := []) S hE hS (fun _ h => h.elim) (c_X0_singerToLetGo l E (B + 1) β.1 pa qa _ hC) kv_X0_singerToLetGo nw78 kw20_7 kw20_8 (x_recv hE (hC.1) (ci := 0) rfl) ⟨Nat.le_of_ble_eq_true rfl, Nat.le_of_ble_eq_true rfl⟩ rfl rfl rfl hl.1 rfl (Nat.le_of_ble_eq_true rfl) dX7_release_22 ⟨Nat.zero_le _, Nat.zero_le _⟩) ?_
      refine lv_istore_n S.1 S.2.1 dX7_release_25 rfl hl (by decide) rfl (fun ls hl => ?_)
      have hl : lv_has ls 4 [(3, .int (chSinger β.1 pa qa)), (0, .ref B), (1, .int pa), (2, .int qa)] := hl
      refine lv_iload_n S.1 S.2.1 dX7_release_26 rfl (lv_at hl 0 rfl) ?_
      refine lv_iconst (v := (-1)) S.1 S.2.1 dX7_release_27 (by decide) ?_
      refine lv_icmp_ne (tgt := 41) S.1 S.2.1 dX7_release_28 rfl (fun h3 => ?_) (fun h3 => ?_)
      · skip
        refine lv_iload_n S.1 S.2.1 dX7_release_41 rfl (lv_at hl 0 rfl) ?_
        refine lv_iconst (v := (-1)) S.1 S.2.1 dX7_release_42 (by decide) ?_
        refine lv_icmp_ne (tgt := 49) S.1 S.2.1 dX7_release_43 rfl (fun h4 => ?_) (fun h4 => ?_)
        · skip
          refine lv_aload_n S.1 S.2.1 dX7_release_49 rfl (lv_at hl 1 rfl) ?_
          refine x_get S hE (hB) (C := RX7) (T := TX7) (N := 7) rfl inlX7 2 (by decide) (v := .ref (B + 37)) rfl kw1_20 rfl dX7_release_50 ?_
          refine lv_aload_n S.1 S.2.1 dX7_release_53 rfl (lv_at hl 1 rfl) ?_
          refine x_get S hE (hB) (C := RX7) (T := TX7) (N := 7) rfl inlX7 0 (by decide) (v := .ref (B + 1)) rfl kw1_15 rfl dX7_release_54 ?_
          refine xk_V (x_runVN (As := [.ref (B + 1)]) (rest := []) S hE hS (bk_in (k := 37) (by decide)) (c_X2_record l E (B + 37) (B + 1) β.2.2.1 β.2.1 β.1 _ hHi hC (by omega)) kv_X2_record nw61 kw17_6 kw17_7 (x_recv hE (hHi.2.1) (ci := 2) rfl) ⟨Nat.le_of_ble_eq_true rfl, Nat.le_of_ble_eq_true rfl⟩ rfl rfl rfl hl.1 rfl (Nat.le_of_ble_eq_true rfl) dX7_release_57 ⟨Nat.zero_le _, Nat.zero_le _⟩) hS (bk_in (k := 37) (by decide)) (fun H locs hX hO1 hS => ?_)
          have hO := out_in hO hO1 (k := 37) (by decide)
          have hB := va_at.kept hB (hO1.2 _ (fun y => by obtain ⟨u', v'⟩ := y; omega))
          have hC := hC.fr (fun q z => hO1.2 q (fun y => by obtain ⟨u, v⟩ := z; obtain ⟨u', v'⟩ := y; omega))
          have hAh := hAh.fr (fun q z => hO1.2 q (fun y => by obtain ⟨u, v⟩ := z; obtain ⟨u', v'⟩ := y; omega))
          have hT := hT.fr (fun q z => hO1.2 q (fun y => by obtain ⟨u, v⟩ := z; obtain ⟨u', v'⟩ := y; omega))
          have hR := hR.fr (hO1.2 _ (fun y => by obtain ⟨u', v'⟩ := y; omega))
          have hM := hM.fr (fun q z => hO1.2 q (fun y => by obtain ⟨u, v⟩ := z; obtain ⟨u', v'⟩ := y; omega))
          have hSh := va_at.kept hSh (hO1.2 _ (fun y => by obtain ⟨u', v'⟩ := y; omega))
          have hHi := hX
          refine lv_aload_n S.1 S.2.1 dX7_release_60 rfl (lv_at hl 1 rfl) ?_
          refine x_get S hE (hB) (C := RX7) (T := TX7) (N := 7) rfl inlX7 0 (by decide) (v := .ref (B + 1)) rfl kw1_15 rfl dX7_release_61 ?_
          refine lv_iload_n S.1 S.2.1 dX7_release_64 rfl (lv_at hl 0 rfl) ?_
          refine xk_V (x_runVN (As := [.int (chSinger β.1 pa qa)]) (rest := []) S hE hS (bk_in (k := 1) (by decide)) (c_X0_letGo l E (B + 1) β.1 (chSinger β.1 pa qa) _ hC) kv_X0_letGo nw80 kw20_14 kw20_15 (x_recv hE (hC.1) (ci := 0) rfl) ⟨Nat.le_of_ble_eq_true rfl, Nat.le_of_ble_eq_true rfl⟩ rfl rfl rfl hl.1 rfl (Nat.le_of_ble_eq_true rfl) dX7_release_65 ⟨Nat.zero_le _, Nat.zero_le _⟩) hS (bk_in (k := 1) (by decide)) (fun H locs hX hO1 hS => ?_)
          have hO := out_in hO hO1 (k := 1) (by decide)
          have hB := va_at.kept hB (hO1.2 _ (fun y => by obtain ⟨u', v'⟩ := y; omega))
          have hAh := hAh.fr (fun q z => hO1.2 q (fun y => by obtain ⟨u, v⟩ := z; obtain ⟨u', v'⟩ := y; omega))
          have hHi := hHi.fr (fun q z => hO1.2 q (fun y => by obtain ⟨u, v⟩ := z; obtain ⟨u', v'⟩ := y; omega))
          have hT := hT.fr (fun q z => hO1.2 q (fun y => by obtain ⟨u, v⟩ := z; obtain ⟨u', v'⟩ := y; omega))
          have hR := hR.fr (hO1.2 _ (fun y => by obtain ⟨u', v'⟩ := y; omega))
          have hM := hM.fr (fun q z => hO1.2 q (fun y => by obtain ⟨u, v⟩ := z; obtain ⟨u', v'⟩ := y; omega))
          have hSh := va_at.kept hSh (hO1.2 _ (fun y => by obtain ⟨u', v'⟩ := y; omega))
          have hC : ChoP E (B + 1) (chLet β.1 (chSinger β.1 pa qa)) H := hX
          refine lv_iload_n S.1 S.2.1 dX7_release_68 rfl (lv_at hl 0 rfl) ?_
          subst hQ
          refine x_retW S hr hlk (rfl) hS hO ?_ dX7_release_69
          exact by rw [bxRel, if_pos h1, if_pos h2, if_neg h3]; exact ⟨rfl, ⟨hB, hC, hHi, hT, ⟨_, hAh⟩, ⟨_, _, _, _, hR⟩, ⟨_, hM⟩, _, hSh⟩⟩
        · exact absurd h4 h3
      · skip
        refine lv_aload_n S.1 S.2.1 dX7_release_31 rfl (lv_at hl 1 rfl) ?_
        refine x_get S hE (hB) (C := RX7) (T := TX7) (N := 7) rfl inlX7 0 (by decide) (v := .ref (B + 1)) rfl kw1_15 rfl dX7_release_32 ?_
        refine lv_iload_n S.1 S.2.1 dX7_release_35 rfl (lv_at hl 2 rfl) ?_
        refine lv_iload_n S.1 S.2.1 dX7_release_36 rfl (lv_at hl 3 rfl) ?_
        refine xk_R (v := (chWait β.1 pa qa)) (x_runVN (As := [.int pa, .int qa]) (rest := []) S hE hS (fun _ h => h.elim) (c_X0_waiterOf l E (B + 1) β.1 pa qa _ hC) kv_X0_waiterOf nw79 kw20_11 kw20_12 (x_recv hE (hC.1) (ci := 0) rfl) ⟨Nat.le_of_ble_eq_true rfl, Nat.le_of_ble_eq_true rfl⟩ rfl rfl rfl hl.1 rfl (Nat.le_of_ble_eq_true rfl) dX7_release_37 ⟨Nat.zero_le _, Nat.zero_le _⟩) ?_
        refine lv_istore_n S.1 S.2.1 dX7_release_40 rfl hl (by decide) rfl (fun ls hl => ?_)
        have hl : lv_has ls 4 [(3, .int (chWait β.1 pa qa)), (0, .ref B), (1, .int pa), (2, .int qa)] := hl
        refine lv_iload_n S.1 S.2.1 dX7_release_41 rfl (lv_at hl 0 rfl) ?_
        refine lv_iconst (v := (-1)) S.1 S.2.1 dX7_release_42 (by decide) ?_
        refine lv_icmp_ne (tgt := 49) S.1 S.2.1 dX7_release_43 rfl (fun h5 => ?_) (fun h5 => ?_)
        · skip
          refine lv_aload_n S.1 S.2.1 dX7_release_49 rfl (lv_at hl 1 rfl) ?_
          refine x_get S hE (hB) (C := RX7) (T := TX7) (N := 7) rfl inlX7 2 (by decide) (v := .ref (B + 37)) rfl kw1_20 rfl dX7_release_50 ?_
          refine lv_aload_n S.1 S.2.1 dX7_release_53 rfl (lv_at hl 1 rfl) ?_
          refine x_get S hE (hB) (C := RX7) (T := TX7) (N := 7) rfl inlX7 0 (by decide) (v := .ref (B + 1)) rfl kw1_15 rfl dX7_release_54 ?_
          refine xk_V (x_runVN (As := [.ref (B + 1)]) (rest := []) S hE hS (bk_in (k := 37) (by decide)) (c_X2_record l E (B + 37) (B + 1) β.2.2.1 β.2.1 β.1 _ hHi hC (by omega)) kv_X2_record nw61 kw17_6 kw17_7 (x_recv hE (hHi.2.1) (ci := 2) rfl) ⟨Nat.le_of_ble_eq_true rfl, Nat.le_of_ble_eq_true rfl⟩ rfl rfl rfl hl.1 rfl (Nat.le_of_ble_eq_true rfl) dX7_release_57 ⟨Nat.zero_le _, Nat.zero_le _⟩) hS (bk_in (k := 37) (by decide)) (fun H locs hX hO1 hS => ?_)
          have hO := out_in hO hO1 (k := 37) (by decide)
          have hB := va_at.kept hB (hO1.2 _ (fun y => by obtain ⟨u', v'⟩ := y; omega))
          have hC := hC.fr (fun q z => hO1.2 q (fun y => by obtain ⟨u, v⟩ := z; obtain ⟨u', v'⟩ := y; omega))
          have hAh := hAh.fr (fun q z => hO1.2 q (fun y => by obtain ⟨u, v⟩ := z; obtain ⟨u', v'⟩ := y; omega))
          have hT := hT.fr (fun q z => hO1.2 q (fun y => by obtain ⟨u, v⟩ := z; obtain ⟨u', v'⟩ := y; omega))
          have hR := hR.fr (hO1.2 _ (fun y => by obtain ⟨u', v'⟩ := y; omega))
          have hM := hM.fr (fun q z => hO1.2 q (fun y => by obtain ⟨u, v⟩ := z; obtain ⟨u', v'⟩ := y; omega))
          have hSh := va_at.kept hSh (hO1.2 _ (fun y => by obtain ⟨u', v'⟩ := y; omega))
          have hHi := hX
          refine lv_aload_n S.1 S.2.1 dX7_release_60 rfl (lv_at hl 1 rfl) ?_
          refine x_get S hE (hB) (C := RX7) (T := TX7) (N := 7) rfl inlX7 0 (by decide) (v := .ref (B + 1)) rfl kw1_15 rfl dX7_release_61 ?_
          refine lv_iload_n S.1 S.2.1 dX7_release_64 rfl (lv_at hl 0 rfl) ?_
          refine xk_V (x_runVN (As := [.int (chWait β.1 pa qa)]) (rest := []) S hE hS (bk_in (k := 1) (by decide)) (c_X0_letGo l E (B + 1) β.1 (chWait β.1 pa qa) _ hC) kv_X0_letGo nw80 kw20_14 kw20_15 (x_recv hE (hC.1) (ci := 0) rfl) ⟨Nat.le_of_ble_eq_true rfl, Nat.le_of_ble_eq_true rfl⟩ rfl rfl rfl hl.1 rfl (Nat.le_of_ble_eq_true rfl) dX7_release_65 ⟨Nat.zero_le _, Nat.zero_le _⟩) hS (bk_in (k := 1) (by decide)) (fun H locs hX hO1 hS => ?_)
          have hO := out_in hO hO1 (k := 1) (by decide)
          have hB := va_at.kept hB (hO1.2 _ (fun y => by obtain ⟨u', v'⟩ := y; omega))
          have hAh := hAh.fr (fun q z => hO1.2 q (fun y => by obtain ⟨u, v⟩ := z; obtain ⟨u', v'⟩ := y; omega))
          have hHi := hHi.fr (fun q z => hO1.2 q (fun y => by obtain ⟨u, v⟩ := z; obtain ⟨u', v'⟩ := y; omega))
          have hT := hT.fr (fun q z => hO1.2 q (fun y => by obtain ⟨u, v⟩ := z; obtain ⟨u', v'⟩ := y; omega))
          have hR := hR.fr (hO1.2 _ (fun y => by obtain ⟨u', v'⟩ := y; omega))
          have hM := hM.fr (fun q z => hO1.2 q (fun y => by obtain ⟨u, v⟩ := z; obtain ⟨u', v'⟩ := y; omega))
          have hSh := va_at.kept hSh (hO1.2 _ (fun y => by obtain ⟨u', v'⟩ := y; omega))
          have hC : ChoP E (B + 1) (chLet β.1 (chWait β.1 pa qa)) H := hX
          refine lv_iload_n S.1 S.2.1 dX7_release_68 rfl (lv_at hl 0 rfl) ?_
          subst hQ
          refine x_retW S hr hlk (rfl) hS hO ?_ dX7_release_69
          exact by rw [bxRel, if_pos h1, if_pos h2, if_pos h3, if_neg h5]; exact ⟨rfl, ⟨hB, hC, hHi, hT, ⟨_, hAh⟩, ⟨_, _, _, _, hR⟩, ⟨_, hM⟩, _, hSh⟩⟩
        · skip
          refine lv_bipush (v := (-2)) S.1 S.2.1 dX7_release_46 (by decide) ?_
          subst hQ
          refine x_retW S hr hlk (rfl) hS hO ?_ dX7_release_48
          exact by rw [bxRel, if_pos h1, if_pos h2, if_pos h3, if_pos h5]; exact ⟨rfl, ⟨hB, hC, hHi, hT, ⟨_, hAh⟩, ⟨_, _, _, _, hR⟩, ⟨_, hM⟩, _, hSh⟩⟩
    · skip
      have h2 := bI_0 h2
      refine lv_iconst (v := (-1)) S.1 S.2.1 dX7_release_14 (by decide) ?_
      subst hQ
      refine x_retW S hr hlk (rfl) hS hO ?_ dX7_release_15
      exact by rw [bxRel, if_pos h1, if_neg h2]; exact ⟨rfl, ⟨hB, hC, hHi, hT, ⟨_, hAh⟩, ⟨_, _, _, _, hR⟩, ⟨_, hM⟩, _, hSh⟩⟩
abbrev rm_X7_pedal : Room := ({ frames := 5, cells := 0, slots := 0, locals := 107 } : Room)
set_option maxRecDepth 100000 in
set_option maxHeartbeats 600000 in
theorem c_X7_pedal (l : Launch) (E : XE) (B : Nat) (β : BS) (da : Int32) (H : Heap) (hP : BoxP E B β H) : Wr l E yX7_pedal cX7_pedal 2 (some .int) rm_X7_pedal [.ref B, .int da] H (bk B 118) (fun v H1 => v = (bxPed β.1 da).1 ∧ BoxP E B (bxUp β (bxPed β.1 da).2) H1) := by
  refine met_of (by decide) (Nat.le_of_ble_eq_true rfl) (fun p e s m args below meth c hBD Q hQ ls hl => ?_)
  obtain ⟨S, hr, hlk, hnm, hE, hH⟩ := hBD
  subst hH
  have hl : lv_has ls 2 [(0, .ref B), (1, .int da)] := hl
  have hO : Out (bk B 118) s.heap s.heap := Out.rf
  have hS : va_S (bk B 118) s.heap s.heap [] := va_S.rf
  obtain ⟨hB, hC, hHi, hT, ⟨χa, hAh⟩, ⟨p0, o0, q0, r0, hR⟩, ⟨z, hM⟩, sh, hSh⟩ := hP
  refine lv_iload_n S.1 S.2.1 dX7_pedal_0 rfl (lv_at hl 1 rfl) ?_
  refine lv_if_lt (tgt := 9) S.1 S.2.1 dX7_pedal_1 rfl (fun h1 => ?_) (fun h1 => ?_)
  · skip
    refine lv_iconst (v := (-1)) S.1 S.2.1 dX7_pedal_9 (by decide) ?_
    subst hQ
    refine x_retW S hr hlk (rfl) hS hO ?_ dX7_pedal_10
    exact by rw [bxPed, if_pos h1]; exact ⟨rfl, ⟨hB, hC, hHi, hT, ⟨_, hAh⟩, ⟨_, _, _, _, hR⟩, ⟨_, hM⟩, _, hSh⟩⟩
  · skip
    refine lv_iload_n S.1 S.2.1 dX7_pedal_4 rfl (lv_at hl 1 rfl) ?_
    refine lv_iconst (v := (nI 1)) S.1 S.2.1 dX7_pedal_5 (by decide) ?_
    refine lv_icmp_le (tgt := 11) S.1 S.2.1 dX7_pedal_6 rfl (fun h2 => ?_) (fun h2 => ?_)
    · skip
      refine lv_iload_n S.1 S.2.1 dX7_pedal_11 rfl (lv_at hl 1 rfl) ?_
      refine lv_aload_n S.1 S.2.1 dX7_pedal_12 rfl (lv_at hl 0 rfl) ?_
      refine x_get S hE (hB) (C := RX7) (T := TX7) (N := 7) rfl inlX7 0 (by decide) (v := .ref (B + 1)) rfl kw1_15 rfl dX7_pedal_13 ?_
      refine x_getN S hE (hC.1) (C := RX0) (T := TX0) (N := 10) rfl inlX0 7 (by decide) (v := .int (β.1.2.2.2 2)) rfl nw26 rfl dX7_pedal_16 ?_
      refine lv_icmp_ne (tgt := 25) S.1 S.2.1 dX7_pedal_19 rfl (fun h3 => ?_) (fun h3 => ?_)
      · skip
        refine lv_aload_n S.1 S.2.1 dX7_pedal_25 rfl (lv_at hl 0 rfl) ?_
        refine x_get S hE (hB) (C := RX7) (T := TX7) (N := 7) rfl inlX7 2 (by decide) (v := .ref (B + 37)) rfl kw1_20 rfl dX7_pedal_26 ?_
        refine lv_aload_n S.1 S.2.1 dX7_pedal_29 rfl (lv_at hl 0 rfl) ?_
        refine x_get S hE (hB) (C := RX7) (T := TX7) (N := 7) rfl inlX7 0 (by decide) (v := .ref (B + 1)) rfl kw1_15 rfl dX7_pedal_30 ?_
        refine xk_V (x_runVN (As := [.ref (B + 1)]) (rest := []) S hE hS (bk_in (k := 37) (by decide)) (c_X2_record l E (B + 37) (B + 1) β.2.2.1 β.2.1 β.1 _ hHi hC (by omega)) kv_X2_record nw61 kw17_6 kw17_7 (x_recv hE (hHi.2.1) (ci := 2) rfl) ⟨Nat.le_of_ble_eq_true rfl, Nat.le_of_ble_eq_true rfl⟩ rfl rfl rfl hl.1 rfl (Nat.le_of_ble_eq_true rfl) dX7_pedal_33 ⟨Nat.zero_le _, Nat.zero_le _⟩) hS (bk_in (k := 37) (by decide)) (fun H locs hX hO1 hS => ?_)
        have hO := out_in hO hO1 (k := 37) (by decide)
        have hB := va_at.kept hB (hO1.2 _ (fun y => by obtain ⟨u', v'⟩ := y; omega))
        have hC := hC.fr (fun q z => hO1.2 q (fun y => by obtain ⟨u, v⟩ := z; obtain ⟨u', v'⟩ := y; omega))
        have hAh := hAh.fr (fun q z => hO1.2 q (fun y => by obtain ⟨u, v⟩ := z; obtain ⟨u', v'⟩ := y; omega))
        have hT := hT.fr (fun q z => hO1.2 q (fun y => by obtain ⟨u, v⟩ := z; obtain ⟨u', v'⟩ := y; omega))
        have hR := hR.fr (hO1.2 _ (fun y => by obtain ⟨u', v'⟩ := y; omega))
        have hM := hM.fr (fun q z => hO1.2 q (fun y => by obtain ⟨u, v⟩ := z; obtain ⟨u', v'⟩ := y; omega))
        have hSh := va_at.kept hSh (hO1.2 _ (fun y => by obtain ⟨u', v'⟩ := y; omega))
        have hHi := hX
        refine lv_aload_n S.1 S.2.1 dX7_pedal_36 rfl (lv_at hl 0 rfl) ?_
        refine x_get S hE (hB) (C := RX7) (T := TX7) (N := 7) rfl inlX7 0 (by decide) (v := .ref (B + 1)) rfl kw1_15 rfl dX7_pedal_37 ?_
        refine lv_iload_n S.1 S.2.1 dX7_pedal_40 rfl (lv_at hl 1 rfl) ?_
        refine xk_W (x_runVN (As := [.int da]) (rest := []) S hE hS (bk_in (k := 1) (by decide)) (c_X0_movePedal l E (B + 1) β.1 da _ hC) kv_X0_movePedal nw82 kw21_0 kw21_1 (x_recv hE (hC.1) (ci := 0) rfl) ⟨Nat.le_of_ble_eq_true rfl, Nat.le_of_ble_eq_true rfl⟩ rfl rfl rfl hl.1 rfl (Nat.le_of_ble_eq_true rfl) dX7_pedal_41 ⟨Nat.zero_le _, Nat.zero_le _⟩) hS (bk_in (k := 1) (by decide)) (fun v0 H locs hX hO1 hS => ?_)
        obtain ⟨hv0, hX⟩ := hX
        subst hv0
        have hO := out_in hO hO1 (k := 1) (by decide)
        have hB := va_at.kept hB (hO1.2 _ (fun y => by obtain ⟨u', v'⟩ := y; omega))
        have hAh := hAh.fr (fun q z => hO1.2 q (fun y => by obtain ⟨u, v⟩ := z; obtain ⟨u', v'⟩ := y; omega))
        have hHi := hHi.fr (fun q z => hO1.2 q (fun y => by obtain ⟨u, v⟩ := z; obtain ⟨u', v'⟩ := y; omega))
        have hT := hT.fr (fun q z => hO1.2 q (fun y => by obtain ⟨u, v⟩ := z; obtain ⟨u', v'⟩ := y; omega))
        have hR := hR.fr (hO1.2 _ (fun y => by obtain ⟨u', v'⟩ := y; omega))
        have hM := hM.fr (fun q z => hO1.2 q (fun y => by obtain ⟨u, v⟩ := z; obtain ⟨u', v'⟩ := y; omega))
        have hSh := va_at.kept hSh (hO1.2 _ (fun y => by obtain ⟨u', v'⟩ := y; omega))
        have hC := hX
        subst hQ
        refine x_retW S hr hlk (rfl) hS hO ?_ dX7_pedal_44
        exact by rw [bxPed, if_neg h1, if_pos h2, if_neg h3]; exact ⟨rfl, ⟨hB, hC, hHi, hT, ⟨_, hAh⟩, ⟨_, _, _, _, hR⟩, ⟨_, hM⟩, _, hSh⟩⟩
      · skip
        refine lv_bipush (v := (-2)) S.1 S.2.1 dX7_pedal_22 (by decide) ?_
        subst hQ
        refine x_retW S hr hlk (rfl) hS hO ?_ dX7_pedal_24
        exact by rw [bxPed, if_neg h1, if_pos h2, if_pos h3]; exact ⟨rfl, ⟨hB, hC, hHi, hT, ⟨_, hAh⟩, ⟨_, _, _, _, hR⟩, ⟨_, hM⟩, _, hSh⟩⟩
    · skip
      refine lv_iconst (v := (-1)) S.1 S.2.1 dX7_pedal_9 (by decide) ?_
      subst hQ
      refine x_retW S hr hlk (rfl) hS hO ?_ dX7_pedal_10
      exact by rw [bxPed, if_neg h1, if_neg h2]; exact ⟨rfl, ⟨hB, hC, hHi, hT, ⟨_, hAh⟩, ⟨_, _, _, _, hR⟩, ⟨_, hM⟩, _, hSh⟩⟩
abbrev rm_X7_tick : Room := ({ frames := 6, cells := 0, slots := 0, locals := 134 } : Room)
set_option maxRecDepth 100000 in
set_option maxHeartbeats 600000 in
theorem c_X7_tick (l : Launch) (E : XE) (B : Nat) (β : BS) (ta : Int32) (H : Heap) (hP : BoxP E B β H) : Wr l E yX7_tick cX7_tick 3 (some .int) rm_X7_tick [.ref B, .int ta] H (bk B 118) (fun v H1 => v = (bxTick β.1 ta).1 ∧ BoxP E B (bxUp β (bxTick β.1 ta).2) H1) := by
  refine met_of (by decide) (Nat.le_of_ble_eq_true rfl) (fun p e s m args below meth c hBD Q hQ ls hl => ?_)
  obtain ⟨S, hr, hlk, hnm, hE, hH⟩ := hBD
  subst hH
  have hl : lv_has ls 3 [(0, .ref B), (1, .int ta)] := hl
  have hO : Out (bk B 118) s.heap s.heap := Out.rf
  have hS : va_S (bk B 118) s.heap s.heap [] := va_S.rf
  obtain ⟨hB, hC, hHi, hT, ⟨χa, hAh⟩, ⟨p0, o0, q0, r0, hR⟩, ⟨z, hM⟩, sh, hSh⟩ := hP
  refine lv_iload_n S.1 S.2.1 dX7_tick_0 rfl (lv_at hl 1 rfl) ?_
  refine lv_iconst (v := (nI 1)) S.1 S.2.1 dX7_tick_1 (by decide) ?_
  refine lv_icmp_lt (tgt := 11) S.1 S.2.1 dX7_tick_2 rfl (fun h1 => ?_) (fun h1 => ?_)
  · skip
    refine lv_iconst (v := (-1)) S.1 S.2.1 dX7_tick_11 (by decide) ?_
    subst hQ
    refine x_retW S hr hlk (rfl) hS hO ?_ dX7_tick_12
    exact by rw [bxTick, if_pos h1]; exact ⟨rfl, ⟨hB, hC, hHi, hT, ⟨_, hAh⟩, ⟨_, _, _, _, hR⟩, ⟨_, hM⟩, _, hSh⟩⟩
  · skip
    refine lv_iload_n S.1 S.2.1 dX7_tick_5 rfl (lv_at hl 1 rfl) ?_
    refine lv_bipush (v := (nI 100)) S.1 S.2.1 dX7_tick_6 (by decide) ?_
    refine lv_icmp_le (tgt := 13) S.1 S.2.1 dX7_tick_8 rfl (fun h2 => ?_) (fun h2 => ?_)
    · skip
      refine lv_aload_n S.1 S.2.1 dX7_tick_13 rfl (lv_at hl 0 rfl) ?_
      refine x_get S hE (hB) (C := RX7) (T := TX7) (N := 7) rfl inlX7 0 (by decide) (v := .ref (B + 1)) rfl kw1_15 rfl dX7_tick_14 ?_
      refine x_getN S hE (hC.1) (C := RX0) (T := TX0) (N := 10) rfl inlX0 6 (by decide) (v := .int (β.1.2.2.2 1)) rfl nw25 rfl dX7_tick_17 ?_
      refine lv_iload_n S.1 S.2.1 dX7_tick_20 rfl (lv_at hl 1 rfl) ?_
      refine lv_iadd S.1 S.2.1 dX7_tick_21 ?_
      refine lv_ldc (v := 50000) S.1 S.2.1 S.2.2.2.1 (S.2.2.2.2 _ kw22_1) dX7_tick_22 ?_
      refine x_top (y := (nI 50000)) (by decide) ?_
      refine lv_icmp_le (tgt := 30) S.1 S.2.1 dX7_tick_24 rfl (fun h3 => ?_) (fun h3 => ?_)
      · skip
        refine lv_aload_n S.1 S.2.1 dX7_tick_30 rfl (lv_at hl 0 rfl) ?_
        refine x_get S hE (hB) (C := RX7) (T := TX7) (N := 7) rfl inlX7 2 (by decide) (v := .ref (B + 37)) rfl kw1_20 rfl dX7_tick_31 ?_
        refine lv_aload_n S.1 S.2.1 dX7_tick_34 rfl (lv_at hl 0 rfl) ?_
        refine x_get S hE (hB) (C := RX7) (T := TX7) (N := 7) rfl inlX7 0 (by decide) (v := .ref (B + 1)) rfl kw1_15 rfl dX7_tick_35 ?_
        refine xk_V (x_runVN (As := [.ref (B + 1)]) (rest := []) S hE hS (bk_in (k := 37) (by decide)) (c_X2_record l E (B + 37) (B + 1) β.2.2.1 β.2.1 β.1 _ hHi hC (by omega)) kv_X2_record nw61 kw17_6 kw17_7 (x_recv hE (hHi.2.1) (ci := 2) rfl) ⟨Nat.le_of_ble_eq_true rfl, Nat.le_of_ble_eq_true rfl⟩ rfl rfl rfl hl.1 rfl (Nat.le_of_ble_eq_true rfl) dX7_tick_38 ⟨Nat.zero_le _, Nat.zero_le _⟩) hS (bk_in (k := 37) (by decide)) (fun H locs hX hO1 hS => ?_)
        have hO := out_in hO hO1 (k := 37) (by decide)
        have hB := va_at.kept hB (hO1.2 _ (fun y => by obtain ⟨u', v'⟩ := y; omega))
        have hC := hC.fr (fun q z => hO1.2 q (fun y => by obtain ⟨u, v⟩ := z; obtain ⟨u', v'⟩ := y; omega))
        have hAh := hAh.fr (fun q z => hO1.2 q (fun y => by obtain ⟨u, v⟩ := z; obtain ⟨u', v'⟩ := y; omega))
        have hT := hT.fr (fun q z => hO1.2 q (fun y => by obtain ⟨u, v⟩ := z; obtain ⟨u', v'⟩ := y; omega))
        have hR := hR.fr (hO1.2 _ (fun y => by obtain ⟨u', v'⟩ := y; omega))
        have hM := hM.fr (fun q z => hO1.2 q (fun y => by obtain ⟨u, v⟩ := z; obtain ⟨u', v'⟩ := y; omega))
        have hSh := va_at.kept hSh (hO1.2 _ (fun y => by obtain ⟨u', v'⟩ := y; omega))
        have hHi := hX
        refine lv_iconst (v := (nI 0)) S.1 S.2.1 dX7_tick_41 (by decide) ?_
        refine lv_istore_n S.1 S.2.1 dX7_tick_42 rfl hl (by decide) rfl (fun ls hl => ?_)
        have hl : lv_has ls 3 [(2, .int (nI 0)), (0, .ref B), (1, .int ta)] := hl
        have hloop43 : ∀ (d : Nat) (i : Nat) (H : Heap) (locs : List Loc) (ls : Array Slot), ta.toNatClampNeg - i = d → i ≤ ta.toNatClampNeg → BxO E B H → ChoP E (B + 1) (tkN β.1 i) H → HisP E (B + 37) (hiRec β.2.1 β.2.2.1 β.1) (hiLen β.2.2.1) H → ForP E (B + 111) β.2.2.2 H → ChoP E (B + 19) χa H → RdP E (B + 113) p0 o0 q0 r0 H → MixP E (B + 114) z H → XI E (B + 117) 4 sh H → Out (bk B 118) s.heap H → va_S (bk B 118) s.heap H locs → lv_has ls 3 [(2, .int (nI i)), (0, .ref B), (1, .int ta)] → W p l e rm_X7_tick s m args below meth c H locs 0 0 Q (F0 m 43 ls []) := by
          intro d
          induction d using Nat.strongRecOn with
          | ind d ih =>
            intro i H locs ls hd hi hB hC hHi hT hAh hR hM hSh hO hS hl
            refine lv_iload_n S.1 S.2.1 dX7_tick_43 rfl (lv_at hl 0 rfl) ?_
            refine lv_iload_n S.1 S.2.1 dX7_tick_44 rfl (lv_at hl 2 rfl) ?_
            refine lv_icmp_ge (tgt := 61) S.1 S.2.1 dX7_tick_45 rfl (fun h4 => ?_) (fun h4 => ?_)
            · skip
              have hge : i = ta.toNatClampNeg := tk_ge (i_nlt h1) h2 hi h4
              refine lv_aload_n S.1 S.2.1 dX7_tick_61 rfl (lv_at hl 1 rfl) ?_
              refine x_get S hE (hB) (C := RX7) (T := TX7) (N := 7) rfl inlX7 0 (by decide) (v := .ref (B + 1)) rfl kw1_15 rfl dX7_tick_62 ?_
              refine xk_R (v := (chSum (tkN β.1 i))) (x_runVN (As := []) (rest := []) S hE hS (fun _ h => h.elim) (c_X0_sum l E (B + 1) (tkN β.1 i)  _ hC) kv_X0_sum nw46 kw8_7 kw8_8 (x_recv hE (hC.1) (ci := 0) rfl) ⟨Nat.le_of_ble_eq_true rfl, Nat.le_of_ble_eq_true rfl⟩ rfl rfl rfl hl.1 rfl (Nat.le_of_ble_eq_true rfl) dX7_tick_65 ⟨Nat.zero_le _, Nat.zero_le _⟩) ?_
              subst hQ
              refine x_retW S hr hlk (rfl) hS hO ?_ dX7_tick_68
              exact by rw [bxTick, if_neg h1, if_pos h2, if_pos h3]; rw [← hge]; exact ⟨rfl, ⟨hB, hC, hHi, hT, ⟨_, hAh⟩, ⟨_, _, _, _, hR⟩, ⟨_, hM⟩, _, hSh⟩⟩
            · skip
              have hlt : i < ta.toNatClampNeg := tk_lt (i_nlt h1) h2 hi h4
              refine lv_aload_n S.1 S.2.1 dX7_tick_48 rfl (lv_at hl 1 rfl) ?_
              refine x_get S hE (hB) (C := RX7) (T := TX7) (N := 7) rfl inlX7 0 (by decide) (v := .ref (B + 1)) rfl kw1_15 rfl dX7_tick_49 ?_
              refine xk_V (x_runVN (As := []) (rest := []) S hE hS (bk_in (k := 1) (by decide)) (c_X0_passTick l E (B + 1) (tkN β.1 i)  _ hC) kv_X0_passTick nw83 kw22_2 kw22_3 (x_recv hE (hC.1) (ci := 0) rfl) ⟨Nat.le_of_ble_eq_true rfl, Nat.le_of_ble_eq_true rfl⟩ rfl rfl rfl hl.1 rfl (Nat.le_of_ble_eq_true rfl) dX7_tick_52 ⟨Nat.zero_le _, Nat.zero_le _⟩) hS (bk_in (k := 1) (by decide)) (fun H locs hX hO1 hS => ?_)
              have hO := out_in hO hO1 (k := 1) (by decide)
              have hB := va_at.kept hB (hO1.2 _ (fun y => by obtain ⟨u', v'⟩ := y; omega))
              have hAh := hAh.fr (fun q z => hO1.2 q (fun y => by obtain ⟨u, v⟩ := z; obtain ⟨u', v'⟩ := y; omega))
              have hHi := hHi.fr (fun q z => hO1.2 q (fun y => by obtain ⟨u, v⟩ := z; obtain ⟨u', v'⟩ := y; omega))
              have hT := hT.fr (fun q z => hO1.2 q (fun y => by obtain ⟨u, v⟩ := z; obtain ⟨u', v'⟩ := y; omega))
              have hR := hR.fr (hO1.2 _ (fun y => by obtain ⟨u', v'⟩ := y; omega))
              have hM := hM.fr (fun q z => hO1.2 q (fun y => by obtain ⟨u, v⟩ := z; obtain ⟨u', v'⟩ := y; omega))
              have hSh := va_at.kept hSh (hO1.2 _ (fun y => by obtain ⟨u', v'⟩ := y; omega))
              have hC : ChoP E (B + 1) (chTick (tkN β.1 i)) H := hX
              refine lv_iinc (k := 0) (v := (nI (i + 1))) S.1 S.2.1 dX7_tick_55 hl rfl (iincP i 1) (by decide) rfl (fun ls hl => ?_)
              have hl : lv_has ls 3 [(2, .int (nI (i + 1))), (0, .ref B), (1, .int ta)] := hl
              refine lv_goto (tgt := 43) S.1 S.2.1 dX7_tick_58 rfl ?_
              exact ih _ (by omega) (i + 1) _ _ ls rfl (by omega) (hB) (hC) (hHi) (hT) (hAh) (hR) (hM) (hSh) (hO) (hS) (lv_sub hl [0, 1, 2] rfl)
        exact hloop43 _ 0 _ _ ls rfl (Nat.zero_le _) (hB) (hC) (hHi) (hT) (hAh) (hR) (hM) (hSh) (hO) (hS) (lv_sub hl [0, 1, 2] rfl)
      · skip
        refine lv_bipush (v := (-3)) S.1 S.2.1 dX7_tick_27 (by decide) ?_
        subst hQ
        refine x_retW S hr hlk (rfl) hS hO ?_ dX7_tick_29
        exact by rw [bxTick, if_neg h1, if_pos h2, if_neg h3]; exact ⟨rfl, ⟨hB, hC, hHi, hT, ⟨_, hAh⟩, ⟨_, _, _, _, hR⟩, ⟨_, hM⟩, _, hSh⟩⟩
    · skip
      refine lv_iconst (v := (-1)) S.1 S.2.1 dX7_tick_11 (by decide) ?_
      subst hQ
      refine x_retW S hr hlk (rfl) hS hO ?_ dX7_tick_12
      exact by rw [bxTick, if_neg h1, if_neg h2]; exact ⟨rfl, ⟨hB, hC, hHi, hT, ⟨_, hAh⟩, ⟨_, _, _, _, hR⟩, ⟨_, hM⟩, _, hSh⟩⟩
abbrev rm_X7_set : Room := ({ frames := 5, cells := 0, slots := 0, locals := 107 } : Room)
set_option maxRecDepth 100000 in
set_option maxHeartbeats 600000 in
theorem c_X7_set (l : Launch) (E : XE) (B : Nat) (β : BS) (wa : Int32) (ya : Int32) (H : Heap) (hP : BoxP E B β H) : Wr l E yX7_set cX7_set 4 (some .int) rm_X7_set [.ref B, .int wa, .int ya] H (bk B 118) (fun v H1 => v = (bxSet β.1 wa ya).1 ∧ BoxP E B (bxUp β (bxSet β.1 wa ya).2) H1) := by
  refine met_of (by decide) (Nat.le_of_ble_eq_true rfl) (fun p e s m args below meth c hBD Q hQ ls hl => ?_)
  obtain ⟨S, hr, hlk, hnm, hE, hH⟩ := hBD
  subst hH
  have hl : lv_has ls 4 [(0, .ref B), (1, .int wa), (2, .int ya)] := hl
  have hO : Out (bk B 118) s.heap s.heap := Out.rf
  have hS : va_S (bk B 118) s.heap s.heap [] := va_S.rf
  obtain ⟨hB, hC, hHi, hT, ⟨χa, hAh⟩, ⟨p0, o0, q0, r0, hR⟩, ⟨z, hM⟩, sh, hSh⟩ := hP
  refine lv_iload_n S.1 S.2.1 dX7_set_0 rfl (lv_at hl 1 rfl) ?_
  refine lv_if_lt (tgt := 31) S.1 S.2.1 dX7_set_1 rfl (fun h1 => ?_) (fun h1 => ?_)
  · skip
    refine lv_iconst (v := (-1)) S.1 S.2.1 dX7_set_31 (by decide) ?_
    subst hQ
    refine x_retW S hr hlk (rfl) hS hO ?_ dX7_set_32
    exact by rw [bxSet, if_pos h1]; exact ⟨rfl, ⟨hB, hC, hHi, hT, ⟨_, hAh⟩, ⟨_, _, _, _, hR⟩, ⟨_, hM⟩, _, hSh⟩⟩
  · skip
    refine lv_iload_n S.1 S.2.1 dX7_set_4 rfl (lv_at hl 1 rfl) ?_
    refine lv_iconst (v := (nI 3)) S.1 S.2.1 dX7_set_5 (by decide) ?_
    refine lv_icmp_ge (tgt := 31) S.1 S.2.1 dX7_set_6 rfl (fun h2 => ?_) (fun h2 => ?_)
    · skip
      refine lv_iconst (v := (-1)) S.1 S.2.1 dX7_set_31 (by decide) ?_
      subst hQ
      refine x_retW S hr hlk (rfl) hS hO ?_ dX7_set_32
      exact by rw [bxSet, if_neg h1, if_pos h2]; exact ⟨rfl, ⟨hB, hC, hHi, hT, ⟨_, hAh⟩, ⟨_, _, _, _, hR⟩, ⟨_, hM⟩, _, hSh⟩⟩
    · skip
      refine lv_iload_n S.1 S.2.1 dX7_set_9 rfl (lv_at hl 2 rfl) ?_
      refine x_gets S hE hS 4 (by decide) kw21_10 dX7_set_10 ?_
      refine lv_iload_n S.1 S.2.1 dX7_set_13 rfl (lv_at hl 1 rfl) ?_
      refine xk_R (v := (xat (st_val 4) 3 wa)) (x_runS (As := [.ref (E.2.2.2 4), .int wa]) (rest := [.int ya]) S hE hS (fun _ h => h.elim) (c_X7_at l E _ (st_len 4) (st_val 4) wa _ (xr_s 4 (by decide)) (by decide)) kv_X7_at kw8_1 kw8_2 ⟨Nat.le_of_ble_eq_true rfl, Nat.le_of_ble_eq_true rfl⟩ rfl rfl rfl hl.1 rfl (Nat.le_of_ble_eq_true rfl) dX7_set_14 ⟨Nat.zero_le _, Nat.zero_le _⟩) ?_
      refine lv_icmp_lt (tgt := 31) S.1 S.2.1 dX7_set_17 rfl (fun h3 => ?_) (fun h3 => ?_)
      · skip
        refine lv_iconst (v := (-1)) S.1 S.2.1 dX7_set_31 (by decide) ?_
        subst hQ
        refine x_retW S hr hlk (rfl) hS hO ?_ dX7_set_32
        exact by rw [bxSet, if_neg h1, if_neg h2, if_pos h3]; exact ⟨rfl, ⟨hB, hC, hHi, hT, ⟨_, hAh⟩, ⟨_, _, _, _, hR⟩, ⟨_, hM⟩, _, hSh⟩⟩
      · skip
        refine lv_iload_n S.1 S.2.1 dX7_set_20 rfl (lv_at hl 2 rfl) ?_
        refine x_gets S hE hS 5 (by decide) kw21_11 dX7_set_21 ?_
        refine lv_iload_n S.1 S.2.1 dX7_set_24 rfl (lv_at hl 1 rfl) ?_
        refine xk_R (v := (xat (st_val 5) 3 wa)) (x_runS (As := [.ref (E.2.2.2 5), .int wa]) (rest := [.int ya]) S hE hS (fun _ h => h.elim) (c_X7_at l E _ (st_len 5) (st_val 5) wa _ (xr_s 5 (by decide)) (by decide)) kv_X7_at kw8_1 kw8_2 ⟨Nat.le_of_ble_eq_true rfl, Nat.le_of_ble_eq_true rfl⟩ rfl rfl rfl hl.1 rfl (Nat.le_of_ble_eq_true rfl) dX7_set_25 ⟨Nat.zero_le _, Nat.zero_le _⟩) ?_
        refine lv_icmp_le (tgt := 33) S.1 S.2.1 dX7_set_28 rfl (fun h4 => ?_) (fun h4 => ?_)
        · skip
          refine lv_aload_n S.1 S.2.1 dX7_set_33 rfl (lv_at hl 0 rfl) ?_
          refine x_get S hE (hB) (C := RX7) (T := TX7) (N := 7) rfl inlX7 2 (by decide) (v := .ref (B + 37)) rfl kw1_20 rfl dX7_set_34 ?_
          refine lv_aload_n S.1 S.2.1 dX7_set_37 rfl (lv_at hl 0 rfl) ?_
          refine x_get S hE (hB) (C := RX7) (T := TX7) (N := 7) rfl inlX7 0 (by decide) (v := .ref (B + 1)) rfl kw1_15 rfl dX7_set_38 ?_
          refine xk_V (x_runVN (As := [.ref (B + 1)]) (rest := []) S hE hS (bk_in (k := 37) (by decide)) (c_X2_record l E (B + 37) (B + 1) β.2.2.1 β.2.1 β.1 _ hHi hC (by omega)) kv_X2_record nw61 kw17_6 kw17_7 (x_recv hE (hHi.2.1) (ci := 2) rfl) ⟨Nat.le_of_ble_eq_true rfl, Nat.le_of_ble_eq_true rfl⟩ rfl rfl rfl hl.1 rfl (Nat.le_of_ble_eq_true rfl) dX7_set_41 ⟨Nat.zero_le _, Nat.zero_le _⟩) hS (bk_in (k := 37) (by decide)) (fun H locs hX hO1 hS => ?_)
          have hO := out_in hO hO1 (k := 37) (by decide)
          have hB := va_at.kept hB (hO1.2 _ (fun y => by obtain ⟨u', v'⟩ := y; omega))
          have hC := hC.fr (fun q z => hO1.2 q (fun y => by obtain ⟨u, v⟩ := z; obtain ⟨u', v'⟩ := y; omega))
          have hAh := hAh.fr (fun q z => hO1.2 q (fun y => by obtain ⟨u, v⟩ := z; obtain ⟨u', v'⟩ := y; omega))
          have hT := hT.fr (fun q z => hO1.2 q (fun y => by obtain ⟨u, v⟩ := z; obtain ⟨u', v'⟩ := y; omega))
          have hR := hR.fr (hO1.2 _ (fun y => by obtain ⟨u', v'⟩ := y; omega))
          have hM := hM.fr (fun q z => hO1.2 q (fun y => by obtain ⟨u, v⟩ := z; obtain ⟨u', v'⟩ := y; omega))
          have hSh := va_at.kept hSh (hO1.2 _ (fun y => by obtain ⟨u', v'⟩ := y; omega))
          have hHi := hX
          refine lv_aload_n S.1 S.2.1 dX7_set_44 rfl (lv_at hl 0 rfl) ?_
          refine x_get S hE (hB) (C := RX7) (T := TX7) (N := 7) rfl inlX7 0 (by decide) (v := .ref (B + 1)) rfl kw1_15 rfl dX7_set_45 ?_
          refine x_getN S hE (hC.1) (C := RX0) (T := TX0) (N := 10) rfl inlX0 4 (by decide) (v := .ref (B + 1 + 15)) rfl nw23 rfl dX7_set_48 ?_
          refine lv_iload_n S.1 S.2.1 dX7_set_51 rfl (lv_at hl 1 rfl) ?_
          refine xk_R (v := (xat β.1.2.2.1 3 wa)) (x_runS (As := [.ref (B + 1 + 15), .int wa]) (rest := []) S hE hS (fun _ h => h.elim) (c_X7_at l E (B + 1 + 15) 3 β.1.2.2.1 wa _ (xr_i hC.2.2.2.2.2.1) (by decide)) kv_X7_at kw8_1 kw8_2 ⟨Nat.le_of_ble_eq_true rfl, Nat.le_of_ble_eq_true rfl⟩ rfl rfl rfl hl.1 rfl (Nat.le_of_ble_eq_true rfl) dX7_set_52 ⟨Nat.zero_le _, Nat.zero_le _⟩) ?_
          refine lv_istore_n S.1 S.2.1 dX7_set_55 rfl hl (by decide) rfl (fun ls hl => ?_)
          have hl : lv_has ls 4 [(3, .int (xat β.1.2.2.1 3 wa)), (0, .ref B), (1, .int wa), (2, .int ya)] := hl
          refine lv_aload_n S.1 S.2.1 dX7_set_56 rfl (lv_at hl 1 rfl) ?_
          refine x_get S hE (hB) (C := RX7) (T := TX7) (N := 7) rfl inlX7 0 (by decide) (v := .ref (B + 1)) rfl kw1_15 rfl dX7_set_57 ?_
          refine x_getN S hE (hC.1) (C := RX0) (T := TX0) (N := 10) rfl inlX0 4 (by decide) (v := .ref (B + 1 + 15)) rfl nw23 rfl dX7_set_60 ?_
          refine lv_iload_n S.1 S.2.1 dX7_set_63 rfl (lv_at hl 2 rfl) ?_
          refine lv_iload_n S.1 S.2.1 dX7_set_64 rfl (lv_at hl 3 rfl) ?_
          refine xk_V (x_runS (As := [.ref (B + 1 + 15), .int wa, .int ya]) (rest := []) S hE hS (fun q z => by have z : q = B + 1 + 15 := z; exact ⟨by omega, by omega⟩) (c_X7_put l E (B + 1 + 15) 3 β.1.2.2.1 wa ya _ hC.2.2.2.2.2.1 (by decide)) kv_X7_put kw12_8 kw12_9 ⟨Nat.le_of_ble_eq_true rfl, Nat.le_of_ble_eq_true rfl⟩ rfl rfl rfl hl.1 rfl (Nat.le_of_ble_eq_true rfl) dX7_set_65 ⟨Nat.zero_le _, Nat.zero_le _⟩) hS (fun q z => by have z : q = B + 1 + 15 := z; exact ⟨by omega, by omega⟩) (fun H locs hX hO1 hS => ?_)
          have hX := hC.st hX hO1
          have hO1 := hO1.mono (fun q z => show bk (B + 1) 18 q by (have z : q = B + 1 + 15 := z; exact ⟨by omega, by omega⟩))
          have hO := out_in hO hO1 (k := 1) (by decide)
          have hB := va_at.kept hB (hO1.2 _ (fun y => by obtain ⟨u', v'⟩ := y; omega))
          have hAh := hAh.fr (fun q z => hO1.2 q (fun y => by obtain ⟨u, v⟩ := z; obtain ⟨u', v'⟩ := y; omega))
          have hHi := hHi.fr (fun q z => hO1.2 q (fun y => by obtain ⟨u, v⟩ := z; obtain ⟨u', v'⟩ := y; omega))
          have hT := hT.fr (fun q z => hO1.2 q (fun y => by obtain ⟨u, v⟩ := z; obtain ⟨u', v'⟩ := y; omega))
          have hR := hR.fr (hO1.2 _ (fun y => by obtain ⟨u', v'⟩ := y; omega))
          have hM := hM.fr (fun q z => hO1.2 q (fun y => by obtain ⟨u, v⟩ := z; obtain ⟨u', v'⟩ := y; omega))
          have hSh := va_at.kept hSh (hO1.2 _ (fun y => by obtain ⟨u', v'⟩ := y; omega))
          have hC := hX
          refine lv_iload_n S.1 S.2.1 dX7_set_68 rfl (lv_at hl 0 rfl) ?_
          subst hQ
          refine x_retW S hr hlk (rfl) hS hO ?_ dX7_set_69
          exact by rw [bxSet, if_neg h1, if_neg h2, if_neg h3, if_pos h4]; exact ⟨rfl, ⟨hB, hC, hHi, hT, ⟨_, hAh⟩, ⟨_, _, _, _, hR⟩, ⟨_, hM⟩, _, hSh⟩⟩
        · skip
          refine lv_iconst (v := (-1)) S.1 S.2.1 dX7_set_31 (by decide) ?_
          subst hQ
          refine x_retW S hr hlk (rfl) hS hO ?_ dX7_set_32
          exact by rw [bxSet, if_neg h1, if_neg h2, if_neg h3, if_neg h4]; exact ⟨rfl, ⟨hB, hC, hHi, hT, ⟨_, hAh⟩, ⟨_, _, _, _, hR⟩, ⟨_, hM⟩, _, hSh⟩⟩
abbrev rm_X7_voiceAt : Room := ({ frames := 2, cells := 0, slots := 0, locals := 42 } : Room)
set_option maxRecDepth 100000 in
set_option maxHeartbeats 600000 in
theorem c_X7_voiceAt (l : Launch) (E : XE) (B : Nat) (β : BS) (ia : Int32) (H : Heap) (hP : BoxP E B β H) : Rd l E yX7_voiceAt cX7_voiceAt 2 (some .int) rm_X7_voiceAt [.ref B, .int ia] H (bxVoice β.1 ia) := by
  refine met_of (by decide) (Nat.le_of_ble_eq_true rfl) (fun p e s m args below meth c hBD Q hQ ls hl => ?_)
  obtain ⟨S, hr, hlk, hnm, hE, hH⟩ := hBD
  subst hH
  have hl : lv_has ls 2 [(0, .ref B), (1, .int ia)] := hl
  have hS : va_S (fun _ => False) s.heap s.heap [] := va_S.rf
  obtain ⟨hB, hC, hHi, hT, ⟨χa, hAh⟩, ⟨p0, o0, q0, r0, hR⟩, ⟨z, hM⟩, sh, hSh⟩ := hP
  refine lv_iload_n S.1 S.2.1 dX7_voiceAt_0 rfl (lv_at hl 1 rfl) ?_
  refine lv_if_ge (tgt := 6) S.1 S.2.1 dX7_voiceAt_1 rfl (fun h1 => ?_) (fun h1 => ?_)
  · skip
    refine lv_aload_n S.1 S.2.1 dX7_voiceAt_6 rfl (lv_at hl 0 rfl) ?_
    refine x_get S hE (hB) (C := RX7) (T := TX7) (N := 7) rfl inlX7 0 (by decide) (v := .ref (B + 1)) rfl kw1_15 rfl dX7_voiceAt_7 ?_
    refine x_getN S hE (hC.1) (C := RX0) (T := TX0) (N := 10) rfl inlX0 1 (by decide) (v := .ref (B + 1 + 9)) rfl nw20 rfl dX7_voiceAt_10 ?_
    refine lv_iload_n S.1 S.2.1 dX7_voiceAt_13 rfl (lv_at hl 1 rfl) ?_
    refine xk_R (v := (lnAt (β.1.2.1 0) ia)) (x_runVN (As := [.int ia]) (rest := []) S hE hS (fun _ h => h.elim) (c_X3_noteAt l E (B + 1 + 9) 8 (β.1.2.1 0) ia _ hC.2.2.1 (by decide)) kv_X3_noteAt nw52 kw8_14 kw8_15 (x_recv hE (hC.2.2.1.1) (ci := 3) rfl) ⟨Nat.le_of_ble_eq_true rfl, Nat.le_of_ble_eq_true rfl⟩ rfl rfl rfl hl.1 rfl (Nat.le_of_ble_eq_true rfl) dX7_voiceAt_14 ⟨Nat.zero_le _, Nat.zero_le _⟩) ?_
    refine xk_R (v := (xorNF (lnAt (β.1.2.1 0) ia))) (x_runS (As := [.int (lnAt (β.1.2.1 0) ia)]) (rest := []) S hE hS (fun _ h => h.elim) (c_X7_orNotFound l E (lnAt (β.1.2.1 0) ia) _) kv_X7_orNotFound kw9_0 kw9_1 ⟨Nat.le_of_ble_eq_true rfl, Nat.le_of_ble_eq_true rfl⟩ rfl rfl rfl hl.1 rfl (Nat.le_of_ble_eq_true rfl) dX7_voiceAt_17 ⟨Nat.zero_le _, Nat.zero_le _⟩) ?_
    subst hQ
    exact x_retR S hr hlk (rfl) (by rw [bxVoice, if_pos h1]) dX7_voiceAt_20
  · skip
    refine lv_iconst (v := (-1)) S.1 S.2.1 dX7_voiceAt_4 (by decide) ?_
    subst hQ
    exact x_retR S hr hlk (rfl) (by rw [bxVoice, if_neg h1]) dX7_voiceAt_5
abbrev rm_X7_find : Room := ({ frames := 4, cells := 0, slots := 0, locals := 91 } : Room)
set_option maxRecDepth 100000 in
set_option maxHeartbeats 600000 in
theorem c_X7_find (l : Launch) (E : XE) (B : Nat) (β : BS) (pa : Int32) (qa : Int32) (H : Heap) (hP : BoxP E B β H) : Rd l E yX7_find cX7_find 3 (some .int) rm_X7_find [.ref B, .int pa, .int qa] H (bxFind β.1 pa qa) := by
  refine met_of (by decide) (Nat.le_of_ble_eq_true rfl) (fun p e s m args below meth c hBD Q hQ ls hl => ?_)
  obtain ⟨S, hr, hlk, hnm, hE, hH⟩ := hBD
  subst hH
  have hl : lv_has ls 3 [(0, .ref B), (1, .int pa), (2, .int qa)] := hl
  have hS : va_S (fun _ => False) s.heap s.heap [] := va_S.rf
  obtain ⟨hB, hC, hHi, hT, ⟨χa, hAh⟩, ⟨p0, o0, q0, r0, hR⟩, ⟨z, hM⟩, sh, hSh⟩ := hP
  refine lv_iload_n S.1 S.2.1 dX7_find_0 rfl (lv_at hl 1 rfl) ?_
  refine xk_R (v := (bI (xPart pa))) (x_runS (As := [.int pa]) (rest := []) S hE hS (fun _ h => h.elim) (c_X7_isPart l E pa _) kv_X7_isPart kw9_7 kw9_8 ⟨Nat.le_of_ble_eq_true rfl, Nat.le_of_ble_eq_true rfl⟩ rfl rfl rfl hl.1 rfl (Nat.le_of_ble_eq_true rfl) dX7_find_1 ⟨Nat.zero_le _, Nat.zero_le _⟩) ?_
  refine lv_if_eq (tgt := 14) S.1 S.2.1 dX7_find_4 rfl (fun h1 => ?_) (fun h1 => ?_)
  · skip
    have h1 := bI_0 h1
    refine lv_iconst (v := (-1)) S.1 S.2.1 dX7_find_14 (by decide) ?_
    subst hQ
    exact x_retR S hr hlk (rfl) (by rw [bxFind, if_neg h1]) dX7_find_15
  · skip
    have h1 := bI_n0 h1
    refine lv_iload_n S.1 S.2.1 dX7_find_7 rfl (lv_at hl 2 rfl) ?_
    refine xk_R (v := (bI (xPitch qa))) (x_runS (As := [.int qa]) (rest := []) S hE hS (fun _ h => h.elim) (c_X7_isPitch l E qa _) kv_X7_isPitch kw10_9 kw10_10 ⟨Nat.le_of_ble_eq_true rfl, Nat.le_of_ble_eq_true rfl⟩ rfl rfl rfl hl.1 rfl (Nat.le_of_ble_eq_true rfl) dX7_find_8 ⟨Nat.zero_le _, Nat.zero_le _⟩) ?_
    refine lv_if_ne (tgt := 16) S.1 S.2.1 dX7_find_11 rfl (fun h2 => ?_) (fun h2 => ?_)
    · skip
      have h2 := bI_n0 h2
      refine lv_aload_n S.1 S.2.1 dX7_find_16 rfl (lv_at hl 0 rfl) ?_
      refine x_get S hE (hB) (C := RX7) (T := TX7) (N := 7) rfl inlX7 0 (by decide) (v := .ref (B + 1)) rfl kw1_15 rfl dX7_find_17 ?_
      refine lv_iload_n S.1 S.2.1 dX7_find_20 rfl (lv_at hl 1 rfl) ?_
      refine lv_iload_n S.1 S.2.1 dX7_find_21 rfl (lv_at hl 2 rfl) ?_
      refine xk_R (v := (chVoice β.1 pa qa)) (x_runVN (As := [.int pa, .int qa]) (rest := []) S hE hS (fun _ h => h.elim) (c_X0_voiceOf l E (B + 1) β.1 pa qa _ hC) kv_X0_voiceOf nw53 kw10_12 kw10_13 (x_recv hE (hC.1) (ci := 0) rfl) ⟨Nat.le_of_ble_eq_true rfl, Nat.le_of_ble_eq_true rfl⟩ rfl rfl rfl hl.1 rfl (Nat.le_of_ble_eq_true rfl) dX7_find_22 ⟨Nat.zero_le _, Nat.zero_le _⟩) ?_
      refine xk_R (v := (xorNF (chVoice β.1 pa qa))) (x_runS (As := [.int (chVoice β.1 pa qa)]) (rest := []) S hE hS (fun _ h => h.elim) (c_X7_orNotFound l E (chVoice β.1 pa qa) _) kv_X7_orNotFound kw9_0 kw9_1 ⟨Nat.le_of_ble_eq_true rfl, Nat.le_of_ble_eq_true rfl⟩ rfl rfl rfl hl.1 rfl (Nat.le_of_ble_eq_true rfl) dX7_find_25 ⟨Nat.zero_le _, Nat.zero_le _⟩) ?_
      subst hQ
      exact x_retR S hr hlk (rfl) (by rw [bxFind, if_pos h1, if_pos h2]) dX7_find_28
    · skip
      have h2 := bI_0 h2
      refine lv_iconst (v := (-1)) S.1 S.2.1 dX7_find_14 (by decide) ?_
      subst hQ
      exact x_retR S hr hlk (rfl) (by rw [bxFind, if_pos h1, if_neg h2]) dX7_find_15
abbrev rm_X7_next : Room := ({ frames := 4, cells := 0, slots := 0, locals := 90 } : Room)
set_option maxRecDepth 100000 in
set_option maxHeartbeats 600000 in
theorem c_X7_next (l : Launch) (E : XE) (B : Nat) (β : BS) (H : Heap) (hP : BoxP E B β H) : Rd l E yX7_next cX7_next 1 (some .int) rm_X7_next [.ref B] H (xorNF (chHome β.1)) := by
  refine met_of (by decide) (Nat.le_of_ble_eq_true rfl) (fun p e s m args below meth c hBD Q hQ ls hl => ?_)
  obtain ⟨S, hr, hlk, hnm, hE, hH⟩ := hBD
  subst hH
  have hl : lv_has ls 1 [(0, .ref B)] := hl
  have hS : va_S (fun _ => False) s.heap s.heap [] := va_S.rf
  obtain ⟨hB, hC, hHi, hT, ⟨χa, hAh⟩, ⟨p0, o0, q0, r0, hR⟩, ⟨z, hM⟩, sh, hSh⟩ := hP
  refine lv_aload_n S.1 S.2.1 dX7_next_0 rfl (lv_at hl 0 rfl) ?_
  refine x_get S hE (hB) (C := RX7) (T := TX7) (N := 7) rfl inlX7 0 (by decide) (v := .ref (B + 1)) rfl kw1_15 rfl dX7_next_1 ?_
  refine xk_R (v := (chHome β.1)) (x_runVN (As := []) (rest := []) S hE hS (fun _ h => h.elim) (c_X0_toSendHome l E (B + 1) β.1  _ hC) kv_X0_toSendHome nw87 kw11_5 kw11_6 (x_recv hE (hC.1) (ci := 0) rfl) ⟨Nat.le_of_ble_eq_true rfl, Nat.le_of_ble_eq_true rfl⟩ rfl rfl rfl hl.1 rfl (Nat.le_of_ble_eq_true rfl) dX7_next_4 ⟨Nat.zero_le _, Nat.zero_le _⟩) ?_
  refine xk_R (v := (xorNF (chHome β.1))) (x_runS (As := [.int (chHome β.1)]) (rest := []) S hE hS (fun _ h => h.elim) (c_X7_orNotFound l E (chHome β.1) _) kv_X7_orNotFound kw9_0 kw9_1 ⟨Nat.le_of_ble_eq_true rfl, Nat.le_of_ble_eq_true rfl⟩ rfl rfl rfl hl.1 rfl (Nat.le_of_ble_eq_true rfl) dX7_next_7 ⟨Nat.zero_le _, Nat.zero_le _⟩) ?_
  subst hQ
  exact x_retR S hr hlk (rfl) (rfl) dX7_next_10
abbrev rm_X7_noteOf : Room := ({ frames := 4, cells := 0, slots := 0, locals := 89 } : Room)
set_option maxRecDepth 100000 in
set_option maxHeartbeats 600000 in
theorem c_X7_noteOf (l : Launch) (E : XE) (B : Nat) (β : BS) (xa : Int32) (wa : Int32) (H : Heap) (hP : BoxP E B β H) : Rd l E yX7_noteOf cX7_noteOf 3 (some .int) rm_X7_noteOf [.ref B, .int xa, .int wa] H (bxNote β.1 xa wa) := by
  refine met_of (by decide) (Nat.le_of_ble_eq_true rfl) (fun p e s m args below meth c hBD Q hQ ls hl => ?_)
  obtain ⟨S, hr, hlk, hnm, hE, hH⟩ := hBD
  subst hH
  have hl : lv_has ls 3 [(0, .ref B), (1, .int xa), (2, .int wa)] := hl
  have hS : va_S (fun _ => False) s.heap s.heap [] := va_S.rf
  obtain ⟨hB, hC, hHi, hT, ⟨χa, hAh⟩, ⟨p0, o0, q0, r0, hR⟩, ⟨z, hM⟩, sh, hSh⟩ := hP
  refine lv_iload_n S.1 S.2.1 dX7_noteOf_0 rfl (lv_at hl 1 rfl) ?_
  refine lv_if_lt (tgt := 18) S.1 S.2.1 dX7_noteOf_1 rfl (fun h1 => ?_) (fun h1 => ?_)
  · skip
    refine lv_iconst (v := (-1)) S.1 S.2.1 dX7_noteOf_18 (by decide) ?_
    subst hQ
    exact x_retR S hr hlk (rfl) (by rw [bxNote, if_pos h1]) dX7_noteOf_19
  · skip
    refine lv_iload_n S.1 S.2.1 dX7_noteOf_4 rfl (lv_at hl 1 rfl) ?_
    refine lv_aload_n S.1 S.2.1 dX7_noteOf_5 rfl (lv_at hl 0 rfl) ?_
    refine x_get S hE (hB) (C := RX7) (T := TX7) (N := 7) rfl inlX7 0 (by decide) (v := .ref (B + 1)) rfl kw1_15 rfl dX7_noteOf_6 ?_
    refine x_getN S hE (hC.1) (C := RX0) (T := TX0) (N := 10) rfl inlX0 0 (by decide) (v := .ref (B + 1 + 1)) rfl nw19 rfl dX7_noteOf_9 ?_
    refine x_getN S hE (hC.2.1.1) (C := RX5) (T := TX5) (N := 8) rfl inlX5 7 (by decide) (v := .int (β.1.2.2.2 0)) rfl nw12 rfl dX7_noteOf_12 ?_
    refine lv_icmp_lt (tgt := 20) S.1 S.2.1 dX7_noteOf_15 rfl (fun h2 => ?_) (fun h2 => ?_)
    · skip
      refine lv_iload_n S.1 S.2.1 dX7_noteOf_20 rfl (lv_at hl 2 rfl) ?_
      by_cases h3_0 : wa = (nI 0)
      · refine x_top h3_0 ?_
        refine lv_tableIn (tgt := 68) S.1 S.2.1 dX7_noteOf_21 (by decide) (by decide) (show _ = some (47) from rfl) rfl ?_
        refine lv_aload_n S.1 S.2.1 dX7_noteOf_68 rfl (lv_at hl 0 rfl) ?_
        refine x_get S hE (hB) (C := RX7) (T := TX7) (N := 7) rfl inlX7 0 (by decide) (v := .ref (B + 1)) rfl kw1_15 rfl dX7_noteOf_69 ?_
        refine x_getN S hE (hC.1) (C := RX0) (T := TX0) (N := 10) rfl inlX0 0 (by decide) (v := .ref (B + 1 + 1)) rfl nw19 rfl dX7_noteOf_72 ?_
        refine x_getN S hE (hC.2.1.1) (C := RX5) (T := TX5) (N := 8) rfl inlX5 0 (by decide) (v := .ref (B + 1 + 1 + 1)) rfl nw0 rfl dX7_noteOf_75 ?_
        refine lv_iload_n S.1 S.2.1 dX7_noteOf_78 rfl (lv_at hl 1 rfl) ?_
        refine xk_R (v := (ntG β.1.1 0 xa)) (x_runS (As := [.ref (B + 1 + 1 + 1), .int xa]) (rest := []) S hE hS (fun _ h => h.elim) (c_X7_at l E (B + 1 + 1 + (0 + 1)) 200 (β.1.1 0) xa _ (xr_i (hC.2.1.2 0 (by decide))) (by decide)) kv_X7_at kw8_1 kw8_2 ⟨Nat.le_of_ble_eq_true rfl, Nat.le_of_ble_eq_true rfl⟩ rfl rfl rfl hl.1 rfl (Nat.le_of_ble_eq_true rfl) dX7_noteOf_79 ⟨Nat.zero_le _, Nat.zero_le _⟩) ?_
        subst hQ
        exact x_retR S hr hlk (rfl) (by rw [bxNote, if_neg h1, if_pos h2, if_pos h3_0]) dX7_noteOf_82
      by_cases h3_1 : wa = (nI 1)
      · refine x_top h3_1 ?_
        refine lv_tableIn (tgt := 83) S.1 S.2.1 dX7_noteOf_21 (by decide) (by decide) (show _ = some (62) from rfl) rfl ?_
        refine lv_aload_n S.1 S.2.1 dX7_noteOf_83 rfl (lv_at hl 0 rfl) ?_
        refine x_get S hE (hB) (C := RX7) (T := TX7) (N := 7) rfl inlX7 0 (by decide) (v := .ref (B + 1)) rfl kw1_15 rfl dX7_noteOf_84 ?_
        refine x_getN S hE (hC.1) (C := RX0) (T := TX0) (N := 10) rfl inlX0 0 (by decide) (v := .ref (B + 1 + 1)) rfl nw19 rfl dX7_noteOf_87 ?_
        refine x_getN S hE (hC.2.1.1) (C := RX5) (T := TX5) (N := 8) rfl inlX5 1 (by decide) (v := .ref (B + 1 + 1 + 2)) rfl nw2 rfl dX7_noteOf_90 ?_
        refine lv_iload_n S.1 S.2.1 dX7_noteOf_93 rfl (lv_at hl 1 rfl) ?_
        refine xk_R (v := (ntG β.1.1 1 xa)) (x_runS (As := [.ref (B + 1 + 1 + 2), .int xa]) (rest := []) S hE hS (fun _ h => h.elim) (c_X7_at l E (B + 1 + 1 + (1 + 1)) 200 (β.1.1 1) xa _ (xr_i (hC.2.1.2 1 (by decide))) (by decide)) kv_X7_at kw8_1 kw8_2 ⟨Nat.le_of_ble_eq_true rfl, Nat.le_of_ble_eq_true rfl⟩ rfl rfl rfl hl.1 rfl (Nat.le_of_ble_eq_true rfl) dX7_noteOf_94 ⟨Nat.zero_le _, Nat.zero_le _⟩) ?_
        subst hQ
        exact x_retR S hr hlk (rfl) (by rw [bxNote, if_neg h1, if_pos h2, if_neg h3_0, if_pos h3_1]) dX7_noteOf_97
      by_cases h3_2 : wa = (nI 2)
      · refine x_top h3_2 ?_
        refine lv_tableIn (tgt := 98) S.1 S.2.1 dX7_noteOf_21 (by decide) (by decide) (show _ = some (77) from rfl) rfl ?_
        refine lv_aload_n S.1 S.2.1 dX7_noteOf_98 rfl (lv_at hl 0 rfl) ?_
        refine x_get S hE (hB) (C := RX7) (T := TX7) (N := 7) rfl inlX7 0 (by decide) (v := .ref (B + 1)) rfl kw1_15 rfl dX7_noteOf_99 ?_
        refine x_getN S hE (hC.1) (C := RX0) (T := TX0) (N := 10) rfl inlX0 0 (by decide) (v := .ref (B + 1 + 1)) rfl nw19 rfl dX7_noteOf_102 ?_
        refine x_getN S hE (hC.2.1.1) (C := RX5) (T := TX5) (N := 8) rfl inlX5 2 (by decide) (v := .ref (B + 1 + 1 + 3)) rfl nw4 rfl dX7_noteOf_105 ?_
        refine lv_iload_n S.1 S.2.1 dX7_noteOf_108 rfl (lv_at hl 1 rfl) ?_
        refine xk_R (v := (ntG β.1.1 2 xa)) (x_runS (As := [.ref (B + 1 + 1 + 3), .int xa]) (rest := []) S hE hS (fun _ h => h.elim) (c_X7_at l E (B + 1 + 1 + (2 + 1)) 200 (β.1.1 2) xa _ (xr_i (hC.2.1.2 2 (by decide))) (by decide)) kv_X7_at kw8_1 kw8_2 ⟨Nat.le_of_ble_eq_true rfl, Nat.le_of_ble_eq_true rfl⟩ rfl rfl rfl hl.1 rfl (Nat.le_of_ble_eq_true rfl) dX7_noteOf_109 ⟨Nat.zero_le _, Nat.zero_le _⟩) ?_
        subst hQ
        exact x_retR S hr hlk (rfl) (by rw [bxNote, if_neg h1, if_pos h2, if_neg h3_0, if_neg h3_1, if_pos h3_2]) dX7_noteOf_112
      by_cases h3_3 : wa = (nI 3)
      · refine x_top h3_3 ?_
        refine lv_tableIn (tgt := 113) S.1 S.2.1 dX7_noteOf_21 (by decide) (by decide) (show _ = some (92) from rfl) rfl ?_
        refine lv_aload_n S.1 S.2.1 dX7_noteOf_113 rfl (lv_at hl 0 rfl) ?_
        refine x_get S hE (hB) (C := RX7) (T := TX7) (N := 7) rfl inlX7 0 (by decide) (v := .ref (B + 1)) rfl kw1_15 rfl dX7_noteOf_114 ?_
        refine x_getN S hE (hC.1) (C := RX0) (T := TX0) (N := 10) rfl inlX0 0 (by decide) (v := .ref (B + 1 + 1)) rfl nw19 rfl dX7_noteOf_117 ?_
        refine x_getN S hE (hC.2.1.1) (C := RX5) (T := TX5) (N := 8) rfl inlX5 3 (by decide) (v := .ref (B + 1 + 1 + 4)) rfl nw7 rfl dX7_noteOf_120 ?_
        refine lv_iload_n S.1 S.2.1 dX7_noteOf_123 rfl (lv_at hl 1 rfl) ?_
        refine xk_R (v := (ntG β.1.1 3 xa)) (x_runS (As := [.ref (B + 1 + 1 + 4), .int xa]) (rest := []) S hE hS (fun _ h => h.elim) (c_X7_at l E (B + 1 + 1 + (3 + 1)) 200 (β.1.1 3) xa _ (xr_i (hC.2.1.2 3 (by decide))) (by decide)) kv_X7_at kw8_1 kw8_2 ⟨Nat.le_of_ble_eq_true rfl, Nat.le_of_ble_eq_true rfl⟩ rfl rfl rfl hl.1 rfl (Nat.le_of_ble_eq_true rfl) dX7_noteOf_124 ⟨Nat.zero_le _, Nat.zero_le _⟩) ?_
        subst hQ
        exact x_retR S hr hlk (rfl) (by rw [bxNote, if_neg h1, if_pos h2, if_neg h3_0, if_neg h3_1, if_neg h3_2, if_pos h3_3]) dX7_noteOf_127
      by_cases h3_4 : wa = (nI 4)
      · refine x_top h3_4 ?_
        refine lv_tableIn (tgt := 128) S.1 S.2.1 dX7_noteOf_21 (by decide) (by decide) (show _ = some (107) from rfl) rfl ?_
        refine lv_aload_n S.1 S.2.1 dX7_noteOf_128 rfl (lv_at hl 0 rfl) ?_
        refine x_get S hE (hB) (C := RX7) (T := TX7) (N := 7) rfl inlX7 0 (by decide) (v := .ref (B + 1)) rfl kw1_15 rfl dX7_noteOf_129 ?_
        refine x_getN S hE (hC.1) (C := RX0) (T := TX0) (N := 10) rfl inlX0 0 (by decide) (v := .ref (B + 1 + 1)) rfl nw19 rfl dX7_noteOf_132 ?_
        refine lv_iload_n S.1 S.2.1 dX7_noteOf_135 rfl (lv_at hl 1 rfl) ?_
        refine xk_R (v := (bI (ntSings β.1.1 xa))) (x_runVN (As := [.int xa]) (rest := []) S hE hS (fun _ h => h.elim) (c_X5_sings l E (B + 1 + 1) β.1.1 (β.1.2.2.2 0) xa _ hC.2.1) kv_X5_sings nw44 kw8_4 kw8_5 (x_recv hE (hC.2.1.1) (ci := 5) rfl) ⟨Nat.le_of_ble_eq_true rfl, Nat.le_of_ble_eq_true rfl⟩ rfl rfl rfl hl.1 rfl (Nat.le_of_ble_eq_true rfl) dX7_noteOf_136 ⟨Nat.zero_le _, Nat.zero_le _⟩) ?_
        refine lv_if_eq (tgt := 159) S.1 S.2.1 dX7_noteOf_139 rfl (fun h4 => ?_) (fun h4 => ?_)
        · skip
          have h4 := bI_0 h4
          refine lv_bipush (v := (-4)) S.1 S.2.1 dX7_noteOf_159 (by decide) ?_
          subst hQ
          exact x_retR S hr hlk (rfl) (by rw [bxNote, if_neg h1, if_pos h2, if_neg h3_0, if_neg h3_1, if_neg h3_2, if_neg h3_3, if_pos h3_4, if_neg h4]) dX7_noteOf_161
        · skip
          have h4 := bI_n0 h4
          refine lv_aload_n S.1 S.2.1 dX7_noteOf_142 rfl (lv_at hl 0 rfl) ?_
          refine x_get S hE (hB) (C := RX7) (T := TX7) (N := 7) rfl inlX7 0 (by decide) (v := .ref (B + 1)) rfl kw1_15 rfl dX7_noteOf_143 ?_
          refine x_getN S hE (hC.1) (C := RX0) (T := TX0) (N := 10) rfl inlX0 0 (by decide) (v := .ref (B + 1 + 1)) rfl nw19 rfl dX7_noteOf_146 ?_
          refine x_getN S hE (hC.2.1.1) (C := RX5) (T := TX5) (N := 8) rfl inlX5 4 (by decide) (v := .ref (B + 1 + 1 + 5)) rfl nw8 rfl dX7_noteOf_149 ?_
          refine lv_iload_n S.1 S.2.1 dX7_noteOf_152 rfl (lv_at hl 1 rfl) ?_
          refine xk_R (v := (ntG β.1.1 4 xa)) (x_runS (As := [.ref (B + 1 + 1 + 5), .int xa]) (rest := []) S hE hS (fun _ h => h.elim) (c_X7_at l E (B + 1 + 1 + (4 + 1)) 200 (β.1.1 4) xa _ (xr_i (hC.2.1.2 4 (by decide))) (by decide)) kv_X7_at kw8_1 kw8_2 ⟨Nat.le_of_ble_eq_true rfl, Nat.le_of_ble_eq_true rfl⟩ rfl rfl rfl hl.1 rfl (Nat.le_of_ble_eq_true rfl) dX7_noteOf_153 ⟨Nat.zero_le _, Nat.zero_le _⟩) ?_
          refine lv_goto (tgt := 161) S.1 S.2.1 dX7_noteOf_156 rfl ?_
          subst hQ
          exact x_retR S hr hlk (rfl) (by rw [bxNote, if_neg h1, if_pos h2, if_neg h3_0, if_neg h3_1, if_neg h3_2, if_neg h3_3, if_pos h3_4, if_pos h4]) dX7_noteOf_161
      by_cases h3_5 : wa = (nI 5)
      · refine x_top h3_5 ?_
        refine lv_tableIn (tgt := 162) S.1 S.2.1 dX7_noteOf_21 (by decide) (by decide) (show _ = some (141) from rfl) rfl ?_
        refine lv_aload_n S.1 S.2.1 dX7_noteOf_162 rfl (lv_at hl 0 rfl) ?_
        refine x_get S hE (hB) (C := RX7) (T := TX7) (N := 7) rfl inlX7 0 (by decide) (v := .ref (B + 1)) rfl kw1_15 rfl dX7_noteOf_163 ?_
        refine x_getN S hE (hC.1) (C := RX0) (T := TX0) (N := 10) rfl inlX0 0 (by decide) (v := .ref (B + 1 + 1)) rfl nw19 rfl dX7_noteOf_166 ?_
        refine lv_iload_n S.1 S.2.1 dX7_noteOf_169 rfl (lv_at hl 1 rfl) ?_
        refine xk_R (v := (bI (ntSings β.1.1 xa))) (x_runVN (As := [.int xa]) (rest := []) S hE hS (fun _ h => h.elim) (c_X5_sings l E (B + 1 + 1) β.1.1 (β.1.2.2.2 0) xa _ hC.2.1) kv_X5_sings nw44 kw8_4 kw8_5 (x_recv hE (hC.2.1.1) (ci := 5) rfl) ⟨Nat.le_of_ble_eq_true rfl, Nat.le_of_ble_eq_true rfl⟩ rfl rfl rfl hl.1 rfl (Nat.le_of_ble_eq_true rfl) dX7_noteOf_170 ⟨Nat.zero_le _, Nat.zero_le _⟩) ?_
        refine lv_if_eq (tgt := 194) S.1 S.2.1 dX7_noteOf_173 rfl (fun h5 => ?_) (fun h5 => ?_)
        · skip
          have h5 := bI_0 h5
          refine lv_bipush (v := (-4)) S.1 S.2.1 dX7_noteOf_194 (by decide) ?_
          subst hQ
          exact x_retR S hr hlk (rfl) (by rw [bxNote, if_neg h1, if_pos h2, if_neg h3_0, if_neg h3_1, if_neg h3_2, if_neg h3_3, if_neg h3_4, if_pos h3_5, if_neg h5]) dX7_noteOf_196
        · skip
          have h5 := bI_n0 h5
          refine lv_aload_n S.1 S.2.1 dX7_noteOf_176 rfl (lv_at hl 0 rfl) ?_
          refine x_get S hE (hB) (C := RX7) (T := TX7) (N := 7) rfl inlX7 0 (by decide) (v := .ref (B + 1)) rfl kw1_15 rfl dX7_noteOf_177 ?_
          refine lv_iload_n S.1 S.2.1 dX7_noteOf_180 rfl (lv_at hl 1 rfl) ?_
          refine lv_aload_n S.1 S.2.1 dX7_noteOf_181 rfl (lv_at hl 0 rfl) ?_
          refine x_get S hE (hB) (C := RX7) (T := TX7) (N := 7) rfl inlX7 0 (by decide) (v := .ref (B + 1)) rfl kw1_15 rfl dX7_noteOf_182 ?_
          refine xk_R (v := (chSum β.1)) (x_runVN (As := []) (rest := [.int xa, .ref (B + 1)]) S hE hS (fun _ h => h.elim) (c_X0_sum l E (B + 1) β.1  _ hC) kv_X0_sum nw46 kw8_7 kw8_8 (x_recv hE (hC.1) (ci := 0) rfl) ⟨Nat.le_of_ble_eq_true rfl, Nat.le_of_ble_eq_true rfl⟩ rfl rfl rfl hl.1 rfl (Nat.le_of_ble_eq_true rfl) dX7_noteOf_185 ⟨Nat.zero_le _, Nat.zero_le _⟩) ?_
          refine xk_R (v := (chHrd β.1 xa (chSum β.1))) (x_runVN (As := [.int xa, .int (chSum β.1)]) (rest := []) S hE hS (fun _ h => h.elim) (c_X0_heardOfNote l E (B + 1) β.1 xa (chSum β.1) _ hC) kv_X0_heardOfNote nw50 kw8_18 kw8_19 (x_recv hE (hC.1) (ci := 0) rfl) ⟨Nat.le_of_ble_eq_true rfl, Nat.le_of_ble_eq_true rfl⟩ rfl rfl rfl hl.1 rfl (Nat.le_of_ble_eq_true rfl) dX7_noteOf_188 ⟨Nat.zero_le _, Nat.zero_le _⟩) ?_
          refine lv_goto (tgt := 196) S.1 S.2.1 dX7_noteOf_191 rfl ?_
          subst hQ
          exact x_retR S hr hlk (rfl) (by rw [bxNote, if_neg h1, if_pos h2, if_neg h3_0, if_neg h3_1, if_neg h3_2, if_neg h3_3, if_neg h3_4, if_pos h3_5, if_pos h5]) dX7_noteOf_196
      by_cases h3_6 : wa = (nI 6)
      · refine x_top h3_6 ?_
        refine lv_tableIn (tgt := 197) S.1 S.2.1 dX7_noteOf_21 (by decide) (by decide) (show _ = some (176) from rfl) rfl ?_
        refine lv_aload_n S.1 S.2.1 dX7_noteOf_197 rfl (lv_at hl 0 rfl) ?_
        refine x_get S hE (hB) (C := RX7) (T := TX7) (N := 7) rfl inlX7 0 (by decide) (v := .ref (B + 1)) rfl kw1_15 rfl dX7_noteOf_198 ?_
        refine x_getN S hE (hC.1) (C := RX0) (T := TX0) (N := 10) rfl inlX0 0 (by decide) (v := .ref (B + 1 + 1)) rfl nw19 rfl dX7_noteOf_201 ?_
        refine x_getN S hE (hC.2.1.1) (C := RX5) (T := TX5) (N := 8) rfl inlX5 6 (by decide) (v := .ref (B + 1 + 1 + 7)) rfl nw11 rfl dX7_noteOf_204 ?_
        refine lv_iload_n S.1 S.2.1 dX7_noteOf_207 rfl (lv_at hl 1 rfl) ?_
        refine xk_R (v := (ntG β.1.1 6 xa)) (x_runS (As := [.ref (B + 1 + 1 + 7), .int xa]) (rest := []) S hE hS (fun _ h => h.elim) (c_X7_at l E (B + 1 + 1 + (6 + 1)) 200 (β.1.1 6) xa _ (xr_i (hC.2.1.2 6 (by decide))) (by decide)) kv_X7_at kw8_1 kw8_2 ⟨Nat.le_of_ble_eq_true rfl, Nat.le_of_ble_eq_true rfl⟩ rfl rfl rfl hl.1 rfl (Nat.le_of_ble_eq_true rfl) dX7_noteOf_208 ⟨Nat.zero_le _, Nat.zero_le _⟩) ?_
        subst hQ
        exact x_retR S hr hlk (rfl) (by rw [bxNote, if_neg h1, if_pos h2, if_neg h3_0, if_neg h3_1, if_neg h3_2, if_neg h3_3, if_neg h3_4, if_neg h3_5, if_pos h3_6]) dX7_noteOf_211
      by_cases h3_7 : wa = (nI 7)
      · refine x_top h3_7 ?_
        refine lv_tableIn (tgt := 212) S.1 S.2.1 dX7_noteOf_21 (by decide) (by decide) (show _ = some (191) from rfl) rfl ?_
        refine lv_aload_n S.1 S.2.1 dX7_noteOf_212 rfl (lv_at hl 0 rfl) ?_
        refine x_get S hE (hB) (C := RX7) (T := TX7) (N := 7) rfl inlX7 0 (by decide) (v := .ref (B + 1)) rfl kw1_15 rfl dX7_noteOf_213 ?_
        refine x_getN S hE (hC.1) (C := RX0) (T := TX0) (N := 10) rfl inlX0 3 (by decide) (v := .ref (B + 1 + 13)) rfl nw22 rfl dX7_noteOf_216 ?_
        refine lv_iload_n S.1 S.2.1 dX7_noteOf_219 rfl (lv_at hl 1 rfl) ?_
        refine xk_R (v := (lnIxF xa (β.1.2.1 2) 0)) (x_runVN (As := [.int xa]) (rest := []) S hE hS (fun _ h => h.elim) (c_X3_indexOf l E (B + 1 + 13) 6 (β.1.2.1 2) xa _ hC.2.2.2.2.1 (by decide)) kv_X3_indexOf nw51 kw8_21 kw8_22 (x_recv hE (hC.2.2.2.2.1.1) (ci := 3) rfl) ⟨Nat.le_of_ble_eq_true rfl, Nat.le_of_ble_eq_true rfl⟩ rfl rfl rfl hl.1 rfl (Nat.le_of_ble_eq_true rfl) dX7_noteOf_220 ⟨Nat.zero_le _, Nat.zero_le _⟩) ?_
        refine xk_R (v := (xorNF (lnIxF xa (β.1.2.1 2) 0))) (x_runS (As := [.int (lnIxF xa (β.1.2.1 2) 0)]) (rest := []) S hE hS (fun _ h => h.elim) (c_X7_orNotFound l E (lnIxF xa (β.1.2.1 2) 0) _) kv_X7_orNotFound kw9_0 kw9_1 ⟨Nat.le_of_ble_eq_true rfl, Nat.le_of_ble_eq_true rfl⟩ rfl rfl rfl hl.1 rfl (Nat.le_of_ble_eq_true rfl) dX7_noteOf_223 ⟨Nat.zero_le _, Nat.zero_le _⟩) ?_
        subst hQ
        exact x_retR S hr hlk (rfl) (by rw [bxNote, if_neg h1, if_pos h2, if_neg h3_0, if_neg h3_1, if_neg h3_2, if_neg h3_3, if_neg h3_4, if_neg h3_5, if_neg h3_6, if_pos h3_7]) dX7_noteOf_226
      refine lv_tableOut (tgt := 227) S.1 S.2.1 dX7_noteOf_21 (tsw0_8 h3_0 h3_1 h3_2 h3_3 h3_4 h3_5 h3_6 h3_7) rfl ?_
      refine lv_iconst (v := (-1)) S.1 S.2.1 dX7_noteOf_227 (by decide) ?_
      subst hQ
      exact x_retR S hr hlk (rfl) (by rw [bxNote, if_neg h1, if_pos h2, if_neg h3_0, if_neg h3_1, if_neg h3_2, if_neg h3_3, if_neg h3_4, if_neg h3_5, if_neg h3_6, if_neg h3_7]) dX7_noteOf_228
    · skip
      refine lv_iconst (v := (-1)) S.1 S.2.1 dX7_noteOf_18 (by decide) ?_
      subst hQ
      exact x_retR S hr hlk (rfl) (by rw [bxNote, if_neg h1, if_neg h2]) dX7_noteOf_19
abbrev rm_X7_partOf : Room := ({ frames := 5, cells := 0, slots := 0, locals := 111 } : Room)
set_option maxRecDepth 100000 in
set_option maxHeartbeats 600000 in
theorem c_X7_partOf (l : Launch) (E : XE) (B : Nat) (β : BS) (pa : Int32) (wa : Int32) (H : Heap) (hP : BoxP E B β H) : Rd l E yX7_partOf cX7_partOf 3 (some .int) rm_X7_partOf [.ref B, .int pa, .int wa] H (bxPartOf β.1 pa wa) := by
  refine met_of (by decide) (Nat.le_of_ble_eq_true rfl) (fun p e s m args below meth c hBD Q hQ ls hl => ?_)
  obtain ⟨S, hr, hlk, hnm, hE, hH⟩ := hBD
  subst hH
  have hl : lv_has ls 3 [(0, .ref B), (1, .int pa), (2, .int wa)] := hl
  have hS : va_S (fun _ => False) s.heap s.heap [] := va_S.rf
  obtain ⟨hB, hC, hHi, hT, ⟨χa, hAh⟩, ⟨p0, o0, q0, r0, hR⟩, ⟨z, hM⟩, sh, hSh⟩ := hP
  refine lv_iload_n S.1 S.2.1 dX7_partOf_0 rfl (lv_at hl 1 rfl) ?_
  refine xk_R (v := (bI (xPart pa))) (x_runS (As := [.int pa]) (rest := []) S hE hS (fun _ h => h.elim) (c_X7_isPart l E pa _) kv_X7_isPart kw9_7 kw9_8 ⟨Nat.le_of_ble_eq_true rfl, Nat.le_of_ble_eq_true rfl⟩ rfl rfl rfl hl.1 rfl (Nat.le_of_ble_eq_true rfl) dX7_partOf_1 ⟨Nat.zero_le _, Nat.zero_le _⟩) ?_
  refine lv_if_ne (tgt := 9) S.1 S.2.1 dX7_partOf_4 rfl (fun h1 => ?_) (fun h1 => ?_)
  · skip
    have h1 := bI_n0 h1
    refine lv_iload_n S.1 S.2.1 dX7_partOf_9 rfl (lv_at hl 2 rfl) ?_
    by_cases h2_0 : wa = (nI 0)
    · refine x_top h2_0 ?_
      refine lv_tableIn (tgt := 44) S.1 S.2.1 dX7_partOf_10 (by decide) (by decide) (show _ = some (34) from rfl) rfl ?_
      refine lv_aload_n S.1 S.2.1 dX7_partOf_44 rfl (lv_at hl 0 rfl) ?_
      refine x_get S hE (hB) (C := RX7) (T := TX7) (N := 7) rfl inlX7 0 (by decide) (v := .ref (B + 1)) rfl kw1_15 rfl dX7_partOf_45 ?_
      refine lv_aload_n S.1 S.2.1 dX7_partOf_48 rfl (lv_at hl 0 rfl) ?_
      refine x_get S hE (hB) (C := RX7) (T := TX7) (N := 7) rfl inlX7 0 (by decide) (v := .ref (B + 1)) rfl kw1_15 rfl dX7_partOf_49 ?_
      refine x_getN S hE (hC.1) (C := RX0) (T := TX0) (N := 10) rfl inlX0 1 (by decide) (v := .ref (B + 1 + 9)) rfl nw20 rfl dX7_partOf_52 ?_
      refine lv_iload_n S.1 S.2.1 dX7_partOf_55 rfl (lv_at hl 1 rfl) ?_
      refine xk_R (v := (hmOf β.1.1 pa (β.1.2.1 0))) (x_runVN (As := [.ref (B + 1 + 9), .int pa]) (rest := []) S hE hS (fun _ h => h.elim) (c_X0_howManyOf l E (B + 1) (B + 1 + 9) 8 β.1 (β.1.2.1 0) pa _ hC hC.2.2.1 (by decide)) kv_X0_howManyOf nw55 kw9_10 kw9_11 (x_recv hE (hC.1) (ci := 0) rfl) ⟨Nat.le_of_ble_eq_true rfl, Nat.le_of_ble_eq_true rfl⟩ rfl rfl rfl hl.1 rfl (Nat.le_of_ble_eq_true rfl) dX7_partOf_56 ⟨Nat.zero_le _, Nat.zero_le _⟩) ?_
      subst hQ
      exact x_retR S hr hlk (rfl) (by rw [bxPartOf, if_pos h1, if_pos h2_0]) dX7_partOf_59
    by_cases h2_1 : wa = (nI 1)
    · refine x_top h2_1 ?_
      refine lv_tableIn (tgt := 60) S.1 S.2.1 dX7_partOf_10 (by decide) (by decide) (show _ = some (50) from rfl) rfl ?_
      refine lv_aload_n S.1 S.2.1 dX7_partOf_60 rfl (lv_at hl 0 rfl) ?_
      refine x_get S hE (hB) (C := RX7) (T := TX7) (N := 7) rfl inlX7 0 (by decide) (v := .ref (B + 1)) rfl kw1_15 rfl dX7_partOf_61 ?_
      refine lv_aload_n S.1 S.2.1 dX7_partOf_64 rfl (lv_at hl 0 rfl) ?_
      refine x_get S hE (hB) (C := RX7) (T := TX7) (N := 7) rfl inlX7 0 (by decide) (v := .ref (B + 1)) rfl kw1_15 rfl dX7_partOf_65 ?_
      refine x_getN S hE (hC.1) (C := RX0) (T := TX0) (N := 10) rfl inlX0 2 (by decide) (v := .ref (B + 1 + 11)) rfl nw21 rfl dX7_partOf_68 ?_
      refine lv_iload_n S.1 S.2.1 dX7_partOf_71 rfl (lv_at hl 1 rfl) ?_
      refine xk_R (v := (hmOf β.1.1 pa (β.1.2.1 1))) (x_runVN (As := [.ref (B + 1 + 11), .int pa]) (rest := []) S hE hS (fun _ h => h.elim) (c_X0_howManyOf l E (B + 1) (B + 1 + 11) 4 β.1 (β.1.2.1 1) pa _ hC hC.2.2.2.1 (by decide)) kv_X0_howManyOf nw55 kw9_10 kw9_11 (x_recv hE (hC.1) (ci := 0) rfl) ⟨Nat.le_of_ble_eq_true rfl, Nat.le_of_ble_eq_true rfl⟩ rfl rfl rfl hl.1 rfl (Nat.le_of_ble_eq_true rfl) dX7_partOf_72 ⟨Nat.zero_le _, Nat.zero_le _⟩) ?_
      subst hQ
      exact x_retR S hr hlk (rfl) (by rw [bxPartOf, if_pos h1, if_neg h2_0, if_pos h2_1]) dX7_partOf_75
    by_cases h2_2 : wa = (nI 2)
    · refine x_top h2_2 ?_
      refine lv_tableIn (tgt := 76) S.1 S.2.1 dX7_partOf_10 (by decide) (by decide) (show _ = some (66) from rfl) rfl ?_
      refine lv_aload_n S.1 S.2.1 dX7_partOf_76 rfl (lv_at hl 0 rfl) ?_
      refine x_get S hE (hB) (C := RX7) (T := TX7) (N := 7) rfl inlX7 0 (by decide) (v := .ref (B + 1)) rfl kw1_15 rfl dX7_partOf_77 ?_
      refine lv_aload_n S.1 S.2.1 dX7_partOf_80 rfl (lv_at hl 0 rfl) ?_
      refine x_get S hE (hB) (C := RX7) (T := TX7) (N := 7) rfl inlX7 0 (by decide) (v := .ref (B + 1)) rfl kw1_15 rfl dX7_partOf_81 ?_
      refine x_getN S hE (hC.1) (C := RX0) (T := TX0) (N := 10) rfl inlX0 1 (by decide) (v := .ref (B + 1 + 9)) rfl nw20 rfl dX7_partOf_84 ?_
      refine lv_iload_n S.1 S.2.1 dX7_partOf_87 rfl (lv_at hl 1 rfl) ?_
      refine xk_R (v := (lvOf β.1.1 pa (β.1.2.1 0))) (x_runVN (As := [.ref (B + 1 + 9), .int pa]) (rest := []) S hE hS (fun _ h => h.elim) (c_X0_levelsOf l E (B + 1) (B + 1 + 9) 8 β.1 (β.1.2.1 0) pa _ hC hC.2.2.1 (by decide)) kv_X0_levelsOf nw56 kw8_11 kw8_12 (x_recv hE (hC.1) (ci := 0) rfl) ⟨Nat.le_of_ble_eq_true rfl, Nat.le_of_ble_eq_true rfl⟩ rfl rfl rfl hl.1 rfl (Nat.le_of_ble_eq_true rfl) dX7_partOf_88 ⟨Nat.zero_le _, Nat.zero_le _⟩) ?_
      refine lv_aload_n S.1 S.2.1 dX7_partOf_91 rfl (lv_at hl 0 rfl) ?_
      refine x_get S hE (hB) (C := RX7) (T := TX7) (N := 7) rfl inlX7 0 (by decide) (v := .ref (B + 1)) rfl kw1_15 rfl dX7_partOf_92 ?_
      refine lv_aload_n S.1 S.2.1 dX7_partOf_95 rfl (lv_at hl 0 rfl) ?_
      refine x_get S hE (hB) (C := RX7) (T := TX7) (N := 7) rfl inlX7 0 (by decide) (v := .ref (B + 1)) rfl kw1_15 rfl dX7_partOf_96 ?_
      refine x_getN S hE (hC.1) (C := RX0) (T := TX0) (N := 10) rfl inlX0 2 (by decide) (v := .ref (B + 1 + 11)) rfl nw21 rfl dX7_partOf_99 ?_
      refine lv_iload_n S.1 S.2.1 dX7_partOf_102 rfl (lv_at hl 1 rfl) ?_
      refine xk_R (v := (lvOf β.1.1 pa (β.1.2.1 1))) (x_runVN (As := [.ref (B + 1 + 11), .int pa]) (rest := [.int (lvOf β.1.1 pa (β.1.2.1 0))]) S hE hS (fun _ h => h.elim) (c_X0_levelsOf l E (B + 1) (B + 1 + 11) 4 β.1 (β.1.2.1 1) pa _ hC hC.2.2.2.1 (by decide)) kv_X0_levelsOf nw56 kw8_11 kw8_12 (x_recv hE (hC.1) (ci := 0) rfl) ⟨Nat.le_of_ble_eq_true rfl, Nat.le_of_ble_eq_true rfl⟩ rfl rfl rfl hl.1 rfl (Nat.le_of_ble_eq_true rfl) dX7_partOf_103 ⟨Nat.zero_le _, Nat.zero_le _⟩) ?_
      refine lv_iadd S.1 S.2.1 dX7_partOf_106 ?_
      subst hQ
      exact x_retR S hr hlk (rfl) (by rw [bxPartOf, if_pos h1, if_neg h2_0, if_neg h2_1, if_pos h2_2]) dX7_partOf_107
    by_cases h2_3 : wa = (nI 3)
    · refine x_top h2_3 ?_
      refine lv_tableIn (tgt := 108) S.1 S.2.1 dX7_partOf_10 (by decide) (by decide) (show _ = some (98) from rfl) rfl ?_
      refine lv_aload_n S.1 S.2.1 dX7_partOf_108 rfl (lv_at hl 0 rfl) ?_
      refine x_get S hE (hB) (C := RX7) (T := TX7) (N := 7) rfl inlX7 0 (by decide) (v := .ref (B + 1)) rfl kw1_15 rfl dX7_partOf_109 ?_
      refine lv_iload_n S.1 S.2.1 dX7_partOf_112 rfl (lv_at hl 1 rfl) ?_
      refine xk_R (v := (chHrP β.1 pa)) (x_runVN (As := [.int pa]) (rest := []) S hE hS (fun _ h => h.elim) (c_X0_heardOfPart l E (B + 1) β.1 pa _ hC) kv_X0_heardOfPart nw57 kw9_13 kw9_14 (x_recv hE (hC.1) (ci := 0) rfl) ⟨Nat.le_of_ble_eq_true rfl, Nat.le_of_ble_eq_true rfl⟩ rfl rfl rfl hl.1 rfl (Nat.le_of_ble_eq_true rfl) dX7_partOf_113 ⟨Nat.zero_le _, Nat.zero_le _⟩) ?_
      subst hQ
      exact x_retR S hr hlk (rfl) (by rw [bxPartOf, if_pos h1, if_neg h2_0, if_neg h2_1, if_neg h2_2, if_pos h2_3]) dX7_partOf_116
    by_cases h2_4 : wa = (nI 4)
    · refine x_top h2_4 ?_
      refine lv_tableIn (tgt := 117) S.1 S.2.1 dX7_partOf_10 (by decide) (by decide) (show _ = some (107) from rfl) rfl ?_
      refine lv_aload_n S.1 S.2.1 dX7_partOf_117 rfl (lv_at hl 0 rfl) ?_
      refine x_get S hE (hB) (C := RX7) (T := TX7) (N := 7) rfl inlX7 0 (by decide) (v := .ref (B + 1)) rfl kw1_15 rfl dX7_partOf_118 ?_
      refine lv_aload_n S.1 S.2.1 dX7_partOf_121 rfl (lv_at hl 0 rfl) ?_
      refine x_get S hE (hB) (C := RX7) (T := TX7) (N := 7) rfl inlX7 0 (by decide) (v := .ref (B + 1)) rfl kw1_15 rfl dX7_partOf_122 ?_
      refine x_getN S hE (hC.1) (C := RX0) (T := TX0) (N := 10) rfl inlX0 3 (by decide) (v := .ref (B + 1 + 13)) rfl nw22 rfl dX7_partOf_125 ?_
      refine lv_iload_n S.1 S.2.1 dX7_partOf_128 rfl (lv_at hl 1 rfl) ?_
      refine xk_R (v := (hmOf β.1.1 pa (β.1.2.1 2))) (x_runVN (As := [.ref (B + 1 + 13), .int pa]) (rest := []) S hE hS (fun _ h => h.elim) (c_X0_howManyOf l E (B + 1) (B + 1 + 13) 6 β.1 (β.1.2.1 2) pa _ hC hC.2.2.2.2.1 (by decide)) kv_X0_howManyOf nw55 kw9_10 kw9_11 (x_recv hE (hC.1) (ci := 0) rfl) ⟨Nat.le_of_ble_eq_true rfl, Nat.le_of_ble_eq_true rfl⟩ rfl rfl rfl hl.1 rfl (Nat.le_of_ble_eq_true rfl) dX7_partOf_129 ⟨Nat.zero_le _, Nat.zero_le _⟩) ?_
      subst hQ
      exact x_retR S hr hlk (rfl) (by rw [bxPartOf, if_pos h1, if_neg h2_0, if_neg h2_1, if_neg h2_2, if_neg h2_3, if_pos h2_4]) dX7_partOf_132
    refine lv_tableOut (tgt := 133) S.1 S.2.1 dX7_partOf_10 (tsw0_5 h2_0 h2_1 h2_2 h2_3 h2_4) rfl ?_
    refine lv_iconst (v := (-1)) S.1 S.2.1 dX7_partOf_133 (by decide) ?_
    subst hQ
    exact x_retR S hr hlk (rfl) (by rw [bxPartOf, if_pos h1, if_neg h2_0, if_neg h2_1, if_neg h2_2, if_neg h2_3, if_neg h2_4]) dX7_partOf_134
  · skip
    have h1 := bI_0 h1
    refine lv_iconst (v := (-1)) S.1 S.2.1 dX7_partOf_7 (by decide) ?_
    subst hQ
    exact x_retR S hr hlk (rfl) (by rw [bxPartOf, if_neg h1]) dX7_partOf_8
abbrev rm_X7_count : Room := ({ frames := 6, cells := 0, slots := 0, locals := 133 } : Room)
set_option maxRecDepth 100000 in
set_option maxHeartbeats 600000 in
theorem c_X7_count (l : Launch) (E : XE) (B : Nat) (β : BS) (wa : Int32) (H : Heap) (hP : BoxP E B β H) : Rd l E yX7_count cX7_count 2 (some .int) rm_X7_count [.ref B, .int wa] H (bxCount β wa) := by
  refine met_of (by decide) (Nat.le_of_ble_eq_true rfl) (fun p e s m args below meth c hBD Q hQ ls hl => ?_)
  obtain ⟨S, hr, hlk, hnm, hE, hH⟩ := hBD
  subst hH
  have hl : lv_has ls 2 [(0, .ref B), (1, .int wa)] := hl
  have hS : va_S (fun _ => False) s.heap s.heap [] := va_S.rf
  obtain ⟨hB, hC, hHi, hT, ⟨χa, hAh⟩, ⟨p0, o0, q0, r0, hR⟩, ⟨z, hM⟩, sh, hSh⟩ := hP
  refine lv_iload_n S.1 S.2.1 dX7_count_0 rfl (lv_at hl 1 rfl) ?_
  by_cases h1_0 : wa = (nI 0)
  · refine x_top h1_0 ?_
    refine lv_tableIn (tgt := 108) S.1 S.2.1 dX7_count_1 (by decide) (by decide) (show _ = some (107) from rfl) rfl ?_
    refine lv_aload_n S.1 S.2.1 dX7_count_108 rfl (lv_at hl 0 rfl) ?_
    refine x_get S hE (hB) (C := RX7) (T := TX7) (N := 7) rfl inlX7 0 (by decide) (v := .ref (B + 1)) rfl kw1_15 rfl dX7_count_109 ?_
    refine x_getN S hE (hC.1) (C := RX0) (T := TX0) (N := 10) rfl inlX0 0 (by decide) (v := .ref (B + 1 + 1)) rfl nw19 rfl dX7_count_112 ?_
    refine x_getN S hE (hC.2.1.1) (C := RX5) (T := TX5) (N := 8) rfl inlX5 7 (by decide) (v := .int (β.1.2.2.2 0)) rfl nw12 rfl dX7_count_115 ?_
    subst hQ
    exact x_retR S hr hlk (rfl) (by rw [bxCount, if_pos h1_0]) dX7_count_118
  by_cases h1_1 : wa = (nI 1)
  · refine x_top h1_1 ?_
    refine lv_tableIn (tgt := 119) S.1 S.2.1 dX7_count_1 (by decide) (by decide) (show _ = some (118) from rfl) rfl ?_
    refine lv_aload_n S.1 S.2.1 dX7_count_119 rfl (lv_at hl 0 rfl) ?_
    refine x_get S hE (hB) (C := RX7) (T := TX7) (N := 7) rfl inlX7 0 (by decide) (v := .ref (B + 1)) rfl kw1_15 rfl dX7_count_120 ?_
    refine x_getN S hE (hC.1) (C := RX0) (T := TX0) (N := 10) rfl inlX0 1 (by decide) (v := .ref (B + 1 + 9)) rfl nw20 rfl dX7_count_123 ?_
    refine x_getN S hE (hC.2.2.1.1) (C := RX3) (T := TX3) (N := 2) rfl inlX3 1 (by decide) (v := .int (nI (β.1.2.1 0).length)) rfl nw15 rfl dX7_count_126 ?_
    subst hQ
    exact x_retR S hr hlk (rfl) (by rw [bxCount, if_neg h1_0, if_pos h1_1]) dX7_count_129
  by_cases h1_2 : wa = (nI 2)
  · refine x_top h1_2 ?_
    refine lv_tableIn (tgt := 130) S.1 S.2.1 dX7_count_1 (by decide) (by decide) (show _ = some (129) from rfl) rfl ?_
    refine lv_aload_n S.1 S.2.1 dX7_count_130 rfl (lv_at hl 0 rfl) ?_
    refine x_get S hE (hB) (C := RX7) (T := TX7) (N := 7) rfl inlX7 0 (by decide) (v := .ref (B + 1)) rfl kw1_15 rfl dX7_count_131 ?_
    refine xk_R (v := (chFree β.1)) (x_runVN (As := []) (rest := []) S hE hS (fun _ h => h.elim) (c_X0_freePlaces l E (B + 1) β.1  _ hC) kv_X0_freePlaces nw58 kw11_20 kw11_21 (x_recv hE (hC.1) (ci := 0) rfl) ⟨Nat.le_of_ble_eq_true rfl, Nat.le_of_ble_eq_true rfl⟩ rfl rfl rfl hl.1 rfl (Nat.le_of_ble_eq_true rfl) dX7_count_134 ⟨Nat.zero_le _, Nat.zero_le _⟩) ?_
    subst hQ
    exact x_retR S hr hlk (rfl) (by rw [bxCount, if_neg h1_0, if_neg h1_1, if_pos h1_2]) dX7_count_137
  by_cases h1_3 : wa = (nI 3)
  · refine x_top h1_3 ?_
    refine lv_tableIn (tgt := 138) S.1 S.2.1 dX7_count_1 (by decide) (by decide) (show _ = some (137) from rfl) rfl ?_
    refine lv_aload_n S.1 S.2.1 dX7_count_138 rfl (lv_at hl 0 rfl) ?_
    refine x_get S hE (hB) (C := RX7) (T := TX7) (N := 7) rfl inlX7 0 (by decide) (v := .ref (B + 1)) rfl kw1_15 rfl dX7_count_139 ?_
    refine x_getN S hE (hC.1) (C := RX0) (T := TX0) (N := 10) rfl inlX0 2 (by decide) (v := .ref (B + 1 + 11)) rfl nw21 rfl dX7_count_142 ?_
    refine x_getN S hE (hC.2.2.2.1.1) (C := RX3) (T := TX3) (N := 2) rfl inlX3 1 (by decide) (v := .int (nI (β.1.2.1 1).length)) rfl nw15 rfl dX7_count_145 ?_
    subst hQ
    exact x_retR S hr hlk (rfl) (by rw [bxCount, if_neg h1_0, if_neg h1_1, if_neg h1_2, if_pos h1_3]) dX7_count_148
  by_cases h1_4 : wa = (nI 4)
  · refine x_top h1_4 ?_
    refine lv_tableIn (tgt := 149) S.1 S.2.1 dX7_count_1 (by decide) (by decide) (show _ = some (148) from rfl) rfl ?_
    refine lv_aload_n S.1 S.2.1 dX7_count_149 rfl (lv_at hl 0 rfl) ?_
    refine x_get S hE (hB) (C := RX7) (T := TX7) (N := 7) rfl inlX7 0 (by decide) (v := .ref (B + 1)) rfl kw1_15 rfl dX7_count_150 ?_
    refine x_getN S hE (hC.1) (C := RX0) (T := TX0) (N := 10) rfl inlX0 3 (by decide) (v := .ref (B + 1 + 13)) rfl nw22 rfl dX7_count_153 ?_
    refine x_getN S hE (hC.2.2.2.2.1.1) (C := RX3) (T := TX3) (N := 2) rfl inlX3 1 (by decide) (v := .int (nI (β.1.2.1 2).length)) rfl nw15 rfl dX7_count_156 ?_
    subst hQ
    exact x_retR S hr hlk (rfl) (by rw [bxCount, if_neg h1_0, if_neg h1_1, if_neg h1_2, if_neg h1_3, if_pos h1_4]) dX7_count_159
  by_cases h1_5 : wa = (nI 5)
  · refine x_top h1_5 ?_
    refine lv_tableIn (tgt := 160) S.1 S.2.1 dX7_count_1 (by decide) (by decide) (show _ = some (159) from rfl) rfl ?_
    refine lv_aload_n S.1 S.2.1 dX7_count_160 rfl (lv_at hl 0 rfl) ?_
    refine x_get S hE (hB) (C := RX7) (T := TX7) (N := 7) rfl inlX7 0 (by decide) (v := .ref (B + 1)) rfl kw1_15 rfl dX7_count_161 ?_
    refine x_getN S hE (hC.1) (C := RX0) (T := TX0) (N := 10) rfl inlX0 6 (by decide) (v := .int (β.1.2.2.2 1)) rfl nw25 rfl dX7_count_164 ?_
    subst hQ
    exact x_retR S hr hlk (rfl) (by rw [bxCount, if_neg h1_0, if_neg h1_1, if_neg h1_2, if_neg h1_3, if_neg h1_4, if_pos h1_5]) dX7_count_167
  by_cases h1_6 : wa = (nI 6)
  · refine x_top h1_6 ?_
    refine lv_tableIn (tgt := 168) S.1 S.2.1 dX7_count_1 (by decide) (by decide) (show _ = some (167) from rfl) rfl ?_
    refine lv_aload_n S.1 S.2.1 dX7_count_168 rfl (lv_at hl 0 rfl) ?_
    refine x_get S hE (hB) (C := RX7) (T := TX7) (N := 7) rfl inlX7 0 (by decide) (v := .ref (B + 1)) rfl kw1_15 rfl dX7_count_169 ?_
    refine xk_R (v := (chSum β.1)) (x_runVN (As := []) (rest := []) S hE hS (fun _ h => h.elim) (c_X0_sum l E (B + 1) β.1  _ hC) kv_X0_sum nw46 kw8_7 kw8_8 (x_recv hE (hC.1) (ci := 0) rfl) ⟨Nat.le_of_ble_eq_true rfl, Nat.le_of_ble_eq_true rfl⟩ rfl rfl rfl hl.1 rfl (Nat.le_of_ble_eq_true rfl) dX7_count_172 ⟨Nat.zero_le _, Nat.zero_le _⟩) ?_
    subst hQ
    exact x_retR S hr hlk (rfl) (by rw [bxCount, if_neg h1_0, if_neg h1_1, if_neg h1_2, if_neg h1_3, if_neg h1_4, if_neg h1_5, if_pos h1_6]) dX7_count_175
  by_cases h1_7 : wa = (nI 7)
  · refine x_top h1_7 ?_
    refine lv_tableIn (tgt := 176) S.1 S.2.1 dX7_count_1 (by decide) (by decide) (show _ = some (175) from rfl) rfl ?_
    refine lv_aload_n S.1 S.2.1 dX7_count_176 rfl (lv_at hl 0 rfl) ?_
    refine x_get S hE (hB) (C := RX7) (T := TX7) (N := 7) rfl inlX7 0 (by decide) (v := .ref (B + 1)) rfl kw1_15 rfl dX7_count_177 ?_
    refine xk_R (v := (chHrA β.1)) (x_runVN (As := []) (rest := []) S hE hS (fun _ h => h.elim) (c_X0_heardOfAll l E (B + 1) β.1  _ hC) kv_X0_heardOfAll nw59 kw12_0 kw12_1 (x_recv hE (hC.1) (ci := 0) rfl) ⟨Nat.le_of_ble_eq_true rfl, Nat.le_of_ble_eq_true rfl⟩ rfl rfl rfl hl.1 rfl (Nat.le_of_ble_eq_true rfl) dX7_count_180 ⟨Nat.zero_le _, Nat.zero_le _⟩) ?_
    subst hQ
    exact x_retR S hr hlk (rfl) (by rw [bxCount, if_neg h1_0, if_neg h1_1, if_neg h1_2, if_neg h1_3, if_neg h1_4, if_neg h1_5, if_neg h1_6, if_pos h1_7]) dX7_count_183
  by_cases h1_8 : wa = (nI 8)
  · refine x_top h1_8 ?_
    refine lv_tableIn (tgt := 184) S.1 S.2.1 dX7_count_1 (by decide) (by decide) (show _ = some (183) from rfl) rfl ?_
    refine lv_aload_n S.1 S.2.1 dX7_count_184 rfl (lv_at hl 0 rfl) ?_
    refine x_get S hE (hB) (C := RX7) (T := TX7) (N := 7) rfl inlX7 0 (by decide) (v := .ref (B + 1)) rfl kw1_15 rfl dX7_count_185 ?_
    refine x_getN S hE (hC.1) (C := RX0) (T := TX0) (N := 10) rfl inlX0 7 (by decide) (v := .int (β.1.2.2.2 2)) rfl nw26 rfl dX7_count_188 ?_
    subst hQ
    exact x_retR S hr hlk (rfl) (by rw [bxCount, if_neg h1_0, if_neg h1_1, if_neg h1_2, if_neg h1_3, if_neg h1_4, if_neg h1_5, if_neg h1_6, if_neg h1_7, if_pos h1_8]) dX7_count_191
  by_cases h1_9 : wa = (nI 9)
  · refine x_top h1_9 ?_
    refine lv_tableIn (tgt := 192) S.1 S.2.1 dX7_count_1 (by decide) (by decide) (show _ = some (191) from rfl) rfl ?_
    refine lv_aload_n S.1 S.2.1 dX7_count_192 rfl (lv_at hl 0 rfl) ?_
    refine x_get S hE (hB) (C := RX7) (T := TX7) (N := 7) rfl inlX7 0 (by decide) (v := .ref (B + 1)) rfl kw1_15 rfl dX7_count_193 ?_
    refine x_getN S hE (hC.1) (C := RX0) (T := TX0) (N := 10) rfl inlX0 8 (by decide) (v := .int (β.1.2.2.2 3)) rfl nw27 rfl dX7_count_196 ?_
    subst hQ
    exact x_retR S hr hlk (rfl) (by rw [bxCount, if_neg h1_0, if_neg h1_1, if_neg h1_2, if_neg h1_3, if_neg h1_4, if_neg h1_5, if_neg h1_6, if_neg h1_7, if_neg h1_8, if_pos h1_9]) dX7_count_199
  by_cases h1_10 : wa = (nI 10)
  · refine x_top h1_10 ?_
    refine lv_tableIn (tgt := 200) S.1 S.2.1 dX7_count_1 (by decide) (by decide) (show _ = some (199) from rfl) rfl ?_
    refine lv_aload_n S.1 S.2.1 dX7_count_200 rfl (lv_at hl 0 rfl) ?_
    refine x_get S hE (hB) (C := RX7) (T := TX7) (N := 7) rfl inlX7 0 (by decide) (v := .ref (B + 1)) rfl kw1_15 rfl dX7_count_201 ?_
    refine x_getN S hE (hC.1) (C := RX0) (T := TX0) (N := 10) rfl inlX0 9 (by decide) (v := .int (β.1.2.2.2 4)) rfl nw28 rfl dX7_count_204 ?_
    subst hQ
    exact x_retR S hr hlk (rfl) (by rw [bxCount, if_neg h1_0, if_neg h1_1, if_neg h1_2, if_neg h1_3, if_neg h1_4, if_neg h1_5, if_neg h1_6, if_neg h1_7, if_neg h1_8, if_neg h1_9, if_pos h1_10]) dX7_count_207
  by_cases h1_11 : wa = (nI 11)
  · refine x_top h1_11 ?_
    refine lv_tableIn (tgt := 208) S.1 S.2.1 dX7_count_1 (by decide) (by decide) (show _ = some (207) from rfl) rfl ?_
    refine lv_aload_n S.1 S.2.1 dX7_count_208 rfl (lv_at hl 0 rfl) ?_
    refine x_get S hE (hB) (C := RX7) (T := TX7) (N := 7) rfl inlX7 2 (by decide) (v := .ref (B + 37)) rfl kw1_20 rfl dX7_count_209 ?_
    refine x_getN S hE (hHi.2.1) (C := RX2) (T := TX2) (N := 2) rfl inlX2 1 (by decide) (v := .int (nI β.2.2.1)) rfl nw29 rfl dX7_count_212 ?_
    subst hQ
    exact x_retR S hr hlk (rfl) (by rw [bxCount, if_neg h1_0, if_neg h1_1, if_neg h1_2, if_neg h1_3, if_neg h1_4, if_neg h1_5, if_neg h1_6, if_neg h1_7, if_neg h1_8, if_neg h1_9, if_neg h1_10, if_pos h1_11]) dX7_count_215
  by_cases h1_12 : wa = (nI 12)
  · refine x_top h1_12 ?_
    refine lv_tableIn (tgt := 216) S.1 S.2.1 dX7_count_1 (by decide) (by decide) (show _ = some (215) from rfl) rfl ?_
    refine lv_aload_n S.1 S.2.1 dX7_count_216 rfl (lv_at hl 0 rfl) ?_
    refine x_get S hE (hB) (C := RX7) (T := TX7) (N := 7) rfl inlX7 3 (by decide) (v := .ref (B + 111)) rfl kw2_0 rfl dX7_count_217 ?_
    refine x_getN S hE (hT.1) (C := RX1) (T := TX1) (N := 2) rfl inlX1 1 (by decide) (v := .int (nI β.2.2.2.length)) rfl nw17 rfl dX7_count_220 ?_
    subst hQ
    exact x_retR S hr hlk (rfl) (by rw [bxCount, if_neg h1_0, if_neg h1_1, if_neg h1_2, if_neg h1_3, if_neg h1_4, if_neg h1_5, if_neg h1_6, if_neg h1_7, if_neg h1_8, if_neg h1_9, if_neg h1_10, if_neg h1_11, if_pos h1_12]) dX7_count_223
  by_cases h1_13 : wa = (nI 13)
  · refine x_top h1_13 ?_
    refine lv_tableIn (tgt := 260) S.1 S.2.1 dX7_count_1 (by decide) (by decide) (show _ = some (259) from rfl) rfl ?_
    refine lv_iconst (v := (-1)) S.1 S.2.1 dX7_count_260 (by decide) ?_
    subst hQ
    exact x_retR S hr hlk (rfl) (by rw [bxCount, if_neg h1_0, if_neg h1_1, if_neg h1_2, if_neg h1_3, if_neg h1_4, if_neg h1_5, if_neg h1_6, if_neg h1_7, if_neg h1_8, if_neg h1_9, if_neg h1_10, if_neg h1_11, if_neg h1_12, if_neg (fun z => absurd (h1_13.symm.trans z) (by decide)), if_neg (fun z => absurd (h1_13.symm.trans z) (by decide)), if_neg (fun z => absurd (h1_13.symm.trans z) (by decide))]) dX7_count_261
  by_cases h1_14 : wa = (nI 14)
  · refine x_top h1_14 ?_
    refine lv_tableIn (tgt := 260) S.1 S.2.1 dX7_count_1 (by decide) (by decide) (show _ = some (259) from rfl) rfl ?_
    refine lv_iconst (v := (-1)) S.1 S.2.1 dX7_count_260 (by decide) ?_
    subst hQ
    exact x_retR S hr hlk (rfl) (by rw [bxCount, if_neg h1_0, if_neg h1_1, if_neg h1_2, if_neg h1_3, if_neg h1_4, if_neg h1_5, if_neg h1_6, if_neg h1_7, if_neg h1_8, if_neg h1_9, if_neg h1_10, if_neg h1_11, if_neg h1_12, if_neg (fun z => absurd (h1_14.symm.trans z) (by decide)), if_neg (fun z => absurd (h1_14.symm.trans z) (by decide)), if_neg (fun z => absurd (h1_14.symm.trans z) (by decide))]) dX7_count_261
  by_cases h1_15 : wa = (nI 15)
  · refine x_top h1_15 ?_
    refine lv_tableIn (tgt := 260) S.1 S.2.1 dX7_count_1 (by decide) (by decide) (show _ = some (259) from rfl) rfl ?_
    refine lv_iconst (v := (-1)) S.1 S.2.1 dX7_count_260 (by decide) ?_
    subst hQ
    exact x_retR S hr hlk (rfl) (by rw [bxCount, if_neg h1_0, if_neg h1_1, if_neg h1_2, if_neg h1_3, if_neg h1_4, if_neg h1_5, if_neg h1_6, if_neg h1_7, if_neg h1_8, if_neg h1_9, if_neg h1_10, if_neg h1_11, if_neg h1_12, if_neg (fun z => absurd (h1_15.symm.trans z) (by decide)), if_neg (fun z => absurd (h1_15.symm.trans z) (by decide)), if_neg (fun z => absurd (h1_15.symm.trans z) (by decide))]) dX7_count_261
  by_cases h1_16 : wa = (nI 16)
  · refine x_top h1_16 ?_
    refine lv_tableIn (tgt := 260) S.1 S.2.1 dX7_count_1 (by decide) (by decide) (show _ = some (259) from rfl) rfl ?_
    refine lv_iconst (v := (-1)) S.1 S.2.1 dX7_count_260 (by decide) ?_
    subst hQ
    exact x_retR S hr hlk (rfl) (by rw [bxCount, if_neg h1_0, if_neg h1_1, if_neg h1_2, if_neg h1_3, if_neg h1_4, if_neg h1_5, if_neg h1_6, if_neg h1_7, if_neg h1_8, if_neg h1_9, if_neg h1_10, if_neg h1_11, if_neg h1_12, if_neg (fun z => absurd (h1_16.symm.trans z) (by decide)), if_neg (fun z => absurd (h1_16.symm.trans z) (by decide)), if_neg (fun z => absurd (h1_16.symm.trans z) (by decide))]) dX7_count_261
  by_cases h1_17 : wa = (nI 17)
  · refine x_top h1_17 ?_
    refine lv_tableIn (tgt := 260) S.1 S.2.1 dX7_count_1 (by decide) (by decide) (show _ = some (259) from rfl) rfl ?_
    refine lv_iconst (v := (-1)) S.1 S.2.1 dX7_count_260 (by decide) ?_
    subst hQ
    exact x_retR S hr hlk (rfl) (by rw [bxCount, if_neg h1_0, if_neg h1_1, if_neg h1_2, if_neg h1_3, if_neg h1_4, if_neg h1_5, if_neg h1_6, if_neg h1_7, if_neg h1_8, if_neg h1_9, if_neg h1_10, if_neg h1_11, if_neg h1_12, if_neg (fun z => absurd (h1_17.symm.trans z) (by decide)), if_neg (fun z => absurd (h1_17.symm.trans z) (by decide)), if_neg (fun z => absurd (h1_17.symm.trans z) (by decide))]) dX7_count_261
  by_cases h1_18 : wa = (nI 18)
  · refine x_top h1_18 ?_
    refine lv_tableIn (tgt := 260) S.1 S.2.1 dX7_count_1 (by decide) (by decide) (show _ = some (259) from rfl) rfl ?_
    refine lv_iconst (v := (-1)) S.1 S.2.1 dX7_count_260 (by decide) ?_
    subst hQ
    exact x_retR S hr hlk (rfl) (by rw [bxCount, if_neg h1_0, if_neg h1_1, if_neg h1_2, if_neg h1_3, if_neg h1_4, if_neg h1_5, if_neg h1_6, if_neg h1_7, if_neg h1_8, if_neg h1_9, if_neg h1_10, if_neg h1_11, if_neg h1_12, if_neg (fun z => absurd (h1_18.symm.trans z) (by decide)), if_neg (fun z => absurd (h1_18.symm.trans z) (by decide)), if_neg (fun z => absurd (h1_18.symm.trans z) (by decide))]) dX7_count_261
  by_cases h1_19 : wa = (nI 19)
  · refine x_top h1_19 ?_
    refine lv_tableIn (tgt := 260) S.1 S.2.1 dX7_count_1 (by decide) (by decide) (show _ = some (259) from rfl) rfl ?_
    refine lv_iconst (v := (-1)) S.1 S.2.1 dX7_count_260 (by decide) ?_
    subst hQ
    exact x_retR S hr hlk (rfl) (by rw [bxCount, if_neg h1_0, if_neg h1_1, if_neg h1_2, if_neg h1_3, if_neg h1_4, if_neg h1_5, if_neg h1_6, if_neg h1_7, if_neg h1_8, if_neg h1_9, if_neg h1_10, if_neg h1_11, if_neg h1_12, if_neg (fun z => absurd (h1_19.symm.trans z) (by decide)), if_neg (fun z => absurd (h1_19.symm.trans z) (by decide)), if_neg (fun z => absurd (h1_19.symm.trans z) (by decide))]) dX7_count_261
  by_cases h1_20 : wa = (nI 20)
  · refine x_top h1_20 ?_
    refine lv_tableIn (tgt := 224) S.1 S.2.1 dX7_count_1 (by decide) (by decide) (show _ = some (223) from rfl) rfl ?_
    refine lv_aload_n S.1 S.2.1 dX7_count_224 rfl (lv_at hl 0 rfl) ?_
    refine x_get S hE (hB) (C := RX7) (T := TX7) (N := 7) rfl inlX7 0 (by decide) (v := .ref (B + 1)) rfl kw1_15 rfl dX7_count_225 ?_
    refine x_getN S hE (hC.1) (C := RX0) (T := TX0) (N := 10) rfl inlX0 4 (by decide) (v := .ref (B + 1 + 15)) rfl nw23 rfl dX7_count_228 ?_
    refine lv_iconst (v := (nI 0)) S.1 S.2.1 dX7_count_231 (by decide) ?_
    refine xk_R (v := (xat β.1.2.2.1 3 (nI 0))) (x_runS (As := [.ref (B + 1 + 15), .int (nI 0)]) (rest := []) S hE hS (fun _ h => h.elim) (c_X7_at l E (B + 1 + 15) 3 β.1.2.2.1 (nI 0) _ (xr_i hC.2.2.2.2.2.1) (by decide)) kv_X7_at kw8_1 kw8_2 ⟨Nat.le_of_ble_eq_true rfl, Nat.le_of_ble_eq_true rfl⟩ rfl rfl rfl hl.1 rfl (Nat.le_of_ble_eq_true rfl) dX7_count_232 ⟨Nat.zero_le _, Nat.zero_le _⟩) ?_
    subst hQ
    exact x_retR S hr hlk (rfl) (by rw [bxCount, if_neg h1_0, if_neg h1_1, if_neg h1_2, if_neg h1_3, if_neg h1_4, if_neg h1_5, if_neg h1_6, if_neg h1_7, if_neg h1_8, if_neg h1_9, if_neg h1_10, if_neg h1_11, if_neg h1_12, if_pos h1_20]) dX7_count_235
  by_cases h1_21 : wa = (nI 21)
  · refine x_top h1_21 ?_
    refine lv_tableIn (tgt := 236) S.1 S.2.1 dX7_count_1 (by decide) (by decide) (show _ = some (235) from rfl) rfl ?_
    refine lv_aload_n S.1 S.2.1 dX7_count_236 rfl (lv_at hl 0 rfl) ?_
    refine x_get S hE (hB) (C := RX7) (T := TX7) (N := 7) rfl inlX7 0 (by decide) (v := .ref (B + 1)) rfl kw1_15 rfl dX7_count_237 ?_
    refine x_getN S hE (hC.1) (C := RX0) (T := TX0) (N := 10) rfl inlX0 4 (by decide) (v := .ref (B + 1 + 15)) rfl nw23 rfl dX7_count_240 ?_
    refine lv_iconst (v := (nI 1)) S.1 S.2.1 dX7_count_243 (by decide) ?_
    refine xk_R (v := (xat β.1.2.2.1 3 (nI 1))) (x_runS (As := [.ref (B + 1 + 15), .int (nI 1)]) (rest := []) S hE hS (fun _ h => h.elim) (c_X7_at l E (B + 1 + 15) 3 β.1.2.2.1 (nI 1) _ (xr_i hC.2.2.2.2.2.1) (by decide)) kv_X7_at kw8_1 kw8_2 ⟨Nat.le_of_ble_eq_true rfl, Nat.le_of_ble_eq_true rfl⟩ rfl rfl rfl hl.1 rfl (Nat.le_of_ble_eq_true rfl) dX7_count_244 ⟨Nat.zero_le _, Nat.zero_le _⟩) ?_
    subst hQ
    exact x_retR S hr hlk (rfl) (by rw [bxCount, if_neg h1_0, if_neg h1_1, if_neg h1_2, if_neg h1_3, if_neg h1_4, if_neg h1_5, if_neg h1_6, if_neg h1_7, if_neg h1_8, if_neg h1_9, if_neg h1_10, if_neg h1_11, if_neg h1_12, if_neg h1_20, if_pos h1_21]) dX7_count_247
  by_cases h1_22 : wa = (nI 22)
  · refine x_top h1_22 ?_
    refine lv_tableIn (tgt := 248) S.1 S.2.1 dX7_count_1 (by decide) (by decide) (show _ = some (247) from rfl) rfl ?_
    refine lv_aload_n S.1 S.2.1 dX7_count_248 rfl (lv_at hl 0 rfl) ?_
    refine x_get S hE (hB) (C := RX7) (T := TX7) (N := 7) rfl inlX7 0 (by decide) (v := .ref (B + 1)) rfl kw1_15 rfl dX7_count_249 ?_
    refine x_getN S hE (hC.1) (C := RX0) (T := TX0) (N := 10) rfl inlX0 4 (by decide) (v := .ref (B + 1 + 15)) rfl nw23 rfl dX7_count_252 ?_
    refine lv_iconst (v := (nI 2)) S.1 S.2.1 dX7_count_255 (by decide) ?_
    refine xk_R (v := (xat β.1.2.2.1 3 (nI 2))) (x_runS (As := [.ref (B + 1 + 15), .int (nI 2)]) (rest := []) S hE hS (fun _ h => h.elim) (c_X7_at l E (B + 1 + 15) 3 β.1.2.2.1 (nI 2) _ (xr_i hC.2.2.2.2.2.1) (by decide)) kv_X7_at kw8_1 kw8_2 ⟨Nat.le_of_ble_eq_true rfl, Nat.le_of_ble_eq_true rfl⟩ rfl rfl rfl hl.1 rfl (Nat.le_of_ble_eq_true rfl) dX7_count_256 ⟨Nat.zero_le _, Nat.zero_le _⟩) ?_
    subst hQ
    exact x_retR S hr hlk (rfl) (by rw [bxCount, if_neg h1_0, if_neg h1_1, if_neg h1_2, if_neg h1_3, if_neg h1_4, if_neg h1_5, if_neg h1_6, if_neg h1_7, if_neg h1_8, if_neg h1_9, if_neg h1_10, if_neg h1_11, if_neg h1_12, if_neg h1_20, if_neg h1_21, if_pos h1_22]) dX7_count_259
  refine lv_tableOut (tgt := 260) S.1 S.2.1 dX7_count_1 (tsw0_23 h1_0 h1_1 h1_2 h1_3 h1_4 h1_5 h1_6 h1_7 h1_8 h1_9 h1_10 h1_11 h1_12 h1_13 h1_14 h1_15 h1_16 h1_17 h1_18 h1_19 h1_20 h1_21 h1_22) rfl ?_
  refine lv_iconst (v := (-1)) S.1 S.2.1 dX7_count_260 (by decide) ?_
  subst hQ
  exact x_retR S hr hlk (rfl) (by rw [bxCount, if_neg h1_0, if_neg h1_1, if_neg h1_2, if_neg h1_3, if_neg h1_4, if_neg h1_5, if_neg h1_6, if_neg h1_7, if_neg h1_8, if_neg h1_9, if_neg h1_10, if_neg h1_11, if_neg h1_12, if_neg h1_20, if_neg h1_21, if_neg h1_22]) dX7_count_261
abbrev rm_X7_mix : Room := ({ frames := 6, cells := 0, slots := 0, locals := 137 } : Room)
set_option maxRecDepth 100000 in
set_option maxHeartbeats 600000 in
theorem c_X7_mix (l : Launch) (E : XE) (B : Nat) (β : BS) (H : Heap) (hP : BoxP E B β H) : Wr l E yX7_mix cX7_mix 2 (some .int) rm_X7_mix [.ref B] H (bk B 118) (fun v H1 => (∃ (z : MZ) (sh : Nat → Int32), v = mxOf (β.1.2.1 3) (shN β.1 sh 4) z) ∧ BoxP E B β H1) := by
  refine met_of (by decide) (Nat.le_of_ble_eq_true rfl) (fun p e s m args below meth c hBD Q hQ ls hl => ?_)
  obtain ⟨S, hr, hlk, hnm, hE, hH⟩ := hBD
  subst hH
  have hl : lv_has ls 2 [(0, .ref B)] := hl
  have hO : Out (bk B 118) s.heap s.heap := Out.rf
  have hS : va_S (bk B 118) s.heap s.heap [] := va_S.rf
  obtain ⟨hB, hC, hHi, hT, ⟨χa, hAh⟩, ⟨p0, o0, q0, r0, hR⟩, ⟨z, hM⟩, sh, hSh⟩ := hP
  refine lv_iconst (v := (nI 0)) S.1 S.2.1 dX7_mix_0 (by decide) ?_
  refine lv_istore_n S.1 S.2.1 dX7_mix_1 rfl hl (by decide) rfl (fun ls hl => ?_)
  have hl : lv_has ls 2 [(1, .int (nI 0)), (0, .ref B)] := hl
  have hloop2 : ∀ (d : Nat) (k : Nat) (H : Heap) (locs : List Loc) (ls : Array Slot), 4 - k = d → k ≤ 4 → BxO E B H → ChoP E (B + 1) β.1 H → HisP E (B + 37) β.2.1 β.2.2.1 H → ForP E (B + 111) β.2.2.2 H → ChoP E (B + 19) χa H → RdP E (B + 113) p0 o0 q0 r0 H → MixP E (B + 114) z H → XI E (B + 117) 4 (shN β.1 sh k) H → Out (bk B 118) s.heap H → va_S (bk B 118) s.heap H locs → lv_has ls 2 [(1, .int (nI k)), (0, .ref B)] → W p l e rm_X7_mix s m args below meth c H locs 0 0 Q (F0 m 2 ls []) := by
    intro d
    induction d using Nat.strongRecOn with
    | ind d ih =>
      intro k H locs ls hd hk hB hC hHi hT hAh hR hM hSh hO hS hl
      refine lv_iload_n S.1 S.2.1 dX7_mix_2 rfl (lv_at hl 0 rfl) ?_
      refine lv_iconst (v := (nI 4)) S.1 S.2.1 dX7_mix_3 (by decide) ?_
      refine lv_icmp_ge (tgt := 29) S.1 S.2.1 dX7_mix_4 rfl (fun h1 => ?_) (fun h1 => ?_)
      · skip
        have hge : k = 4 := (by have := ge_of_le (by omega) (by omega) h1; omega)
        subst hge
        refine lv_aload_n S.1 S.2.1 dX7_mix_29 rfl (lv_at hl 1 rfl) ?_
        refine x_get S hE (hB) (C := RX7) (T := TX7) (N := 7) rfl inlX7 5 (by decide) (v := .ref (B + 114)) rfl kw2_8 rfl dX7_mix_30 ?_
        refine lv_aload_n S.1 S.2.1 dX7_mix_33 rfl (lv_at hl 1 rfl) ?_
        refine x_get S hE (hB) (C := RX7) (T := TX7) (N := 7) rfl inlX7 0 (by decide) (v := .ref (B + 1)) rfl kw1_15 rfl dX7_mix_34 ?_
        refine x_getN S hE (hC.1) (C := RX0) (T := TX0) (N := 10) rfl inlX0 5 (by decide) (v := .ref (B + 1 + 16)) rfl nw24 rfl dX7_mix_37 ?_
        refine lv_aload_n S.1 S.2.1 dX7_mix_40 rfl (lv_at hl 1 rfl) ?_
        refine x_get S hE (hB) (C := RX7) (T := TX7) (N := 7) rfl inlX7 6 (by decide) (v := .ref (B + 117)) rfl kw2_9 rfl dX7_mix_41 ?_
        refine xk_W (x_runVN (As := [.ref (B + 1 + 16), .ref (B + 117)]) (rest := []) S hE hS (bk_in (k := 114) (by decide)) (c_X4_result l E (B + 114) (B + 1 + 16) (B + 117) z (β.1.2.1 3) (shN β.1 sh 4) _ hM hC.2.2.2.2.2.2 hSh (by omega) (by omega)) kv_X4_result nw88 kw12_11 kw12_12 (x_recv hE (hM.1) (ci := 4) rfl) ⟨Nat.le_of_ble_eq_true rfl, Nat.le_of_ble_eq_true rfl⟩ rfl rfl rfl hl.1 rfl (Nat.le_of_ble_eq_true rfl) dX7_mix_44 ⟨Nat.zero_le _, Nat.zero_le _⟩) hS (bk_in (k := 114) (by decide)) (fun v0 H locs hX hO1 hS => ?_)
        obtain ⟨hv0, z1, hX⟩ := hX
        subst hv0
        have hO := out_in hO hO1 (k := 114) (by decide)
        have hB := va_at.kept hB (hO1.2 _ (fun y => by obtain ⟨u', v'⟩ := y; omega))
        have hC := hC.fr (fun q z => hO1.2 q (fun y => by obtain ⟨u, v⟩ := z; obtain ⟨u', v'⟩ := y; omega))
        have hAh := hAh.fr (fun q z => hO1.2 q (fun y => by obtain ⟨u, v⟩ := z; obtain ⟨u', v'⟩ := y; omega))
        have hHi := hHi.fr (fun q z => hO1.2 q (fun y => by obtain ⟨u, v⟩ := z; obtain ⟨u', v'⟩ := y; omega))
        have hT := hT.fr (fun q z => hO1.2 q (fun y => by obtain ⟨u, v⟩ := z; obtain ⟨u', v'⟩ := y; omega))
        have hR := hR.fr (hO1.2 _ (fun y => by obtain ⟨u', v'⟩ := y; omega))
        have hSh := va_at.kept hSh (hO1.2 _ (fun y => by obtain ⟨u', v'⟩ := y; omega))
        have hM := hX
        subst hQ
        refine x_retW S hr hlk (rfl) hS hO ?_ dX7_mix_47
        exact ⟨⟨_, _, rfl⟩, ⟨hB, hC, hHi, hT, ⟨_, hAh⟩, ⟨_, _, _, _, hR⟩, ⟨_, hM⟩, _, hSh⟩⟩
      · skip
        have hlt : k < 4 := lt_of_nle (by omega) (by omega) h1
        refine lv_aload_n S.1 S.2.1 dX7_mix_7 rfl (lv_at hl 1 rfl) ?_
        refine x_get S hE (hB) (C := RX7) (T := TX7) (N := 7) rfl inlX7 6 (by decide) (v := .ref (B + 117)) rfl kw2_9 rfl dX7_mix_8 ?_
        refine lv_iload_n S.1 S.2.1 dX7_mix_11 rfl (lv_at hl 0 rfl) ?_
        refine lv_aload_n S.1 S.2.1 dX7_mix_12 rfl (lv_at hl 1 rfl) ?_
        refine x_get S hE (hB) (C := RX7) (T := TX7) (N := 7) rfl inlX7 0 (by decide) (v := .ref (B + 1)) rfl kw1_15 rfl dX7_mix_13 ?_
        refine lv_iload_n S.1 S.2.1 dX7_mix_16 rfl (lv_at hl 0 rfl) ?_
        refine xk_R (v := (chHrP β.1 (nI k))) (x_runVN (As := [.int (nI k)]) (rest := [.int (nI k), .ref (B + 117)]) S hE hS (fun _ h => h.elim) (c_X0_heardOfPart l E (B + 1) β.1 (nI k) _ hC) kv_X0_heardOfPart nw57 kw9_13 kw9_14 (x_recv hE (hC.1) (ci := 0) rfl) ⟨Nat.le_of_ble_eq_true rfl, Nat.le_of_ble_eq_true rfl⟩ rfl rfl rfl hl.1 rfl (Nat.le_of_ble_eq_true rfl) dX7_mix_17 ⟨Nat.zero_le _, Nat.zero_le _⟩) ?_
        refine xk_V (x_runS (As := [.ref (B + 117), .int (nI k), .int (chHrP β.1 (nI k))]) (rest := []) S hE hS (bk_eq (by decide)) (c_X7_put l E (B + 117) 4 (shN β.1 sh k) (nI k) (chHrP β.1 (nI k)) _ hSh (by decide)) kv_X7_put kw12_8 kw12_9 ⟨Nat.le_of_ble_eq_true rfl, Nat.le_of_ble_eq_true rfl⟩ rfl rfl rfl hl.1 rfl (Nat.le_of_ble_eq_true rfl) dX7_mix_20 ⟨Nat.zero_le _, Nat.zero_le _⟩) hS (bk_eq (by decide)) (fun H locs hX hO1 hS => ?_)
        have hO1 := hO1.mono (fun q z => show bk (B + 117) 1 q by (have z : q = B + 117 := z; exact ⟨by omega, by omega⟩))
        have hO := out_in hO hO1 (k := 117) (by decide)
        have hB := va_at.kept hB (hO1.2 _ (fun y => by obtain ⟨u', v'⟩ := y; omega))
        have hC := hC.fr (fun q z => hO1.2 q (fun y => by obtain ⟨u, v⟩ := z; obtain ⟨u', v'⟩ := y; omega))
        have hAh := hAh.fr (fun q z => hO1.2 q (fun y => by obtain ⟨u, v⟩ := z; obtain ⟨u', v'⟩ := y; omega))
        have hHi := hHi.fr (fun q z => hO1.2 q (fun y => by obtain ⟨u, v⟩ := z; obtain ⟨u', v'⟩ := y; omega))
        have hT := hT.fr (fun q z => hO1.2 q (fun y => by obtain ⟨u, v⟩ := z; obtain ⟨u', v'⟩ := y; omega))
        have hR := hR.fr (hO1.2 _ (fun y => by obtain ⟨u', v'⟩ := y; omega))
        have hM := hM.fr (fun q z => hO1.2 q (fun y => by obtain ⟨u, v⟩ := z; obtain ⟨u', v'⟩ := y; omega))
        have hSh : XI E (B + 117) 4 (xput (shN β.1 sh k) 4 (nI k) (chHrP β.1 (nI k))) H := hX
        refine lv_iinc (k := 0) (v := (nI (k + 1))) S.1 S.2.1 dX7_mix_23 hl rfl (iincP k 1) (by decide) rfl (fun ls hl => ?_)
        have hl : lv_has ls 2 [(1, .int (nI (k + 1))), (0, .ref B)] := hl
        refine lv_goto (tgt := 2) S.1 S.2.1 dX7_mix_26 rfl ?_
        exact ih _ (by omega) (k + 1) _ _ ls rfl (by omega) (hB) (hC) (hHi) (hT) (hAh) (hR) (hM) (hSh) (hO) (hS) (lv_sub hl [0, 1] rfl)
  exact hloop2 _ 0 _ _ ls rfl (Nat.zero_le _) (hB) (hC) (hHi) (hT) (hAh) (hR) (hM) (hSh) (hO) (hS) (lv_sub hl [0, 1] rfl)
