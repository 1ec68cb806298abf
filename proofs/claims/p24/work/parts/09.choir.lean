/-! 09.choir: walks, by program -/
abbrev CS : Type := (Nat → Nat → Int32) × (Nat → List Int32) × (Nat → Int32) × (Nat → Int32)
def setT (χ : CS) (T : Nat → Nat → Int32) : CS := (T, χ.2)
def setL (χ : CS) (k : Nat) (L : List Int32) : CS := (χ.1, (fun j => if j = k then L else χ.2.1 j), χ.2.2)
def setG (χ : CS) (f : Nat → Int32) : CS := (χ.1, χ.2.1, f, χ.2.2.2)
def setS (χ : CS) (k : Nat) (v : Int32) : CS := (χ.1, χ.2.1, χ.2.2.1, fun j => if j = k then v else χ.2.2.2 j)
abbrev ChO (E : XE) (b : Nat) (χ : CS) (H : Heap) : Prop := XO E b 0 [.ref (b + 1), .ref (b + 9), .ref (b + 11), .ref (b + 13), .ref (b + 15), .ref (b + 16), .int (χ.2.2.2 1), .int (χ.2.2.2 2), .int (χ.2.2.2 3), .int (χ.2.2.2 4)] H
def ChoP (E : XE) (b : Nat) (χ : CS) (H : Heap) : Prop := ChO E b χ H ∧ NotP E (b + 1) χ.1 (χ.2.2.2 0) H ∧ LinP E (b + 9) 8 (χ.2.1 0) H ∧ LinP E (b + 11) 4 (χ.2.1 1) H ∧ LinP E (b + 13) 6 (χ.2.1 2) H ∧ XI E (b + 15) 3 χ.2.2.1 H ∧ ForP E (b + 16) (χ.2.1 3) H
theorem ChoP.fr {E : XE} {b : Nat} {χ : CS} {H H1 : Heap} (h : ChoP E b χ H) (hq : ∀ q, bk b 18 q → H1[q]? = H[q]?) : ChoP E b χ H1 := by
  obtain ⟨h1, h2, h3, h4, h5, h6, h7⟩ := h
  exact ⟨va_at.kept h1 (hq b ⟨Nat.le_refl _, by omega⟩), h2.fr (fun q z => hq q (by obtain ⟨u, v⟩ := z; exact ⟨by omega, by omega⟩)), h3.fr (fun q z => hq q (by obtain ⟨u, v⟩ := z; exact ⟨by omega, by omega⟩)), h4.fr (fun q z => hq q (by obtain ⟨u, v⟩ := z; exact ⟨by omega, by omega⟩)), h5.fr (fun q z => hq q (by obtain ⟨u, v⟩ := z; exact ⟨by omega, by omega⟩)), va_at.kept h6 (hq (b + 15) ⟨by omega, by omega⟩), h7.fr (fun q z => hq q (by obtain ⟨u, v⟩ := z; exact ⟨by omega, by omega⟩))⟩
theorem ChoP.nt {E : XE} {b : Nat} {χ : CS} {H H1 : Heap} {T : Nat → Nat → Int32} {n : Int32} (h : ChoP E b χ H) (h2 : NotP E (b + 1) T n H1) (hO : Out (bk (b + 1) 8) H H1) : ChoP E b (setS (setT χ T) 0 n) H1 := by
  obtain ⟨h1, -, h3, h4, h5, h6, h7⟩ := h
  have hq : ∀ q, ¬ bk (b + 1) 8 q → H1[q]? = H[q]? := hO.2
  exact ⟨va_at.kept h1 (hq b (fun z => by obtain ⟨u, v⟩ := z; omega)), h2, h3.fr (fun q z => hq q (fun y => by obtain ⟨u, v⟩ := z; obtain ⟨u', v'⟩ := y; omega)), h4.fr (fun q z => hq q (fun y => by obtain ⟨u, v⟩ := z; obtain ⟨u', v'⟩ := y; omega)), h5.fr (fun q z => hq q (fun y => by obtain ⟨u, v⟩ := z; obtain ⟨u', v'⟩ := y; omega)), va_at.kept h6 (hq (b + 15) (fun y => by obtain ⟨u', v'⟩ := y; omega)), h7.fr (fun q z => hq q (fun y => by obtain ⟨u, v⟩ := z; obtain ⟨u', v'⟩ := y; omega))⟩
theorem ChoP.ntT {E : XE} {b : Nat} {χ : CS} {H H1 : Heap} {T : Nat → Nat → Int32} (h : ChoP E b χ H) (h2 : NotP E (b + 1) T (χ.2.2.2 0) H1) (hO : Out (bk (b + 1) 8) H H1) : ChoP E b (setT χ T) H1 := by
  obtain ⟨h1, -, h3, h4, h5, h6, h7⟩ := h
  have hq : ∀ q, ¬ bk (b + 1) 8 q → H1[q]? = H[q]? := hO.2
  exact ⟨va_at.kept h1 (hq b (fun z => by obtain ⟨u, v⟩ := z; omega)), h2, h3.fr (fun q z => hq q (fun y => by obtain ⟨u, v⟩ := z; obtain ⟨u', v'⟩ := y; omega)), h4.fr (fun q z => hq q (fun y => by obtain ⟨u, v⟩ := z; obtain ⟨u', v'⟩ := y; omega)), h5.fr (fun q z => hq q (fun y => by obtain ⟨u, v⟩ := z; obtain ⟨u', v'⟩ := y; omega)), va_at.kept h6 (hq (b + 15) (fun y => by obtain ⟨u', v'⟩ := y; omega)), h7.fr (fun q z => hq q (fun y => by obtain ⟨u, v⟩ := z; obtain ⟨u', v'⟩ := y; omega))⟩
theorem ChoP.l0 {E : XE} {b : Nat} {χ : CS} {H H1 : Heap} {L : List Int32} (h : ChoP E b χ H) (h3 : LinP E (b + 9) 8 L H1) (hO : Out (bk (b + 9) 2) H H1) : ChoP E b (setL χ 0 L) H1 := by
  obtain ⟨h1, h2, -, h4, h5, h6, h7⟩ := h
  have hq : ∀ q, ¬ bk (b + 9) 2 q → H1[q]? = H[q]? := hO.2
  exact ⟨va_at.kept h1 (hq b (fun z => by obtain ⟨u, v⟩ := z; omega)), h2.fr (fun q z => hq q (fun y => by obtain ⟨u, v⟩ := z; obtain ⟨u', v'⟩ := y; omega)), h3, h4.fr (fun q z => hq q (fun y => by obtain ⟨u, v⟩ := z; obtain ⟨u', v'⟩ := y; omega)), h5.fr (fun q z => hq q (fun y => by obtain ⟨u, v⟩ := z; obtain ⟨u', v'⟩ := y; omega)), va_at.kept h6 (hq (b + 15) (fun y => by obtain ⟨u', v'⟩ := y; omega)), h7.fr (fun q z => hq q (fun y => by obtain ⟨u, v⟩ := z; obtain ⟨u', v'⟩ := y; omega))⟩
theorem ChoP.l1 {E : XE} {b : Nat} {χ : CS} {H H1 : Heap} {L : List Int32} (h : ChoP E b χ H) (h4 : LinP E (b + 11) 4 L H1) (hO : Out (bk (b + 11) 2) H H1) : ChoP E b (setL χ 1 L) H1 := by
  obtain ⟨h1, h2, h3, -, h5, h6, h7⟩ := h
  have hq : ∀ q, ¬ bk (b + 11) 2 q → H1[q]? = H[q]? := hO.2
  exact ⟨va_at.kept h1 (hq b (fun z => by obtain ⟨u, v⟩ := z; omega)), h2.fr (fun q z => hq q (fun y => by obtain ⟨u, v⟩ := z; obtain ⟨u', v'⟩ := y; omega)), h3.fr (fun q z => hq q (fun y => by obtain ⟨u, v⟩ := z; obtain ⟨u', v'⟩ := y; omega)), h4, h5.fr (fun q z => hq q (fun y => by obtain ⟨u, v⟩ := z; obtain ⟨u', v'⟩ := y; omega)), va_at.kept h6 (hq (b + 15) (fun y => by obtain ⟨u', v'⟩ := y; omega)), h7.fr (fun q z => hq q (fun y => by obtain ⟨u, v⟩ := z; obtain ⟨u', v'⟩ := y; omega))⟩
theorem ChoP.l2 {E : XE} {b : Nat} {χ : CS} {H H1 : Heap} {L : List Int32} (h : ChoP E b χ H) (h5 : LinP E (b + 13) 6 L H1) (hO : Out (bk (b + 13) 2) H H1) : ChoP E b (setL χ 2 L) H1 := by
  obtain ⟨h1, h2, h3, h4, -, h6, h7⟩ := h
  have hq : ∀ q, ¬ bk (b + 13) 2 q → H1[q]? = H[q]? := hO.2
  exact ⟨va_at.kept h1 (hq b (fun z => by obtain ⟨u, v⟩ := z; omega)), h2.fr (fun q z => hq q (fun y => by obtain ⟨u, v⟩ := z; obtain ⟨u', v'⟩ := y; omega)), h3.fr (fun q z => hq q (fun y => by obtain ⟨u, v⟩ := z; obtain ⟨u', v'⟩ := y; omega)), h4.fr (fun q z => hq q (fun y => by obtain ⟨u, v⟩ := z; obtain ⟨u', v'⟩ := y; omega)), h5, va_at.kept h6 (hq (b + 15) (fun y => by obtain ⟨u', v'⟩ := y; omega)), h7.fr (fun q z => hq q (fun y => by obtain ⟨u, v⟩ := z; obtain ⟨u', v'⟩ := y; omega))⟩
theorem ChoP.st {E : XE} {b : Nat} {χ : CS} {H H1 : Heap} {f : Nat → Int32} (h : ChoP E b χ H) (h6 : XI E (b + 15) 3 f H1) (hO : Out (fun q => q = b + 15) H H1) : ChoP E b (setG χ f) H1 := by
  obtain ⟨h1, h2, h3, h4, h5, -, h7⟩ := h
  have hq : ∀ q, ¬ q = b + 15 → H1[q]? = H[q]? := hO.2
  exact ⟨va_at.kept h1 (hq b (fun z => by omega)), h2.fr (fun q z => hq q (fun y => by obtain ⟨u, v⟩ := z; omega)), h3.fr (fun q z => hq q (fun y => by obtain ⟨u, v⟩ := z; omega)), h4.fr (fun q z => hq q (fun y => by obtain ⟨u, v⟩ := z; omega)), h5.fr (fun q z => hq q (fun y => by obtain ⟨u, v⟩ := z; omega)), h6, h7.fr (fun q z => hq q (fun y => by obtain ⟨u, v⟩ := z; omega))⟩
theorem ChoP.fo {E : XE} {b : Nat} {χ : CS} {H H1 : Heap} {L : List Int32} (h : ChoP E b χ H) (h7 : ForP E (b + 16) L H1) (hO : Out (bk (b + 16) 2) H H1) : ChoP E b (setL χ 3 L) H1 := by
  obtain ⟨h1, h2, h3, h4, h5, h6, -⟩ := h
  have hq : ∀ q, ¬ bk (b + 16) 2 q → H1[q]? = H[q]? := hO.2
  exact ⟨va_at.kept h1 (hq b (fun z => by obtain ⟨u, v⟩ := z; omega)), h2.fr (fun q z => hq q (fun y => by obtain ⟨u, v⟩ := z; obtain ⟨u', v'⟩ := y; omega)), h3.fr (fun q z => hq q (fun y => by obtain ⟨u, v⟩ := z; obtain ⟨u', v'⟩ := y; omega)), h4.fr (fun q z => hq q (fun y => by obtain ⟨u, v⟩ := z; obtain ⟨u', v'⟩ := y; omega)), h5.fr (fun q z => hq q (fun y => by obtain ⟨u, v⟩ := z; obtain ⟨u', v'⟩ := y; omega)), va_at.kept h6 (hq (b + 15) (fun y => by obtain ⟨u', v'⟩ := y; omega)), h7⟩
theorem ChoP.ob {E : XE} {b : Nat} {χ : CS} {H H1 : Heap} {k : Nat} {v : Int32} (hk : 0 < k) (h : ChoP E b χ H) (h1 : ChO E b (setS χ k v) H1) (hO : Out (fun q => q = b) H H1) : ChoP E b (setS χ k v) H1 := by
  obtain ⟨-, h2, h3, h4, h5, h6, h7⟩ := h
  have hq : ∀ q, ¬ q = b → H1[q]? = H[q]? := hO.2
  have h2' : NotP E (b + 1) (setS χ k v).1 ((setS χ k v).2.2.2 0) H1 := by
    rw [show (setS χ k v).2.2.2 0 = χ.2.2.2 0 from if_neg (by omega)]
    exact h2.fr (fun q z => hq q (fun y => by obtain ⟨u, v⟩ := z; omega))
  exact ⟨h1, h2', h3.fr (fun q z => hq q (fun y => by obtain ⟨u, v⟩ := z; omega)), h4.fr (fun q z => hq q (fun y => by obtain ⟨u, v⟩ := z; omega)), h5.fr (fun q z => hq q (fun y => by obtain ⟨u, v⟩ := z; omega)), va_at.kept h6 (hq (b + 15) (fun y => by omega)), h7.fr (fun q z => hq q (fun y => by obtain ⟨u, v⟩ := z; omega))⟩
def frFst (T : Nat → Nat → Int32) (p q : Int32) : List Int32 → Int32
  | [] => (-1)
  | x :: l => if ntIs T x p q then x else frFst T p q l
theorem frFst_s {T : Nat → Nat → Int32} {p q : Int32} {L : List Int32} {i : Nat} (h : i < L.length) : frFst T p q (L.drop i) = if ntIs T (L.getD i 0) p q then L.getD i 0 else frFst T p q (L.drop (i + 1)) := by
  rw [drop_cons h, frFst]
theorem fold_s {α : Type} {f : α → Int32 → α} {a : α} {L : List Int32} {i : Nat} (h : i < L.length) : (L.take (i + 1)).foldl f a = f ((L.take i).foldl f a) (L.getD i 0) := by
  rw [take_s h, List.foldl_append]; rfl
def chVoice (χ : CS) (p q : Int32) : Int32 := frFst χ.1 p q (χ.2.1 0)
def chWait (χ : CS) (p q : Int32) : Int32 := frFst χ.1 p q (χ.2.1 2)
def chSinger (χ : CS) (p q : Int32) : Int32 := if chVoice χ p q = (-1) then (-1) else if ntG χ.1 3 (chVoice χ p q) = nI 4 then (-1) else if ntG χ.1 6 (chVoice χ p q) = nI 1 then (-1) else chVoice χ p q
def chFree (χ : CS) : Int32 := xmax (nI 0) (xat χ.2.2.1 3 (nI 0) - nI (χ.2.1 0).length)
def goStep (T : Nat → Nat → Int32) (rule o found x : Int32) : Int32 := if ¬ o = 0 ∧ ¬ ntG T 3 x = nI 4 then found else if found = (-1) ∨ (rule = 0 ∧ ntG T 4 x < ntG T 4 found) then x else found
theorem goS {T : Nat → Nat → Int32} {z o F Y : Int32} (h1 : ¬ o = 0) (h2 : ¬ ntG T 3 Y = nI 4) : goStep T z o F Y = F := if_pos ⟨h1, h2⟩
theorem goY {T : Nat → Nat → Int32} {z o F Y : Int32} (h1 : o = 0 ∨ ntG T 3 Y = nI 4) (h2 : F = (-1) ∨ (z = 0 ∧ ntG T 4 Y < ntG T 4 F)) : goStep T z o F Y = Y := by
  rw [goStep, if_neg (fun q => h1.elim q.1 q.2), if_pos h2]
theorem goF {T : Nat → Nat → Int32} {z o F Y : Int32} (h1 : o = 0 ∨ ntG T 3 Y = nI 4) (h2 : ¬ F = (-1)) (h3 : ¬ (z = 0 ∧ ntG T 4 Y < ntG T 4 F)) : goStep T z o F Y = F := by
  rw [goStep, if_neg (fun q => h1.elim q.1 q.2), if_neg (fun q => q.elim h2 h3)]
def chGo (χ : CS) (rule o : Int32) : Int32 := (χ.2.1 0).foldl (goStep χ.1 rule o) (-1)
def chHome (χ : CS) : Int32 := if ¬ xat χ.2.2.1 3 (nI 1) = 0 ∧ ¬ xat χ.2.2.1 3 (nI 1) = nI 1 then (-1) else if chGo χ (xat χ.2.2.1 3 (nI 1)) (nI 1) = (-1) then chGo χ (xat χ.2.2.1 3 (nI 1)) (nI 0) else chGo χ (xat χ.2.2.1 3 (nI 1)) (nI 1)
abbrev chMust (χ : CS) : Prop := chFree χ = 0 ∧ (nI 4 ≤ nI (χ.2.1 1).length ∨ chHome χ = (-1))
abbrev chTakes (χ : CS) : Prop := χ.2.2.2 0 < nI 200 ∧ (¬ chMust χ ∨ nI (χ.2.1 2).length < nI 6)
def lvStep (T : Nat → Nat → Int32) (p acc x : Int32) : Int32 := acc + (if ntG T 0 x = p then ntG T 4 x else nI 0)
def lvOf (T : Nat → Nat → Int32) (p : Int32) (L : List Int32) : Int32 := L.foldl (lvStep T p) (nI 0)
def hmStep (T : Nat → Nat → Int32) (p acc x : Int32) : Int32 := acc + (if ntG T 0 x = p then nI 1 else nI 0)
def hmOf (T : Nat → Nat → Int32) (p : Int32) (L : List Int32) : Int32 := L.foldl (hmStep T p) (nI 0)
def chSumN (χ : CS) : Nat → Int32
  | 0 => nI 0
  | k + 1 => chSumN χ k + (lvOf χ.1 (nI k) (χ.2.1 0) + lvOf χ.1 (nI k) (χ.2.1 1))
def chSum (χ : CS) : Int32 := chSumN χ 4
def chHrd (χ : CS) (x s : Int32) : Int32 := if s ≤ xat χ.2.2.1 3 (nI 2) then ntG χ.1 4 x else if 0 < s then ntG χ.1 4 x * xat χ.2.2.1 3 (nI 2) / s else ntG χ.1 4 x
def hrStep (χ : CS) (p s acc x : Int32) : Int32 := acc + (if ntG χ.1 0 x = p then chHrd χ x s else nI 0)
def chHrL (χ : CS) (p s : Int32) (L : List Int32) : Int32 := L.foldl (hrStep χ p s) (nI 0)
def chHrP (χ : CS) (p : Int32) : Int32 := chHrL χ p (chSum χ) (χ.2.1 0) + chHrL χ p (chSum χ) (χ.2.1 1)
def chHrAN (χ : CS) : Nat → Int32
  | 0 => nI 0
  | k + 1 => chHrAN χ k + chHrP χ (nI k)
def chHrA (χ : CS) : Int32 := chHrAN χ 4
abbrev rm_X0_firstOf : Room := ({ frames := 2, cells := 0, slots := 0, locals := 44 } : Room)
set_option maxRecDepth 100000 in
set_option maxHeartbeats 600000 in
theorem c_X0_firstOf (l : Launch) (E : XE) (b a N : Nat) (χ : CS) (L : List Int32) (p0 : Int32) (q0 : Int32) (H : Heap) (hC : ChoP E b χ H) (hL : LinP E a N L H) (hN : N < 2 ^ 31) : Rd l E yX0_firstOf cX0_firstOf 6 (some .int) rm_X0_firstOf [.ref b, .ref a, .int p0, .int q0] H (frFst χ.1 p0 q0 L) := by
  refine met_of (by decide) (Nat.le_of_ble_eq_true rfl) (fun p e s m args below meth c hBD Q hQ ls hl => ?_)
  obtain ⟨S, hr, hlk, hnm, hE, hH⟩ := hBD
  subst hH
  have hl : lv_has ls 6 [(0, .ref b), (1, .ref a), (2, .int p0), (3, .int q0)] := hl
  have hS : va_S (fun _ => False) s.heap s.heap [] := va_S.rf
  have hLe := hL.2.1
  refine lv_iconst (v := (nI 0)) S.1 S.2.1 dX0_firstOf_0 (by decide) ?_
  refine lv_istore S.1 S.2.1 dX0_firstOf_1 hl (by decide) rfl (fun ls hl => ?_)
  have hl : lv_has ls 6 [(4, .int (nI 0)), (0, .ref b), (1, .ref a), (2, .int p0), (3, .int q0)] := hl
  have hloop3 : ∀ (d : Nat) (i : Nat) (ls : Array Slot), L.length - i = d → i ≤ L.length → frFst χ.1 p0 q0 L = frFst χ.1 p0 q0 (L.drop i) → lv_has ls 6 [(4, .int (nI i)), (0, .ref b), (1, .ref a), (2, .int p0), (3, .int q0)] → W p l e rm_X0_firstOf s m args below meth c s.heap [] 0 0 Q (F0 m 3 ls []) := by
    intro d
    induction d using Nat.strongRecOn with
    | ind d ih =>
      intro i ls hd hi hv  hl
      refine lv_iload S.1 S.2.1 dX0_firstOf_3 (lv_at hl 0 rfl) ?_
      refine lv_aload_n S.1 S.2.1 dX0_firstOf_5 rfl (lv_at hl 2 rfl) ?_
      refine x_getN S hE (hL.1) (C := RX3) (T := TX3) (N := 2) rfl inlX3 1 (by decide) (v := .int (nI L.length)) rfl nw14 rfl dX0_firstOf_6 ?_
      refine lv_icmp_ge (tgt := 43) S.1 S.2.1 dX0_firstOf_9 rfl (fun h1 => ?_) (fun h1 => ?_)
      · skip
        refine lv_iconst (v := (-1)) S.1 S.2.1 dX0_firstOf_43 (by decide) ?_
        subst hQ
        exact x_retR S hr hlk (rfl) (by rw [hv, List.drop_eq_nil_of_le (ge_of_le (by omega) (by omega) h1)]; rfl) dX0_firstOf_44
      · skip
        have hlt := lt_of_nle (by omega) (by omega) h1
        refine lv_aload_n S.1 S.2.1 dX0_firstOf_12 rfl (lv_at hl 2 rfl) ?_
        refine lv_iload S.1 S.2.1 dX0_firstOf_13 (lv_at hl 0 rfl) ?_
        refine xk_R (v := (lnAt L (nI i))) (x_runVN (As := [.int (nI i)]) (rest := []) S hE hS (fun _ h => h.elim) (c_X3_noteAt l E a N L (nI i) _ hL hN) kv_X3_noteAt nw47 kw8_14 kw8_15 (x_recv hE (hL.1) (ci := 3) rfl) ⟨Nat.le_of_ble_eq_true rfl, Nat.le_of_ble_eq_true rfl⟩ rfl rfl rfl hl.1 rfl (Nat.le_of_ble_eq_true rfl) dX0_firstOf_15 ⟨Nat.zero_le _, Nat.zero_le _⟩) ?_
        refine x_top (y := (L.getD i 0)) (lnAt_nI hlt (by omega)) ?_
        refine lv_istore S.1 S.2.1 dX0_firstOf_18 hl (by decide) rfl (fun ls hl => ?_)
        have hl : lv_has ls 6 [(5, .int (L.getD i 0)), (4, .int (nI i)), (0, .ref b), (1, .ref a), (2, .int p0), (3, .int q0)] := hl
        refine lv_aload_n S.1 S.2.1 dX0_firstOf_20 rfl (lv_at hl 2 rfl) ?_
        refine x_get S hE (hC.1) (C := RX0) (T := TX0) (N := 10) rfl inlX0 0 (by decide) (v := .ref (b + 1)) rfl kw2_16 rfl dX0_firstOf_21 ?_
        refine lv_iload S.1 S.2.1 dX0_firstOf_24 (lv_at hl 0 rfl) ?_
        refine lv_iload_n S.1 S.2.1 dX0_firstOf_26 rfl (lv_at hl 4 rfl) ?_
        refine lv_iload_n S.1 S.2.1 dX0_firstOf_27 rfl (lv_at hl 5 rfl) ?_
        refine xk_R (v := (bI (ntIs χ.1 (L.getD i 0) p0 q0))) (x_runVN (As := [.int (L.getD i 0), .int p0, .int q0]) (rest := []) S hE hS (fun _ h => h.elim) (c_X5_is l E (b + 1) χ.1 (χ.2.2.2 0) (L.getD i 0) p0 q0 _ hC.2.1) kv_X5_is nw54 kw10_19 kw10_20 (x_recv hE (hC.2.1.1) (ci := 5) rfl) ⟨Nat.le_of_ble_eq_true rfl, Nat.le_of_ble_eq_true rfl⟩ rfl rfl rfl hl.1 rfl (Nat.le_of_ble_eq_true rfl) dX0_firstOf_28 ⟨Nat.zero_le _, Nat.zero_le _⟩) ?_
        refine lv_if_eq (tgt := 37) S.1 S.2.1 dX0_firstOf_31 rfl (fun h2 => ?_) (fun h2 => ?_)
        · skip
          have h2 := bI_0 h2
          refine lv_iinc (k := 1) (v := (nI (i + 1))) S.1 S.2.1 dX0_firstOf_37 hl rfl (iincP i 1) (by decide) rfl (fun ls hl => ?_)
          have hl : lv_has ls 6 [(4, .int (nI (i + 1))), (5, .int (L.getD i 0)), (0, .ref b), (1, .ref a), (2, .int p0), (3, .int q0)] := hl
          refine lv_goto (tgt := 3) S.1 S.2.1 dX0_firstOf_40 rfl ?_
          exact ih _ (by omega) (i + 1) ls rfl (by omega) (by rw [hv, frFst_s hlt, if_neg h2])  (lv_sub hl [0, 2, 3, 4, 5] rfl)
        · skip
          have h2 := bI_n0 h2
          refine lv_iload S.1 S.2.1 dX0_firstOf_34 (lv_at hl 0 rfl) ?_
          subst hQ
          exact x_retR S hr hlk (rfl) (by rw [hv, frFst_s hlt, if_pos h2]) dX0_firstOf_36
  exact hloop3 _ 0 ls rfl (Nat.zero_le _) (rfl)  (lv_sub hl [0, 1, 2, 3, 4] rfl)
abbrev rm_X0_voiceOf : Room := ({ frames := 3, cells := 0, slots := 0, locals := 69 } : Room)
set_option maxRecDepth 100000 in
set_option maxHeartbeats 600000 in
theorem c_X0_voiceOf (l : Launch) (E : XE) (b : Nat) (χ : CS) (p0 : Int32) (q0 : Int32) (H : Heap) (hC : ChoP E b χ H) : Rd l E yX0_voiceOf cX0_voiceOf 3 (some .int) rm_X0_voiceOf [.ref b, .int p0, .int q0] H (chVoice χ p0 q0) := by
  refine met_of (by decide) (Nat.le_of_ble_eq_true rfl) (fun p e s m args below meth c hBD Q hQ ls hl => ?_)
  obtain ⟨S, hr, hlk, hnm, hE, hH⟩ := hBD
  subst hH
  have hl : lv_has ls 3 [(0, .ref b), (1, .int p0), (2, .int q0)] := hl
  have hS : va_S (fun _ => False) s.heap s.heap [] := va_S.rf
  refine lv_aload_n S.1 S.2.1 dX0_voiceOf_0 rfl (lv_at hl 0 rfl) ?_
  refine lv_aload_n S.1 S.2.1 dX0_voiceOf_1 rfl (lv_at hl 0 rfl) ?_
  refine x_get S hE (hC.1) (C := RX0) (T := TX0) (N := 10) rfl inlX0 1 (by decide) (v := .ref (b + 9)) rfl kw2_20 rfl dX0_voiceOf_2 ?_
  refine lv_iload_n S.1 S.2.1 dX0_voiceOf_5 rfl (lv_at hl 1 rfl) ?_
  refine lv_iload_n S.1 S.2.1 dX0_voiceOf_6 rfl (lv_at hl 2 rfl) ?_
  refine xk_R (v := (frFst χ.1 p0 q0 (χ.2.1 0))) (x_runV (As := [.ref (b + 9), .int p0, .int q0]) (rest := []) S hE hS (fun _ h => h.elim) (c_X0_firstOf l E b (b + 9) 8 χ (χ.2.1 0) p0 q0 _ hC hC.2.2.1 (by decide)) kv_X0_firstOf kw10_15 kw10_16 kw10_17 (x_recv hE (hC.1) (ci := 0) rfl) ⟨Nat.le_of_ble_eq_true rfl, Nat.le_of_ble_eq_true rfl⟩ rfl rfl rfl hl.1 rfl (Nat.le_of_ble_eq_true rfl) dX0_voiceOf_7 ⟨Nat.zero_le _, Nat.zero_le _⟩) ?_
  subst hQ
  exact x_retR S hr hlk (rfl) (rfl) dX0_voiceOf_10
abbrev rm_X0_waiterOf : Room := ({ frames := 3, cells := 0, slots := 0, locals := 69 } : Room)
set_option maxRecDepth 100000 in
set_option maxHeartbeats 600000 in
theorem c_X0_waiterOf (l : Launch) (E : XE) (b : Nat) (χ : CS) (p0 : Int32) (q0 : Int32) (H : Heap) (hC : ChoP E b χ H) : Rd l E yX0_waiterOf cX0_waiterOf 3 (some .int) rm_X0_waiterOf [.ref b, .int p0, .int q0] H (chWait χ p0 q0) := by
  refine met_of (by decide) (Nat.le_of_ble_eq_true rfl) (fun p e s m args below meth c hBD Q hQ ls hl => ?_)
  obtain ⟨S, hr, hlk, hnm, hE, hH⟩ := hBD
  subst hH
  have hl : lv_has ls 3 [(0, .ref b), (1, .int p0), (2, .int q0)] := hl
  have hS : va_S (fun _ => False) s.heap s.heap [] := va_S.rf
  refine lv_aload_n S.1 S.2.1 dX0_waiterOf_0 rfl (lv_at hl 0 rfl) ?_
  refine lv_aload_n S.1 S.2.1 dX0_waiterOf_1 rfl (lv_at hl 0 rfl) ?_
  refine x_get S hE (hC.1) (C := RX0) (T := TX0) (N := 10) rfl inlX0 3 (by decide) (v := .ref (b + 13)) rfl kw2_22 rfl dX0_waiterOf_2 ?_
  refine lv_iload_n S.1 S.2.1 dX0_waiterOf_5 rfl (lv_at hl 1 rfl) ?_
  refine lv_iload_n S.1 S.2.1 dX0_waiterOf_6 rfl (lv_at hl 2 rfl) ?_
  refine xk_R (v := (frFst χ.1 p0 q0 (χ.2.1 2))) (x_runV (As := [.ref (b + 13), .int p0, .int q0]) (rest := []) S hE hS (fun _ h => h.elim) (c_X0_firstOf l E b (b + 13) 6 χ (χ.2.1 2) p0 q0 _ hC hC.2.2.2.2.1 (by decide)) kv_X0_firstOf kw10_15 kw10_16 kw10_17 (x_recv hE (hC.1) (ci := 0) rfl) ⟨Nat.le_of_ble_eq_true rfl, Nat.le_of_ble_eq_true rfl⟩ rfl rfl rfl hl.1 rfl (Nat.le_of_ble_eq_true rfl) dX0_waiterOf_7 ⟨Nat.zero_le _, Nat.zero_le _⟩) ?_
  subst hQ
  exact x_retR S hr hlk (rfl) (rfl) dX0_waiterOf_10
abbrev rm_X0_singerToLetGo : Room := ({ frames := 4, cells := 0, slots := 0, locals := 91 } : Room)
set_option maxRecDepth 100000 in
set_option maxHeartbeats 600000 in
theorem c_X0_singerToLetGo (l : Launch) (E : XE) (b : Nat) (χ : CS) (p0 : Int32) (q0 : Int32) (H : Heap) (hC : ChoP E b χ H) : Rd l E yX0_singerToLetGo cX0_singerToLetGo 4 (some .int) rm_X0_singerToLetGo [.ref b, .int p0, .int q0] H (chSinger χ p0 q0) := by
  refine met_of (by decide) (Nat.le_of_ble_eq_true rfl) (fun p e s m args below meth c hBD Q hQ ls hl => ?_)
  obtain ⟨S, hr, hlk, hnm, hE, hH⟩ := hBD
  subst hH
  have hl : lv_has ls 4 [(0, .ref b), (1, .int p0), (2, .int q0)] := hl
  have hS : va_S (fun _ => False) s.heap s.heap [] := va_S.rf
  refine lv_aload_n S.1 S.2.1 dX0_singerToLetGo_0 rfl (lv_at hl 0 rfl) ?_
  refine lv_iload_n S.1 S.2.1 dX0_singerToLetGo_1 rfl (lv_at hl 1 rfl) ?_
  refine lv_iload_n S.1 S.2.1 dX0_singerToLetGo_2 rfl (lv_at hl 2 rfl) ?_
  refine xk_R (v := (chVoice χ p0 q0)) (x_runV (As := [.int p0, .int q0]) (rest := []) S hE hS (fun _ h => h.elim) (c_X0_voiceOf l E b χ p0 q0 _ hC) kv_X0_voiceOf kw20_10 kw10_12 kw10_13 (x_recv hE (hC.1) (ci := 0) rfl) ⟨Nat.le_of_ble_eq_true rfl, Nat.le_of_ble_eq_true rfl⟩ rfl rfl rfl hl.1 rfl (Nat.le_of_ble_eq_true rfl) dX0_singerToLetGo_3 ⟨Nat.zero_le _, Nat.zero_le _⟩) ?_
  refine lv_istore_n S.1 S.2.1 dX0_singerToLetGo_6 rfl hl (by decide) rfl (fun ls hl => ?_)
  have hl : lv_has ls 4 [(3, .int (chVoice χ p0 q0)), (0, .ref b), (1, .int p0), (2, .int q0)] := hl
  refine lv_iload_n S.1 S.2.1 dX0_singerToLetGo_7 rfl (lv_at hl 0 rfl) ?_
  refine lv_iconst (v := (-1)) S.1 S.2.1 dX0_singerToLetGo_8 (by decide) ?_
  refine lv_icmp_eq (tgt := 42) S.1 S.2.1 dX0_singerToLetGo_9 rfl (fun h1 => ?_) (fun h1 => ?_)
  · skip
    refine lv_iconst (v := (-1)) S.1 S.2.1 dX0_singerToLetGo_42 (by decide) ?_
    subst hQ
    exact x_retR S hr hlk (rfl) (by rw [chSinger]; first | rw [if_pos h1] | rw [if_neg h1, if_pos h2] | rw [if_neg h1, if_neg h2, if_pos h3] | rw [if_neg h1, if_neg h2, if_neg h3]) dX0_singerToLetGo_43
  · skip
    refine lv_aload_n S.1 S.2.1 dX0_singerToLetGo_12 rfl (lv_at hl 1 rfl) ?_
    refine x_get S hE (hC.1) (C := RX0) (T := TX0) (N := 10) rfl inlX0 0 (by decide) (v := .ref (b + 1)) rfl kw2_16 rfl dX0_singerToLetGo_13 ?_
    refine x_getN S hE (hC.2.1.1) (C := RX5) (T := TX5) (N := 8) rfl inlX5 3 (by decide) (v := .ref (b + 1 + 4)) rfl nw6 rfl dX0_singerToLetGo_16 ?_
    refine lv_iload_n S.1 S.2.1 dX0_singerToLetGo_19 rfl (lv_at hl 0 rfl) ?_
    refine xk_R (v := (ntG χ.1 3 (chVoice χ p0 q0))) (x_runSN (As := [.ref (b + 1 + 4), .int (chVoice χ p0 q0)]) (rest := []) S hE hS (fun _ h => h.elim) (c_X7_at l E (b + 1 + (3 + 1)) 200 (χ.1 3) (chVoice χ p0 q0) _ (xr_i (hC.2.1.2 3 (by decide))) (by decide)) kv_X7_at nw49 kw8_2 ⟨Nat.le_of_ble_eq_true rfl, Nat.le_of_ble_eq_true rfl⟩ rfl rfl rfl hl.1 rfl (Nat.le_of_ble_eq_true rfl) dX0_singerToLetGo_20 ⟨Nat.zero_le _, Nat.zero_le _⟩) ?_
    refine lv_iconst (v := (nI 4)) S.1 S.2.1 dX0_singerToLetGo_23 (by decide) ?_
    refine lv_icmp_eq (tgt := 42) S.1 S.2.1 dX0_singerToLetGo_24 rfl (fun h2 => ?_) (fun h2 => ?_)
    · skip
      refine lv_iconst (v := (-1)) S.1 S.2.1 dX0_singerToLetGo_42 (by decide) ?_
      subst hQ
      exact x_retR S hr hlk (rfl) (by rw [chSinger]; first | rw [if_pos h1] | rw [if_neg h1, if_pos h2] | rw [if_neg h1, if_neg h2, if_pos h3] | rw [if_neg h1, if_neg h2, if_neg h3]) dX0_singerToLetGo_43
    · skip
      refine lv_aload_n S.1 S.2.1 dX0_singerToLetGo_27 rfl (lv_at hl 1 rfl) ?_
      refine x_get S hE (hC.1) (C := RX0) (T := TX0) (N := 10) rfl inlX0 0 (by decide) (v := .ref (b + 1)) rfl kw2_16 rfl dX0_singerToLetGo_28 ?_
      refine x_getN S hE (hC.2.1.1) (C := RX5) (T := TX5) (N := 8) rfl inlX5 6 (by decide) (v := .ref (b + 1 + 7)) rfl nw10 rfl dX0_singerToLetGo_31 ?_
      refine lv_iload_n S.1 S.2.1 dX0_singerToLetGo_34 rfl (lv_at hl 0 rfl) ?_
      refine xk_R (v := (ntG χ.1 6 (chVoice χ p0 q0))) (x_runSN (As := [.ref (b + 1 + 7), .int (chVoice χ p0 q0)]) (rest := []) S hE hS (fun _ h => h.elim) (c_X7_at l E (b + 1 + (6 + 1)) 200 (χ.1 6) (chVoice χ p0 q0) _ (xr_i (hC.2.1.2 6 (by decide))) (by decide)) kv_X7_at nw49 kw8_2 ⟨Nat.le_of_ble_eq_true rfl, Nat.le_of_ble_eq_true rfl⟩ rfl rfl rfl hl.1 rfl (Nat.le_of_ble_eq_true rfl) dX0_singerToLetGo_35 ⟨Nat.zero_le _, Nat.zero_le _⟩) ?_
      refine lv_iconst (v := (nI 1)) S.1 S.2.1 dX0_singerToLetGo_38 (by decide) ?_
      refine lv_icmp_ne (tgt := 44) S.1 S.2.1 dX0_singerToLetGo_39 rfl (fun h3 => ?_) (fun h3 => ?_)
      · skip
        refine lv_iload_n S.1 S.2.1 dX0_singerToLetGo_44 rfl (lv_at hl 0 rfl) ?_
        subst hQ
        exact x_retR S hr hlk (rfl) (by rw [chSinger]; first | rw [if_pos h1] | rw [if_neg h1, if_pos h2] | rw [if_neg h1, if_neg h2, if_pos h3] | rw [if_neg h1, if_neg h2, if_neg h3]) dX0_singerToLetGo_45
      · skip
        refine lv_iconst (v := (-1)) S.1 S.2.1 dX0_singerToLetGo_42 (by decide) ?_
        subst hQ
        exact x_retR S hr hlk (rfl) (by rw [chSinger]; first | rw [if_pos h1] | rw [if_neg h1, if_pos h2] | rw [if_neg h1, if_neg h2, if_pos h3] | rw [if_neg h1, if_neg h2, if_neg h3]) dX0_singerToLetGo_43
abbrev rm_X0_freePlaces : Room := ({ frames := 1, cells := 0, slots := 0, locals := 21 } : Room)
set_option maxRecDepth 100000 in
set_option maxHeartbeats 600000 in
theorem c_X0_freePlaces (l : Launch) (E : XE) (b : Nat) (χ : CS) (H : Heap) (hC : ChoP E b χ H) : Rd l E yX0_freePlaces cX0_freePlaces 1 (some .int) rm_X0_freePlaces [.ref b] H (chFree χ) := by
  refine met_of (by decide) (Nat.le_of_ble_eq_true rfl) (fun p e s m args below meth c hBD Q hQ ls hl => ?_)
  obtain ⟨S, hr, hlk, hnm, hE, hH⟩ := hBD
  subst hH
  have hl : lv_has ls 1 [(0, .ref b)] := hl
  have hS : va_S (fun _ => False) s.heap s.heap [] := va_S.rf
  refine lv_iconst (v := (nI 0)) S.1 S.2.1 dX0_freePlaces_0 (by decide) ?_
  refine lv_aload_n S.1 S.2.1 dX0_freePlaces_1 rfl (lv_at hl 0 rfl) ?_
  refine x_get S hE (hC.1) (C := RX0) (T := TX0) (N := 10) rfl inlX0 4 (by decide) (v := .ref (b + 15)) rfl kw2_23 rfl dX0_freePlaces_2 ?_
  refine lv_iconst (v := (nI 0)) S.1 S.2.1 dX0_freePlaces_5 (by decide) ?_
  refine xk_R (v := (xat χ.2.2.1 3 (nI 0))) (x_runSN (As := [.ref (b + 15), .int (nI 0)]) (rest := [.int (nI 0)]) S hE hS (fun _ h => h.elim) (c_X7_at l E (b + 15) 3 χ.2.2.1 (nI 0) _ (xr_i hC.2.2.2.2.2.1) (by decide)) kv_X7_at nw49 kw8_2 ⟨Nat.le_of_ble_eq_true rfl, Nat.le_of_ble_eq_true rfl⟩ rfl rfl rfl hl.1 rfl (Nat.le_of_ble_eq_true rfl) dX0_freePlaces_6 ⟨Nat.zero_le _, Nat.zero_le _⟩) ?_
  refine lv_aload_n S.1 S.2.1 dX0_freePlaces_9 rfl (lv_at hl 0 rfl) ?_
  refine x_get S hE (hC.1) (C := RX0) (T := TX0) (N := 10) rfl inlX0 1 (by decide) (v := .ref (b + 9)) rfl kw2_20 rfl dX0_freePlaces_10 ?_
  refine x_getN S hE (hC.2.2.1.1) (C := RX3) (T := TX3) (N := 2) rfl inlX3 1 (by decide) (v := .int (nI (χ.2.1 0).length)) rfl nw14 rfl dX0_freePlaces_13 ?_
  refine lv_isub S.1 S.2.1 dX0_freePlaces_16 ?_
  refine va_mmax S.1 S.2.1 (S.2.2.1.trans hl.1.symm) S.2.2.2.1 (S.2.2.2.2 _ kw11_23) (S.2.2.2.2 _ kw3_16) (S.2.2.2.2 _ kw3_17) (S.2.2.2.2 _ kw3_18) (Nat.le_of_ble_eq_true rfl) (Nat.le_of_ble_eq_true rfl) (Nat.zero_le _) (Nat.zero_le _) dX0_freePlaces_17 ?_
  refine x_top (y := (xmax (nI 0) ((xat χ.2.2.1 3 (nI 0)) - (nI (χ.2.1 0).length)))) rfl ?_
  subst hQ
  exact x_retR S hr hlk (rfl) (rfl) dX0_freePlaces_20
abbrev rm_X0_firstToGo : Room := ({ frames := 2, cells := 0, slots := 0, locals := 42 } : Room)
set_option maxRecDepth 100000 in
set_option maxHeartbeats 600000 in
theorem c_X0_firstToGo (l : Launch) (E : XE) (b : Nat) (χ : CS) (z : Int32) (o : Int32) (H : Heap) (hC : ChoP E b χ H) : Rd l E yX0_firstToGo cX0_firstToGo 7 (some .int) rm_X0_firstToGo [.ref b, .int z, .int o] H (chGo χ z o) := by
  refine met_of (by decide) (Nat.le_of_ble_eq_true rfl) (fun p e s m args below meth c hBD Q hQ ls hl => ?_)
  obtain ⟨S, hr, hlk, hnm, hE, hH⟩ := hBD
  subst hH
  have hl : lv_has ls 7 [(0, .ref b), (1, .int z), (2, .int o)] := hl
  have hS : va_S (fun _ => False) s.heap s.heap [] := va_S.rf
  have hLe := hC.2.2.1.2.1
  refine lv_iconst (v := (-1)) S.1 S.2.1 dX0_firstToGo_0 (by decide) ?_
  refine lv_istore_n S.1 S.2.1 dX0_firstToGo_1 rfl hl (by decide) rfl (fun ls hl => ?_)
  have hl : lv_has ls 7 [(3, .int (-1)), (0, .ref b), (1, .int z), (2, .int o)] := hl
  refine lv_iconst (v := (nI 0)) S.1 S.2.1 dX0_firstToGo_2 (by decide) ?_
  refine lv_istore S.1 S.2.1 dX0_firstToGo_3 hl (by decide) rfl (fun ls hl => ?_)
  have hl : lv_has ls 7 [(4, .int (nI 0)), (3, .int (-1)), (0, .ref b), (1, .int z), (2, .int o)] := hl
  have hloop5 : ∀ (d : Nat) (i : Nat) (ls : Array Slot), (χ.2.1 0).length - i = d → i ≤ (χ.2.1 0).length → lv_has ls 7 [(3, .int (((χ.2.1 0).take i).foldl (goStep χ.1 z o) (-1))), (4, .int (nI i)), (0, .ref b), (1, .int z), (2, .int o)] → W p l e rm_X0_firstToGo s m args below meth c s.heap [] 0 0 Q (F0 m 5 ls []) := by
    intro d
    induction d using Nat.strongRecOn with
    | ind d ih =>
      intro i ls hd hi  hl
      refine lv_iload S.1 S.2.1 dX0_firstToGo_5 (lv_at hl 1 rfl) ?_
      refine lv_aload_n S.1 S.2.1 dX0_firstToGo_7 rfl (lv_at hl 2 rfl) ?_
      refine x_get S hE (hC.1) (C := RX0) (T := TX0) (N := 10) rfl inlX0 1 (by decide) (v := .ref (b + 9)) rfl kw2_20 rfl dX0_firstToGo_8 ?_
      refine x_getN S hE (hC.2.2.1.1) (C := RX3) (T := TX3) (N := 2) rfl inlX3 1 (by decide) (v := .int (nI (χ.2.1 0).length)) rfl nw14 rfl dX0_firstToGo_11 ?_
      refine lv_icmp_ge (tgt := 107) S.1 S.2.1 dX0_firstToGo_14 rfl (fun h1 => ?_) (fun h1 => ?_)
      · skip
        refine lv_iload_n S.1 S.2.1 dX0_firstToGo_107 rfl (lv_at hl 0 rfl) ?_
        subst hQ
        exact x_retR S hr hlk (rfl) (by rw [chGo, List.take_of_length_le (ge_of_le (by omega) (by omega) h1)]) dX0_firstToGo_108
      · skip
        have hlt := lt_of_nle (by omega) (by omega) h1
        refine lv_aload_n S.1 S.2.1 dX0_firstToGo_17 rfl (lv_at hl 2 rfl) ?_
        refine x_get S hE (hC.1) (C := RX0) (T := TX0) (N := 10) rfl inlX0 1 (by decide) (v := .ref (b + 9)) rfl kw2_20 rfl dX0_firstToGo_18 ?_
        refine lv_iload S.1 S.2.1 dX0_firstToGo_21 (lv_at hl 1 rfl) ?_
        refine xk_R (v := (lnAt (χ.2.1 0) (nI i))) (x_runVN (As := [.int (nI i)]) (rest := []) S hE hS (fun _ h => h.elim) (c_X3_noteAt l E (b + 9) 8 (χ.2.1 0) (nI i) _ hC.2.2.1 (by decide)) kv_X3_noteAt nw47 kw8_14 kw8_15 (x_recv hE (hC.2.2.1.1) (ci := 3) rfl) ⟨Nat.le_of_ble_eq_true rfl, Nat.le_of_ble_eq_true rfl⟩ rfl rfl rfl hl.1 rfl (Nat.le_of_ble_eq_true rfl) dX0_firstToGo_23 ⟨Nat.zero_le _, Nat.zero_le _⟩) ?_
        refine x_top (y := ((χ.2.1 0).getD i 0)) (lnAt_nI hlt (by omega)) ?_
        refine lv_istore S.1 S.2.1 dX0_firstToGo_26 hl (by decide) rfl (fun ls hl => ?_)
        have hl : lv_has ls 7 [(5, .int ((χ.2.1 0).getD i 0)), (3, .int (((χ.2.1 0).take i).foldl (goStep χ.1 z o) (-1))), (4, .int (nI i)), (0, .ref b), (1, .int z), (2, .int o)] := hl
        refine lv_iload_n S.1 S.2.1 dX0_firstToGo_28 rfl (lv_at hl 5 rfl) ?_
        refine lv_if_eq (tgt := 51) S.1 S.2.1 dX0_firstToGo_29 rfl (fun h2 => ?_) (fun h2 => ?_)
        · skip
          refine lv_iload_n S.1 S.2.1 dX0_firstToGo_51 rfl (lv_at hl 4 rfl) ?_
          refine lv_if_ne (tgt := 85) S.1 S.2.1 dX0_firstToGo_52 rfl (fun h3 => ?_) (fun h3 => ?_)
          · skip
            refine lv_iconst (v := (nI 0)) S.1 S.2.1 dX0_firstToGo_85 (by decide) ?_
            refine lv_istore S.1 S.2.1 dX0_firstToGo_86 hl (by decide) rfl (fun ls hl => ?_)
            have hl : lv_has ls 7 [(6, .int (nI 0)), (5, .int ((χ.2.1 0).getD i 0)), (3, .int (((χ.2.1 0).take i).foldl (goStep χ.1 z o) (-1))), (4, .int (nI i)), (0, .ref b), (1, .int z), (2, .int o)] := hl
            refine lv_iload_n S.1 S.2.1 dX0_firstToGo_88 rfl (lv_at hl 2 rfl) ?_
            refine lv_iconst (v := (-1)) S.1 S.2.1 dX0_firstToGo_89 (by decide) ?_
            refine lv_icmp_eq (tgt := 98) S.1 S.2.1 dX0_firstToGo_90 rfl (fun h4 => ?_) (fun h4 => ?_)
            · skip
              refine lv_iload S.1 S.2.1 dX0_firstToGo_98 (lv_at hl 1 rfl) ?_
              refine lv_istore_n S.1 S.2.1 dX0_firstToGo_100 rfl hl (by decide) rfl (fun ls hl => ?_)
              have hl : lv_has ls 7 [(3, .int ((χ.2.1 0).getD i 0)), (6, .int (nI 0)), (5, .int ((χ.2.1 0).getD i 0)), (4, .int (nI i)), (0, .ref b), (1, .int z), (2, .int o)] := hl
              refine lv_iinc (k := 3) (v := (nI (i + 1))) S.1 S.2.1 dX0_firstToGo_101 hl rfl (iincP i 1) (by decide) rfl (fun ls hl => ?_)
              have hl : lv_has ls 7 [(4, .int (nI (i + 1))), (3, .int ((χ.2.1 0).getD i 0)), (6, .int (nI 0)), (5, .int ((χ.2.1 0).getD i 0)), (0, .ref b), (1, .int z), (2, .int o)] := hl
              refine lv_goto (tgt := 5) S.1 S.2.1 dX0_firstToGo_104 rfl ?_
              have hl : lv_has ls 7 [(3, .int (((χ.2.1 0).take (i + 1)).foldl (goStep χ.1 z o) (-1))), (4, .int (nI (i + 1))), (0, .ref b), (1, .int z), (2, .int o)] := by
                rw [show (((χ.2.1 0).take (i + 1)).foldl (goStep χ.1 z o) (-1)) = ((χ.2.1 0).getD i 0) from by rw [fold_s hlt]; exact goY (Or.inl h2) (Or.inl h4)]
                exact lv_sub hl [1, 0, 4, 5, 6] rfl
              exact ih _ (by omega) (i + 1) ls rfl (by omega)  (lv_sub hl [0, 1, 2, 3, 4] rfl)
            · skip
              refine lv_iload S.1 S.2.1 dX0_firstToGo_93 (lv_at hl 0 rfl) ?_
              refine lv_if_eq (tgt := 101) S.1 S.2.1 dX0_firstToGo_95 rfl (fun h5 => ?_) (fun h5 => ?_)
              · skip
                refine lv_iinc (k := 3) (v := (nI (i + 1))) S.1 S.2.1 dX0_firstToGo_101 hl rfl (iincP i 1) (by decide) rfl (fun ls hl => ?_)
                have hl : lv_has ls 7 [(4, .int (nI (i + 1))), (6, .int (nI 0)), (5, .int ((χ.2.1 0).getD i 0)), (3, .int (((χ.2.1 0).take i).foldl (goStep χ.1 z o) (-1))), (0, .ref b), (1, .int z), (2, .int o)] := hl
                refine lv_goto (tgt := 5) S.1 S.2.1 dX0_firstToGo_104 rfl ?_
                have hl : lv_has ls 7 [(3, .int (((χ.2.1 0).take (i + 1)).foldl (goStep χ.1 z o) (-1))), (4, .int (nI (i + 1))), (0, .ref b), (1, .int z), (2, .int o)] := by
                  rw [show (((χ.2.1 0).take (i + 1)).foldl (goStep χ.1 z o) (-1)) = (((χ.2.1 0).take i).foldl (goStep χ.1 z o) (-1)) from by rw [fold_s hlt]; exact goF (Or.inl h2) h4 (fun q => h3 q.1)]
                  exact lv_sub hl [3, 0, 4, 5, 6] rfl
                exact ih _ (by omega) (i + 1) ls rfl (by omega)  (lv_sub hl [0, 1, 2, 3, 4] rfl)
              · exact absurd h5 (by decide)
          · skip
            refine lv_aload_n S.1 S.2.1 dX0_firstToGo_55 rfl (lv_at hl 3 rfl) ?_
            refine x_get S hE (hC.1) (C := RX0) (T := TX0) (N := 10) rfl inlX0 0 (by decide) (v := .ref (b + 1)) rfl kw2_16 rfl dX0_firstToGo_56 ?_
            refine x_getN S hE (hC.2.1.1) (C := RX5) (T := TX5) (N := 8) rfl inlX5 4 (by decide) (v := .ref (b + 1 + 5)) rfl nw9 rfl dX0_firstToGo_59 ?_
            refine lv_iload S.1 S.2.1 dX0_firstToGo_62 (lv_at hl 0 rfl) ?_
            refine xk_R (v := (ntG χ.1 4 ((χ.2.1 0).getD i 0))) (x_runSN (As := [.ref (b + 1 + 5), .int ((χ.2.1 0).getD i 0)]) (rest := []) S hE hS (fun _ h => h.elim) (c_X7_at l E (b + 1 + (4 + 1)) 200 (χ.1 4) ((χ.2.1 0).getD i 0) _ (xr_i (hC.2.1.2 4 (by decide))) (by decide)) kv_X7_at nw49 kw8_2 ⟨Nat.le_of_ble_eq_true rfl, Nat.le_of_ble_eq_true rfl⟩ rfl rfl rfl hl.1 rfl (Nat.le_of_ble_eq_true rfl) dX0_firstToGo_64 ⟨Nat.zero_le _, Nat.zero_le _⟩) ?_
            refine lv_aload_n S.1 S.2.1 dX0_firstToGo_67 rfl (lv_at hl 3 rfl) ?_
            refine x_get S hE (hC.1) (C := RX0) (T := TX0) (N := 10) rfl inlX0 0 (by decide) (v := .ref (b + 1)) rfl kw2_16 rfl dX0_firstToGo_68 ?_
            refine x_getN S hE (hC.2.1.1) (C := RX5) (T := TX5) (N := 8) rfl inlX5 4 (by decide) (v := .ref (b + 1 + 5)) rfl nw9 rfl dX0_firstToGo_71 ?_
            refine lv_iload_n S.1 S.2.1 dX0_firstToGo_74 rfl (lv_at hl 1 rfl) ?_
            refine xk_R (v := (ntG χ.1 4 (((χ.2.1 0).take i).foldl (goStep χ.1 z o) (-1)))) (x_runSN (As := [.ref (b + 1 + 5), .int (((χ.2.1 0).take i).foldl (goStep χ.1 z o) (-1))]) (rest := [.int (ntG χ.1 4 ((χ.2.1 0).getD i 0))]) S hE hS (fun _ h => h.elim) (c_X7_at l E (b + 1 + (4 + 1)) 200 (χ.1 4) (((χ.2.1 0).take i).foldl (goStep χ.1 z o) (-1)) _ (xr_i (hC.2.1.2 4 (by decide))) (by decide)) kv_X7_at nw49 kw8_2 ⟨Nat.le_of_ble_eq_true rfl, Nat.le_of_ble_eq_true rfl⟩ rfl rfl rfl hl.1 rfl (Nat.le_of_ble_eq_true rfl) dX0_firstToGo_75 ⟨Nat.zero_le _, Nat.zero_le _⟩) ?_
            refine lv_icmp_ge (tgt := 85) S.1 S.2.1 dX0_firstToGo_78 rfl (fun h6 => ?_) (fun h6 => ?_)
            · skip
              refine lv_iconst (v := (nI 0)) S.1 S.2.1 dX0_firstToGo_85 (by decide) ?_
              refine lv_istore S.1 S.2.1 dX0_firstToGo_86 hl (by decide) rfl (fun ls hl => ?_)
              have hl : lv_has ls 7 [(6, .int (nI 0)), (5, .int ((χ.2.1 0).getD i 0)), (3, .int (((χ.2.1 0).take i).foldl (goStep χ.1 z o) (-1))), (4, .int (nI i)), (0, .ref b), (1, .int z), (2, .int o)] := hl
              refine lv_iload_n S.1 S.2.1 dX0_firstToGo_88 rfl (lv_at hl 2 rfl) ?_
              refine lv_iconst (v := (-1)) S.1 S.2.1 dX0_firstToGo_89 (by decide) ?_
              refine lv_icmp_eq (tgt := 98) S.1 S.2.1 dX0_firstToGo_90 rfl (fun h7 => ?_) (fun h7 => ?_)
              · skip
                refine lv_iload S.1 S.2.1 dX0_firstToGo_98 (lv_at hl 1 rfl) ?_
                refine lv_istore_n S.1 S.2.1 dX0_firstToGo_100 rfl hl (by decide) rfl (fun ls hl => ?_)
                have hl : lv_has ls 7 [(3, .int ((χ.2.1 0).getD i 0)), (6, .int (nI 0)), (5, .int ((χ.2.1 0).getD i 0)), (4, .int (nI i)), (0, .ref b), (1, .int z), (2, .int o)] := hl
                refine lv_iinc (k := 3) (v := (nI (i + 1))) S.1 S.2.1 dX0_firstToGo_101 hl rfl (iincP i 1) (by decide) rfl (fun ls hl => ?_)
                have hl : lv_has ls 7 [(4, .int (nI (i + 1))), (3, .int ((χ.2.1 0).getD i 0)), (6, .int (nI 0)), (5, .int ((χ.2.1 0).getD i 0)), (0, .ref b), (1, .int z), (2, .int o)] := hl
                refine lv_goto (tgt := 5) S.1 S.2.1 dX0_firstToGo_104 rfl ?_
                have hl : lv_has ls 7 [(3, .int (((χ.2.1 0).take (i + 1)).foldl (goStep χ.1 z o) (-1))), (4, .int (nI (i + 1))), (0, .ref b), (1, .int z), (2, .int o)] := by
                  rw [show (((χ.2.1 0).take (i + 1)).foldl (goStep χ.1 z o) (-1)) = ((χ.2.1 0).getD i 0) from by rw [fold_s hlt]; exact goY (Or.inl h2) (Or.inl h7)]
                  exact lv_sub hl [1, 0, 4, 5, 6] rfl
                exact ih _ (by omega) (i + 1) ls rfl (by omega)  (lv_sub hl [0, 1, 2, 3, 4] rfl)
              · skip
                refine lv_iload S.1 S.2.1 dX0_firstToGo_93 (lv_at hl 0 rfl) ?_
                refine lv_if_eq (tgt := 101) S.1 S.2.1 dX0_firstToGo_95 rfl (fun h8 => ?_) (fun h8 => ?_)
                · skip
                  refine lv_iinc (k := 3) (v := (nI (i + 1))) S.1 S.2.1 dX0_firstToGo_101 hl rfl (iincP i 1) (by decide) rfl (fun ls hl => ?_)
                  have hl : lv_has ls 7 [(4, .int (nI (i + 1))), (6, .int (nI 0)), (5, .int ((χ.2.1 0).getD i 0)), (3, .int (((χ.2.1 0).take i).foldl (goStep χ.1 z o) (-1))), (0, .ref b), (1, .int z), (2, .int o)] := hl
                  refine lv_goto (tgt := 5) S.1 S.2.1 dX0_firstToGo_104 rfl ?_
                  have hl : lv_has ls 7 [(3, .int (((χ.2.1 0).take (i + 1)).foldl (goStep χ.1 z o) (-1))), (4, .int (nI (i + 1))), (0, .ref b), (1, .int z), (2, .int o)] := by
                    rw [show (((χ.2.1 0).take (i + 1)).foldl (goStep χ.1 z o) (-1)) = (((χ.2.1 0).take i).foldl (goStep χ.1 z o) (-1)) from by rw [fold_s hlt]; exact goF (Or.inl h2) h7 (fun q => absurd q.2 (Int32.not_lt.mpr h6))]
                    exact lv_sub hl [3, 0, 4, 5, 6] rfl
                  exact ih _ (by omega) (i + 1) ls rfl (by omega)  (lv_sub hl [0, 1, 2, 3, 4] rfl)
                · exact absurd h8 (by decide)
            · skip
              refine lv_iconst (v := (nI 1)) S.1 S.2.1 dX0_firstToGo_81 (by decide) ?_
              refine lv_goto (tgt := 86) S.1 S.2.1 dX0_firstToGo_82 rfl ?_
              refine lv_istore S.1 S.2.1 dX0_firstToGo_86 hl (by decide) rfl (fun ls hl => ?_)
              have hl : lv_has ls 7 [(6, .int (nI 1)), (5, .int ((χ.2.1 0).getD i 0)), (3, .int (((χ.2.1 0).take i).foldl (goStep χ.1 z o) (-1))), (4, .int (nI i)), (0, .ref b), (1, .int z), (2, .int o)] := hl
              refine lv_iload_n S.1 S.2.1 dX0_firstToGo_88 rfl (lv_at hl 2 rfl) ?_
              refine lv_iconst (v := (-1)) S.1 S.2.1 dX0_firstToGo_89 (by decide) ?_
              refine lv_icmp_eq (tgt := 98) S.1 S.2.1 dX0_firstToGo_90 rfl (fun h9 => ?_) (fun h9 => ?_)
              · skip
                refine lv_iload S.1 S.2.1 dX0_firstToGo_98 (lv_at hl 1 rfl) ?_
                refine lv_istore_n S.1 S.2.1 dX0_firstToGo_100 rfl hl (by decide) rfl (fun ls hl => ?_)
                have hl : lv_has ls 7 [(3, .int ((χ.2.1 0).getD i 0)), (6, .int (nI 1)), (5, .int ((χ.2.1 0).getD i 0)), (4, .int (nI i)), (0, .ref b), (1, .int z), (2, .int o)] := hl
                refine lv_iinc (k := 3) (v := (nI (i + 1))) S.1 S.2.1 dX0_firstToGo_101 hl rfl (iincP i 1) (by decide) rfl (fun ls hl => ?_)
                have hl : lv_has ls 7 [(4, .int (nI (i + 1))), (3, .int ((χ.2.1 0).getD i 0)), (6, .int (nI 1)), (5, .int ((χ.2.1 0).getD i 0)), (0, .ref b), (1, .int z), (2, .int o)] := hl
                refine lv_goto (tgt := 5) S.1 S.2.1 dX0_firstToGo_104 rfl ?_
                have hl : lv_has ls 7 [(3, .int (((χ.2.1 0).take (i + 1)).foldl (goStep χ.1 z o) (-1))), (4, .int (nI (i + 1))), (0, .ref b), (1, .int z), (2, .int o)] := by
                  rw [show (((χ.2.1 0).take (i + 1)).foldl (goStep χ.1 z o) (-1)) = ((χ.2.1 0).getD i 0) from by rw [fold_s hlt]; exact goY (Or.inl h2) (Or.inl h9)]
                  exact lv_sub hl [1, 0, 4, 5, 6] rfl
                exact ih _ (by omega) (i + 1) ls rfl (by omega)  (lv_sub hl [0, 1, 2, 3, 4] rfl)
              · skip
                refine lv_iload S.1 S.2.1 dX0_firstToGo_93 (lv_at hl 0 rfl) ?_
                refine lv_if_eq (tgt := 101) S.1 S.2.1 dX0_firstToGo_95 rfl (fun h10 => ?_) (fun h10 => ?_)
                · exact absurd h10 (by decide)
                · skip
                  refine lv_iload S.1 S.2.1 dX0_firstToGo_98 (lv_at hl 1 rfl) ?_
                  refine lv_istore_n S.1 S.2.1 dX0_firstToGo_100 rfl hl (by decide) rfl (fun ls hl => ?_)
                  have hl : lv_has ls 7 [(3, .int ((χ.2.1 0).getD i 0)), (6, .int (nI 1)), (5, .int ((χ.2.1 0).getD i 0)), (4, .int (nI i)), (0, .ref b), (1, .int z), (2, .int o)] := hl
                  refine lv_iinc (k := 3) (v := (nI (i + 1))) S.1 S.2.1 dX0_firstToGo_101 hl rfl (iincP i 1) (by decide) rfl (fun ls hl => ?_)
                  have hl : lv_has ls 7 [(4, .int (nI (i + 1))), (3, .int ((χ.2.1 0).getD i 0)), (6, .int (nI 1)), (5, .int ((χ.2.1 0).getD i 0)), (0, .ref b), (1, .int z), (2, .int o)] := hl
                  refine lv_goto (tgt := 5) S.1 S.2.1 dX0_firstToGo_104 rfl ?_
                  have hl : lv_has ls 7 [(3, .int (((χ.2.1 0).take (i + 1)).foldl (goStep χ.1 z o) (-1))), (4, .int (nI (i + 1))), (0, .ref b), (1, .int z), (2, .int o)] := by
                    rw [show (((χ.2.1 0).take (i + 1)).foldl (goStep χ.1 z o) (-1)) = ((χ.2.1 0).getD i 0) from by rw [fold_s hlt]; exact goY (Or.inl h2) (Or.inr ⟨h3, i_nle h6⟩)]
                    exact lv_sub hl [1, 0, 4, 5, 6] rfl
                  exact ih _ (by omega) (i + 1) ls rfl (by omega)  (lv_sub hl [0, 1, 2, 3, 4] rfl)
        · skip
          refine lv_aload_n S.1 S.2.1 dX0_firstToGo_32 rfl (lv_at hl 3 rfl) ?_
          refine x_get S hE (hC.1) (C := RX0) (T := TX0) (N := 10) rfl inlX0 0 (by decide) (v := .ref (b + 1)) rfl kw2_16 rfl dX0_firstToGo_33 ?_
          refine x_getN S hE (hC.2.1.1) (C := RX5) (T := TX5) (N := 8) rfl inlX5 3 (by decide) (v := .ref (b + 1 + 4)) rfl nw6 rfl dX0_firstToGo_36 ?_
          refine lv_iload S.1 S.2.1 dX0_firstToGo_39 (lv_at hl 0 rfl) ?_
          refine xk_R (v := (ntG χ.1 3 ((χ.2.1 0).getD i 0))) (x_runSN (As := [.ref (b + 1 + 4), .int ((χ.2.1 0).getD i 0)]) (rest := []) S hE hS (fun _ h => h.elim) (c_X7_at l E (b + 1 + (3 + 1)) 200 (χ.1 3) ((χ.2.1 0).getD i 0) _ (xr_i (hC.2.1.2 3 (by decide))) (by decide)) kv_X7_at nw49 kw8_2 ⟨Nat.le_of_ble_eq_true rfl, Nat.le_of_ble_eq_true rfl⟩ rfl rfl rfl hl.1 rfl (Nat.le_of_ble_eq_true rfl) dX0_firstToGo_41 ⟨Nat.zero_le _, Nat.zero_le _⟩) ?_
          refine lv_iconst (v := (nI 4)) S.1 S.2.1 dX0_firstToGo_44 (by decide) ?_
          refine lv_icmp_eq (tgt := 51) S.1 S.2.1 dX0_firstToGo_45 rfl (fun h11 => ?_) (fun h11 => ?_)
          · skip
            refine lv_iload_n S.1 S.2.1 dX0_firstToGo_51 rfl (lv_at hl 4 rfl) ?_
            refine lv_if_ne (tgt := 85) S.1 S.2.1 dX0_firstToGo_52 rfl (fun h12 => ?_) (fun h12 => ?_)
            · skip
              refine lv_iconst (v := (nI 0)) S.1 S.2.1 dX0_firstToGo_85 (by decide) ?_
              refine lv_istore S.1 S.2.1 dX0_firstToGo_86 hl (by decide) rfl (fun ls hl => ?_)
              have hl : lv_has ls 7 [(6, .int (nI 0)), (5, .int ((χ.2.1 0).getD i 0)), (3, .int (((χ.2.1 0).take i).foldl (goStep χ.1 z o) (-1))), (4, .int (nI i)), (0, .ref b), (1, .int z), (2, .int o)] := hl
              refine lv_iload_n S.1 S.2.1 dX0_firstToGo_88 rfl (lv_at hl 2 rfl) ?_
              refine lv_iconst (v := (-1)) S.1 S.2.1 dX0_firstToGo_89 (by decide) ?_
              refine lv_icmp_eq (tgt := 98) S.1 S.2.1 dX0_firstToGo_90 rfl (fun h13 => ?_) (fun h13 => ?_)
              · skip
                refine lv_iload S.1 S.2.1 dX0_firstToGo_98 (lv_at hl 1 rfl) ?_
                refine lv_istore_n S.1 S.2.1 dX0_firstToGo_100 rfl hl (by decide) rfl (fun ls hl => ?_)
                have hl : lv_has ls 7 [(3, .int ((χ.2.1 0).getD i 0)), (6, .int (nI 0)), (5, .int ((χ.2.1 0).getD i 0)), (4, .int (nI i)), (0, .ref b), (1, .int z), (2, .int o)] := hl
                refine lv_iinc (k := 3) (v := (nI (i + 1))) S.1 S.2.1 dX0_firstToGo_101 hl rfl (iincP i 1) (by decide) rfl (fun ls hl => ?_)
                have hl : lv_has ls 7 [(4, .int (nI (i + 1))), (3, .int ((χ.2.1 0).getD i 0)), (6, .int (nI 0)), (5, .int ((χ.2.1 0).getD i 0)), (0, .ref b), (1, .int z), (2, .int o)] := hl
                refine lv_goto (tgt := 5) S.1 S.2.1 dX0_firstToGo_104 rfl ?_
                have hl : lv_has ls 7 [(3, .int (((χ.2.1 0).take (i + 1)).foldl (goStep χ.1 z o) (-1))), (4, .int (nI (i + 1))), (0, .ref b), (1, .int z), (2, .int o)] := by
                  rw [show (((χ.2.1 0).take (i + 1)).foldl (goStep χ.1 z o) (-1)) = ((χ.2.1 0).getD i 0) from by rw [fold_s hlt]; exact goY (Or.inr h11) (Or.inl h13)]
                  exact lv_sub hl [1, 0, 4, 5, 6] rfl
                exact ih _ (by omega) (i + 1) ls rfl (by omega)  (lv_sub hl [0, 1, 2, 3, 4] rfl)
              · skip
                refine lv_iload S.1 S.2.1 dX0_firstToGo_93 (lv_at hl 0 rfl) ?_
                refine lv_if_eq (tgt := 101) S.1 S.2.1 dX0_firstToGo_95 rfl (fun h14 => ?_) (fun h14 => ?_)
                · skip
                  refine lv_iinc (k := 3) (v := (nI (i + 1))) S.1 S.2.1 dX0_firstToGo_101 hl rfl (iincP i 1) (by decide) rfl (fun ls hl => ?_)
                  have hl : lv_has ls 7 [(4, .int (nI (i + 1))), (6, .int (nI 0)), (5, .int ((χ.2.1 0).getD i 0)), (3, .int (((χ.2.1 0).take i).foldl (goStep χ.1 z o) (-1))), (0, .ref b), (1, .int z), (2, .int o)] := hl
                  refine lv_goto (tgt := 5) S.1 S.2.1 dX0_firstToGo_104 rfl ?_
                  have hl : lv_has ls 7 [(3, .int (((χ.2.1 0).take (i + 1)).foldl (goStep χ.1 z o) (-1))), (4, .int (nI (i + 1))), (0, .ref b), (1, .int z), (2, .int o)] := by
                    rw [show (((χ.2.1 0).take (i + 1)).foldl (goStep χ.1 z o) (-1)) = (((χ.2.1 0).take i).foldl (goStep χ.1 z o) (-1)) from by rw [fold_s hlt]; exact goF (Or.inr h11) h13 (fun q => h12 q.1)]
                    exact lv_sub hl [3, 0, 4, 5, 6] rfl
                  exact ih _ (by omega) (i + 1) ls rfl (by omega)  (lv_sub hl [0, 1, 2, 3, 4] rfl)
                · exact absurd h14 (by decide)
            · skip
              refine lv_aload_n S.1 S.2.1 dX0_firstToGo_55 rfl (lv_at hl 3 rfl) ?_
              refine x_get S hE (hC.1) (C := RX0) (T := TX0) (N := 10) rfl inlX0 0 (by decide) (v := .ref (b + 1)) rfl kw2_16 rfl dX0_firstToGo_56 ?_
              refine x_getN S hE (hC.2.1.1) (C := RX5) (T := TX5) (N := 8) rfl inlX5 4 (by decide) (v := .ref (b + 1 + 5)) rfl nw9 rfl dX0_firstToGo_59 ?_
              refine lv_iload S.1 S.2.1 dX0_firstToGo_62 (lv_at hl 0 rfl) ?_
              refine xk_R (v := (ntG χ.1 4 ((χ.2.1 0).getD i 0))) (x_runSN (As := [.ref (b + 1 + 5), .int ((χ.2.1 0).getD i 0)]) (rest := []) S hE hS (fun _ h => h.elim) (c_X7_at l E (b + 1 + (4 + 1)) 200 (χ.1 4) ((χ.2.1 0).getD i 0) _ (xr_i (hC.2.1.2 4 (by decide))) (by decide)) kv_X7_at nw49 kw8_2 ⟨Nat.le_of_ble_eq_true rfl, Nat.le_of_ble_eq_true rfl⟩ rfl rfl rfl hl.1 rfl (Nat.le_of_ble_eq_true rfl) dX0_firstToGo_64 ⟨Nat.zero_le _, Nat.zero_le _⟩) ?_
              refine lv_aload_n S.1 S.2.1 dX0_firstToGo_67 rfl (lv_at hl 3 rfl) ?_
              refine x_get S hE (hC.1) (C := RX0) (T := TX0) (N := 10) rfl inlX0 0 (by decide) (v := .ref (b + 1)) rfl kw2_16 rfl dX0_firstToGo_68 ?_
              refine x_getN S hE (hC.2.1.1) (C := RX5) (T := TX5) (N := 8) rfl inlX5 4 (by decide) (v := .ref (b + 1 + 5)) rfl nw9 rfl dX0_firstToGo_71 ?_
              refine lv_iload_n S.1 S.2.1 dX0_firstToGo_74 rfl (lv_at hl 1 rfl) ?_
              refine xk_R (v := (ntG χ.1 4 (((χ.2.1 0).take i).foldl (goStep χ.1 z o) (-1)))) (x_runSN (As := [.ref (b + 1 + 5), .int (((χ.2.1 0).take i).foldl (goStep χ.1 z o) (-1))]) (rest := [.int (ntG χ.1 4 ((χ.2.1 0).getD i 0))]) S hE hS (fun _ h => h.elim) (c_X7_at l E (b + 1 + (4 + 1)) 200 (χ.1 4) (((χ.2.1 0).take i).foldl (goStep χ.1 z o) (-1)) _ (xr_i (hC.2.1.2 4 (by decide))) (by decide)) kv_X7_at nw49 kw8_2 ⟨Nat.le_of_ble_eq_true rfl, Nat.le_of_ble_eq_true rfl⟩ rfl rfl rfl hl.1 rfl (Nat.le_of_ble_eq_true rfl) dX0_firstToGo_75 ⟨Nat.zero_le _, Nat.zero_le _⟩) ?_
              refine lv_icmp_ge (tgt := 85) S.1 S.2.1 dX0_firstToGo_78 rfl (fun h15 => ?_) (fun h15 => ?_)
              · skip
                refine lv_iconst (v := (nI 0)) S.1 S.2.1 dX0_firstToGo_85 (by decide) ?_
                refine lv_istore S.1 S.2.1 dX0_firstToGo_86 hl (by decide) rfl (fun ls hl => ?_)
                have hl : lv_has ls 7 [(6, .int (nI 0)), (5, .int ((χ.2.1 0).getD i 0)), (3, .int (((χ.2.1 0).take i).foldl (goStep χ.1 z o) (-1))), (4, .int (nI i)), (0, .ref b), (1, .int z), (2, .int o)] := hl
                refine lv_iload_n S.1 S.2.1 dX0_firstToGo_88 rfl (lv_at hl 2 rfl) ?_
                refine lv_iconst (v := (-1)) S.1 S.2.1 dX0_firstToGo_89 (by decide) ?_
                refine lv_icmp_eq (tgt := 98) S.1 S.2.1 dX0_firstToGo_90 rfl (fun h16 => ?_) (fun h16 => ?_)
                · skip
                  refine lv_iload S.1 S.2.1 dX0_firstToGo_98 (lv_at hl 1 rfl) ?_
                  refine lv_istore_n S.1 S.2.1 dX0_firstToGo_100 rfl hl (by decide) rfl (fun ls hl => ?_)
                  have hl : lv_has ls 7 [(3, .int ((χ.2.1 0).getD i 0)), (6, .int (nI 0)), (5, .int ((χ.2.1 0).getD i 0)), (4, .int (nI i)), (0, .ref b), (1, .int z), (2, .int o)] := hl
                  refine lv_iinc (k := 3) (v := (nI (i + 1))) S.1 S.2.1 dX0_firstToGo_101 hl rfl (iincP i 1) (by decide) rfl (fun ls hl => ?_)
                  have hl : lv_has ls 7 [(4, .int (nI (i + 1))), (3, .int ((χ.2.1 0).getD i 0)), (6, .int (nI 0)), (5, .int ((χ.2.1 0).getD i 0)), (0, .ref b), (1, .int z), (2, .int o)] := hl
                  refine lv_goto (tgt := 5) S.1 S.2.1 dX0_firstToGo_104 rfl ?_
                  have hl : lv_has ls 7 [(3, .int (((χ.2.1 0).take (i + 1)).foldl (goStep χ.1 z o) (-1))), (4, .int (nI (i + 1))), (0, .ref b), (1, .int z), (2, .int o)] := by
                    rw [show (((χ.2.1 0).take (i + 1)).foldl (goStep χ.1 z o) (-1)) = ((χ.2.1 0).getD i 0) from by rw [fold_s hlt]; exact goY (Or.inr h11) (Or.inl h16)]
                    exact lv_sub hl [1, 0, 4, 5, 6] rfl
                  exact ih _ (by omega) (i + 1) ls rfl (by omega)  (lv_sub hl [0, 1, 2, 3, 4] rfl)
                · skip
                  refine lv_iload S.1 S.2.1 dX0_firstToGo_93 (lv_at hl 0 rfl) ?_
                  refine lv_if_eq (tgt := 101) S.1 S.2.1 dX0_firstToGo_95 rfl (fun h17 => ?_) (fun h17 => ?_)
                  · skip
                    refine lv_iinc (k := 3) (v := (nI (i + 1))) S.1 S.2.1 dX0_firstToGo_101 hl rfl (iincP i 1) (by decide) rfl (fun ls hl => ?_)
                    have hl : lv_has ls 7 [(4, .int (nI (i + 1))), (6, .int (nI 0)), (5, .int ((χ.2.1 0).getD i 0)), (3, .int (((χ.2.1 0).take i).foldl (goStep χ.1 z o) (-1))), (0, .ref b), (1, .int z), (2, .int o)] := hl
                    refine lv_goto (tgt := 5) S.1 S.2.1 dX0_firstToGo_104 rfl ?_
                    have hl : lv_has ls 7 [(3, .int (((χ.2.1 0).take (i + 1)).foldl (goStep χ.1 z o) (-1))), (4, .int (nI (i + 1))), (0, .ref b), (1, .int z), (2, .int o)] := by
                      rw [show (((χ.2.1 0).take (i + 1)).foldl (goStep χ.1 z o) (-1)) = (((χ.2.1 0).take i).foldl (goStep χ.1 z o) (-1)) from by rw [fold_s hlt]; exact goF (Or.inr h11) h16 (fun q => absurd q.2 (Int32.not_lt.mpr h15))]
                      exact lv_sub hl [3, 0, 4, 5, 6] rfl
                    exact ih _ (by omega) (i + 1) ls rfl (by omega)  (lv_sub hl [0, 1, 2, 3, 4] rfl)
                  · exact absurd h17 (by decide)
              · skip
                refine lv_iconst (v := (nI 1)) S.1 S.2.1 dX0_firstToGo_81 (by decide) ?_
                refine lv_goto (tgt := 86) S.1 S.2.1 dX0_firstToGo_82 rfl ?_
                refine lv_istore S.1 S.2.1 dX0_firstToGo_86 hl (by decide) rfl (fun ls hl => ?_)
                have hl : lv_has ls 7 [(6, .int (nI 1)), (5, .int ((χ.2.1 0).getD i 0)), (3, .int (((χ.2.1 0).take i).foldl (goStep χ.1 z o) (-1))), (4, .int (nI i)), (0, .ref b), (1, .int z), (2, .int o)] := hl
                refine lv_iload_n S.1 S.2.1 dX0_firstToGo_88 rfl (lv_at hl 2 rfl) ?_
                refine lv_iconst (v := (-1)) S.1 S.2.1 dX0_firstToGo_89 (by decide) ?_
                refine lv_icmp_eq (tgt := 98) S.1 S.2.1 dX0_firstToGo_90 rfl (fun h18 => ?_) (fun h18 => ?_)
                · skip
                  refine lv_iload S.1 S.2.1 dX0_firstToGo_98 (lv_at hl 1 rfl) ?_
                  refine lv_istore_n S.1 S.2.1 dX0_firstToGo_100 rfl hl (by decide) rfl (fun ls hl => ?_)
                  have hl : lv_has ls 7 [(3, .int ((χ.2.1 0).getD i 0)), (6, .int (nI 1)), (5, .int ((χ.2.1 0).getD i 0)), (4, .int (nI i)), (0, .ref b), (1, .int z), (2, .int o)] := hl
                  refine lv_iinc (k := 3) (v := (nI (i + 1))) S.1 S.2.1 dX0_firstToGo_101 hl rfl (iincP i 1) (by decide) rfl (fun ls hl => ?_)
                  have hl : lv_has ls 7 [(4, .int (nI (i + 1))), (3, .int ((χ.2.1 0).getD i 0)), (6, .int (nI 1)), (5, .int ((χ.2.1 0).getD i 0)), (0, .ref b), (1, .int z), (2, .int o)] := hl
                  refine lv_goto (tgt := 5) S.1 S.2.1 dX0_firstToGo_104 rfl ?_
                  have hl : lv_has ls 7 [(3, .int (((χ.2.1 0).take (i + 1)).foldl (goStep χ.1 z o) (-1))), (4, .int (nI (i + 1))), (0, .ref b), (1, .int z), (2, .int o)] := by
                    rw [show (((χ.2.1 0).take (i + 1)).foldl (goStep χ.1 z o) (-1)) = ((χ.2.1 0).getD i 0) from by rw [fold_s hlt]; exact goY (Or.inr h11) (Or.inl h18)]
                    exact lv_sub hl [1, 0, 4, 5, 6] rfl
                  exact ih _ (by omega) (i + 1) ls rfl (by omega)  (lv_sub hl [0, 1, 2, 3, 4] rfl)
                · skip
                  refine lv_iload S.1 S.2.1 dX0_firstToGo_93 (lv_at hl 0 rfl) ?_
                  refine lv_if_eq (tgt := 101) S.1 S.2.1 dX0_firstToGo_95 rfl (fun h19 => ?_) (fun h19 => ?_)
                  · exact absurd h19 (by decide)
                  · skip
                    refine lv_iload S.1 S.2.1 dX0_firstToGo_98 (lv_at hl 1 rfl) ?_
                    refine lv_istore_n S.1 S.2.1 dX0_firstToGo_100 rfl hl (by decide) rfl (fun ls hl => ?_)
                    have hl : lv_has ls 7 [(3, .int ((χ.2.1 0).getD i 0)), (6, .int (nI 1)), (5, .int ((χ.2.1 0).getD i 0)), (4, .int (nI i)), (0, .ref b), (1, .int z), (2, .int o)] := hl
                    refine lv_iinc (k := 3) (v := (nI (i + 1))) S.1 S.2.1 dX0_firstToGo_101 hl rfl (iincP i 1) (by decide) rfl (fun ls hl => ?_)
                    have hl : lv_has ls 7 [(4, .int (nI (i + 1))), (3, .int ((χ.2.1 0).getD i 0)), (6, .int (nI 1)), (5, .int ((χ.2.1 0).getD i 0)), (0, .ref b), (1, .int z), (2, .int o)] := hl
                    refine lv_goto (tgt := 5) S.1 S.2.1 dX0_firstToGo_104 rfl ?_
                    have hl : lv_has ls 7 [(3, .int (((χ.2.1 0).take (i + 1)).foldl (goStep χ.1 z o) (-1))), (4, .int (nI (i + 1))), (0, .ref b), (1, .int z), (2, .int o)] := by
                      rw [show (((χ.2.1 0).take (i + 1)).foldl (goStep χ.1 z o) (-1)) = ((χ.2.1 0).getD i 0) from by rw [fold_s hlt]; exact goY (Or.inr h11) (Or.inr ⟨h12, i_nle h15⟩)]
                      exact lv_sub hl [1, 0, 4, 5, 6] rfl
                    exact ih _ (by omega) (i + 1) ls rfl (by omega)  (lv_sub hl [0, 1, 2, 3, 4] rfl)
          · skip
            refine lv_goto (tgt := 101) S.1 S.2.1 dX0_firstToGo_48 rfl ?_
            refine lv_iinc (k := 2) (v := (nI (i + 1))) S.1 S.2.1 dX0_firstToGo_101 hl rfl (iincP i 1) (by decide) rfl (fun ls hl => ?_)
            have hl : lv_has ls 7 [(4, .int (nI (i + 1))), (5, .int ((χ.2.1 0).getD i 0)), (3, .int (((χ.2.1 0).take i).foldl (goStep χ.1 z o) (-1))), (0, .ref b), (1, .int z), (2, .int o)] := hl
            refine lv_goto (tgt := 5) S.1 S.2.1 dX0_firstToGo_104 rfl ?_
            have hl : lv_has ls 7 [(3, .int (((χ.2.1 0).take (i + 1)).foldl (goStep χ.1 z o) (-1))), (4, .int (nI (i + 1))), (0, .ref b), (1, .int z), (2, .int o)] := by
              rw [show (((χ.2.1 0).take (i + 1)).foldl (goStep χ.1 z o) (-1)) = (((χ.2.1 0).take i).foldl (goStep χ.1 z o) (-1)) from by rw [fold_s hlt]; exact goS h2 h11]
              exact lv_sub hl [2, 0, 3, 4, 5] rfl
            exact ih _ (by omega) (i + 1) ls rfl (by omega)  (lv_sub hl [0, 1, 2, 3, 4] rfl)
  exact hloop5 _ 0 ls rfl (Nat.zero_le _)  (lv_sub hl [1, 0, 2, 3, 4] rfl)
abbrev rm_X0_toSendHome : Room := ({ frames := 3, cells := 0, slots := 0, locals := 68 } : Room)
set_option maxRecDepth 100000 in
set_option maxHeartbeats 600000 in
theorem c_X0_toSendHome (l : Launch) (E : XE) (b : Nat) (χ : CS) (H : Heap) (hC : ChoP E b χ H) : Rd l E yX0_toSendHome cX0_toSendHome 3 (some .int) rm_X0_toSendHome [.ref b] H (chHome χ) := by
  refine met_of (by decide) (Nat.le_of_ble_eq_true rfl) (fun p e s m args below meth c hBD Q hQ ls hl => ?_)
  obtain ⟨S, hr, hlk, hnm, hE, hH⟩ := hBD
  subst hH
  have hl : lv_has ls 3 [(0, .ref b)] := hl
  have hS : va_S (fun _ => False) s.heap s.heap [] := va_S.rf
  refine lv_aload_n S.1 S.2.1 dX0_toSendHome_0 rfl (lv_at hl 0 rfl) ?_
  refine x_get S hE (hC.1) (C := RX0) (T := TX0) (N := 10) rfl inlX0 4 (by decide) (v := .ref (b + 15)) rfl kw2_23 rfl dX0_toSendHome_1 ?_
  refine lv_iconst (v := (nI 1)) S.1 S.2.1 dX0_toSendHome_4 (by decide) ?_
  refine xk_R (v := (xat χ.2.2.1 3 (nI 1))) (x_runSN (As := [.ref (b + 15), .int (nI 1)]) (rest := []) S hE hS (fun _ h => h.elim) (c_X7_at l E (b + 15) 3 χ.2.2.1 (nI 1) _ (xr_i hC.2.2.2.2.2.1) (by decide)) kv_X7_at nw49 kw8_2 ⟨Nat.le_of_ble_eq_true rfl, Nat.le_of_ble_eq_true rfl⟩ rfl rfl rfl hl.1 rfl (Nat.le_of_ble_eq_true rfl) dX0_toSendHome_5 ⟨Nat.zero_le _, Nat.zero_le _⟩) ?_
  refine lv_istore_n S.1 S.2.1 dX0_toSendHome_8 rfl hl (by decide) rfl (fun ls hl => ?_)
  have hl : lv_has ls 3 [(1, .int (xat χ.2.2.1 3 (nI 1))), (0, .ref b)] := hl
  refine lv_iload_n S.1 S.2.1 dX0_toSendHome_9 rfl (lv_at hl 0 rfl) ?_
  refine lv_if_eq (tgt := 20) S.1 S.2.1 dX0_toSendHome_10 rfl (fun h1 => ?_) (fun h1 => ?_)
  · skip
    refine lv_aload_n S.1 S.2.1 dX0_toSendHome_20 rfl (lv_at hl 1 rfl) ?_
    refine lv_iload_n S.1 S.2.1 dX0_toSendHome_21 rfl (lv_at hl 0 rfl) ?_
    refine lv_iconst (v := (nI 1)) S.1 S.2.1 dX0_toSendHome_22 (by decide) ?_
    refine xk_R (v := (chGo χ (xat χ.2.2.1 3 (nI 1)) (nI 1))) (x_runV (As := [.int (xat χ.2.2.1 3 (nI 1)), .int (nI 1)]) (rest := []) S hE hS (fun _ h => h.elim) (c_X0_firstToGo l E b χ (xat χ.2.2.1 3 (nI 1)) (nI 1) _ hC) kv_X0_firstToGo kw11_8 kw11_9 kw11_10 (x_recv hE (hC.1) (ci := 0) rfl) ⟨Nat.le_of_ble_eq_true rfl, Nat.le_of_ble_eq_true rfl⟩ rfl rfl rfl hl.1 rfl (Nat.le_of_ble_eq_true rfl) dX0_toSendHome_23 ⟨Nat.zero_le _, Nat.zero_le _⟩) ?_
    refine lv_istore_n S.1 S.2.1 dX0_toSendHome_26 rfl hl (by decide) rfl (fun ls hl => ?_)
    have hl : lv_has ls 3 [(2, .int (chGo χ (xat χ.2.2.1 3 (nI 1)) (nI 1))), (1, .int (xat χ.2.2.1 3 (nI 1))), (0, .ref b)] := hl
    refine lv_iload_n S.1 S.2.1 dX0_toSendHome_27 rfl (lv_at hl 0 rfl) ?_
    refine lv_iconst (v := (-1)) S.1 S.2.1 dX0_toSendHome_28 (by decide) ?_
    refine lv_icmp_ne (tgt := 41) S.1 S.2.1 dX0_toSendHome_29 rfl (fun h2 => ?_) (fun h2 => ?_)
    · skip
      refine lv_iload_n S.1 S.2.1 dX0_toSendHome_41 rfl (lv_at hl 0 rfl) ?_
      subst hQ
      exact x_retR S hr hlk (rfl) (by rw [chHome, if_neg (fun q => q.1 h1), if_neg h2]) dX0_toSendHome_42
    · skip
      refine lv_aload_n S.1 S.2.1 dX0_toSendHome_32 rfl (lv_at hl 2 rfl) ?_
      refine lv_iload_n S.1 S.2.1 dX0_toSendHome_33 rfl (lv_at hl 1 rfl) ?_
      refine lv_iconst (v := (nI 0)) S.1 S.2.1 dX0_toSendHome_34 (by decide) ?_
      refine xk_R (v := (chGo χ (xat χ.2.2.1 3 (nI 1)) (nI 0))) (x_runV (As := [.int (xat χ.2.2.1 3 (nI 1)), .int (nI 0)]) (rest := []) S hE hS (fun _ h => h.elim) (c_X0_firstToGo l E b χ (xat χ.2.2.1 3 (nI 1)) (nI 0) _ hC) kv_X0_firstToGo kw11_8 kw11_9 kw11_10 (x_recv hE (hC.1) (ci := 0) rfl) ⟨Nat.le_of_ble_eq_true rfl, Nat.le_of_ble_eq_true rfl⟩ rfl rfl rfl hl.1 rfl (Nat.le_of_ble_eq_true rfl) dX0_toSendHome_35 ⟨Nat.zero_le _, Nat.zero_le _⟩) ?_
      refine lv_goto (tgt := 42) S.1 S.2.1 dX0_toSendHome_38 rfl ?_
      subst hQ
      exact x_retR S hr hlk (rfl) (by rw [chHome, if_neg (fun q => q.1 h1), if_pos h2]) dX0_toSendHome_42
  · skip
    refine lv_iload_n S.1 S.2.1 dX0_toSendHome_13 rfl (lv_at hl 0 rfl) ?_
    refine lv_iconst (v := (nI 1)) S.1 S.2.1 dX0_toSendHome_14 (by decide) ?_
    refine lv_icmp_eq (tgt := 20) S.1 S.2.1 dX0_toSendHome_15 rfl (fun h3 => ?_) (fun h3 => ?_)
    · skip
      refine lv_aload_n S.1 S.2.1 dX0_toSendHome_20 rfl (lv_at hl 1 rfl) ?_
      refine lv_iload_n S.1 S.2.1 dX0_toSendHome_21 rfl (lv_at hl 0 rfl) ?_
      refine lv_iconst (v := (nI 1)) S.1 S.2.1 dX0_toSendHome_22 (by decide) ?_
      refine xk_R (v := (chGo χ (xat χ.2.2.1 3 (nI 1)) (nI 1))) (x_runV (As := [.int (xat χ.2.2.1 3 (nI 1)), .int (nI 1)]) (rest := []) S hE hS (fun _ h => h.elim) (c_X0_firstToGo l E b χ (xat χ.2.2.1 3 (nI 1)) (nI 1) _ hC) kv_X0_firstToGo kw11_8 kw11_9 kw11_10 (x_recv hE (hC.1) (ci := 0) rfl) ⟨Nat.le_of_ble_eq_true rfl, Nat.le_of_ble_eq_true rfl⟩ rfl rfl rfl hl.1 rfl (Nat.le_of_ble_eq_true rfl) dX0_toSendHome_23 ⟨Nat.zero_le _, Nat.zero_le _⟩) ?_
      refine lv_istore_n S.1 S.2.1 dX0_toSendHome_26 rfl hl (by decide) rfl (fun ls hl => ?_)
      have hl : lv_has ls 3 [(2, .int (chGo χ (xat χ.2.2.1 3 (nI 1)) (nI 1))), (1, .int (xat χ.2.2.1 3 (nI 1))), (0, .ref b)] := hl
      refine lv_iload_n S.1 S.2.1 dX0_toSendHome_27 rfl (lv_at hl 0 rfl) ?_
      refine lv_iconst (v := (-1)) S.1 S.2.1 dX0_toSendHome_28 (by decide) ?_
      refine lv_icmp_ne (tgt := 41) S.1 S.2.1 dX0_toSendHome_29 rfl (fun h4 => ?_) (fun h4 => ?_)
      · skip
        refine lv_iload_n S.1 S.2.1 dX0_toSendHome_41 rfl (lv_at hl 0 rfl) ?_
        subst hQ
        exact x_retR S hr hlk (rfl) (by rw [chHome, if_neg (fun q => q.2 h3), if_neg h4]) dX0_toSendHome_42
      · skip
        refine lv_aload_n S.1 S.2.1 dX0_toSendHome_32 rfl (lv_at hl 2 rfl) ?_
        refine lv_iload_n S.1 S.2.1 dX0_toSendHome_33 rfl (lv_at hl 1 rfl) ?_
        refine lv_iconst (v := (nI 0)) S.1 S.2.1 dX0_toSendHome_34 (by decide) ?_
        refine xk_R (v := (chGo χ (xat χ.2.2.1 3 (nI 1)) (nI 0))) (x_runV (As := [.int (xat χ.2.2.1 3 (nI 1)), .int (nI 0)]) (rest := []) S hE hS (fun _ h => h.elim) (c_X0_firstToGo l E b χ (xat χ.2.2.1 3 (nI 1)) (nI 0) _ hC) kv_X0_firstToGo kw11_8 kw11_9 kw11_10 (x_recv hE (hC.1) (ci := 0) rfl) ⟨Nat.le_of_ble_eq_true rfl, Nat.le_of_ble_eq_true rfl⟩ rfl rfl rfl hl.1 rfl (Nat.le_of_ble_eq_true rfl) dX0_toSendHome_35 ⟨Nat.zero_le _, Nat.zero_le _⟩) ?_
        refine lv_goto (tgt := 42) S.1 S.2.1 dX0_toSendHome_38 rfl ?_
        subst hQ
        exact x_retR S hr hlk (rfl) (by rw [chHome, if_neg (fun q => q.2 h3), if_pos h4]) dX0_toSendHome_42
    · skip
      refine lv_iconst (v := (-1)) S.1 S.2.1 dX0_toSendHome_18 (by decide) ?_
      subst hQ
      exact x_retR S hr hlk (rfl) (by rw [chHome, if_pos ⟨h1, h3⟩]) dX0_toSendHome_19
abbrev rm_X0_newNoteMustWait : Room := ({ frames := 4, cells := 0, slots := 0, locals := 90 } : Room)
set_option maxRecDepth 100000 in
set_option maxHeartbeats 600000 in
theorem c_X0_newNoteMustWait (l : Launch) (E : XE) (b : Nat) (χ : CS) (H : Heap) (hC : ChoP E b χ H) : Rd l E yX0_newNoteMustWait cX0_newNoteMustWait 1 (some .boolean) rm_X0_newNoteMustWait [.ref b] H (bI (chMust χ)) := by
  refine met_of (by decide) (Nat.le_of_ble_eq_true rfl) (fun p e s m args below meth c hBD Q hQ ls hl => ?_)
  obtain ⟨S, hr, hlk, hnm, hE, hH⟩ := hBD
  subst hH
  have hl : lv_has ls 1 [(0, .ref b)] := hl
  have hS : va_S (fun _ => False) s.heap s.heap [] := va_S.rf
  refine lv_aload_n S.1 S.2.1 dX0_newNoteMustWait_0 rfl (lv_at hl 0 rfl) ?_
  refine xk_R (v := (chFree χ)) (x_runV (As := []) (rest := []) S hE hS (fun _ h => h.elim) (c_X0_freePlaces l E b χ  _ hC) kv_X0_freePlaces kw17_4 kw11_20 kw11_21 (x_recv hE (hC.1) (ci := 0) rfl) ⟨Nat.le_of_ble_eq_true rfl, Nat.le_of_ble_eq_true rfl⟩ rfl rfl rfl hl.1 rfl (Nat.le_of_ble_eq_true rfl) dX0_newNoteMustWait_1 ⟨Nat.zero_le _, Nat.zero_le _⟩) ?_
  refine lv_if_ne (tgt := 30) S.1 S.2.1 dX0_newNoteMustWait_4 rfl (fun h1 => ?_) (fun h1 => ?_)
  · skip
    refine lv_iconst (v := (nI 0)) S.1 S.2.1 dX0_newNoteMustWait_30 (by decide) ?_
    subst hQ
    exact x_retR S hr hlk (by first | rfl | decide | exact bI_nar _) (by first | exact bI_t ⟨h1, Or.inl h2⟩ | exact bI_t ⟨h1, Or.inr h3⟩ | exact bI_f (fun z => by first | exact h1 z.1 | exact z.2.elim h2 h3)) dX0_newNoteMustWait_31
  · skip
    refine lv_aload_n S.1 S.2.1 dX0_newNoteMustWait_7 rfl (lv_at hl 0 rfl) ?_
    refine x_get S hE (hC.1) (C := RX0) (T := TX0) (N := 10) rfl inlX0 2 (by decide) (v := .ref (b + 11)) rfl kw2_21 rfl dX0_newNoteMustWait_8 ?_
    refine x_getN S hE (hC.2.2.2.1.1) (C := RX3) (T := TX3) (N := 2) rfl inlX3 1 (by decide) (v := .int (nI (χ.2.1 1).length)) rfl nw14 rfl dX0_newNoteMustWait_11 ?_
    refine lv_iconst (v := (nI 4)) S.1 S.2.1 dX0_newNoteMustWait_14 (by decide) ?_
    refine lv_icmp_ge (tgt := 26) S.1 S.2.1 dX0_newNoteMustWait_15 rfl (fun h2 => ?_) (fun h2 => ?_)
    · skip
      refine lv_iconst (v := (nI 1)) S.1 S.2.1 dX0_newNoteMustWait_26 (by decide) ?_
      refine lv_goto (tgt := 31) S.1 S.2.1 dX0_newNoteMustWait_27 rfl ?_
      subst hQ
      exact x_retR S hr hlk (by first | rfl | decide | exact bI_nar _) (by first | exact bI_t ⟨h1, Or.inl h2⟩ | exact bI_t ⟨h1, Or.inr h3⟩ | exact bI_f (fun z => by first | exact h1 z.1 | exact z.2.elim h2 h3)) dX0_newNoteMustWait_31
    · skip
      refine lv_aload_n S.1 S.2.1 dX0_newNoteMustWait_18 rfl (lv_at hl 0 rfl) ?_
      refine xk_R (v := (chHome χ)) (x_runV (As := []) (rest := []) S hE hS (fun _ h => h.elim) (c_X0_toSendHome l E b χ  _ hC) kv_X0_toSendHome kw17_5 kw11_5 kw11_6 (x_recv hE (hC.1) (ci := 0) rfl) ⟨Nat.le_of_ble_eq_true rfl, Nat.le_of_ble_eq_true rfl⟩ rfl rfl rfl hl.1 rfl (Nat.le_of_ble_eq_true rfl) dX0_newNoteMustWait_19 ⟨Nat.zero_le _, Nat.zero_le _⟩) ?_
      refine lv_iconst (v := (-1)) S.1 S.2.1 dX0_newNoteMustWait_22 (by decide) ?_
      refine lv_icmp_ne (tgt := 30) S.1 S.2.1 dX0_newNoteMustWait_23 rfl (fun h3 => ?_) (fun h3 => ?_)
      · skip
        refine lv_iconst (v := (nI 0)) S.1 S.2.1 dX0_newNoteMustWait_30 (by decide) ?_
        subst hQ
        exact x_retR S hr hlk (by first | rfl | decide | exact bI_nar _) (by first | exact bI_t ⟨h1, Or.inl h2⟩ | exact bI_t ⟨h1, Or.inr h3⟩ | exact bI_f (fun z => by first | exact h1 z.1 | exact z.2.elim h2 h3)) dX0_newNoteMustWait_31
      · skip
        refine lv_iconst (v := (nI 1)) S.1 S.2.1 dX0_newNoteMustWait_26 (by decide) ?_
        refine lv_goto (tgt := 31) S.1 S.2.1 dX0_newNoteMustWait_27 rfl ?_
        subst hQ
        exact x_retR S hr hlk (by first | rfl | decide | exact bI_nar _) (by first | exact bI_t ⟨h1, Or.inl h2⟩ | exact bI_t ⟨h1, Or.inr h3⟩ | exact bI_f (fun z => by first | exact h1 z.1 | exact z.2.elim h2 h3)) dX0_newNoteMustWait_31
abbrev rm_X0_takesNewNote : Room := ({ frames := 5, cells := 0, slots := 0, locals := 110 } : Room)
set_option maxRecDepth 100000 in
set_option maxHeartbeats 600000 in
theorem c_X0_takesNewNote (l : Launch) (E : XE) (b : Nat) (χ : CS) (H : Heap) (hC : ChoP E b χ H) : Rd l E yX0_takesNewNote cX0_takesNewNote 1 (some .boolean) rm_X0_takesNewNote [.ref b] H (bI (chTakes χ)) := by
  refine met_of (by decide) (Nat.le_of_ble_eq_true rfl) (fun p e s m args below meth c hBD Q hQ ls hl => ?_)
  obtain ⟨S, hr, hlk, hnm, hE, hH⟩ := hBD
  subst hH
  have hl : lv_has ls 1 [(0, .ref b)] := hl
  have hS : va_S (fun _ => False) s.heap s.heap [] := va_S.rf
  refine lv_aload_n S.1 S.2.1 dX0_takesNewNote_0 rfl (lv_at hl 0 rfl) ?_
  refine x_get S hE (hC.1) (C := RX0) (T := TX0) (N := 10) rfl inlX0 0 (by decide) (v := .ref (b + 1)) rfl kw2_16 rfl dX0_takesNewNote_1 ?_
  refine x_getN S hE (hC.2.1.1) (C := RX5) (T := TX5) (N := 8) rfl inlX5 7 (by decide) (v := .int (χ.2.2.2 0)) rfl nw13 rfl dX0_takesNewNote_4 ?_
  refine lv_sipush (v := (nI 200)) S.1 S.2.1 dX0_takesNewNote_7 (by decide) ?_
  refine lv_icmp_ge (tgt := 36) S.1 S.2.1 dX0_takesNewNote_10 rfl (fun h1 => ?_) (fun h1 => ?_)
  · skip
    refine lv_iconst (v := (nI 0)) S.1 S.2.1 dX0_takesNewNote_36 (by decide) ?_
    subst hQ
    exact x_retR S hr hlk (by first | rfl | decide | exact bI_nar _) (by first | exact bI_t ⟨i_nle h1, Or.inl h2⟩ | exact bI_t ⟨i_nle h1, Or.inr (i_nle h3)⟩ | exact bI_f (fun z => absurd z.1 (Int32.not_lt.mpr h1)) | exact bI_f (fun z => z.2.elim (fun y => y h2) (fun y => absurd y (Int32.not_lt.mpr h3)))) dX0_takesNewNote_37
  · skip
    refine lv_aload_n S.1 S.2.1 dX0_takesNewNote_13 rfl (lv_at hl 0 rfl) ?_
    refine xk_R (v := (bI (chMust χ))) (x_runV (As := []) (rest := []) S hE hS (fun _ h => h.elim) (c_X0_newNoteMustWait l E b χ _ hC) kv_X0_newNoteMustWait kw17_0 kw17_1 kw17_2 (x_recv hE (hC.1) (ci := 0) rfl) ⟨Nat.le_of_ble_eq_true rfl, Nat.le_of_ble_eq_true rfl⟩ rfl rfl rfl hl.1 rfl (Nat.le_of_ble_eq_true rfl) dX0_takesNewNote_14 ⟨Nat.zero_le _, Nat.zero_le _⟩) ?_
    refine lv_if_eq (tgt := 32) S.1 S.2.1 dX0_takesNewNote_17 rfl (fun h2 => ?_) (fun h2 => ?_)
    · skip
      have h2 := bI_0 h2
      refine lv_iconst (v := (nI 1)) S.1 S.2.1 dX0_takesNewNote_32 (by decide) ?_
      refine lv_goto (tgt := 37) S.1 S.2.1 dX0_takesNewNote_33 rfl ?_
      subst hQ
      exact x_retR S hr hlk (by first | rfl | decide | exact bI_nar _) (by first | exact bI_t ⟨i_nle h1, Or.inl h2⟩ | exact bI_t ⟨i_nle h1, Or.inr (i_nle h3)⟩ | exact bI_f (fun z => absurd z.1 (Int32.not_lt.mpr h1)) | exact bI_f (fun z => z.2.elim (fun y => y h2) (fun y => absurd y (Int32.not_lt.mpr h3)))) dX0_takesNewNote_37
    · skip
      have h2 := bI_n0 h2
      refine lv_aload_n S.1 S.2.1 dX0_takesNewNote_20 rfl (lv_at hl 0 rfl) ?_
      refine x_get S hE (hC.1) (C := RX0) (T := TX0) (N := 10) rfl inlX0 3 (by decide) (v := .ref (b + 13)) rfl kw2_22 rfl dX0_takesNewNote_21 ?_
      refine x_getN S hE (hC.2.2.2.2.1.1) (C := RX3) (T := TX3) (N := 2) rfl inlX3 1 (by decide) (v := .int (nI (χ.2.1 2).length)) rfl nw14 rfl dX0_takesNewNote_24 ?_
      refine lv_bipush (v := (nI 6)) S.1 S.2.1 dX0_takesNewNote_27 (by decide) ?_
      refine lv_icmp_ge (tgt := 36) S.1 S.2.1 dX0_takesNewNote_29 rfl (fun h3 => ?_) (fun h3 => ?_)
      · skip
        refine lv_iconst (v := (nI 0)) S.1 S.2.1 dX0_takesNewNote_36 (by decide) ?_
        subst hQ
        exact x_retR S hr hlk (by first | rfl | decide | exact bI_nar _) (by first | exact bI_t ⟨i_nle h1, Or.inl h2⟩ | exact bI_t ⟨i_nle h1, Or.inr (i_nle h3)⟩ | exact bI_f (fun z => absurd z.1 (Int32.not_lt.mpr h1)) | exact bI_f (fun z => z.2.elim (fun y => y h2) (fun y => absurd y (Int32.not_lt.mpr h3)))) dX0_takesNewNote_37
      · skip
        refine lv_iconst (v := (nI 1)) S.1 S.2.1 dX0_takesNewNote_32 (by decide) ?_
        refine lv_goto (tgt := 37) S.1 S.2.1 dX0_takesNewNote_33 rfl ?_
        subst hQ
        exact x_retR S hr hlk (by first | rfl | decide | exact bI_nar _) (by first | exact bI_t ⟨i_nle h1, Or.inl h2⟩ | exact bI_t ⟨i_nle h1, Or.inr (i_nle h3)⟩ | exact bI_f (fun z => absurd z.1 (Int32.not_lt.mpr h1)) | exact bI_f (fun z => z.2.elim (fun y => y h2) (fun y => absurd y (Int32.not_lt.mpr h3)))) dX0_takesNewNote_37
abbrev rm_X0_levelsOf : Room := ({ frames := 2, cells := 0, slots := 0, locals := 42 } : Room)
set_option maxRecDepth 100000 in
set_option maxHeartbeats 600000 in
theorem c_X0_levelsOf (l : Launch) (E : XE) (b a N : Nat) (χ : CS) (L : List Int32) (p0 : Int32) (H : Heap) (hC : ChoP E b χ H) (hL : LinP E a N L H) (hN : N < 2 ^ 31) : Rd l E yX0_levelsOf cX0_levelsOf 6 (some .int) rm_X0_levelsOf [.ref b, .ref a, .int p0] H (lvOf χ.1 p0 L) := by
  refine met_of (by decide) (Nat.le_of_ble_eq_true rfl) (fun p e s m args below meth c hBD Q hQ ls hl => ?_)
  obtain ⟨S, hr, hlk, hnm, hE, hH⟩ := hBD
  subst hH
  have hl : lv_has ls 6 [(0, .ref b), (1, .ref a), (2, .int p0)] := hl
  have hS : va_S (fun _ => False) s.heap s.heap [] := va_S.rf
  have hLe := hL.2.1
  refine lv_iconst (v := (nI 0)) S.1 S.2.1 dX0_levelsOf_0 (by decide) ?_
  refine lv_istore_n S.1 S.2.1 dX0_levelsOf_1 rfl hl (by decide) rfl (fun ls hl => ?_)
  have hl : lv_has ls 6 [(3, .int (nI 0)), (0, .ref b), (1, .ref a), (2, .int p0)] := hl
  refine lv_iconst (v := (nI 0)) S.1 S.2.1 dX0_levelsOf_2 (by decide) ?_
  refine lv_istore S.1 S.2.1 dX0_levelsOf_3 hl (by decide) rfl (fun ls hl => ?_)
  have hl : lv_has ls 6 [(4, .int (nI 0)), (3, .int (nI 0)), (0, .ref b), (1, .ref a), (2, .int p0)] := hl
  have hloop5 : ∀ (d : Nat) (i : Nat) (ls : Array Slot), L.length - i = d → i ≤ L.length → lv_has ls 6 [(3, .int ((L.take i).foldl (lvStep χ.1 p0) (nI 0))), (4, .int (nI i)), (0, .ref b), (1, .ref a), (2, .int p0)] → W p l e rm_X0_levelsOf s m args below meth c s.heap [] 0 0 Q (F0 m 5 ls []) := by
    intro d
    induction d using Nat.strongRecOn with
    | ind d ih =>
      intro i ls hd hi  hl
      refine lv_iload S.1 S.2.1 dX0_levelsOf_5 (lv_at hl 1 rfl) ?_
      refine lv_aload_n S.1 S.2.1 dX0_levelsOf_7 rfl (lv_at hl 3 rfl) ?_
      refine x_getN S hE (hL.1) (C := RX3) (T := TX3) (N := 2) rfl inlX3 1 (by decide) (v := .int (nI L.length)) rfl nw14 rfl dX0_levelsOf_8 ?_
      refine lv_icmp_ge (tgt := 63) S.1 S.2.1 dX0_levelsOf_11 rfl (fun h1 => ?_) (fun h1 => ?_)
      · skip
        refine lv_iload_n S.1 S.2.1 dX0_levelsOf_63 rfl (lv_at hl 0 rfl) ?_
        subst hQ
        exact x_retR S hr hlk (rfl) (by rw [lvOf, List.take_of_length_le (ge_of_le (by omega) (by omega) h1)]) dX0_levelsOf_64
      · skip
        have hlt := lt_of_nle (by omega) (by omega) h1
        refine lv_aload_n S.1 S.2.1 dX0_levelsOf_14 rfl (lv_at hl 3 rfl) ?_
        refine lv_iload S.1 S.2.1 dX0_levelsOf_15 (lv_at hl 1 rfl) ?_
        refine xk_R (v := (lnAt L (nI i))) (x_runVN (As := [.int (nI i)]) (rest := []) S hE hS (fun _ h => h.elim) (c_X3_noteAt l E a N L (nI i) _ hL hN) kv_X3_noteAt nw47 kw8_14 kw8_15 (x_recv hE (hL.1) (ci := 3) rfl) ⟨Nat.le_of_ble_eq_true rfl, Nat.le_of_ble_eq_true rfl⟩ rfl rfl rfl hl.1 rfl (Nat.le_of_ble_eq_true rfl) dX0_levelsOf_17 ⟨Nat.zero_le _, Nat.zero_le _⟩) ?_
        refine x_top (y := (L.getD i 0)) (lnAt_nI hlt (by omega)) ?_
        refine lv_istore S.1 S.2.1 dX0_levelsOf_20 hl (by decide) rfl (fun ls hl => ?_)
        have hl : lv_has ls 6 [(5, .int (L.getD i 0)), (3, .int ((L.take i).foldl (lvStep χ.1 p0) (nI 0))), (4, .int (nI i)), (0, .ref b), (1, .ref a), (2, .int p0)] := hl
        refine lv_iload_n S.1 S.2.1 dX0_levelsOf_22 rfl (lv_at hl 1 rfl) ?_
        refine lv_aload_n S.1 S.2.1 dX0_levelsOf_23 rfl (lv_at hl 3 rfl) ?_
        refine x_get S hE (hC.1) (C := RX0) (T := TX0) (N := 10) rfl inlX0 0 (by decide) (v := .ref (b + 1)) rfl kw2_16 rfl dX0_levelsOf_24 ?_
        refine x_getN S hE (hC.2.1.1) (C := RX5) (T := TX5) (N := 8) rfl inlX5 0 (by decide) (v := .ref (b + 1 + 1)) rfl nw1 rfl dX0_levelsOf_27 ?_
        refine lv_iload S.1 S.2.1 dX0_levelsOf_30 (lv_at hl 0 rfl) ?_
        refine xk_R (v := (ntG χ.1 0 (L.getD i 0))) (x_runSN (As := [.ref (b + 1 + 1), .int (L.getD i 0)]) (rest := [.int ((L.take i).foldl (lvStep χ.1 p0) (nI 0))]) S hE hS (fun _ h => h.elim) (c_X7_at l E (b + 1 + (0 + 1)) 200 (χ.1 0) (L.getD i 0) _ (xr_i (hC.2.1.2 0 (by decide))) (by decide)) kv_X7_at nw49 kw8_2 ⟨Nat.le_of_ble_eq_true rfl, Nat.le_of_ble_eq_true rfl⟩ rfl rfl rfl hl.1 rfl (Nat.le_of_ble_eq_true rfl) dX0_levelsOf_32 ⟨Nat.zero_le _, Nat.zero_le _⟩) ?_
        refine lv_iload_n S.1 S.2.1 dX0_levelsOf_35 rfl (lv_at hl 5 rfl) ?_
        refine lv_icmp_ne (tgt := 54) S.1 S.2.1 dX0_levelsOf_36 rfl (fun h2 => ?_) (fun h2 => ?_)
        · skip
          refine lv_iconst (v := (nI 0)) S.1 S.2.1 dX0_levelsOf_54 (by decide) ?_
          refine lv_iadd S.1 S.2.1 dX0_levelsOf_55 ?_
          refine lv_istore_n S.1 S.2.1 dX0_levelsOf_56 rfl hl (by decide) rfl (fun ls hl => ?_)
          have hl : lv_has ls 6 [(3, .int (((L.take i).foldl (lvStep χ.1 p0) (nI 0)) + (nI 0))), (5, .int (L.getD i 0)), (4, .int (nI i)), (0, .ref b), (1, .ref a), (2, .int p0)] := hl
          refine lv_iinc (k := 2) (v := (nI (i + 1))) S.1 S.2.1 dX0_levelsOf_57 hl rfl (iincP i 1) (by decide) rfl (fun ls hl => ?_)
          have hl : lv_has ls 6 [(4, .int (nI (i + 1))), (3, .int (((L.take i).foldl (lvStep χ.1 p0) (nI 0)) + (nI 0))), (5, .int (L.getD i 0)), (0, .ref b), (1, .ref a), (2, .int p0)] := hl
          refine lv_goto (tgt := 5) S.1 S.2.1 dX0_levelsOf_60 rfl ?_
          have hl : lv_has ls 6 [(3, .int ((L.take (i + 1)).foldl (lvStep χ.1 p0) (nI 0))), (4, .int (nI (i + 1))), (0, .ref b), (1, .ref a), (2, .int p0)] := by
            rw [show ((L.take (i + 1)).foldl (lvStep χ.1 p0) (nI 0)) = (((L.take i).foldl (lvStep χ.1 p0) (nI 0)) + (nI 0)) from by rw [fold_s hlt, lvStep]; first | rw [if_pos h2] | rw [if_neg h2]]
            exact lv_sub hl [1, 0, 3, 4, 5] rfl
          exact ih _ (by omega) (i + 1) ls rfl (by omega)  (lv_sub hl [0, 1, 2, 3, 4] rfl)
        · skip
          refine lv_aload_n S.1 S.2.1 dX0_levelsOf_39 rfl (lv_at hl 3 rfl) ?_
          refine x_get S hE (hC.1) (C := RX0) (T := TX0) (N := 10) rfl inlX0 0 (by decide) (v := .ref (b + 1)) rfl kw2_16 rfl dX0_levelsOf_40 ?_
          refine x_getN S hE (hC.2.1.1) (C := RX5) (T := TX5) (N := 8) rfl inlX5 4 (by decide) (v := .ref (b + 1 + 5)) rfl nw9 rfl dX0_levelsOf_43 ?_
          refine lv_iload S.1 S.2.1 dX0_levelsOf_46 (lv_at hl 0 rfl) ?_
          refine xk_R (v := (ntG χ.1 4 (L.getD i 0))) (x_runSN (As := [.ref (b + 1 + 5), .int (L.getD i 0)]) (rest := [.int ((L.take i).foldl (lvStep χ.1 p0) (nI 0))]) S hE hS (fun _ h => h.elim) (c_X7_at l E (b + 1 + (4 + 1)) 200 (χ.1 4) (L.getD i 0) _ (xr_i (hC.2.1.2 4 (by decide))) (by decide)) kv_X7_at nw49 kw8_2 ⟨Nat.le_of_ble_eq_true rfl, Nat.le_of_ble_eq_true rfl⟩ rfl rfl rfl hl.1 rfl (Nat.le_of_ble_eq_true rfl) dX0_levelsOf_48 ⟨Nat.zero_le _, Nat.zero_le _⟩) ?_
          refine lv_goto (tgt := 55) S.1 S.2.1 dX0_levelsOf_51 rfl ?_
          refine lv_iadd S.1 S.2.1 dX0_levelsOf_55 ?_
          refine lv_istore_n S.1 S.2.1 dX0_levelsOf_56 rfl hl (by decide) rfl (fun ls hl => ?_)
          have hl : lv_has ls 6 [(3, .int (((L.take i).foldl (lvStep χ.1 p0) (nI 0)) + (ntG χ.1 4 (L.getD i 0)))), (5, .int (L.getD i 0)), (4, .int (nI i)), (0, .ref b), (1, .ref a), (2, .int p0)] := hl
          refine lv_iinc (k := 2) (v := (nI (i + 1))) S.1 S.2.1 dX0_levelsOf_57 hl rfl (iincP i 1) (by decide) rfl (fun ls hl => ?_)
          have hl : lv_has ls 6 [(4, .int (nI (i + 1))), (3, .int (((L.take i).foldl (lvStep χ.1 p0) (nI 0)) + (ntG χ.1 4 (L.getD i 0)))), (5, .int (L.getD i 0)), (0, .ref b), (1, .ref a), (2, .int p0)] := hl
          refine lv_goto (tgt := 5) S.1 S.2.1 dX0_levelsOf_60 rfl ?_
          have hl : lv_has ls 6 [(3, .int ((L.take (i + 1)).foldl (lvStep χ.1 p0) (nI 0))), (4, .int (nI (i + 1))), (0, .ref b), (1, .ref a), (2, .int p0)] := by
            rw [show ((L.take (i + 1)).foldl (lvStep χ.1 p0) (nI 0)) = (((L.take i).foldl (lvStep χ.1 p0) (nI 0)) + (ntG χ.1 4 (L.getD i 0))) from by rw [fold_s hlt, lvStep]; first | rw [if_pos h2] | rw [if_neg h2]]
            exact lv_sub hl [1, 0, 3, 4, 5] rfl
          exact ih _ (by omega) (i + 1) ls rfl (by omega)  (lv_sub hl [0, 1, 2, 3, 4] rfl)
  exact hloop5 _ 0 ls rfl (Nat.zero_le _)  (lv_sub hl [1, 0, 2, 3, 4] rfl)
abbrev rm_X0_howManyOf : Room := ({ frames := 2, cells := 0, slots := 0, locals := 42 } : Room)
set_option maxRecDepth 100000 in
set_option maxHeartbeats 600000 in
theorem c_X0_howManyOf (l : Launch) (E : XE) (b a N : Nat) (χ : CS) (L : List Int32) (p0 : Int32) (H : Heap) (hC : ChoP E b χ H) (hL : LinP E a N L H) (hN : N < 2 ^ 31) : Rd l E yX0_howManyOf cX0_howManyOf 5 (some .int) rm_X0_howManyOf [.ref b, .ref a, .int p0] H (hmOf χ.1 p0 L) := by
  refine met_of (by decide) (Nat.le_of_ble_eq_true rfl) (fun p e s m args below meth c hBD Q hQ ls hl => ?_)
  obtain ⟨S, hr, hlk, hnm, hE, hH⟩ := hBD
  subst hH
  have hl : lv_has ls 5 [(0, .ref b), (1, .ref a), (2, .int p0)] := hl
  have hS : va_S (fun _ => False) s.heap s.heap [] := va_S.rf
  have hLe := hL.2.1
  refine lv_iconst (v := (nI 0)) S.1 S.2.1 dX0_howManyOf_0 (by decide) ?_
  refine lv_istore_n S.1 S.2.1 dX0_howManyOf_1 rfl hl (by decide) rfl (fun ls hl => ?_)
  have hl : lv_has ls 5 [(3, .int (nI 0)), (0, .ref b), (1, .ref a), (2, .int p0)] := hl
  refine lv_iconst (v := (nI 0)) S.1 S.2.1 dX0_howManyOf_2 (by decide) ?_
  refine lv_istore S.1 S.2.1 dX0_howManyOf_3 hl (by decide) rfl (fun ls hl => ?_)
  have hl : lv_has ls 5 [(4, .int (nI 0)), (3, .int (nI 0)), (0, .ref b), (1, .ref a), (2, .int p0)] := hl
  have hloop5 : ∀ (d : Nat) (i : Nat) (ls : Array Slot), L.length - i = d → i ≤ L.length → lv_has ls 5 [(3, .int ((L.take i).foldl (hmStep χ.1 p0) (nI 0))), (4, .int (nI i)), (0, .ref b), (1, .ref a), (2, .int p0)] → W p l e rm_X0_howManyOf s m args below meth c s.heap [] 0 0 Q (F0 m 5 ls []) := by
    intro d
    induction d using Nat.strongRecOn with
    | ind d ih =>
      intro i ls hd hi  hl
      refine lv_iload S.1 S.2.1 dX0_howManyOf_5 (lv_at hl 1 rfl) ?_
      refine lv_aload_n S.1 S.2.1 dX0_howManyOf_7 rfl (lv_at hl 3 rfl) ?_
      refine x_getN S hE (hL.1) (C := RX3) (T := TX3) (N := 2) rfl inlX3 1 (by decide) (v := .int (nI L.length)) rfl nw14 rfl dX0_howManyOf_8 ?_
      refine lv_icmp_ge (tgt := 48) S.1 S.2.1 dX0_howManyOf_11 rfl (fun h1 => ?_) (fun h1 => ?_)
      · skip
        refine lv_iload_n S.1 S.2.1 dX0_howManyOf_48 rfl (lv_at hl 0 rfl) ?_
        subst hQ
        exact x_retR S hr hlk (rfl) (by rw [hmOf, List.take_of_length_le (ge_of_le (by omega) (by omega) h1)]) dX0_howManyOf_49
      · skip
        have hlt := lt_of_nle (by omega) (by omega) h1
        refine lv_iload_n S.1 S.2.1 dX0_howManyOf_14 rfl (lv_at hl 0 rfl) ?_
        refine lv_aload_n S.1 S.2.1 dX0_howManyOf_15 rfl (lv_at hl 2 rfl) ?_
        refine x_get S hE (hC.1) (C := RX0) (T := TX0) (N := 10) rfl inlX0 0 (by decide) (v := .ref (b + 1)) rfl kw2_16 rfl dX0_howManyOf_16 ?_
        refine x_getN S hE (hC.2.1.1) (C := RX5) (T := TX5) (N := 8) rfl inlX5 0 (by decide) (v := .ref (b + 1 + 1)) rfl nw1 rfl dX0_howManyOf_19 ?_
        refine lv_aload_n S.1 S.2.1 dX0_howManyOf_22 rfl (lv_at hl 3 rfl) ?_
        refine lv_iload S.1 S.2.1 dX0_howManyOf_23 (lv_at hl 1 rfl) ?_
        refine xk_R (v := (lnAt L (nI i))) (x_runVN (As := [.int (nI i)]) (rest := [.ref (b + 1 + 1), .int ((L.take i).foldl (hmStep χ.1 p0) (nI 0))]) S hE hS (fun _ h => h.elim) (c_X3_noteAt l E a N L (nI i) _ hL hN) kv_X3_noteAt nw47 kw8_14 kw8_15 (x_recv hE (hL.1) (ci := 3) rfl) ⟨Nat.le_of_ble_eq_true rfl, Nat.le_of_ble_eq_true rfl⟩ rfl rfl rfl hl.1 rfl (Nat.le_of_ble_eq_true rfl) dX0_howManyOf_25 ⟨Nat.zero_le _, Nat.zero_le _⟩) ?_
        refine x_top (y := (L.getD i 0)) (lnAt_nI hlt (by omega)) ?_
        refine xk_R (v := (ntG χ.1 0 (L.getD i 0))) (x_runSN (As := [.ref (b + 1 + 1), .int (L.getD i 0)]) (rest := [.int ((L.take i).foldl (hmStep χ.1 p0) (nI 0))]) S hE hS (fun _ h => h.elim) (c_X7_at l E (b + 1 + (0 + 1)) 200 (χ.1 0) (L.getD i 0) _ (xr_i (hC.2.1.2 0 (by decide))) (by decide)) kv_X7_at nw49 kw8_2 ⟨Nat.le_of_ble_eq_true rfl, Nat.le_of_ble_eq_true rfl⟩ rfl rfl rfl hl.1 rfl (Nat.le_of_ble_eq_true rfl) dX0_howManyOf_28 ⟨Nat.zero_le _, Nat.zero_le _⟩) ?_
        refine lv_iload_n S.1 S.2.1 dX0_howManyOf_31 rfl (lv_at hl 4 rfl) ?_
        refine lv_icmp_ne (tgt := 39) S.1 S.2.1 dX0_howManyOf_32 rfl (fun h2 => ?_) (fun h2 => ?_)
        · skip
          refine lv_iconst (v := (nI 0)) S.1 S.2.1 dX0_howManyOf_39 (by decide) ?_
          refine lv_iadd S.1 S.2.1 dX0_howManyOf_40 ?_
          refine lv_istore_n S.1 S.2.1 dX0_howManyOf_41 rfl hl (by decide) rfl (fun ls hl => ?_)
          have hl : lv_has ls 5 [(3, .int (((L.take i).foldl (hmStep χ.1 p0) (nI 0)) + (nI 0))), (4, .int (nI i)), (0, .ref b), (1, .ref a), (2, .int p0)] := hl
          refine lv_iinc (k := 1) (v := (nI (i + 1))) S.1 S.2.1 dX0_howManyOf_42 hl rfl (iincP i 1) (by decide) rfl (fun ls hl => ?_)
          have hl : lv_has ls 5 [(4, .int (nI (i + 1))), (3, .int (((L.take i).foldl (hmStep χ.1 p0) (nI 0)) + (nI 0))), (0, .ref b), (1, .ref a), (2, .int p0)] := hl
          refine lv_goto (tgt := 5) S.1 S.2.1 dX0_howManyOf_45 rfl ?_
          have hl : lv_has ls 5 [(3, .int ((L.take (i + 1)).foldl (hmStep χ.1 p0) (nI 0))), (4, .int (nI (i + 1))), (0, .ref b), (1, .ref a), (2, .int p0)] := by
            rw [show ((L.take (i + 1)).foldl (hmStep χ.1 p0) (nI 0)) = (((L.take i).foldl (hmStep χ.1 p0) (nI 0)) + (nI 0)) from by rw [fold_s hlt, hmStep]; first | rw [if_pos h2] | rw [if_neg h2]]
            exact lv_sub hl [1, 0, 2, 3, 4] rfl
          exact ih _ (by omega) (i + 1) ls rfl (by omega)  (lv_sub hl [0, 1, 2, 3, 4] rfl)
        · skip
          refine lv_iconst (v := (nI 1)) S.1 S.2.1 dX0_howManyOf_35 (by decide) ?_
          refine lv_goto (tgt := 40) S.1 S.2.1 dX0_howManyOf_36 rfl ?_
          refine lv_iadd S.1 S.2.1 dX0_howManyOf_40 ?_
          refine lv_istore_n S.1 S.2.1 dX0_howManyOf_41 rfl hl (by decide) rfl (fun ls hl => ?_)
          have hl : lv_has ls 5 [(3, .int (((L.take i).foldl (hmStep χ.1 p0) (nI 0)) + (nI 1))), (4, .int (nI i)), (0, .ref b), (1, .ref a), (2, .int p0)] := hl
          refine lv_iinc (k := 1) (v := (nI (i + 1))) S.1 S.2.1 dX0_howManyOf_42 hl rfl (iincP i 1) (by decide) rfl (fun ls hl => ?_)
          have hl : lv_has ls 5 [(4, .int (nI (i + 1))), (3, .int (((L.take i).foldl (hmStep χ.1 p0) (nI 0)) + (nI 1))), (0, .ref b), (1, .ref a), (2, .int p0)] := hl
          refine lv_goto (tgt := 5) S.1 S.2.1 dX0_howManyOf_45 rfl ?_
          have hl : lv_has ls 5 [(3, .int ((L.take (i + 1)).foldl (hmStep χ.1 p0) (nI 0))), (4, .int (nI (i + 1))), (0, .ref b), (1, .ref a), (2, .int p0)] := by
            rw [show ((L.take (i + 1)).foldl (hmStep χ.1 p0) (nI 0)) = (((L.take i).foldl (hmStep χ.1 p0) (nI 0)) + (nI 1)) from by rw [fold_s hlt, hmStep]; first | rw [if_pos h2] | rw [if_neg h2]]
            exact lv_sub hl [1, 0, 2, 3, 4] rfl
          exact ih _ (by omega) (i + 1) ls rfl (by omega)  (lv_sub hl [0, 1, 2, 3, 4] rfl)
  exact hloop5 _ 0 ls rfl (Nat.zero_le _)  (lv_sub hl [1, 0, 2, 3, 4] rfl)
abbrev rm_X0_sum : Room := ({ frames := 3, cells := 0, slots := 0, locals := 67 } : Room)
set_option maxRecDepth 100000 in
set_option maxHeartbeats 600000 in
theorem c_X0_sum (l : Launch) (E : XE) (b : Nat) (χ : CS) (H : Heap) (hC : ChoP E b χ H) : Rd l E yX0_sum cX0_sum 3 (some .int) rm_X0_sum [.ref b] H (chSum χ) := by
  refine met_of (by decide) (Nat.le_of_ble_eq_true rfl) (fun p e s m args below meth c hBD Q hQ ls hl => ?_)
  obtain ⟨S, hr, hlk, hnm, hE, hH⟩ := hBD
  subst hH
  have hl : lv_has ls 3 [(0, .ref b)] := hl
  have hS : va_S (fun _ => False) s.heap s.heap [] := va_S.rf
  refine lv_iconst (v := (nI 0)) S.1 S.2.1 dX0_sum_0 (by decide) ?_
  refine lv_istore_n S.1 S.2.1 dX0_sum_1 rfl hl (by decide) rfl (fun ls hl => ?_)
  have hl : lv_has ls 3 [(1, .int (nI 0)), (0, .ref b)] := hl
  refine lv_iconst (v := (nI 0)) S.1 S.2.1 dX0_sum_2 (by decide) ?_
  refine lv_istore_n S.1 S.2.1 dX0_sum_3 rfl hl (by decide) rfl (fun ls hl => ?_)
  have hl : lv_has ls 3 [(2, .int (nI 0)), (1, .int (nI 0)), (0, .ref b)] := hl
  have hloop4 : ∀ (d : Nat) (k : Nat) (ls : Array Slot), 4 - k = d → k ≤ 4 → lv_has ls 3 [(1, .int (chSumN χ k)), (2, .int (nI k)), (0, .ref b)] → W p l e rm_X0_sum s m args below meth c s.heap [] 0 0 Q (F0 m 4 ls []) := by
    intro d
    induction d using Nat.strongRecOn with
    | ind d ih =>
      intro k ls hd hk  hl
      refine lv_iload_n S.1 S.2.1 dX0_sum_4 rfl (lv_at hl 1 rfl) ?_
      refine lv_iconst (v := (nI 4)) S.1 S.2.1 dX0_sum_5 (by decide) ?_
      refine lv_icmp_ge (tgt := 37) S.1 S.2.1 dX0_sum_6 rfl (fun h1 => ?_) (fun h1 => ?_)
      · skip
        refine lv_iload_n S.1 S.2.1 dX0_sum_37 rfl (lv_at hl 0 rfl) ?_
        subst hQ
        exact x_retR S hr hlk (rfl) (by have h9 : k = 4 := (by have := ge_of_le (by omega) (by omega) h1; omega); subst h9; rfl) dX0_sum_38
      · skip
        refine lv_iload_n S.1 S.2.1 dX0_sum_9 rfl (lv_at hl 0 rfl) ?_
        refine lv_aload_n S.1 S.2.1 dX0_sum_10 rfl (lv_at hl 2 rfl) ?_
        refine lv_aload_n S.1 S.2.1 dX0_sum_11 rfl (lv_at hl 2 rfl) ?_
        refine x_get S hE (hC.1) (C := RX0) (T := TX0) (N := 10) rfl inlX0 1 (by decide) (v := .ref (b + 9)) rfl kw2_20 rfl dX0_sum_12 ?_
        refine lv_iload_n S.1 S.2.1 dX0_sum_15 rfl (lv_at hl 1 rfl) ?_
        refine xk_R (v := (lvOf χ.1 (nI k) (χ.2.1 0))) (x_runV (As := [.ref (b + 9), .int (nI k)]) (rest := [.int (chSumN χ k)]) S hE hS (fun _ h => h.elim) (c_X0_levelsOf l E b (b + 9) 8 χ (χ.2.1 0) (nI k) _ hC hC.2.2.1 (by decide)) kv_X0_levelsOf kw8_10 kw8_11 kw8_12 (x_recv hE (hC.1) (ci := 0) rfl) ⟨Nat.le_of_ble_eq_true rfl, Nat.le_of_ble_eq_true rfl⟩ rfl rfl rfl hl.1 rfl (Nat.le_of_ble_eq_true rfl) dX0_sum_16 ⟨Nat.zero_le _, Nat.zero_le _⟩) ?_
        refine lv_aload_n S.1 S.2.1 dX0_sum_19 rfl (lv_at hl 2 rfl) ?_
        refine lv_aload_n S.1 S.2.1 dX0_sum_20 rfl (lv_at hl 2 rfl) ?_
        refine x_get S hE (hC.1) (C := RX0) (T := TX0) (N := 10) rfl inlX0 2 (by decide) (v := .ref (b + 11)) rfl kw2_21 rfl dX0_sum_21 ?_
        refine lv_iload_n S.1 S.2.1 dX0_sum_24 rfl (lv_at hl 1 rfl) ?_
        refine xk_R (v := (lvOf χ.1 (nI k) (χ.2.1 1))) (x_runV (As := [.ref (b + 11), .int (nI k)]) (rest := [.int (lvOf χ.1 (nI k) (χ.2.1 0)), .int (chSumN χ k)]) S hE hS (fun _ h => h.elim) (c_X0_levelsOf l E b (b + 11) 4 χ (χ.2.1 1) (nI k) _ hC hC.2.2.2.1 (by decide)) kv_X0_levelsOf kw8_10 kw8_11 kw8_12 (x_recv hE (hC.1) (ci := 0) rfl) ⟨Nat.le_of_ble_eq_true rfl, Nat.le_of_ble_eq_true rfl⟩ rfl rfl rfl hl.1 rfl (Nat.le_of_ble_eq_true rfl) dX0_sum_25 ⟨Nat.zero_le _, Nat.zero_le _⟩) ?_
        refine lv_iadd S.1 S.2.1 dX0_sum_28 ?_
        refine lv_iadd S.1 S.2.1 dX0_sum_29 ?_
        refine lv_istore_n S.1 S.2.1 dX0_sum_30 rfl hl (by decide) rfl (fun ls hl => ?_)
        have hl : lv_has ls 3 [(1, .int ((chSumN χ k) + ((lvOf χ.1 (nI k) (χ.2.1 0)) + (lvOf χ.1 (nI k) (χ.2.1 1))))), (2, .int (nI k)), (0, .ref b)] := hl
        refine lv_iinc (k := 1) (v := (nI (k + 1))) S.1 S.2.1 dX0_sum_31 hl rfl (iincP k 1) (by decide) rfl (fun ls hl => ?_)
        have hl : lv_has ls 3 [(2, .int (nI (k + 1))), (1, .int ((chSumN χ k) + ((lvOf χ.1 (nI k) (χ.2.1 0)) + (lvOf χ.1 (nI k) (χ.2.1 1))))), (0, .ref b)] := hl
        refine lv_goto (tgt := 4) S.1 S.2.1 dX0_sum_34 rfl ?_
        have hlt : k < 4 := lt_of_nle (by omega) (by omega) h1
        have hl : lv_has ls 3 [(1, .int (chSumN χ (k + 1))), (2, .int (nI (k + 1))), (0, .ref b)] := by
          rw [show (chSumN χ (k + 1)) = ((chSumN χ k) + ((lvOf χ.1 (nI k) (χ.2.1 0)) + (lvOf χ.1 (nI k) (χ.2.1 1)))) from by rfl]
          exact lv_sub hl [1, 0, 2] rfl
        exact ih _ (by omega) (k + 1) ls rfl (by omega)  (lv_sub hl [0, 1, 2] rfl)
  exact hloop4 _ 0 ls rfl (Nat.zero_le _)  (lv_sub hl [1, 0, 2] rfl)
abbrev rm_X0_heardOfNote : Room := ({ frames := 1, cells := 0, slots := 0, locals := 21 } : Room)
set_option maxRecDepth 100000 in
set_option maxHeartbeats 600000 in
theorem c_X0_heardOfNote (l : Launch) (E : XE) (b : Nat) (χ : CS) (x : Int32) (s0 : Int32) (H : Heap) (hC : ChoP E b χ H) : Rd l E yX0_heardOfNote cX0_heardOfNote 5 (some .int) rm_X0_heardOfNote [.ref b, .int x, .int s0] H (chHrd χ x s0) := by
  refine met_of (by decide) (Nat.le_of_ble_eq_true rfl) (fun p e s m args below meth c hBD Q hQ ls hl => ?_)
  obtain ⟨S, hr, hlk, hnm, hE, hH⟩ := hBD
  subst hH
  have hl : lv_has ls 5 [(0, .ref b), (1, .int x), (2, .int s0)] := hl
  have hS : va_S (fun _ => False) s.heap s.heap [] := va_S.rf
  refine lv_aload_n S.1 S.2.1 dX0_heardOfNote_0 rfl (lv_at hl 0 rfl) ?_
  refine x_get S hE (hC.1) (C := RX0) (T := TX0) (N := 10) rfl inlX0 4 (by decide) (v := .ref (b + 15)) rfl kw2_23 rfl dX0_heardOfNote_1 ?_
  refine lv_iconst (v := (nI 2)) S.1 S.2.1 dX0_heardOfNote_4 (by decide) ?_
  refine xk_R (v := (xat χ.2.2.1 3 (nI 2))) (x_runSN (As := [.ref (b + 15), .int (nI 2)]) (rest := []) S hE hS (fun _ h => h.elim) (c_X7_at l E (b + 15) 3 χ.2.2.1 (nI 2) _ (xr_i hC.2.2.2.2.2.1) (by decide)) kv_X7_at nw49 kw8_2 ⟨Nat.le_of_ble_eq_true rfl, Nat.le_of_ble_eq_true rfl⟩ rfl rfl rfl hl.1 rfl (Nat.le_of_ble_eq_true rfl) dX0_heardOfNote_5 ⟨Nat.zero_le _, Nat.zero_le _⟩) ?_
  refine lv_istore_n S.1 S.2.1 dX0_heardOfNote_8 rfl hl (by decide) rfl (fun ls hl => ?_)
  have hl : lv_has ls 5 [(3, .int (xat χ.2.2.1 3 (nI 2))), (0, .ref b), (1, .int x), (2, .int s0)] := hl
  refine lv_aload_n S.1 S.2.1 dX0_heardOfNote_9 rfl (lv_at hl 1 rfl) ?_
  refine x_get S hE (hC.1) (C := RX0) (T := TX0) (N := 10) rfl inlX0 0 (by decide) (v := .ref (b + 1)) rfl kw2_16 rfl dX0_heardOfNote_10 ?_
  refine x_getN S hE (hC.2.1.1) (C := RX5) (T := TX5) (N := 8) rfl inlX5 4 (by decide) (v := .ref (b + 1 + 5)) rfl nw9 rfl dX0_heardOfNote_13 ?_
  refine lv_iload_n S.1 S.2.1 dX0_heardOfNote_16 rfl (lv_at hl 2 rfl) ?_
  refine xk_R (v := (ntG χ.1 4 x)) (x_runSN (As := [.ref (b + 1 + 5), .int x]) (rest := []) S hE hS (fun _ h => h.elim) (c_X7_at l E (b + 1 + (4 + 1)) 200 (χ.1 4) x _ (xr_i (hC.2.1.2 4 (by decide))) (by decide)) kv_X7_at nw49 kw8_2 ⟨Nat.le_of_ble_eq_true rfl, Nat.le_of_ble_eq_true rfl⟩ rfl rfl rfl hl.1 rfl (Nat.le_of_ble_eq_true rfl) dX0_heardOfNote_17 ⟨Nat.zero_le _, Nat.zero_le _⟩) ?_
  refine lv_istore S.1 S.2.1 dX0_heardOfNote_20 hl (by decide) rfl (fun ls hl => ?_)
  have hl : lv_has ls 5 [(4, .int (ntG χ.1 4 x)), (3, .int (xat χ.2.2.1 3 (nI 2))), (0, .ref b), (1, .int x), (2, .int s0)] := hl
  refine lv_iload_n S.1 S.2.1 dX0_heardOfNote_22 rfl (lv_at hl 4 rfl) ?_
  refine lv_iload_n S.1 S.2.1 dX0_heardOfNote_23 rfl (lv_at hl 1 rfl) ?_
  refine lv_icmp_le (tgt := 31) S.1 S.2.1 dX0_heardOfNote_24 rfl (fun h1 => ?_) (fun h1 => ?_)
  · skip
    refine lv_iload S.1 S.2.1 dX0_heardOfNote_31 (lv_at hl 0 rfl) ?_
    refine lv_goto (tgt := 42) S.1 S.2.1 dX0_heardOfNote_33 rfl ?_
    subst hQ
    exact x_retR S hr hlk (rfl) (by rw [chHrd]; first | rw [if_pos h1] | rw [if_neg h1, if_pos h2] | rw [if_neg h1, if_neg h2]) dX0_heardOfNote_42
  · skip
    refine lv_iload_n S.1 S.2.1 dX0_heardOfNote_27 rfl (lv_at hl 4 rfl) ?_
    refine lv_if_gt (tgt := 36) S.1 S.2.1 dX0_heardOfNote_28 rfl (fun h2 => ?_) (fun h2 => ?_)
    · skip
      refine lv_iload S.1 S.2.1 dX0_heardOfNote_36 (lv_at hl 0 rfl) ?_
      refine lv_iload_n S.1 S.2.1 dX0_heardOfNote_38 rfl (lv_at hl 1 rfl) ?_
      refine lv_imul S.1 S.2.1 dX0_heardOfNote_39 ?_
      refine lv_iload_n S.1 S.2.1 dX0_heardOfNote_40 rfl (lv_at hl 4 rfl) ?_
      refine lv_idiv S.1 S.2.1 dX0_heardOfNote_41 (fun z => by rw [z] at h2; exact absurd h2 (by decide)) ?_
      subst hQ
      exact x_retR S hr hlk (rfl) (by rw [chHrd]; first | rw [if_pos h1] | rw [if_neg h1, if_pos h2] | rw [if_neg h1, if_neg h2]) dX0_heardOfNote_42
    · skip
      refine lv_iload S.1 S.2.1 dX0_heardOfNote_31 (lv_at hl 0 rfl) ?_
      refine lv_goto (tgt := 42) S.1 S.2.1 dX0_heardOfNote_33 rfl ?_
      subst hQ
      exact x_retR S hr hlk (rfl) (by rw [chHrd]; first | rw [if_pos h1] | rw [if_neg h1, if_pos h2] | rw [if_neg h1, if_neg h2]) dX0_heardOfNote_42
abbrev rm_X0_heardOfLine : Room := ({ frames := 2, cells := 0, slots := 0, locals := 45 } : Room)
set_option maxRecDepth 100000 in
set_option maxHeartbeats 600000 in
theorem c_X0_heardOfLine (l : Launch) (E : XE) (b a N : Nat) (χ : CS) (L : List Int32) (p0 : Int32) (s0 : Int32) (H : Heap) (hC : ChoP E b χ H) (hL : LinP E a N L H) (hN : N < 2 ^ 31) : Rd l E yX0_heardOfLine cX0_heardOfLine 7 (some .int) rm_X0_heardOfLine [.ref b, .ref a, .int p0, .int s0] H (chHrL χ p0 s0 L) := by
  refine met_of (by decide) (Nat.le_of_ble_eq_true rfl) (fun p e s m args below meth c hBD Q hQ ls hl => ?_)
  obtain ⟨S, hr, hlk, hnm, hE, hH⟩ := hBD
  subst hH
  have hl : lv_has ls 7 [(0, .ref b), (1, .ref a), (2, .int p0), (3, .int s0)] := hl
  have hS : va_S (fun _ => False) s.heap s.heap [] := va_S.rf
  have hLe := hL.2.1
  refine lv_iconst (v := (nI 0)) S.1 S.2.1 dX0_heardOfLine_0 (by decide) ?_
  refine lv_istore S.1 S.2.1 dX0_heardOfLine_1 hl (by decide) rfl (fun ls hl => ?_)
  have hl : lv_has ls 7 [(4, .int (nI 0)), (0, .ref b), (1, .ref a), (2, .int p0), (3, .int s0)] := hl
  refine lv_iconst (v := (nI 0)) S.1 S.2.1 dX0_heardOfLine_3 (by decide) ?_
  refine lv_istore S.1 S.2.1 dX0_heardOfLine_4 hl (by decide) rfl (fun ls hl => ?_)
  have hl : lv_has ls 7 [(5, .int (nI 0)), (4, .int (nI 0)), (0, .ref b), (1, .ref a), (2, .int p0), (3, .int s0)] := hl
  have hloop6 : ∀ (d : Nat) (i : Nat) (ls : Array Slot), L.length - i = d → i ≤ L.length → lv_has ls 7 [(4, .int ((L.take i).foldl (hrStep χ p0 s0) (nI 0))), (5, .int (nI i)), (0, .ref b), (1, .ref a), (2, .int p0), (3, .int s0)] → W p l e rm_X0_heardOfLine s m args below meth c s.heap [] 0 0 Q (F0 m 6 ls []) := by
    intro d
    induction d using Nat.strongRecOn with
    | ind d ih =>
      intro i ls hd hi  hl
      refine lv_iload S.1 S.2.1 dX0_heardOfLine_6 (lv_at hl 1 rfl) ?_
      refine lv_aload_n S.1 S.2.1 dX0_heardOfLine_8 rfl (lv_at hl 3 rfl) ?_
      refine x_getN S hE (hL.1) (C := RX3) (T := TX3) (N := 2) rfl inlX3 1 (by decide) (v := .int (nI L.length)) rfl nw14 rfl dX0_heardOfLine_9 ?_
      refine lv_icmp_ge (tgt := 61) S.1 S.2.1 dX0_heardOfLine_12 rfl (fun h1 => ?_) (fun h1 => ?_)
      · skip
        refine lv_iload S.1 S.2.1 dX0_heardOfLine_61 (lv_at hl 0 rfl) ?_
        subst hQ
        exact x_retR S hr hlk (rfl) (by rw [chHrL, List.take_of_length_le (ge_of_le (by omega) (by omega) h1)]) dX0_heardOfLine_63
      · skip
        have hlt := lt_of_nle (by omega) (by omega) h1
        refine lv_aload_n S.1 S.2.1 dX0_heardOfLine_15 rfl (lv_at hl 3 rfl) ?_
        refine lv_iload S.1 S.2.1 dX0_heardOfLine_16 (lv_at hl 1 rfl) ?_
        refine xk_R (v := (lnAt L (nI i))) (x_runVN (As := [.int (nI i)]) (rest := []) S hE hS (fun _ h => h.elim) (c_X3_noteAt l E a N L (nI i) _ hL hN) kv_X3_noteAt nw47 kw8_14 kw8_15 (x_recv hE (hL.1) (ci := 3) rfl) ⟨Nat.le_of_ble_eq_true rfl, Nat.le_of_ble_eq_true rfl⟩ rfl rfl rfl hl.1 rfl (Nat.le_of_ble_eq_true rfl) dX0_heardOfLine_18 ⟨Nat.zero_le _, Nat.zero_le _⟩) ?_
        refine x_top (y := (L.getD i 0)) (lnAt_nI hlt (by omega)) ?_
        refine lv_istore S.1 S.2.1 dX0_heardOfLine_21 hl (by decide) rfl (fun ls hl => ?_)
        have hl : lv_has ls 7 [(6, .int (L.getD i 0)), (4, .int ((L.take i).foldl (hrStep χ p0 s0) (nI 0))), (5, .int (nI i)), (0, .ref b), (1, .ref a), (2, .int p0), (3, .int s0)] := hl
        refine lv_iload S.1 S.2.1 dX0_heardOfLine_23 (lv_at hl 1 rfl) ?_
        refine lv_aload_n S.1 S.2.1 dX0_heardOfLine_25 rfl (lv_at hl 3 rfl) ?_
        refine x_get S hE (hC.1) (C := RX0) (T := TX0) (N := 10) rfl inlX0 0 (by decide) (v := .ref (b + 1)) rfl kw2_16 rfl dX0_heardOfLine_26 ?_
        refine x_getN S hE (hC.2.1.1) (C := RX5) (T := TX5) (N := 8) rfl inlX5 0 (by decide) (v := .ref (b + 1 + 1)) rfl nw1 rfl dX0_heardOfLine_29 ?_
        refine lv_iload S.1 S.2.1 dX0_heardOfLine_32 (lv_at hl 0 rfl) ?_
        refine xk_R (v := (ntG χ.1 0 (L.getD i 0))) (x_runSN (As := [.ref (b + 1 + 1), .int (L.getD i 0)]) (rest := [.int ((L.take i).foldl (hrStep χ p0 s0) (nI 0))]) S hE hS (fun _ h => h.elim) (c_X7_at l E (b + 1 + (0 + 1)) 200 (χ.1 0) (L.getD i 0) _ (xr_i (hC.2.1.2 0 (by decide))) (by decide)) kv_X7_at nw49 kw8_2 ⟨Nat.le_of_ble_eq_true rfl, Nat.le_of_ble_eq_true rfl⟩ rfl rfl rfl hl.1 rfl (Nat.le_of_ble_eq_true rfl) dX0_heardOfLine_34 ⟨Nat.zero_le _, Nat.zero_le _⟩) ?_
        refine lv_iload_n S.1 S.2.1 dX0_heardOfLine_37 rfl (lv_at hl 5 rfl) ?_
        refine lv_icmp_ne (tgt := 51) S.1 S.2.1 dX0_heardOfLine_38 rfl (fun h2 => ?_) (fun h2 => ?_)
        · skip
          refine lv_iconst (v := (nI 0)) S.1 S.2.1 dX0_heardOfLine_51 (by decide) ?_
          refine lv_iadd S.1 S.2.1 dX0_heardOfLine_52 ?_
          refine lv_istore S.1 S.2.1 dX0_heardOfLine_53 hl (by decide) rfl (fun ls hl => ?_)
          have hl : lv_has ls 7 [(4, .int (((L.take i).foldl (hrStep χ p0 s0) (nI 0)) + (nI 0))), (6, .int (L.getD i 0)), (5, .int (nI i)), (0, .ref b), (1, .ref a), (2, .int p0), (3, .int s0)] := hl
          refine lv_iinc (k := 2) (v := (nI (i + 1))) S.1 S.2.1 dX0_heardOfLine_55 hl rfl (iincP i 1) (by decide) rfl (fun ls hl => ?_)
          have hl : lv_has ls 7 [(5, .int (nI (i + 1))), (4, .int (((L.take i).foldl (hrStep χ p0 s0) (nI 0)) + (nI 0))), (6, .int (L.getD i 0)), (0, .ref b), (1, .ref a), (2, .int p0), (3, .int s0)] := hl
          refine lv_goto (tgt := 6) S.1 S.2.1 dX0_heardOfLine_58 rfl ?_
          have hl : lv_has ls 7 [(4, .int ((L.take (i + 1)).foldl (hrStep χ p0 s0) (nI 0))), (5, .int (nI (i + 1))), (0, .ref b), (1, .ref a), (2, .int p0), (3, .int s0)] := by
            rw [show ((L.take (i + 1)).foldl (hrStep χ p0 s0) (nI 0)) = (((L.take i).foldl (hrStep χ p0 s0) (nI 0)) + (nI 0)) from by rw [fold_s hlt, hrStep]; first | rw [if_pos h2] | rw [if_neg h2]]
            exact lv_sub hl [1, 0, 3, 4, 5, 6] rfl
          exact ih _ (by omega) (i + 1) ls rfl (by omega)  (lv_sub hl [0, 1, 2, 3, 4, 5] rfl)
        · skip
          refine lv_aload_n S.1 S.2.1 dX0_heardOfLine_41 rfl (lv_at hl 3 rfl) ?_
          refine lv_iload S.1 S.2.1 dX0_heardOfLine_42 (lv_at hl 0 rfl) ?_
          refine lv_iload_n S.1 S.2.1 dX0_heardOfLine_44 rfl (lv_at hl 6 rfl) ?_
          refine xk_R (v := (chHrd χ (L.getD i 0) s0)) (x_runV (As := [.int (L.getD i 0), .int s0]) (rest := [.int ((L.take i).foldl (hrStep χ p0 s0) (nI 0))]) S hE hS (fun _ h => h.elim) (c_X0_heardOfNote l E b χ (L.getD i 0) s0 _ hC) kv_X0_heardOfNote kw9_21 kw8_18 kw8_19 (x_recv hE (hC.1) (ci := 0) rfl) ⟨Nat.le_of_ble_eq_true rfl, Nat.le_of_ble_eq_true rfl⟩ rfl rfl rfl hl.1 rfl (Nat.le_of_ble_eq_true rfl) dX0_heardOfLine_45 ⟨Nat.zero_le _, Nat.zero_le _⟩) ?_
          refine lv_goto (tgt := 52) S.1 S.2.1 dX0_heardOfLine_48 rfl ?_
          refine lv_iadd S.1 S.2.1 dX0_heardOfLine_52 ?_
          refine lv_istore S.1 S.2.1 dX0_heardOfLine_53 hl (by decide) rfl (fun ls hl => ?_)
          have hl : lv_has ls 7 [(4, .int (((L.take i).foldl (hrStep χ p0 s0) (nI 0)) + (chHrd χ (L.getD i 0) s0))), (6, .int (L.getD i 0)), (5, .int (nI i)), (0, .ref b), (1, .ref a), (2, .int p0), (3, .int s0)] := hl
          refine lv_iinc (k := 2) (v := (nI (i + 1))) S.1 S.2.1 dX0_heardOfLine_55 hl rfl (iincP i 1) (by decide) rfl (fun ls hl => ?_)
          have hl : lv_has ls 7 [(5, .int (nI (i + 1))), (4, .int (((L.take i).foldl (hrStep χ p0 s0) (nI 0)) + (chHrd χ (L.getD i 0) s0))), (6, .int (L.getD i 0)), (0, .ref b), (1, .ref a), (2, .int p0), (3, .int s0)] := hl
          refine lv_goto (tgt := 6) S.1 S.2.1 dX0_heardOfLine_58 rfl ?_
          have hl : lv_has ls 7 [(4, .int ((L.take (i + 1)).foldl (hrStep χ p0 s0) (nI 0))), (5, .int (nI (i + 1))), (0, .ref b), (1, .ref a), (2, .int p0), (3, .int s0)] := by
            rw [show ((L.take (i + 1)).foldl (hrStep χ p0 s0) (nI 0)) = (((L.take i).foldl (hrStep χ p0 s0) (nI 0)) + (chHrd χ (L.getD i 0) s0)) from by rw [fold_s hlt, hrStep]; first | rw [if_pos h2] | rw [if_neg h2]]
            exact lv_sub hl [1, 0, 3, 4, 5, 6] rfl
          exact ih _ (by omega) (i + 1) ls rfl (by omega)  (lv_sub hl [0, 1, 2, 3, 4, 5] rfl)
  exact hloop6 _ 0 ls rfl (Nat.zero_le _)  (lv_sub hl [1, 0, 2, 3, 4, 5] rfl)
abbrev rm_X0_heardOfPart : Room := ({ frames := 4, cells := 0, slots := 0, locals := 89 } : Room)
set_option maxRecDepth 100000 in
set_option maxHeartbeats 600000 in
theorem c_X0_heardOfPart (l : Launch) (E : XE) (b : Nat) (χ : CS) (p0 : Int32) (H : Heap) (hC : ChoP E b χ H) : Rd l E yX0_heardOfPart cX0_heardOfPart 3 (some .int) rm_X0_heardOfPart [.ref b, .int p0] H (chHrP χ p0) := by
  refine met_of (by decide) (Nat.le_of_ble_eq_true rfl) (fun p e s m args below meth c hBD Q hQ ls hl => ?_)
  obtain ⟨S, hr, hlk, hnm, hE, hH⟩ := hBD
  subst hH
  have hl : lv_has ls 3 [(0, .ref b), (1, .int p0)] := hl
  have hS : va_S (fun _ => False) s.heap s.heap [] := va_S.rf
  refine lv_aload_n S.1 S.2.1 dX0_heardOfPart_0 rfl (lv_at hl 0 rfl) ?_
  refine xk_R (v := (chSum χ)) (x_runV (As := []) (rest := []) S hE hS (fun _ h => h.elim) (c_X0_sum l E b χ  _ hC) kv_X0_sum kw9_16 kw8_7 kw8_8 (x_recv hE (hC.1) (ci := 0) rfl) ⟨Nat.le_of_ble_eq_true rfl, Nat.le_of_ble_eq_true rfl⟩ rfl rfl rfl hl.1 rfl (Nat.le_of_ble_eq_true rfl) dX0_heardOfPart_1 ⟨Nat.zero_le _, Nat.zero_le _⟩) ?_
  refine lv_istore_n S.1 S.2.1 dX0_heardOfPart_4 rfl hl (by decide) rfl (fun ls hl => ?_)
  have hl : lv_has ls 3 [(2, .int (chSum χ)), (0, .ref b), (1, .int p0)] := hl
  refine lv_aload_n S.1 S.2.1 dX0_heardOfPart_5 rfl (lv_at hl 1 rfl) ?_
  refine lv_aload_n S.1 S.2.1 dX0_heardOfPart_6 rfl (lv_at hl 1 rfl) ?_
  refine x_get S hE (hC.1) (C := RX0) (T := TX0) (N := 10) rfl inlX0 1 (by decide) (v := .ref (b + 9)) rfl kw2_20 rfl dX0_heardOfPart_7 ?_
  refine lv_iload_n S.1 S.2.1 dX0_heardOfPart_10 rfl (lv_at hl 2 rfl) ?_
  refine lv_iload_n S.1 S.2.1 dX0_heardOfPart_11 rfl (lv_at hl 0 rfl) ?_
  refine xk_R (v := (chHrL χ p0 (chSum χ) (χ.2.1 0))) (x_runV (As := [.ref (b + 9), .int p0, .int (chSum χ)]) (rest := []) S hE hS (fun _ h => h.elim) (c_X0_heardOfLine l E b (b + 9) 8 χ (χ.2.1 0) p0 (chSum χ) _ hC hC.2.2.1 (by decide)) kv_X0_heardOfLine kw9_17 kw9_18 kw9_19 (x_recv hE (hC.1) (ci := 0) rfl) ⟨Nat.le_of_ble_eq_true rfl, Nat.le_of_ble_eq_true rfl⟩ rfl rfl rfl hl.1 rfl (Nat.le_of_ble_eq_true rfl) dX0_heardOfPart_12 ⟨Nat.zero_le _, Nat.zero_le _⟩) ?_
  refine lv_aload_n S.1 S.2.1 dX0_heardOfPart_15 rfl (lv_at hl 1 rfl) ?_
  refine lv_aload_n S.1 S.2.1 dX0_heardOfPart_16 rfl (lv_at hl 1 rfl) ?_
  refine x_get S hE (hC.1) (C := RX0) (T := TX0) (N := 10) rfl inlX0 2 (by decide) (v := .ref (b + 11)) rfl kw2_21 rfl dX0_heardOfPart_17 ?_
  refine lv_iload_n S.1 S.2.1 dX0_heardOfPart_20 rfl (lv_at hl 2 rfl) ?_
  refine lv_iload_n S.1 S.2.1 dX0_heardOfPart_21 rfl (lv_at hl 0 rfl) ?_
  refine xk_R (v := (chHrL χ p0 (chSum χ) (χ.2.1 1))) (x_runV (As := [.ref (b + 11), .int p0, .int (chSum χ)]) (rest := [.int (chHrL χ p0 (chSum χ) (χ.2.1 0))]) S hE hS (fun _ h => h.elim) (c_X0_heardOfLine l E b (b + 11) 4 χ (χ.2.1 1) p0 (chSum χ) _ hC hC.2.2.2.1 (by decide)) kv_X0_heardOfLine kw9_17 kw9_18 kw9_19 (x_recv hE (hC.1) (ci := 0) rfl) ⟨Nat.le_of_ble_eq_true rfl, Nat.le_of_ble_eq_true rfl⟩ rfl rfl rfl hl.1 rfl (Nat.le_of_ble_eq_true rfl) dX0_heardOfPart_22 ⟨Nat.zero_le _, Nat.zero_le _⟩) ?_
  refine lv_iadd S.1 S.2.1 dX0_heardOfPart_25 ?_
  subst hQ
  exact x_retR S hr hlk (rfl) (rfl) dX0_heardOfPart_26
abbrev rm_X0_heardOfAll : Room := ({ frames := 5, cells := 0, slots := 0, locals := 111 } : Room)
set_option maxRecDepth 100000 in
set_option maxHeartbeats 600000 in
theorem c_X0_heardOfAll (l : Launch) (E : XE) (b : Nat) (χ : CS) (H : Heap) (hC : ChoP E b χ H) : Rd l E yX0_heardOfAll cX0_heardOfAll 3 (some .int) rm_X0_heardOfAll [.ref b] H (chHrA χ) := by
  refine met_of (by decide) (Nat.le_of_ble_eq_true rfl) (fun p e s m args below meth c hBD Q hQ ls hl => ?_)
  obtain ⟨S, hr, hlk, hnm, hE, hH⟩ := hBD
  subst hH
  have hl : lv_has ls 3 [(0, .ref b)] := hl
  have hS : va_S (fun _ => False) s.heap s.heap [] := va_S.rf
  refine lv_iconst (v := (nI 0)) S.1 S.2.1 dX0_heardOfAll_0 (by decide) ?_
  refine lv_istore_n S.1 S.2.1 dX0_heardOfAll_1 rfl hl (by decide) rfl (fun ls hl => ?_)
  have hl : lv_has ls 3 [(1, .int (nI 0)), (0, .ref b)] := hl
  refine lv_iconst (v := (nI 0)) S.1 S.2.1 dX0_heardOfAll_2 (by decide) ?_
  refine lv_istore_n S.1 S.2.1 dX0_heardOfAll_3 rfl hl (by decide) rfl (fun ls hl => ?_)
  have hl : lv_has ls 3 [(2, .int (nI 0)), (1, .int (nI 0)), (0, .ref b)] := hl
  have hloop4 : ∀ (d : Nat) (k : Nat) (ls : Array Slot), 4 - k = d → k ≤ 4 → lv_has ls 3 [(1, .int (chHrAN χ k)), (2, .int (nI k)), (0, .ref b)] → W p l e rm_X0_heardOfAll s m args below meth c s.heap [] 0 0 Q (F0 m 4 ls []) := by
    intro d
    induction d using Nat.strongRecOn with
    | ind d ih =>
      intro k ls hd hk  hl
      refine lv_iload_n S.1 S.2.1 dX0_heardOfAll_4 rfl (lv_at hl 1 rfl) ?_
      refine lv_iconst (v := (nI 4)) S.1 S.2.1 dX0_heardOfAll_5 (by decide) ?_
      refine lv_icmp_ge (tgt := 23) S.1 S.2.1 dX0_heardOfAll_6 rfl (fun h1 => ?_) (fun h1 => ?_)
      · skip
        refine lv_iload_n S.1 S.2.1 dX0_heardOfAll_23 rfl (lv_at hl 0 rfl) ?_
        subst hQ
        exact x_retR S hr hlk (rfl) (by have h9 : k = 4 := (by have := ge_of_le (by omega) (by omega) h1; omega); subst h9; rfl) dX0_heardOfAll_24
      · skip
        refine lv_iload_n S.1 S.2.1 dX0_heardOfAll_9 rfl (lv_at hl 0 rfl) ?_
        refine lv_aload_n S.1 S.2.1 dX0_heardOfAll_10 rfl (lv_at hl 2 rfl) ?_
        refine lv_iload_n S.1 S.2.1 dX0_heardOfAll_11 rfl (lv_at hl 1 rfl) ?_
        refine xk_R (v := (chHrP χ (nI k))) (x_runV (As := [.int (nI k)]) (rest := [.int (chHrAN χ k)]) S hE hS (fun _ h => h.elim) (c_X0_heardOfPart l E b χ (nI k) _ hC) kv_X0_heardOfPart kw12_3 kw9_13 kw9_14 (x_recv hE (hC.1) (ci := 0) rfl) ⟨Nat.le_of_ble_eq_true rfl, Nat.le_of_ble_eq_true rfl⟩ rfl rfl rfl hl.1 rfl (Nat.le_of_ble_eq_true rfl) dX0_heardOfAll_12 ⟨Nat.zero_le _, Nat.zero_le _⟩) ?_
        refine lv_iadd S.1 S.2.1 dX0_heardOfAll_15 ?_
        refine lv_istore_n S.1 S.2.1 dX0_heardOfAll_16 rfl hl (by decide) rfl (fun ls hl => ?_)
        have hl : lv_has ls 3 [(1, .int ((chHrAN χ k) + (chHrP χ (nI k)))), (2, .int (nI k)), (0, .ref b)] := hl
        refine lv_iinc (k := 1) (v := (nI (k + 1))) S.1 S.2.1 dX0_heardOfAll_17 hl rfl (iincP k 1) (by decide) rfl (fun ls hl => ?_)
        have hl : lv_has ls 3 [(2, .int (nI (k + 1))), (1, .int ((chHrAN χ k) + (chHrP χ (nI k)))), (0, .ref b)] := hl
        refine lv_goto (tgt := 4) S.1 S.2.1 dX0_heardOfAll_20 rfl ?_
        have hlt : k < 4 := lt_of_nle (by omega) (by omega) h1
        have hl : lv_has ls 3 [(1, .int (chHrAN χ (k + 1))), (2, .int (nI (k + 1))), (0, .ref b)] := by
          rw [show (chHrAN χ (k + 1)) = ((chHrAN χ k) + (chHrP χ (nI k))) from by rfl]
          exact lv_sub hl [1, 0, 2] rfl
        exact ih _ (by omega) (k + 1) ls rfl (by omega)  (lv_sub hl [0, 1, 2] rfl)
  exact hloop4 _ 0 ls rfl (Nat.zero_le _)  (lv_sub hl [1, 0, 2] rfl)
