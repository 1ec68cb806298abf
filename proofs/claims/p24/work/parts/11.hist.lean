/-! 11.hist: walks, by program -/
def hiDrop (h : Nat → CS) : Nat → CS := fun i => if i = 3 then h 0 else h (i + 1)
def hiPut (h : Nat → CS) (k : Nat) (χ : CS) : Nat → CS := fun i => if i = k then chCopy χ (h k) else h i
def hiRec (h : Nat → CS) (sz : Nat) (χ : CS) : Nat → CS := if sz = 4 then hiPut (hiDrop h) 3 χ else hiPut h sz χ
def hiLen (sz : Nat) : Nat := if sz = 4 then 4 else sz + 1
def HiA (E : XE) (a : Nat) (h : Nat → CS) (π : Nat → Nat) (g : Nat → Option Nat) (H : Heap) : Prop := XQ E (a + 1) 4 g H ∧ (∀ i, i < 4 → π i < 4 ∧ g i = some (a + 2 + 18 * π i) ∧ ChoP E (a + 2 + 18 * π i) (h i) H) ∧ ∀ i j, i < 4 → j < 4 → π i = π j → i = j
def HisP (E : XE) (a : Nat) (h : Nat → CS) (sz : Nat) (H : Heap) : Prop := E.2.2.1[0]? = some (E.2.1 2, .object "ChoirBox$Choir") ∧ XO E a 2 [.ref (a + 1), .int (nI sz)] H ∧ sz ≤ 4 ∧ ∃ (π : Nat → Nat) (g : Nat → Option Nat), HiA E a h π g H
theorem HiA.fr {E : XE} {a : Nat} {h : Nat → CS} {π : Nat → Nat} {g : Nat → Option Nat} {H H1 : Heap} (hA : HiA E a h π g H) (hq : ∀ q, bk a 74 q → ¬ q = a → H1[q]? = H[q]?) : HiA E a h π g H1 :=
  ⟨va_at.kept hA.1 (hq (a + 1) ⟨by omega, by omega⟩ (by omega)), fun i hi => ⟨(hA.2.1 i hi).1, (hA.2.1 i hi).2.1, (hA.2.1 i hi).2.2.fr (fun q z => hq q (by obtain ⟨u, v⟩ := z; have := (hA.2.1 i hi).1; exact ⟨by omega, by omega⟩) (by obtain ⟨u, v⟩ := z; omega))⟩, hA.2.2⟩
theorem HisP.fr {E : XE} {a : Nat} {h : Nat → CS} {sz : Nat} {H H1 : Heap} (hP : HisP E a h sz H) (hq : ∀ q, bk a 74 q → H1[q]? = H[q]?) : HisP E a h sz H1 := by
  obtain ⟨h1, h2, h3, π, g, h4⟩ := hP
  exact ⟨h1, va_at.kept h2 (hq a ⟨by omega, by omega⟩), h3, π, g, h4.fr (fun q z _ => hq q z)⟩
theorem ChoP.cp {E : XE} {b : Nat} {χ ψ : CS} {H : Heap} (h : ChoP E b (setS (setS (setS (setS (setL (setG (setL (setL (setL (setS (setT χ (ntCopy ψ.1 χ.1 (ψ.2.2.2 0))) 0 (ψ.2.2.2 0)) 0 (ψ.2.1 0)) 1 (ψ.2.1 1)) 2 (ψ.2.1 2)) (xcpy ψ.2.2.1 3 χ.2.2.1 3 (nI 3))) 3 (ψ.2.1 3)) 1 (ψ.2.2.2 1)) 2 (ψ.2.2.2 2)) 3 (ψ.2.2.2 3)) 4 (ψ.2.2.2 4)) H) : ChoP E b (chCopy ψ χ) H := by
  obtain ⟨h1, h2, h3, h4, h5, h6, h7⟩ := h
  exact ⟨h1, h2, h3, h4, h5, h6, h7⟩
theorem HiA.drop {E : XE} {a : Nat} {h : Nat → CS} {π : Nat → Nat} {g : Nat → Option Nat} {H H1 : Heap} (hA : HiA E a h π g H) (hX : XQ E (a + 1) 4 (va_up (va_up (va_up (va_up g 0 (some (a + 2 + 18 * π 1))) 1 (some (a + 2 + 18 * π 2))) 2 (some (a + 2 + 18 * π 3))) 3 (some (a + 2 + 18 * π 0))) H1) (hO : ∀ q, bk a 74 q → ¬ q = a → ¬ q = a + 1 → H1[q]? = H[q]?) :
    HiA E a (hiDrop h) (fun i => if i = 3 then π 0 else π (i + 1)) (va_up (va_up (va_up (va_up g 0 (some (a + 2 + 18 * π 1))) 1 (some (a + 2 + 18 * π 2))) 2 (some (a + 2 + 18 * π 3))) 3 (some (a + 2 + 18 * π 0))) H1 := by
  have hc : ∀ i, i < 4 → ChoP E (a + 2 + 18 * π i) (h i) H1 := fun i hi => (hA.2.1 i hi).2.2.fr (fun q z => hO q (by obtain ⟨u, v⟩ := z; have := (hA.2.1 i hi).1; exact ⟨by omega, by omega⟩) (by obtain ⟨u, v⟩ := z; omega) (by obtain ⟨u, v⟩ := z; omega))
  have hp : ∀ i, i < 4 → π i < 4 := fun i hi => (hA.2.1 i hi).1
  refine ⟨hX, fun i hi => ?_, fun i j hi hj e => ?_⟩
  · rcases (show i = 0 ∨ i = 1 ∨ i = 2 ∨ i = 3 by omega) with e | e | e | e <;> subst e
    · exact ⟨hp 1 (by omega), rfl, hc 1 (by omega)⟩
    · exact ⟨hp 2 (by omega), rfl, hc 2 (by omega)⟩
    · exact ⟨hp 3 (by omega), rfl, hc 3 (by omega)⟩
    · exact ⟨hp 0 (by omega), rfl, hc 0 (by omega)⟩
  · by_cases h3 : i = 3 <;> by_cases h4 : j = 3
    · omega
    · simp only [h3, h4, if_true, if_false, reduceIte] at e
      have := hA.2.2 0 (j + 1) (by omega) (by omega) e
      omega
    · simp only [h3, h4, if_true, if_false, reduceIte] at e
      have := hA.2.2 (i + 1) 0 (by omega) (by omega) e
      omega
    · simp only [h3, h4, if_true, if_false, reduceIte] at e
      have := hA.2.2 (i + 1) (j + 1) (by omega) (by omega) e
      omega
theorem HiA.put {E : XE} {a : Nat} {h : Nat → CS} {π : Nat → Nat} {g : Nat → Option Nat} {H H1 : Heap} {k : Nat} {χ : CS} (hA : HiA E a h π g H) (hk : k < 4) (hX : ChoP E (a + 2 + 18 * π k) (chCopy χ (h k)) H1) (hO : Out (bk (a + 2 + 18 * π k) 18) H H1) : HiA E a (hiPut h k χ) π g H1 := by
  have hp : ∀ i, i < 4 → π i < 4 := fun i hi => (hA.2.1 i hi).1
  refine ⟨va_at.kept hA.1 (hO.2 _ (fun z => by obtain ⟨u, v⟩ := z; omega)), fun i hi => ⟨hp i hi, (hA.2.1 i hi).2.1, ?_⟩, hA.2.2⟩
  by_cases e : i = k
  · subst e; rw [hiPut, if_pos rfl]; exact hX
  · rw [hiPut, if_neg e]
    refine (hA.2.1 i hi).2.2.fr (fun q z => hO.2 q (fun y => ?_))
    obtain ⟨u, v⟩ := z; obtain ⟨u', v'⟩ := y
    have : ¬ π i = π k := fun w => e (hA.2.2 i k hi hk w)
    omega
abbrev rm_X0_copyFrom : Room := ({ frames := 3, cells := 0, slots := 0, locals := 64 } : Room)
set_option maxRecDepth 100000 in
set_option maxHeartbeats 600000 in
theorem c_X0_copyFrom (l : Launch) (E : XE) (b b2 : Nat) (χ ψ : CS) (H : Heap) (hC : ChoP E b χ H) (hC2 : ChoP E b2 ψ H) (hd : b + 18 ≤ b2 ∨ b2 + 18 ≤ b) : Wv l E yX0_copyFrom cX0_copyFrom 2 rm_X0_copyFrom [.ref b, .ref b2] H (bk b 18) (ChoP E b (chCopy ψ χ)) := by
  refine met_of (by decide) (Nat.le_of_ble_eq_true rfl) (fun p e s m args below meth c hBD Q hQ ls hl => ?_)
  obtain ⟨S, hr, hlk, hnm, hE, hH⟩ := hBD
  subst hH
  have hl : lv_has ls 2 [(0, .ref b), (1, .ref b2)] := hl
  have hO : Out (bk b 18) s.heap s.heap := Out.rf
  have hS : va_S (bk b 18) s.heap s.heap [] := va_S.rf
  refine lv_aload_n S.1 S.2.1 dX0_copyFrom_0 rfl (lv_at hl 0 rfl) ?_
  refine x_get S hE (hC.1) (C := RX0) (T := TX0) (N := 10) rfl inlX0 0 (by decide) (v := .ref (b + 1)) rfl kw2_16 rfl dX0_copyFrom_1 ?_
  refine lv_aload_n S.1 S.2.1 dX0_copyFrom_4 rfl (lv_at hl 1 rfl) ?_
  refine x_get S hE (hC2.1) (C := RX0) (T := TX0) (N := 10) rfl inlX0 0 (by decide) (v := .ref (b2 + 1)) rfl kw2_16 rfl dX0_copyFrom_5 ?_
  refine xk_V (x_runVN (As := [.ref (b2 + 1)]) (rest := []) S hE hS (bk_in (k := 1) (by decide)) (c_X5_copyFrom l E (b + 1) (b2 + 1) χ.1 ψ.1 (χ.2.2.2 0) (ψ.2.2.2 0) _ hC.2.1 hC2.2.1 (by omega)) kv_X5_copyFrom nw63 kw18_1 kw18_2 (x_recv hE (hC.2.1.1) (ci := 5) rfl) ⟨Nat.le_of_ble_eq_true rfl, Nat.le_of_ble_eq_true rfl⟩ rfl rfl rfl hl.1 rfl (Nat.le_of_ble_eq_true rfl) dX0_copyFrom_8 ⟨Nat.zero_le _, Nat.zero_le _⟩) hS (bk_in (k := 1) (by decide)) (fun H locs hX hO1 hS => ?_)
  have hO := out_in hO hO1 (k := 1) (by decide)
  have hC : ChoP E b (setS (setT χ (ntCopy ψ.1 χ.1 (ψ.2.2.2 0))) 0 (ψ.2.2.2 0)) H := hC.nt hX hO1
  have hC2 := hC2.fr (fun q z => hO1.2 q (fun y => by obtain ⟨u, v⟩ := z; obtain ⟨u', v'⟩ := y; omega))
  refine lv_aload_n S.1 S.2.1 dX0_copyFrom_11 rfl (lv_at hl 0 rfl) ?_
  refine x_get S hE (hC.1) (C := RX0) (T := TX0) (N := 10) rfl inlX0 1 (by decide) (v := .ref (b + 9)) rfl kw2_20 rfl dX0_copyFrom_12 ?_
  refine lv_aload_n S.1 S.2.1 dX0_copyFrom_15 rfl (lv_at hl 1 rfl) ?_
  refine x_get S hE (hC2.1) (C := RX0) (T := TX0) (N := 10) rfl inlX0 1 (by decide) (v := .ref (b2 + 9)) rfl kw2_20 rfl dX0_copyFrom_16 ?_
  refine xk_V (x_runVN (As := [.ref (b2 + 9)]) (rest := []) S hE hS (bk_in (k := 9) (by decide)) (c_X3_copyFrom l E (b + 9) (b2 + 9) 8 (ψ.2.1 0) ((setS (setT χ (ntCopy ψ.1 χ.1 (ψ.2.2.2 0))) 0 (ψ.2.2.2 0)).2.1 0) _ hC.2.2.1 hC2.2.2.1 (by decide) (by omega)) kv_X3_copyFrom nw65 kw18_5 kw18_6 (x_recv hE (hC.2.2.1.1) (ci := 3) rfl) ⟨Nat.le_of_ble_eq_true rfl, Nat.le_of_ble_eq_true rfl⟩ rfl rfl rfl hl.1 rfl (Nat.le_of_ble_eq_true rfl) dX0_copyFrom_19 ⟨Nat.zero_le _, Nat.zero_le _⟩) hS (bk_in (k := 9) (by decide)) (fun H locs hX hO1 hS => ?_)
  have hO := out_in hO hO1 (k := 9) (by decide)
  have hC : ChoP E b (setL (setS (setT χ (ntCopy ψ.1 χ.1 (ψ.2.2.2 0))) 0 (ψ.2.2.2 0)) 0 (ψ.2.1 0)) H := hC.l0 hX hO1
  have hC2 := hC2.fr (fun q z => hO1.2 q (fun y => by obtain ⟨u, v⟩ := z; obtain ⟨u', v'⟩ := y; omega))
  refine lv_aload_n S.1 S.2.1 dX0_copyFrom_22 rfl (lv_at hl 0 rfl) ?_
  refine x_get S hE (hC.1) (C := RX0) (T := TX0) (N := 10) rfl inlX0 2 (by decide) (v := .ref (b + 11)) rfl kw2_21 rfl dX0_copyFrom_23 ?_
  refine lv_aload_n S.1 S.2.1 dX0_copyFrom_26 rfl (lv_at hl 1 rfl) ?_
  refine x_get S hE (hC2.1) (C := RX0) (T := TX0) (N := 10) rfl inlX0 2 (by decide) (v := .ref (b2 + 11)) rfl kw2_21 rfl dX0_copyFrom_27 ?_
  refine xk_V (x_runVN (As := [.ref (b2 + 11)]) (rest := []) S hE hS (bk_in (k := 11) (by decide)) (c_X3_copyFrom l E (b + 11) (b2 + 11) 4 (ψ.2.1 1) ((setL (setS (setT χ (ntCopy ψ.1 χ.1 (ψ.2.2.2 0))) 0 (ψ.2.2.2 0)) 0 (ψ.2.1 0)).2.1 1) _ hC.2.2.2.1 hC2.2.2.2.1 (by decide) (by omega)) kv_X3_copyFrom nw65 kw18_5 kw18_6 (x_recv hE (hC.2.2.2.1.1) (ci := 3) rfl) ⟨Nat.le_of_ble_eq_true rfl, Nat.le_of_ble_eq_true rfl⟩ rfl rfl rfl hl.1 rfl (Nat.le_of_ble_eq_true rfl) dX0_copyFrom_30 ⟨Nat.zero_le _, Nat.zero_le _⟩) hS (bk_in (k := 11) (by decide)) (fun H locs hX hO1 hS => ?_)
  have hO := out_in hO hO1 (k := 11) (by decide)
  have hC : ChoP E b (setL (setL (setS (setT χ (ntCopy ψ.1 χ.1 (ψ.2.2.2 0))) 0 (ψ.2.2.2 0)) 0 (ψ.2.1 0)) 1 (ψ.2.1 1)) H := hC.l1 hX hO1
  have hC2 := hC2.fr (fun q z => hO1.2 q (fun y => by obtain ⟨u, v⟩ := z; obtain ⟨u', v'⟩ := y; omega))
  refine lv_aload_n S.1 S.2.1 dX0_copyFrom_33 rfl (lv_at hl 0 rfl) ?_
  refine x_get S hE (hC.1) (C := RX0) (T := TX0) (N := 10) rfl inlX0 3 (by decide) (v := .ref (b + 13)) rfl kw2_22 rfl dX0_copyFrom_34 ?_
  refine lv_aload_n S.1 S.2.1 dX0_copyFrom_37 rfl (lv_at hl 1 rfl) ?_
  refine x_get S hE (hC2.1) (C := RX0) (T := TX0) (N := 10) rfl inlX0 3 (by decide) (v := .ref (b2 + 13)) rfl kw2_22 rfl dX0_copyFrom_38 ?_
  refine xk_V (x_runVN (As := [.ref (b2 + 13)]) (rest := []) S hE hS (bk_in (k := 13) (by decide)) (c_X3_copyFrom l E (b + 13) (b2 + 13) 6 (ψ.2.1 2) ((setL (setL (setS (setT χ (ntCopy ψ.1 χ.1 (ψ.2.2.2 0))) 0 (ψ.2.2.2 0)) 0 (ψ.2.1 0)) 1 (ψ.2.1 1)).2.1 2) _ hC.2.2.2.2.1 hC2.2.2.2.2.1 (by decide) (by omega)) kv_X3_copyFrom nw65 kw18_5 kw18_6 (x_recv hE (hC.2.2.2.2.1.1) (ci := 3) rfl) ⟨Nat.le_of_ble_eq_true rfl, Nat.le_of_ble_eq_true rfl⟩ rfl rfl rfl hl.1 rfl (Nat.le_of_ble_eq_true rfl) dX0_copyFrom_41 ⟨Nat.zero_le _, Nat.zero_le _⟩) hS (bk_in (k := 13) (by decide)) (fun H locs hX hO1 hS => ?_)
  have hO := out_in hO hO1 (k := 13) (by decide)
  have hC : ChoP E b (setL (setL (setL (setS (setT χ (ntCopy ψ.1 χ.1 (ψ.2.2.2 0))) 0 (ψ.2.2.2 0)) 0 (ψ.2.1 0)) 1 (ψ.2.1 1)) 2 (ψ.2.1 2)) H := hC.l2 hX hO1
  have hC2 := hC2.fr (fun q z => hO1.2 q (fun y => by obtain ⟨u, v⟩ := z; obtain ⟨u', v'⟩ := y; omega))
  refine lv_aload_n S.1 S.2.1 dX0_copyFrom_44 rfl (lv_at hl 1 rfl) ?_
  refine x_get S hE (hC2.1) (C := RX0) (T := TX0) (N := 10) rfl inlX0 4 (by decide) (v := .ref (b2 + 15)) rfl kw2_23 rfl dX0_copyFrom_45 ?_
  refine lv_aload_n S.1 S.2.1 dX0_copyFrom_48 rfl (lv_at hl 0 rfl) ?_
  refine x_get S hE (hC.1) (C := RX0) (T := TX0) (N := 10) rfl inlX0 4 (by decide) (v := .ref (b + 15)) rfl kw2_23 rfl dX0_copyFrom_49 ?_
  refine lv_iconst (v := (nI 3)) S.1 S.2.1 dX0_copyFrom_52 (by decide) ?_
  refine xk_V (x_runSN (As := [.ref (b2 + 15), .ref (b + 15), .int (nI 3)]) (rest := []) S hE hS (bk_eq (by decide)) (c_X7_copyRow l E (b2 + 15) (b + 15) 3 3 ψ.2.2.1 (setL (setL (setL (setS (setT χ (ntCopy ψ.1 χ.1 (ψ.2.2.2 0))) 0 (ψ.2.2.2 0)) 0 (ψ.2.1 0)) 1 (ψ.2.1 1)) 2 (ψ.2.1 2)).2.2.1 (nI 3) _ (xr_i hC2.2.2.2.2.2.1) hC.2.2.2.2.2.1 (by decide) (by decide)) kv_X7_copyRow nw38 kw6_6 ⟨Nat.le_of_ble_eq_true rfl, Nat.le_of_ble_eq_true rfl⟩ rfl rfl rfl hl.1 rfl (Nat.le_of_ble_eq_true rfl) dX0_copyFrom_53 ⟨Nat.zero_le _, Nat.zero_le _⟩) hS (bk_eq (by decide)) (fun H locs hX hO1 hS => ?_)
  have hO := hO.tr hO1 (bk_eq (by decide))
  have hC : ChoP E b (setG (setL (setL (setL (setS (setT χ (ntCopy ψ.1 χ.1 (ψ.2.2.2 0))) 0 (ψ.2.2.2 0)) 0 (ψ.2.1 0)) 1 (ψ.2.1 1)) 2 (ψ.2.1 2)) (xcpy ψ.2.2.1 3 χ.2.2.1 3 (nI 3))) H := hC.st hX hO1
  have hC2 := hC2.fr (fun q z => hO1.2 q (fun y => by obtain ⟨u, v⟩ := z; have y : q = b + 15 := y; omega))
  refine lv_aload_n S.1 S.2.1 dX0_copyFrom_56 rfl (lv_at hl 0 rfl) ?_
  refine x_get S hE (hC.1) (C := RX0) (T := TX0) (N := 10) rfl inlX0 5 (by decide) (v := .ref (b + 16)) rfl kw3_1 rfl dX0_copyFrom_57 ?_
  refine lv_aload_n S.1 S.2.1 dX0_copyFrom_60 rfl (lv_at hl 1 rfl) ?_
  refine x_get S hE (hC2.1) (C := RX0) (T := TX0) (N := 10) rfl inlX0 5 (by decide) (v := .ref (b2 + 16)) rfl kw3_1 rfl dX0_copyFrom_61 ?_
  refine xk_V (x_runVN (As := [.ref (b2 + 16)]) (rest := []) S hE hS (bk_in (k := 16) (by decide)) (c_X1_copyFrom l E (b + 16) (b2 + 16) (ψ.2.1 3) ((setG (setL (setL (setL (setS (setT χ (ntCopy ψ.1 χ.1 (ψ.2.2.2 0))) 0 (ψ.2.2.2 0)) 0 (ψ.2.1 0)) 1 (ψ.2.1 1)) 2 (ψ.2.1 2)) (xcpy ψ.2.2.1 3 χ.2.2.1 3 (nI 3))).2.1 3) _ hC.2.2.2.2.2.2 hC2.2.2.2.2.2.2 (by omega)) kv_X1_copyFrom nw67 kw18_8 kw18_9 (x_recv hE (hC.2.2.2.2.2.2.1) (ci := 1) rfl) ⟨Nat.le_of_ble_eq_true rfl, Nat.le_of_ble_eq_true rfl⟩ rfl rfl rfl hl.1 rfl (Nat.le_of_ble_eq_true rfl) dX0_copyFrom_64 ⟨Nat.zero_le _, Nat.zero_le _⟩) hS (bk_in (k := 16) (by decide)) (fun H locs hX hO1 hS => ?_)
  have hO := out_in hO hO1 (k := 16) (by decide)
  have hC : ChoP E b (setL (setG (setL (setL (setL (setS (setT χ (ntCopy ψ.1 χ.1 (ψ.2.2.2 0))) 0 (ψ.2.2.2 0)) 0 (ψ.2.1 0)) 1 (ψ.2.1 1)) 2 (ψ.2.1 2)) (xcpy ψ.2.2.1 3 χ.2.2.1 3 (nI 3))) 3 (ψ.2.1 3)) H := hC.fo hX hO1
  have hC2 := hC2.fr (fun q z => hO1.2 q (fun y => by obtain ⟨u, v⟩ := z; obtain ⟨u', v'⟩ := y; omega))
  refine lv_aload_n S.1 S.2.1 dX0_copyFrom_67 rfl (lv_at hl 0 rfl) ?_
  refine lv_aload_n S.1 S.2.1 dX0_copyFrom_68 rfl (lv_at hl 1 rfl) ?_
  refine x_get S hE (hC2.1) (C := RX0) (T := TX0) (N := 10) rfl inlX0 6 (by decide) (v := .int (ψ.2.2.2 1)) rfl kw17_21 rfl dX0_copyFrom_69 ?_
  refine x_put S hE hS (bk1 (by omega)) (hC.1) (C := RX0) (T := TX0) (N := 10) rfl inlX0 tyX0 tyX0_ok nmX0 6 (by decide) (Nat.le_of_ble_eq_true rfl) kw17_21 rfl rfl (v := .int (ψ.2.2.2 1)) rfl rfl dX0_copyFrom_72 (fun H locs hX hO1 hS => ?_)
  have hO := hO.tr hO1 (fun q z => by subst z; exact bk1 (by omega))
  have hC : ChoP E b (setS (setL (setG (setL (setL (setL (setS (setT χ (ntCopy ψ.1 χ.1 (ψ.2.2.2 0))) 0 (ψ.2.2.2 0)) 0 (ψ.2.1 0)) 1 (ψ.2.1 1)) 2 (ψ.2.1 2)) (xcpy ψ.2.2.1 3 χ.2.2.1 3 (nI 3))) 3 (ψ.2.1 3)) 1 (ψ.2.2.2 1)) H := hC.ob (by decide) hX hO1
  have hC2 := hC2.fr (fun q z => hO1.2 q (fun y => by obtain ⟨u, v⟩ := z; have y : q = b := y; omega))
  refine lv_aload_n S.1 S.2.1 dX0_copyFrom_75 rfl (lv_at hl 0 rfl) ?_
  refine lv_aload_n S.1 S.2.1 dX0_copyFrom_76 rfl (lv_at hl 1 rfl) ?_
  refine x_get S hE (hC2.1) (C := RX0) (T := TX0) (N := 10) rfl inlX0 7 (by decide) (v := .int (ψ.2.2.2 2)) rfl kw17_22 rfl dX0_copyFrom_77 ?_
  refine x_put S hE hS (bk1 (by omega)) (hC.1) (C := RX0) (T := TX0) (N := 10) rfl inlX0 tyX0 tyX0_ok nmX0 7 (by decide) (Nat.le_of_ble_eq_true rfl) kw17_22 rfl rfl (v := .int (ψ.2.2.2 2)) rfl rfl dX0_copyFrom_80 (fun H locs hX hO1 hS => ?_)
  have hO := hO.tr hO1 (fun q z => by subst z; exact bk1 (by omega))
  have hC : ChoP E b (setS (setS (setL (setG (setL (setL (setL (setS (setT χ (ntCopy ψ.1 χ.1 (ψ.2.2.2 0))) 0 (ψ.2.2.2 0)) 0 (ψ.2.1 0)) 1 (ψ.2.1 1)) 2 (ψ.2.1 2)) (xcpy ψ.2.2.1 3 χ.2.2.1 3 (nI 3))) 3 (ψ.2.1 3)) 1 (ψ.2.2.2 1)) 2 (ψ.2.2.2 2)) H := hC.ob (by decide) hX hO1
  have hC2 := hC2.fr (fun q z => hO1.2 q (fun y => by obtain ⟨u, v⟩ := z; have y : q = b := y; omega))
  refine lv_aload_n S.1 S.2.1 dX0_copyFrom_83 rfl (lv_at hl 0 rfl) ?_
  refine lv_aload_n S.1 S.2.1 dX0_copyFrom_84 rfl (lv_at hl 1 rfl) ?_
  refine x_get S hE (hC2.1) (C := RX0) (T := TX0) (N := 10) rfl inlX0 8 (by decide) (v := .int (ψ.2.2.2 3)) rfl kw17_23 rfl dX0_copyFrom_85 ?_
  refine x_put S hE hS (bk1 (by omega)) (hC.1) (C := RX0) (T := TX0) (N := 10) rfl inlX0 tyX0 tyX0_ok nmX0 8 (by decide) (Nat.le_of_ble_eq_true rfl) kw17_23 rfl rfl (v := .int (ψ.2.2.2 3)) rfl rfl dX0_copyFrom_88 (fun H locs hX hO1 hS => ?_)
  have hO := hO.tr hO1 (fun q z => by subst z; exact bk1 (by omega))
  have hC : ChoP E b (setS (setS (setS (setL (setG (setL (setL (setL (setS (setT χ (ntCopy ψ.1 χ.1 (ψ.2.2.2 0))) 0 (ψ.2.2.2 0)) 0 (ψ.2.1 0)) 1 (ψ.2.1 1)) 2 (ψ.2.1 2)) (xcpy ψ.2.2.1 3 χ.2.2.1 3 (nI 3))) 3 (ψ.2.1 3)) 1 (ψ.2.2.2 1)) 2 (ψ.2.2.2 2)) 3 (ψ.2.2.2 3)) H := hC.ob (by decide) hX hO1
  have hC2 := hC2.fr (fun q z => hO1.2 q (fun y => by obtain ⟨u, v⟩ := z; have y : q = b := y; omega))
  refine lv_aload_n S.1 S.2.1 dX0_copyFrom_91 rfl (lv_at hl 0 rfl) ?_
  refine lv_aload_n S.1 S.2.1 dX0_copyFrom_92 rfl (lv_at hl 1 rfl) ?_
  refine x_get S hE (hC2.1) (C := RX0) (T := TX0) (N := 10) rfl inlX0 9 (by decide) (v := .int (ψ.2.2.2 4)) rfl kw18_0 rfl dX0_copyFrom_93 ?_
  refine x_put S hE hS (bk1 (by omega)) (hC.1) (C := RX0) (T := TX0) (N := 10) rfl inlX0 tyX0 tyX0_ok nmX0 9 (by decide) (Nat.le_of_ble_eq_true rfl) kw18_0 rfl rfl (v := .int (ψ.2.2.2 4)) rfl rfl dX0_copyFrom_96 (fun H locs hX hO1 hS => ?_)
  have hO := hO.tr hO1 (fun q z => by subst z; exact bk1 (by omega))
  have hC : ChoP E b (setS (setS (setS (setS (setL (setG (setL (setL (setL (setS (setT χ (ntCopy ψ.1 χ.1 (ψ.2.2.2 0))) 0 (ψ.2.2.2 0)) 0 (ψ.2.1 0)) 1 (ψ.2.1 1)) 2 (ψ.2.1 2)) (xcpy ψ.2.2.1 3 χ.2.2.1 3 (nI 3))) 3 (ψ.2.1 3)) 1 (ψ.2.2.2 1)) 2 (ψ.2.2.2 2)) 3 (ψ.2.2.2 3)) 4 (ψ.2.2.2 4)) H := hC.ob (by decide) hX hO1
  have hC2 := hC2.fr (fun q z => hO1.2 q (fun y => by obtain ⟨u, v⟩ := z; have y : q = b := y; omega))
  subst hQ
  refine x_retV S hr hlk hS hO ?_ dX0_copyFrom_99
  exact hC.cp
abbrev rm_X2_stateAt : Room := ({ frames := 0, cells := 0, slots := 0, locals := 0 } : Room)
set_option maxRecDepth 100000 in
set_option maxHeartbeats 600000 in
theorem c_X2_stateAt (l : Launch) (E : XE) (a : Nat) (h : Nat → CS) (π : Nat → Nat) (g : Nat → Option Nat) (sz : Int32) (k : Nat) (H : Heap) (hQt : E.2.2.1[0]? = some (E.2.1 2, .object "ChoirBox$Choir")) (ho : XO E a 2 [.ref (a + 1), .int sz] H) (hA : HiA E a h π g H) (hk : k < 4) : Rq l E yX2_stateAt cX2_stateAt 2 (some (.object "ChoirBox$Choir")) rm_X2_stateAt [.ref a, .int (nI k)] H (some (a + 2 + 18 * π k)) := by
  refine met_of (by decide) (Nat.le_of_ble_eq_true rfl) (fun p e s m args below meth c hBD Q hQ ls hl => ?_)
  obtain ⟨S, hr, hlk, hnm, hE, hH⟩ := hBD
  subst hH
  have hl : lv_has ls 2 [(0, .ref a), (1, .int (nI k))] := hl
  have hS : va_S (fun _ => False) s.heap s.heap [] := va_S.rf
  refine lv_iload_n S.1 S.2.1 dX2_stateAt_0 rfl (lv_at hl 1 rfl) ?_
  refine lv_if_lt (tgt := 22) S.1 S.2.1 dX2_stateAt_1 rfl (fun h1 => ?_) (fun h1 => ?_)
  · exact absurd h1 (nI_pos (by omega))
  · skip
    refine lv_iload_n S.1 S.2.1 dX2_stateAt_4 rfl (lv_at hl 1 rfl) ?_
    refine lv_aload_n S.1 S.2.1 dX2_stateAt_5 rfl (lv_at hl 0 rfl) ?_
    refine x_get S hE (ho) (C := RX2) (T := TX2) (N := 2) rfl inlX2 0 (by decide) (v := .ref (a + 1)) rfl kw6_16 rfl dX2_stateAt_6 ?_
    refine x_alenQ S ⟨_, ((hE.1.1.2 2 _ hQt).1)⟩ hA.1 (by decide) dX2_stateAt_9 ?_
    refine lv_icmp_ge (tgt := 22) S.1 S.2.1 dX2_stateAt_10 rfl (fun h2 => ?_) (fun h2 => ?_)
    · exact absurd h2 (nI_ge hk (by omega))
    · skip
      refine lv_aload_n S.1 S.2.1 dX2_stateAt_13 rfl (lv_at hl 0 rfl) ?_
      refine x_get S hE (ho) (C := RX2) (T := TX2) (N := 2) rfl inlX2 0 (by decide) (v := .ref (a + 1)) rfl kw6_16 rfl dX2_stateAt_14 ?_
      refine lv_iload_n S.1 S.2.1 dX2_stateAt_17 rfl (lv_at hl 1 rfl) ?_
      refine x_aldq S hE hQt (hA.1) k rfl (hk) (by decide) ((hA.2.1 k hk).2.1) dX2_stateAt_18 ?_
      refine lv_goto (tgt := 23) S.1 S.2.1 dX2_stateAt_19 rfl ?_
      subst hQ
      exact x_retq (v := some (a + 2 + 18 * π k)) S hr hlk dX2_stateAt_23
abbrev rm_X2_dropOldest : Room := ({ frames := 1, cells := 0, slots := 0, locals := 21 } : Room)
set_option maxRecDepth 100000 in
set_option maxHeartbeats 600000 in
theorem c_X2_dropOldest (l : Launch) (E : XE) (a sz : Nat) (h : Nat → CS) (π : Nat → Nat) (g : Nat → Option Nat) (H : Heap) (hQt : E.2.2.1[0]? = some (E.2.1 2, .object "ChoirBox$Choir")) (ho : XO E a 2 [.ref (a + 1), .int (nI (sz + 1))] H) (hA : HiA E a h π g H) : Wv l E yX2_dropOldest cX2_dropOldest 3 rm_X2_dropOldest [.ref a] H (bk a 74) (fun H1 => XO E a 2 [.ref (a + 1), .int (nI sz)] H1 ∧ ∃ (π1 : Nat → Nat) (g1 : Nat → Option Nat), HiA E a (hiDrop h) π1 g1 H1) := by
  refine met_of (by decide) (Nat.le_of_ble_eq_true rfl) (fun p e s m args below meth c hBD Q hQ ls hl => ?_)
  obtain ⟨S, hr, hlk, hnm, hE, hH⟩ := hBD
  subst hH
  have hl : lv_has ls 3 [(0, .ref a)] := hl
  have hO : Out (bk a 74) s.heap s.heap := Out.rf
  have hS : va_S (bk a 74) s.heap s.heap [] := va_S.rf
  have hA0 := hA
  have hOO : ∀ q, ¬ q = a → ¬ q = a + 1 → s.heap[q]? = s.heap[q]? := fun q _ _ => rfl
  obtain ⟨hg, hi4, -⟩ := id hA
  obtain ⟨-, hg0, hc0⟩ := hi4 0 (by decide)
  obtain ⟨-, hg1, hc1⟩ := hi4 1 (by decide)
  obtain ⟨-, hg2, hc2⟩ := hi4 2 (by decide)
  obtain ⟨-, hg3, hc3⟩ := hi4 3 (by decide)
  refine lv_aload_n S.1 S.2.1 dX2_dropOldest_0 rfl (lv_at hl 0 rfl) ?_
  refine lv_iconst (v := (nI 0)) S.1 S.2.1 dX2_dropOldest_1 (by decide) ?_
  refine xk_qs (r := (a + 2 + 18 * π 0)) (x_runV (As := [.int (nI 0)]) (rest := []) S hE hS (fun _ h => h.elim) (c_X2_stateAt l E a h π g (nI (sz + 1)) 0 _ hQt ho hA (by decide)) kv_X2_stateAt kw17_14 kw17_15 kw17_16 (x_recv hE (ho) (ci := 2) rfl) ⟨Nat.le_of_ble_eq_true rfl, Nat.le_of_ble_eq_true rfl⟩ rfl rfl rfl hl.1 rfl (Nat.le_of_ble_eq_true rfl) dX2_dropOldest_2 ⟨Nat.zero_le _, Nat.zero_le _⟩) ?_
  refine lv_astore_n S.1 S.2.1 dX2_dropOldest_5 rfl hl (by decide) rfl (fun ls hl => ?_)
  have hl : lv_has ls 3 [(1, .ref (a + 2 + 18 * π 0)), (0, .ref a)] := hl
  refine lv_iconst (v := (nI 1)) S.1 S.2.1 dX2_dropOldest_6 (by decide) ?_
  refine lv_istore_n S.1 S.2.1 dX2_dropOldest_7 rfl hl (by decide) rfl (fun ls hl => ?_)
  have hl : lv_has ls 3 [(2, .int (nI 1)), (1, .ref (a + 2 + 18 * π 0)), (0, .ref a)] := hl
  refine lv_iload_n S.1 S.2.1 dX2_dropOldest_8 rfl (lv_at hl 0 rfl) ?_
  refine lv_aload_n S.1 S.2.1 dX2_dropOldest_9 rfl (lv_at hl 2 rfl) ?_
  refine x_get S hE (ho) (C := RX2) (T := TX2) (N := 2) rfl inlX2 0 (by decide) (v := .ref (a + 1)) rfl kw6_16 rfl dX2_dropOldest_10 ?_
  refine x_alenQ S ⟨_, ((hE.1.1.2 2 _ hQt).1)⟩ hg (by decide) dX2_dropOldest_13 ?_
  refine lv_icmp_ge (tgt := 37) S.1 S.2.1 dX2_dropOldest_14 rfl (fun h1 => ?_) (fun h1 => ?_)
  · exact absurd h1 (by decide)
  · skip
    refine lv_aload_n S.1 S.2.1 dX2_dropOldest_17 rfl (lv_at hl 2 rfl) ?_
    refine x_get S hE (ho) (C := RX2) (T := TX2) (N := 2) rfl inlX2 0 (by decide) (v := .ref (a + 1)) rfl kw6_16 rfl dX2_dropOldest_18 ?_
    refine lv_iload_n S.1 S.2.1 dX2_dropOldest_21 rfl (lv_at hl 0 rfl) ?_
    refine lv_iconst (v := (nI 1)) S.1 S.2.1 dX2_dropOldest_22 (by decide) ?_
    refine lv_isub S.1 S.2.1 dX2_dropOldest_23 ?_
    refine x_top (y := (nI 0)) (by decide) ?_
    refine lv_aload_n S.1 S.2.1 dX2_dropOldest_24 rfl (lv_at hl 2 rfl) ?_
    refine x_get S hE (ho) (C := RX2) (T := TX2) (N := 2) rfl inlX2 0 (by decide) (v := .ref (a + 1)) rfl kw6_16 rfl dX2_dropOldest_25 ?_
    refine lv_iload_n S.1 S.2.1 dX2_dropOldest_28 rfl (lv_at hl 0 rfl) ?_
    refine x_aldq S hE hQt (hg) 1 rfl (by decide) (by decide) (by first | exact hg1 | (show va_up _ _ _ _ = _; simp [va_up, hg1])) dX2_dropOldest_29 ?_
    refine x_astq S hE hS (⟨by omega, by omega⟩) hQt (hg) (hc1.1) (ci := 0) rfl 0 rfl (by decide) (by decide) dX2_dropOldest_30 (fun H locs hX hO1 hS => ?_)
    have hOO : ∀ q, ¬ q = a → ¬ q = a + 1 → H[q]? = s.heap[q]? := fun q z y => (hO1.2 q y).trans (hOO q z y)
    have hO := hO.tr hO1 (fun q z => by have z : q = a + 1 := z; exact ⟨by omega, by omega⟩)
    have ho := va_at.kept ho (hO1.2 a (fun z => by have z : a = a + 1 := z; omega))
    have hg := hX
    have hc0 := hc0.fr (fun q z => hO1.2 q (fun y => by have y : q = a + 1 := y; obtain ⟨u, v⟩ := z; omega))
    have hc1 := hc1.fr (fun q z => hO1.2 q (fun y => by have y : q = a + 1 := y; obtain ⟨u, v⟩ := z; omega))
    have hc2 := hc2.fr (fun q z => hO1.2 q (fun y => by have y : q = a + 1 := y; obtain ⟨u, v⟩ := z; omega))
    have hc3 := hc3.fr (fun q z => hO1.2 q (fun y => by have y : q = a + 1 := y; obtain ⟨u, v⟩ := z; omega))
    refine lv_iinc (k := 0) (v := (nI 2)) S.1 S.2.1 dX2_dropOldest_31 hl rfl (iincP 1 1) (by decide) rfl (fun ls hl => ?_)
    have hl : lv_has ls 3 [(2, .int (nI 2)), (1, .ref (a + 2 + 18 * π 0)), (0, .ref a)] := hl
    refine lv_goto (tgt := 8) S.1 S.2.1 dX2_dropOldest_34 rfl ?_
    refine lv_iload_n S.1 S.2.1 dX2_dropOldest_8 rfl (lv_at hl 0 rfl) ?_
    refine lv_aload_n S.1 S.2.1 dX2_dropOldest_9 rfl (lv_at hl 2 rfl) ?_
    refine x_get S hE (ho) (C := RX2) (T := TX2) (N := 2) rfl inlX2 0 (by decide) (v := .ref (a + 1)) rfl kw6_16 rfl dX2_dropOldest_10 ?_
    refine x_alenQ S ⟨_, ((hE.1.1.2 2 _ hQt).1)⟩ hg (by decide) dX2_dropOldest_13 ?_
    refine lv_icmp_ge (tgt := 37) S.1 S.2.1 dX2_dropOldest_14 rfl (fun h2 => ?_) (fun h2 => ?_)
    · exact absurd h2 (by decide)
    · skip
      refine lv_aload_n S.1 S.2.1 dX2_dropOldest_17 rfl (lv_at hl 2 rfl) ?_
      refine x_get S hE (ho) (C := RX2) (T := TX2) (N := 2) rfl inlX2 0 (by decide) (v := .ref (a + 1)) rfl kw6_16 rfl dX2_dropOldest_18 ?_
      refine lv_iload_n S.1 S.2.1 dX2_dropOldest_21 rfl (lv_at hl 0 rfl) ?_
      refine lv_iconst (v := (nI 1)) S.1 S.2.1 dX2_dropOldest_22 (by decide) ?_
      refine lv_isub S.1 S.2.1 dX2_dropOldest_23 ?_
      refine x_top (y := (nI 1)) (by decide) ?_
      refine lv_aload_n S.1 S.2.1 dX2_dropOldest_24 rfl (lv_at hl 2 rfl) ?_
      refine x_get S hE (ho) (C := RX2) (T := TX2) (N := 2) rfl inlX2 0 (by decide) (v := .ref (a + 1)) rfl kw6_16 rfl dX2_dropOldest_25 ?_
      refine lv_iload_n S.1 S.2.1 dX2_dropOldest_28 rfl (lv_at hl 0 rfl) ?_
      refine x_aldq S hE hQt (hg) 2 rfl (by decide) (by decide) (by first | exact hg2 | (show va_up _ _ _ _ = _; simp [va_up, hg2])) dX2_dropOldest_29 ?_
      refine x_astq S hE hS (⟨by omega, by omega⟩) hQt (hg) (hc2.1) (ci := 0) rfl 1 rfl (by decide) (by decide) dX2_dropOldest_30 (fun H locs hX hO1 hS => ?_)
      have hOO : ∀ q, ¬ q = a → ¬ q = a + 1 → H[q]? = s.heap[q]? := fun q z y => (hO1.2 q y).trans (hOO q z y)
      have hO := hO.tr hO1 (fun q z => by have z : q = a + 1 := z; exact ⟨by omega, by omega⟩)
      have ho := va_at.kept ho (hO1.2 a (fun z => by have z : a = a + 1 := z; omega))
      have hg := hX
      have hc0 := hc0.fr (fun q z => hO1.2 q (fun y => by have y : q = a + 1 := y; obtain ⟨u, v⟩ := z; omega))
      have hc1 := hc1.fr (fun q z => hO1.2 q (fun y => by have y : q = a + 1 := y; obtain ⟨u, v⟩ := z; omega))
      have hc2 := hc2.fr (fun q z => hO1.2 q (fun y => by have y : q = a + 1 := y; obtain ⟨u, v⟩ := z; omega))
      have hc3 := hc3.fr (fun q z => hO1.2 q (fun y => by have y : q = a + 1 := y; obtain ⟨u, v⟩ := z; omega))
      refine lv_iinc (k := 0) (v := (nI 3)) S.1 S.2.1 dX2_dropOldest_31 hl rfl (iincP 2 1) (by decide) rfl (fun ls hl => ?_)
      have hl : lv_has ls 3 [(2, .int (nI 3)), (1, .ref (a + 2 + 18 * π 0)), (0, .ref a)] := hl
      refine lv_goto (tgt := 8) S.1 S.2.1 dX2_dropOldest_34 rfl ?_
      refine lv_iload_n S.1 S.2.1 dX2_dropOldest_8 rfl (lv_at hl 0 rfl) ?_
      refine lv_aload_n S.1 S.2.1 dX2_dropOldest_9 rfl (lv_at hl 2 rfl) ?_
      refine x_get S hE (ho) (C := RX2) (T := TX2) (N := 2) rfl inlX2 0 (by decide) (v := .ref (a + 1)) rfl kw6_16 rfl dX2_dropOldest_10 ?_
      refine x_alenQ S ⟨_, ((hE.1.1.2 2 _ hQt).1)⟩ hg (by decide) dX2_dropOldest_13 ?_
      refine lv_icmp_ge (tgt := 37) S.1 S.2.1 dX2_dropOldest_14 rfl (fun h3 => ?_) (fun h3 => ?_)
      · exact absurd h3 (by decide)
      · skip
        refine lv_aload_n S.1 S.2.1 dX2_dropOldest_17 rfl (lv_at hl 2 rfl) ?_
        refine x_get S hE (ho) (C := RX2) (T := TX2) (N := 2) rfl inlX2 0 (by decide) (v := .ref (a + 1)) rfl kw6_16 rfl dX2_dropOldest_18 ?_
        refine lv_iload_n S.1 S.2.1 dX2_dropOldest_21 rfl (lv_at hl 0 rfl) ?_
        refine lv_iconst (v := (nI 1)) S.1 S.2.1 dX2_dropOldest_22 (by decide) ?_
        refine lv_isub S.1 S.2.1 dX2_dropOldest_23 ?_
        refine x_top (y := (nI 2)) (by decide) ?_
        refine lv_aload_n S.1 S.2.1 dX2_dropOldest_24 rfl (lv_at hl 2 rfl) ?_
        refine x_get S hE (ho) (C := RX2) (T := TX2) (N := 2) rfl inlX2 0 (by decide) (v := .ref (a + 1)) rfl kw6_16 rfl dX2_dropOldest_25 ?_
        refine lv_iload_n S.1 S.2.1 dX2_dropOldest_28 rfl (lv_at hl 0 rfl) ?_
        refine x_aldq S hE hQt (hg) 3 rfl (by decide) (by decide) (by first | exact hg3 | (show va_up _ _ _ _ = _; simp [va_up, hg3])) dX2_dropOldest_29 ?_
        refine x_astq S hE hS (⟨by omega, by omega⟩) hQt (hg) (hc3.1) (ci := 0) rfl 2 rfl (by decide) (by decide) dX2_dropOldest_30 (fun H locs hX hO1 hS => ?_)
        have hOO : ∀ q, ¬ q = a → ¬ q = a + 1 → H[q]? = s.heap[q]? := fun q z y => (hO1.2 q y).trans (hOO q z y)
        have hO := hO.tr hO1 (fun q z => by have z : q = a + 1 := z; exact ⟨by omega, by omega⟩)
        have ho := va_at.kept ho (hO1.2 a (fun z => by have z : a = a + 1 := z; omega))
        have hg := hX
        have hc0 := hc0.fr (fun q z => hO1.2 q (fun y => by have y : q = a + 1 := y; obtain ⟨u, v⟩ := z; omega))
        have hc1 := hc1.fr (fun q z => hO1.2 q (fun y => by have y : q = a + 1 := y; obtain ⟨u, v⟩ := z; omega))
        have hc2 := hc2.fr (fun q z => hO1.2 q (fun y => by have y : q = a + 1 := y; obtain ⟨u, v⟩ := z; omega))
        have hc3 := hc3.fr (fun q z => hO1.2 q (fun y => by have y : q = a + 1 := y; obtain ⟨u, v⟩ := z; omega))
        refine lv_iinc (k := 0) (v := (nI 4)) S.1 S.2.1 dX2_dropOldest_31 hl rfl (iincP 3 1) (by decide) rfl (fun ls hl => ?_)
        have hl : lv_has ls 3 [(2, .int (nI 4)), (1, .ref (a + 2 + 18 * π 0)), (0, .ref a)] := hl
        refine lv_goto (tgt := 8) S.1 S.2.1 dX2_dropOldest_34 rfl ?_
        refine lv_iload_n S.1 S.2.1 dX2_dropOldest_8 rfl (lv_at hl 0 rfl) ?_
        refine lv_aload_n S.1 S.2.1 dX2_dropOldest_9 rfl (lv_at hl 2 rfl) ?_
        refine x_get S hE (ho) (C := RX2) (T := TX2) (N := 2) rfl inlX2 0 (by decide) (v := .ref (a + 1)) rfl kw6_16 rfl dX2_dropOldest_10 ?_
        refine x_alenQ S ⟨_, ((hE.1.1.2 2 _ hQt).1)⟩ hg (by decide) dX2_dropOldest_13 ?_
        refine lv_icmp_ge (tgt := 37) S.1 S.2.1 dX2_dropOldest_14 rfl (fun h4 => ?_) (fun h4 => ?_)
        · skip
          refine lv_aload_n S.1 S.2.1 dX2_dropOldest_37 rfl (lv_at hl 2 rfl) ?_
          refine x_get S hE (ho) (C := RX2) (T := TX2) (N := 2) rfl inlX2 0 (by decide) (v := .ref (a + 1)) rfl kw6_16 rfl dX2_dropOldest_38 ?_
          refine x_alenQ S ⟨_, ((hE.1.1.2 2 _ hQt).1)⟩ hg (by decide) dX2_dropOldest_41 ?_
          refine lv_if_le (tgt := 58) S.1 S.2.1 dX2_dropOldest_42 rfl (fun h5 => ?_) (fun h5 => ?_)
          · exact absurd h5 (by decide)
          · skip
            refine lv_aload_n S.1 S.2.1 dX2_dropOldest_45 rfl (lv_at hl 2 rfl) ?_
            refine x_get S hE (ho) (C := RX2) (T := TX2) (N := 2) rfl inlX2 0 (by decide) (v := .ref (a + 1)) rfl kw6_16 rfl dX2_dropOldest_46 ?_
            refine lv_aload_n S.1 S.2.1 dX2_dropOldest_49 rfl (lv_at hl 2 rfl) ?_
            refine x_get S hE (ho) (C := RX2) (T := TX2) (N := 2) rfl inlX2 0 (by decide) (v := .ref (a + 1)) rfl kw6_16 rfl dX2_dropOldest_50 ?_
            refine x_alenQ S ⟨_, ((hE.1.1.2 2 _ hQt).1)⟩ hg (by decide) dX2_dropOldest_53 ?_
            refine lv_iconst (v := (nI 1)) S.1 S.2.1 dX2_dropOldest_54 (by decide) ?_
            refine lv_isub S.1 S.2.1 dX2_dropOldest_55 ?_
            refine x_top (y := (nI 3)) (by decide) ?_
            refine lv_aload_n S.1 S.2.1 dX2_dropOldest_56 rfl (lv_at hl 1 rfl) ?_
            refine x_astq S hE hS (⟨by omega, by omega⟩) hQt (hg) (hc0.1) (ci := 0) rfl 3 rfl (by decide) (by decide) dX2_dropOldest_57 (fun H locs hX hO1 hS => ?_)
            have hOO : ∀ q, ¬ q = a → ¬ q = a + 1 → H[q]? = s.heap[q]? := fun q z y => (hO1.2 q y).trans (hOO q z y)
            have hO := hO.tr hO1 (fun q z => by have z : q = a + 1 := z; exact ⟨by omega, by omega⟩)
            have ho := va_at.kept ho (hO1.2 a (fun z => by have z : a = a + 1 := z; omega))
            have hg := hX
            have hc0 := hc0.fr (fun q z => hO1.2 q (fun y => by have y : q = a + 1 := y; obtain ⟨u, v⟩ := z; omega))
            have hc1 := hc1.fr (fun q z => hO1.2 q (fun y => by have y : q = a + 1 := y; obtain ⟨u, v⟩ := z; omega))
            have hc2 := hc2.fr (fun q z => hO1.2 q (fun y => by have y : q = a + 1 := y; obtain ⟨u, v⟩ := z; omega))
            have hc3 := hc3.fr (fun q z => hO1.2 q (fun y => by have y : q = a + 1 := y; obtain ⟨u, v⟩ := z; omega))
            refine lv_aload_n S.1 S.2.1 dX2_dropOldest_58 rfl (lv_at hl 2 rfl) ?_
            refine lv_dup S.1 S.2.1 dX2_dropOldest_59 rfl ?_
            refine x_get S hE (ho) (C := RX2) (T := TX2) (N := 2) rfl inlX2 1 (by decide) (v := .int (nI (sz + 1))) rfl kw17_9 rfl dX2_dropOldest_60 ?_
            refine lv_iconst (v := (nI 1)) S.1 S.2.1 dX2_dropOldest_63 (by decide) ?_
            refine lv_isub S.1 S.2.1 dX2_dropOldest_64 ?_
            refine x_top (y := (nI sz)) (sub1e sz) ?_
            refine x_put S hE hS (bk1 (by omega)) (ho) (C := RX2) (T := TX2) (N := 2) rfl inlX2 tyX2 tyX2_ok nmX2 1 (by decide) (Nat.le_of_ble_eq_true rfl) kw17_9 rfl rfl (v := .int (nI sz)) rfl rfl dX2_dropOldest_65 (fun H locs hX hO1 hS => ?_)
            have hOO : ∀ q, ¬ q = a → ¬ q = a + 1 → H[q]? = s.heap[q]? := fun q z y => (hO1.2 q z).trans (hOO q z y)
            have hO := hO.tr hO1 (fun q z => by subst z; exact bk1 (by omega))
            have hg := va_at.kept hg (hO1.2 (a + 1) (fun z => by have z : a + 1 = a := z; omega))
            subst hQ
            refine x_retV S hr hlk hS hO ?_ dX2_dropOldest_68
            exact ⟨hX, _, _, hA0.drop hg (fun q _ z y => hOO q z y)⟩
        · exact absurd h4 (by decide)
abbrev rm_X2_record : Room := ({ frames := 4, cells := 0, slots := 0, locals := 85 } : Room)
set_option maxRecDepth 100000 in
set_option maxHeartbeats 600000 in
theorem c_X2_record (l : Launch) (E : XE) (a b sz : Nat) (h : Nat → CS) (χ : CS) (H : Heap) (hP : HisP E a h sz H) (hC : ChoP E b χ H) (hd : b + 18 ≤ a ∨ a + 74 ≤ b) : Wv l E yX2_record cX2_record 3 rm_X2_record [.ref a, .ref b] H (bk a 74) (HisP E a (hiRec h sz χ) (hiLen sz)) := by
  refine met_of (by decide) (Nat.le_of_ble_eq_true rfl) (fun p e s m args below meth c hBD Q hQ ls hl => ?_)
  obtain ⟨S, hr, hlk, hnm, hE, hH⟩ := hBD
  subst hH
  have hl : lv_has ls 3 [(0, .ref a), (1, .ref b)] := hl
  have hO : Out (bk a 74) s.heap s.heap := Out.rf
  have hS : va_S (bk a 74) s.heap s.heap [] := va_S.rf
  obtain ⟨hQt, ho, hsz, π, g, hA⟩ := hP
  refine lv_aload_n S.1 S.2.1 dX2_record_0 rfl (lv_at hl 0 rfl) ?_
  refine x_get S hE (ho) (C := RX2) (T := TX2) (N := 2) rfl inlX2 1 (by decide) (v := .int (nI sz)) rfl kw17_9 rfl dX2_record_1 ?_
  refine lv_iconst (v := (nI 4)) S.1 S.2.1 dX2_record_4 (by decide) ?_
  refine lv_icmp_ne (tgt := 12) S.1 S.2.1 dX2_record_5 rfl (fun h1 => ?_) (fun h1 => ?_)
  · have h1 : ¬ sz = 4 := fun z => h1 (by rw [z])
    have hk : sz < 4 := by omega
    refine lv_aload_n S.1 S.2.1 dX2_record_12 rfl (lv_at hl 0 rfl) ?_
    refine lv_aload_n S.1 S.2.1 dX2_record_13 rfl (lv_at hl 0 rfl) ?_
    refine x_get S hE (ho) (C := RX2) (T := TX2) (N := 2) rfl inlX2 1 (by decide) (v := .int (nI sz)) rfl kw17_9 rfl dX2_record_14 ?_
    refine xk_qs (r := (a + 2 + 18 * π sz)) (x_runV (As := [.int (nI sz)]) (rest := []) S hE hS (fun _ h => h.elim) (c_X2_stateAt l E a h π g (nI sz) sz _ hQt ho hA hk) kv_X2_stateAt kw17_14 kw17_15 kw17_16 (x_recv hE (ho) (ci := 2) rfl) ⟨Nat.le_of_ble_eq_true rfl, Nat.le_of_ble_eq_true rfl⟩ rfl rfl rfl hl.1 rfl (Nat.le_of_ble_eq_true rfl) dX2_record_17 ⟨Nat.zero_le _, Nat.zero_le _⟩) ?_
    refine lv_astore_n S.1 S.2.1 dX2_record_20 rfl hl (by decide) rfl (fun ls hl => ?_)
    have hl : lv_has ls 3 [(2, .ref (a + 2 + 18 * π sz)), (0, .ref a), (1, .ref b)] := hl
    refine lv_aload_n S.1 S.2.1 dX2_record_21 rfl (lv_at hl 0 rfl) ?_
    refine lv_ifnull S.1 S.2.1 dX2_record_22 ?_
    refine lv_aload_n S.1 S.2.1 dX2_record_25 rfl (lv_at hl 0 rfl) ?_
    refine lv_aload_n S.1 S.2.1 dX2_record_26 rfl (lv_at hl 2 rfl) ?_
    have hpk := (hA.2.1 sz hk).1
    refine xk_V (x_runVN (As := [.ref b]) (rest := []) S hE hS (fun q z => by obtain ⟨u, v⟩ := z; exact ⟨by omega, by omega⟩) (c_X0_copyFrom l E (a + 2 + 18 * π sz) b (h sz) χ _ (hA.2.1 sz hk).2.2 hC (by omega)) kv_X0_copyFrom nw62 kw17_18 kw17_19 (x_recv hE ((hA.2.1 sz hk).2.2.1) (ci := 0) rfl) ⟨Nat.le_of_ble_eq_true rfl, Nat.le_of_ble_eq_true rfl⟩ rfl rfl rfl hl.1 rfl (Nat.le_of_ble_eq_true rfl) dX2_record_27 ⟨Nat.zero_le _, Nat.zero_le _⟩) hS (fun q z => by obtain ⟨u, v⟩ := z; exact ⟨by omega, by omega⟩) (fun H locs hX hO1 hS => ?_)
    have hO := hO.tr hO1 (fun q z => by obtain ⟨u, v⟩ := z; exact ⟨by omega, by omega⟩)
    have ho := va_at.kept ho (hO1.2 a (fun z => by obtain ⟨u, v⟩ := z; omega))
    have hA := hA.put hk hX hO1
    refine lv_aload_n S.1 S.2.1 dX2_record_30 rfl (lv_at hl 1 rfl) ?_
    refine lv_dup S.1 S.2.1 dX2_record_31 rfl ?_
    refine x_get S hE (ho) (C := RX2) (T := TX2) (N := 2) rfl inlX2 1 (by decide) (v := .int (nI sz)) rfl kw17_9 rfl dX2_record_32 ?_
    refine lv_iconst (v := (nI 1)) S.1 S.2.1 dX2_record_35 (by decide) ?_
    refine lv_iadd S.1 S.2.1 dX2_record_36 ?_
    refine x_top (y := (nI (sz + 1))) (nI_add sz 1) ?_
    refine x_put S hE hS (bk1 (by omega)) (ho) (C := RX2) (T := TX2) (N := 2) rfl inlX2 tyX2 tyX2_ok nmX2 1 (by decide) (Nat.le_of_ble_eq_true rfl) kw17_9 rfl rfl (v := .int (nI (sz + 1))) rfl rfl dX2_record_37 (fun H locs hX hO1 hS => ?_)
    have hO := hO.tr hO1 (fun q z => by subst z; exact bk1 (by omega))
    have hA := hA.fr (fun q _ z => hO1.2 q z)
    subst hQ
    refine x_retV S hr hlk hS hO ?_ dX2_record_40
    exact ⟨hQt, by rw [hiLen, if_neg h1]; exact hX, by rw [hiLen, if_neg h1]; omega, π, g, by rw [hiRec, if_neg h1]; exact hA⟩
  · have h4 : sz = 4 := (nI_eq (by omega) (by decide)).mp h1
    subst h4
    refine lv_aload_n S.1 S.2.1 dX2_record_8 rfl (lv_at hl 0 rfl) ?_
    refine xk_V (x_runV (As := []) (rest := []) S hE hS (fun q z => z) (c_X2_dropOldest l E a 3 h π g _ hQt ho hA) kv_X2_dropOldest kw17_10 kw17_11 kw17_12 (x_recv hE (ho) (ci := 2) rfl) ⟨Nat.le_of_ble_eq_true rfl, Nat.le_of_ble_eq_true rfl⟩ rfl rfl rfl hl.1 rfl (Nat.le_of_ble_eq_true rfl) dX2_record_9 ⟨Nat.zero_le _, Nat.zero_le _⟩) hS (fun q z => z) (fun H locs hX hO1 hS => ?_)
    have hO := hO.tr hO1 (fun q z => z)
    have hC := hC.fr (fun q z => hO1.2 q (fun y => by obtain ⟨u, v⟩ := z; obtain ⟨u', v'⟩ := y; omega))
    obtain ⟨ho, π1, g1, hA⟩ := hX
    refine lv_aload_n S.1 S.2.1 dX2_record_12 rfl (lv_at hl 0 rfl) ?_
    refine lv_aload_n S.1 S.2.1 dX2_record_13 rfl (lv_at hl 0 rfl) ?_
    refine x_get S hE (ho) (C := RX2) (T := TX2) (N := 2) rfl inlX2 1 (by decide) (v := .int (nI 3)) rfl kw17_9 rfl dX2_record_14 ?_
    refine xk_qs (r := (a + 2 + 18 * π1 3)) (x_runV (As := [.int (nI 3)]) (rest := []) S hE hS (fun _ h => h.elim) (c_X2_stateAt l E a (hiDrop h) π1 g1 (nI 3) 3 _ hQt ho hA (by decide)) kv_X2_stateAt kw17_14 kw17_15 kw17_16 (x_recv hE (ho) (ci := 2) rfl) ⟨Nat.le_of_ble_eq_true rfl, Nat.le_of_ble_eq_true rfl⟩ rfl rfl rfl hl.1 rfl (Nat.le_of_ble_eq_true rfl) dX2_record_17 ⟨Nat.zero_le _, Nat.zero_le _⟩) ?_
    refine lv_astore_n S.1 S.2.1 dX2_record_20 rfl hl (by decide) rfl (fun ls hl => ?_)
    have hl : lv_has ls 3 [(2, .ref (a + 2 + 18 * π1 3)), (0, .ref a), (1, .ref b)] := hl
    refine lv_aload_n S.1 S.2.1 dX2_record_21 rfl (lv_at hl 0 rfl) ?_
    refine lv_ifnull S.1 S.2.1 dX2_record_22 ?_
    refine lv_aload_n S.1 S.2.1 dX2_record_25 rfl (lv_at hl 0 rfl) ?_
    refine lv_aload_n S.1 S.2.1 dX2_record_26 rfl (lv_at hl 2 rfl) ?_
    have hpk := (hA.2.1 3 (by decide)).1
    refine xk_V (x_runVN (As := [.ref b]) (rest := []) S hE hS (fun q z => by obtain ⟨u, v⟩ := z; exact ⟨by omega, by omega⟩) (c_X0_copyFrom l E (a + 2 + 18 * π1 3) b ((hiDrop h) 3) χ _ (hA.2.1 3 (by decide)).2.2 hC (by omega)) kv_X0_copyFrom nw62 kw17_18 kw17_19 (x_recv hE ((hA.2.1 3 (by decide)).2.2.1) (ci := 0) rfl) ⟨Nat.le_of_ble_eq_true rfl, Nat.le_of_ble_eq_true rfl⟩ rfl rfl rfl hl.1 rfl (Nat.le_of_ble_eq_true rfl) dX2_record_27 ⟨Nat.zero_le _, Nat.zero_le _⟩) hS (fun q z => by obtain ⟨u, v⟩ := z; exact ⟨by omega, by omega⟩) (fun H locs hX hO1 hS => ?_)
    have hO := hO.tr hO1 (fun q z => by obtain ⟨u, v⟩ := z; exact ⟨by omega, by omega⟩)
    have ho := va_at.kept ho (hO1.2 a (fun z => by obtain ⟨u, v⟩ := z; omega))
    have hA := hA.put (by decide) hX hO1
    refine lv_aload_n S.1 S.2.1 dX2_record_30 rfl (lv_at hl 1 rfl) ?_
    refine lv_dup S.1 S.2.1 dX2_record_31 rfl ?_
    refine x_get S hE (ho) (C := RX2) (T := TX2) (N := 2) rfl inlX2 1 (by decide) (v := .int (nI 3)) rfl kw17_9 rfl dX2_record_32 ?_
    refine lv_iconst (v := (nI 1)) S.1 S.2.1 dX2_record_35 (by decide) ?_
    refine lv_iadd S.1 S.2.1 dX2_record_36 ?_
    refine x_top (y := (nI 4)) (nI_add 3 1) ?_
    refine x_put S hE hS (bk1 (by omega)) (ho) (C := RX2) (T := TX2) (N := 2) rfl inlX2 tyX2 tyX2_ok nmX2 1 (by decide) (Nat.le_of_ble_eq_true rfl) kw17_9 rfl rfl (v := .int (nI 4)) rfl rfl dX2_record_37 (fun H locs hX hO1 hS => ?_)
    have hO := hO.tr hO1 (fun q z => by subst z; exact bk1 (by omega))
    have hA := hA.fr (fun q _ z => hO1.2 q z)
    subst hQ
    refine x_retV S hr hlk hS hO ?_ dX2_record_40
    exact ⟨hQt, by rw [hiLen, if_pos rfl]; exact hX, by rw [hiLen, if_pos rfl]; exact Nat.le_refl 4, π1, g1, by rw [hiRec, if_pos rfl]; exact hA⟩
