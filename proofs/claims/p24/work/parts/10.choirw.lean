/-! 10.choirw: walks, by program -/
def lR (χ : CS) (k : Nat) (x : Int32) : CS := setL χ k (lnRem (χ.2.1 k) x)
def lA (χ : CS) (k N : Nat) (x : Int32) : CS := setL χ k (lnApp N (χ.2.1 k) x)
def chCome (χ : CS) (x : Int32) : CS := lA (setT χ (ntPut χ.1 3 x (nI 1))) 0 8 x
def chSend0 (χ : CS) (x : Int32) : CS := lA (lR χ 0 x) 1 4 x
def chSend (χ : CS) (x : Int32) : CS := setS (setT (chSend0 χ x) (ntDown (chSend0 χ x).1 x (nI 5))) 3 ((setT (chSend0 χ x) (ntDown (chSend0 χ x).1 x (nI 5))).2.2.2 3 + nI 1)
def chAnew0 (χ : CS) (x z : Int32) : CS := lA (lR (setT χ (ntOver χ.1 x z)) 0 x) 0 8 x
def chAnew (χ : CS) (x z : Int32) : CS := setS (chAnew0 χ x z) 4 ((chAnew0 χ x z).2.2.2 4 + nI 1)
def chTake0 (χ : CS) (p q z : Int32) : CS := setS (setT χ (ntApp χ.1 (χ.2.2.2 0) p q z)) 0 (χ.2.2.2 0 + nI 1)
def chTake (χ : CS) (p q z : Int32) : CS :=
  if chMust χ then lA (chTake0 χ p q z) 2 6 (χ.2.2.2 0) else
  if chFree (chTake0 χ p q z) = 0 then chCome (chSend (chTake0 χ p q z) (chHome (chTake0 χ p q z))) (χ.2.2.2 0) else chCome (chTake0 χ p q z) (χ.2.2.2 0)
def chLet (χ : CS) (x : Int32) : CS :=
  if ntG χ.1 3 x = 0 then setT (lR χ 2 x) (ntEnd (lR χ 2 x).1 x) else if χ.2.2.2 2 = nI 1 then setT χ (ntPut χ.1 6 x (nI 1)) else setT χ (ntDown χ.1 x (nI 4))
def mvStep (k : Nat) (χ : CS) (i : Nat) : CS :=
  if ntSings (setT χ (ntMove χ.1 (lnAt (χ.2.1 k) (nI i)))).1 (lnAt (χ.2.1 k) (nI i)) then setT χ (ntMove χ.1 (lnAt (χ.2.1 k) (nI i))) else lR (setT χ (ntMove χ.1 (lnAt (χ.2.1 k) (nI i)))) k (lnAt (χ.2.1 k) (nI i))
def mvN (k : Nat) : Nat → CS → CS
  | 0, χ => χ
  | i + 1, χ => mvN k i (mvStep k χ i)
def chMove (k : Nat) (χ : CS) : CS := mvN k (χ.2.1 k).length χ
def odX (χ : CS) : Int32 := lnAt (χ.2.1 2) (nI 0)
def odV (χ : CS) : Int32 := chVoice χ (ntG χ.1 0 (odX χ)) (ntG χ.1 1 (odX χ))
def odStep (χ : CS) : CS := if odV χ = (-1) then chCome (lR χ 2 (odX χ)) (odX χ) else chAnew (setT (lR χ 2 (odX χ)) (ntEnd (lR χ 2 (odX χ)).1 (odX χ))) (odV χ) (ntG (setT (lR χ 2 (odX χ)) (ntEnd (lR χ 2 (odX χ)).1 (odX χ))).1 2 (odX χ))
def odN : Nat → CS → CS
  | 0, χ => χ
  | k + 1, χ => if 0 < (χ.2.1 2).length then (if odV χ = (-1) ∧ chFree χ = 0 then χ else odN k (odStep χ)) else χ
def chDoor (χ : CS) : CS := odN 6 χ
def chTick (χ : CS) : CS := chDoor (chMove 1 (chMove 0 (setS χ 1 (χ.2.2.2 1 + nI 1))))
def mpStep (d : Int32) (r : CS × Int32) (x : Int32) : CS × Int32 := if d = 0 ∧ ntG r.1.1 6 x = nI 1 then (setT r.1 (ntDown r.1.1 x (nI 4)), r.2 + nI 1) else r
def chPed (χ : CS) (d : Int32) : CS × Int32 := (χ.2.1 0).foldl (mpStep d) (setS χ 2 d, nI 0)
def laStep (χ : CS) (x : Int32) : CS := if ntG χ.1 3 x = nI 4 then χ else setT χ (ntDown χ.1 x (nI 4))
def chAll (χ : CS) : CS := (χ.2.1 0).foldl laStep (setL χ 2 [])
def chCopy (χo χ : CS) : CS := (ntCopy χo.1 χ.1 (χo.2.2.2 0), χo.2.1, xcpy χo.2.2.1 3 χ.2.2.1 3 (nI 3), χo.2.2.2)
theorem laStep_L (χ : CS) (x : Int32) : (laStep χ x).2 = χ.2 := by
  unfold laStep; by_cases h : ntG χ.1 3 x = nI 4
  · rw [if_pos h]
  · rw [if_neg h]; rfl
theorem laFold_L (L : List Int32) : ∀ χ : CS, (L.foldl laStep χ).2 = χ.2 := by
  induction L with
  | nil => intro χ; rfl
  | cons x l ih => intro χ; rw [List.foldl_cons, ih, laStep_L]
theorem mpStep_L (d : Int32) (r : CS × Int32) (x : Int32) : (mpStep d r x).1.2 = r.1.2 := by
  unfold mpStep; by_cases h : d = 0 ∧ ntG r.1.1 6 x = nI 1
  · rw [if_pos h]; rfl
  · rw [if_neg h]
theorem mpFold_L (d : Int32) (L : List Int32) : ∀ r : CS × Int32, (L.foldl (mpStep d) r).1.2 = r.1.2 := by
  induction L with
  | nil => intro r; rfl
  | cons x l ih => intro r; rw [List.foldl_cons, ih, mpStep_L]
theorem LinP.nil {E : XE} {a N : Nat} {L : List Int32} {H H1 : Heap} (h : LinP E a N L H) (hX : XO E a 3 [.ref (a + 1), .int (nI 0)] H1) (hO : Out (fun q => q = a) H H1) : LinP E a N [] H1 := by
  obtain ⟨h1, h2, f, h3, h4⟩ := h
  exact ⟨hX, Nat.zero_le _, f, va_at.kept h3 (hO.2 _ (fun z => by have z : a + 1 = a := z; omega)), fun j hj => absurd hj (Nat.not_lt_zero _)⟩
theorem out_in {b n k : Nat} {H0 H1 H2 : Heap} {c : Nat} (h : Out (bk b n) H0 H1) (h2 : Out (bk (b + k) c) H1 H2) (hk : k + c ≤ n) : Out (bk b n) H0 H2 := h.tr h2 (fun q z => by obtain ⟨u, v⟩ := z; exact ⟨by omega, by omega⟩)
theorem bk_in {b n k c : Nat} (hk : k + c ≤ n) : ∀ q, bk (b + k) c q → bk b n q := fun q z => by obtain ⟨u, v⟩ := z; exact ⟨by omega, by omega⟩
theorem bk_eq {b n k : Nat} (hk : k < n) : ∀ q, q = b + k → bk b n q := fun q z => by subst z; exact ⟨by omega, by omega⟩
theorem sub1_lt {j : Nat} (hj : j < 2 ^ 31) (h : nI j - nI 1 < 0) : j = 0 := by
  rcases Nat.eq_zero_or_pos j with h0 | h0
  · exact h0
  · obtain ⟨i, rfl⟩ : ∃ i, j = i + 1 := ⟨j - 1, by omega⟩
    rw [pk_sub (by omega)] at h
    exact absurd h (nI_pos (by omega))
theorem sub1_nlt {j : Nat} (hj : j < 2 ^ 31) (h : ¬ nI j - nI 1 < 0) : ∃ i, j = i + 1 := by
  rcases Nat.eq_zero_or_pos j with h0 | h0
  · subst h0; exact absurd (show nI 0 - nI 1 < 0 by decide) h
  · exact ⟨j - 1, by omega⟩
theorem sub1e (j : Nat) : nI (j + 1) - nI 1 = nI j := by
  rw [pk_sub (by omega)]; rfl
theorem idec1 (a : Nat) : nI a + Int32.ofInt (-1) = nI a - nI 1 := by
  rw [Int32.sub_eq_add_neg]; rfl
abbrev rm_X0_comeIn : Room := ({ frames := 2, cells := 0, slots := 0, locals := 43 } : Room)
set_option maxRecDepth 100000 in
set_option maxHeartbeats 600000 in
theorem c_X0_comeIn (l : Launch) (E : XE) (b : Nat) (χ : CS) (x : Int32) (H : Heap) (hC : ChoP E b χ H) : Wv l E yX0_comeIn cX0_comeIn 2 rm_X0_comeIn [.ref b, .int x] H (bk b 18) (ChoP E b (chCome χ x)) := by
  refine met_of (by decide) (Nat.le_of_ble_eq_true rfl) (fun p e s m args below meth c hBD Q hQ ls hl => ?_)
  obtain ⟨S, hr, hlk, hnm, hE, hH⟩ := hBD
  subst hH
  have hl : lv_has ls 2 [(0, .ref b), (1, .int x)] := hl
  have hO : Out (bk b 18) s.heap s.heap := Out.rf
  have hS : va_S (bk b 18) s.heap s.heap [] := va_S.rf
  refine lv_aload_n S.1 S.2.1 dX0_comeIn_0 rfl (lv_at hl 0 rfl) ?_
  refine x_get S hE (hC.1) (C := RX0) (T := TX0) (N := 10) rfl inlX0 0 (by decide) (v := .ref (b + 1)) rfl kw2_16 rfl dX0_comeIn_1 ?_
  refine x_getN S hE (hC.2.1.1) (C := RX5) (T := TX5) (N := 8) rfl inlX5 3 (by decide) (v := .ref (b + 1 + 4)) rfl nw6 rfl dX0_comeIn_4 ?_
  refine lv_iload_n S.1 S.2.1 dX0_comeIn_7 rfl (lv_at hl 1 rfl) ?_
  refine lv_iconst (v := (nI 1)) S.1 S.2.1 dX0_comeIn_8 (by decide) ?_
  refine xk_V (x_runSN (As := [.ref (b + 1 + 4), .int x, .int (nI 1)]) (rest := []) S hE hS (fun q z => by have z : q = b + 1 + (3 + 1) := z; exact ⟨by omega, by omega⟩) (c_X7_put l E (b + 1 + (3 + 1)) 200 (χ.1 3) x (nI 1) _ (hC.2.1.2 3 (by decide)) (by decide)) kv_X7_put nw75 kw12_9 ⟨Nat.le_of_ble_eq_true rfl, Nat.le_of_ble_eq_true rfl⟩ rfl rfl rfl hl.1 rfl (Nat.le_of_ble_eq_true rfl) dX0_comeIn_9 ⟨Nat.zero_le _, Nat.zero_le _⟩) hS (fun q z => by have z : q = b + 1 + (3 + 1) := z; exact ⟨by omega, by omega⟩) (fun H locs hX hO1 hS => ?_)
  have hO := hO.tr hO1 (fun q z => by have z : q = b + 1 + (3 + 1) := z; exact ⟨by omega, by omega⟩)
  have hN1 := hC.2.1.put (k := 3) (by decide) hX hO1
  have hC : ChoP E b (setT χ (ntPut χ.1 3 x (nI 1))) H := hC.ntT hN1 (hO1.mono (fun q z => by have z : q = b + 1 + (3 + 1) := z; exact ⟨by omega, by omega⟩))
  refine lv_aload_n S.1 S.2.1 dX0_comeIn_12 rfl (lv_at hl 0 rfl) ?_
  refine x_get S hE (hC.1) (C := RX0) (T := TX0) (N := 10) rfl inlX0 1 (by decide) (v := .ref (b + 9)) rfl kw2_20 rfl dX0_comeIn_13 ?_
  refine lv_iload_n S.1 S.2.1 dX0_comeIn_16 rfl (lv_at hl 1 rfl) ?_
  refine xk_V (x_runVN (As := [.int x]) (rest := []) S hE hS (bk_in (k := 9) (by decide)) (c_X3_append l E (b + 9) 8 ((setT χ (ntPut χ.1 3 x (nI 1))).2.1 0) x _ hC.2.2.1 (by decide)) kv_X3_append nw71 kw18_18 kw18_19 (x_recv hE (hC.2.2.1.1) (ci := 3) rfl) ⟨Nat.le_of_ble_eq_true rfl, Nat.le_of_ble_eq_true rfl⟩ rfl rfl rfl hl.1 rfl (Nat.le_of_ble_eq_true rfl) dX0_comeIn_17 ⟨Nat.zero_le _, Nat.zero_le _⟩) hS (bk_in (k := 9) (by decide)) (fun H locs hX hO1 hS => ?_)
  have hO := out_in hO hO1 (k := 9) (by decide)
  have hC : ChoP E b (lA (setT χ (ntPut χ.1 3 x (nI 1))) 0 8 x) H := hC.l0 hX hO1
  subst hQ
  refine x_retV S hr hlk hS hO ?_ dX0_comeIn_20
  exact hC
abbrev rm_X0_sendHome : Room := ({ frames := 2, cells := 0, slots := 0, locals := 47 } : Room)
set_option maxRecDepth 100000 in
set_option maxHeartbeats 600000 in
theorem c_X0_sendHome (l : Launch) (E : XE) (b : Nat) (χ : CS) (x : Int32) (H : Heap) (hC : ChoP E b χ H) : Wv l E yX0_sendHome cX0_sendHome 2 rm_X0_sendHome [.ref b, .int x] H (bk b 18) (ChoP E b (chSend χ x)) := by
  refine met_of (by decide) (Nat.le_of_ble_eq_true rfl) (fun p e s m args below meth c hBD Q hQ ls hl => ?_)
  obtain ⟨S, hr, hlk, hnm, hE, hH⟩ := hBD
  subst hH
  have hl : lv_has ls 2 [(0, .ref b), (1, .int x)] := hl
  have hO : Out (bk b 18) s.heap s.heap := Out.rf
  have hS : va_S (bk b 18) s.heap s.heap [] := va_S.rf
  refine lv_aload_n S.1 S.2.1 dX0_sendHome_0 rfl (lv_at hl 0 rfl) ?_
  refine x_get S hE (hC.1) (C := RX0) (T := TX0) (N := 10) rfl inlX0 1 (by decide) (v := .ref (b + 9)) rfl kw2_20 rfl dX0_sendHome_1 ?_
  refine lv_iload_n S.1 S.2.1 dX0_sendHome_4 rfl (lv_at hl 1 rfl) ?_
  refine xk_V (x_runVN (As := [.int x]) (rest := []) S hE hS (bk_in (k := 9) (by decide)) (c_X3_removeNote l E (b + 9) 8 (χ.2.1 0) x _ hC.2.2.1 (by decide)) kv_X3_removeNote nw73 kw19_1 kw19_2 (x_recv hE (hC.2.2.1.1) (ci := 3) rfl) ⟨Nat.le_of_ble_eq_true rfl, Nat.le_of_ble_eq_true rfl⟩ rfl rfl rfl hl.1 rfl (Nat.le_of_ble_eq_true rfl) dX0_sendHome_5 ⟨Nat.zero_le _, Nat.zero_le _⟩) hS (bk_in (k := 9) (by decide)) (fun H locs hX hO1 hS => ?_)
  have hO := out_in hO hO1 (k := 9) (by decide)
  have hC : ChoP E b (lR χ 0 x) H := hC.l0 hX hO1
  refine lv_aload_n S.1 S.2.1 dX0_sendHome_8 rfl (lv_at hl 0 rfl) ?_
  refine x_get S hE (hC.1) (C := RX0) (T := TX0) (N := 10) rfl inlX0 2 (by decide) (v := .ref (b + 11)) rfl kw2_21 rfl dX0_sendHome_9 ?_
  refine lv_iload_n S.1 S.2.1 dX0_sendHome_12 rfl (lv_at hl 1 rfl) ?_
  refine xk_V (x_runVN (As := [.int x]) (rest := []) S hE hS (bk_in (k := 11) (by decide)) (c_X3_append l E (b + 11) 4 ((lR χ 0 x).2.1 1) x _ hC.2.2.2.1 (by decide)) kv_X3_append nw71 kw18_18 kw18_19 (x_recv hE (hC.2.2.2.1.1) (ci := 3) rfl) ⟨Nat.le_of_ble_eq_true rfl, Nat.le_of_ble_eq_true rfl⟩ rfl rfl rfl hl.1 rfl (Nat.le_of_ble_eq_true rfl) dX0_sendHome_13 ⟨Nat.zero_le _, Nat.zero_le _⟩) hS (bk_in (k := 11) (by decide)) (fun H locs hX hO1 hS => ?_)
  have hO := out_in hO hO1 (k := 11) (by decide)
  have hC : ChoP E b (lA (lR χ 0 x) 1 4 x) H := hC.l1 hX hO1
  refine lv_aload_n S.1 S.2.1 dX0_sendHome_16 rfl (lv_at hl 0 rfl) ?_
  refine x_get S hE (hC.1) (C := RX0) (T := TX0) (N := 10) rfl inlX0 0 (by decide) (v := .ref (b + 1)) rfl kw2_16 rfl dX0_sendHome_17 ?_
  refine lv_iload_n S.1 S.2.1 dX0_sendHome_20 rfl (lv_at hl 1 rfl) ?_
  refine lv_iconst (v := (nI 5)) S.1 S.2.1 dX0_sendHome_21 (by decide) ?_
  refine xk_V (x_runVN (As := [.int x, .int (nI 5)]) (rest := []) S hE hS (bk_in (k := 1) (by decide)) (c_X5_startDown l E (b + 1) (lA (lR χ 0 x) 1 4 x).1 ((lA (lR χ 0 x) 1 4 x).2.2.2 0) x (nI 5) _ hC.2.1) kv_X5_startDown nw74 kw19_4 kw19_5 (x_recv hE (hC.2.1.1) (ci := 5) rfl) ⟨Nat.le_of_ble_eq_true rfl, Nat.le_of_ble_eq_true rfl⟩ rfl rfl rfl hl.1 rfl (Nat.le_of_ble_eq_true rfl) dX0_sendHome_22 ⟨Nat.zero_le _, Nat.zero_le _⟩) hS (bk_in (k := 1) (by decide)) (fun H locs hX hO1 hS => ?_)
  have hO := out_in hO hO1 (k := 1) (by decide)
  have hC : ChoP E b (setT (lA (lR χ 0 x) 1 4 x) (ntDown (lA (lR χ 0 x) 1 4 x).1 x (nI 5))) H := hC.ntT hX hO1
  refine lv_aload_n S.1 S.2.1 dX0_sendHome_25 rfl (lv_at hl 0 rfl) ?_
  refine lv_dup S.1 S.2.1 dX0_sendHome_26 rfl ?_
  refine x_get S hE (hC.1) (C := RX0) (T := TX0) (N := 10) rfl inlX0 8 (by decide) (v := .int ((setT (lA (lR χ 0 x) 1 4 x) (ntDown (lA (lR χ 0 x) 1 4 x).1 x (nI 5))).2.2.2 3)) rfl kw17_23 rfl dX0_sendHome_27 ?_
  refine lv_iconst (v := (nI 1)) S.1 S.2.1 dX0_sendHome_30 (by decide) ?_
  refine lv_iadd S.1 S.2.1 dX0_sendHome_31 ?_
  refine x_put S hE hS (bk1 (by omega)) (hC.1) (C := RX0) (T := TX0) (N := 10) rfl inlX0 tyX0 tyX0_ok nmX0 8 (by decide) (Nat.le_of_ble_eq_true rfl) kw17_23 rfl rfl (v := .int (((setT (lA (lR χ 0 x) 1 4 x) (ntDown (lA (lR χ 0 x) 1 4 x).1 x (nI 5))).2.2.2 3) + (nI 1))) rfl rfl dX0_sendHome_32 (fun H locs hX hO1 hS => ?_)
  have hO := hO.tr hO1 (fun q z => by subst z; exact bk1 (by omega))
  have hC : ChoP E b (setS (setT (lA (lR χ 0 x) 1 4 x) (ntDown (lA (lR χ 0 x) 1 4 x).1 x (nI 5))) 3 (((setT (lA (lR χ 0 x) 1 4 x) (ntDown (lA (lR χ 0 x) 1 4 x).1 x (nI 5))).2.2.2 3) + (nI 1))) H := hC.ob (by decide) hX hO1
  subst hQ
  refine x_retV S hr hlk hS hO ?_ dX0_sendHome_35
  exact hC
abbrev rm_X0_beginAnew : Room := ({ frames := 3, cells := 0, slots := 0, locals := 64 } : Room)
set_option maxRecDepth 100000 in
set_option maxHeartbeats 600000 in
theorem c_X0_beginAnew (l : Launch) (E : XE) (b : Nat) (χ : CS) (x : Int32) (z : Int32) (H : Heap) (hC : ChoP E b χ H) : Wv l E yX0_beginAnew cX0_beginAnew 3 rm_X0_beginAnew [.ref b, .int x, .int z] H (bk b 18) (ChoP E b (chAnew χ x z)) := by
  refine met_of (by decide) (Nat.le_of_ble_eq_true rfl) (fun p e s m args below meth c hBD Q hQ ls hl => ?_)
  obtain ⟨S, hr, hlk, hnm, hE, hH⟩ := hBD
  subst hH
  have hl : lv_has ls 3 [(0, .ref b), (1, .int x), (2, .int z)] := hl
  have hO : Out (bk b 18) s.heap s.heap := Out.rf
  have hS : va_S (bk b 18) s.heap s.heap [] := va_S.rf
  refine lv_aload_n S.1 S.2.1 dX0_beginAnew_0 rfl (lv_at hl 0 rfl) ?_
  refine x_get S hE (hC.1) (C := RX0) (T := TX0) (N := 10) rfl inlX0 0 (by decide) (v := .ref (b + 1)) rfl kw2_16 rfl dX0_beginAnew_1 ?_
  refine lv_iload_n S.1 S.2.1 dX0_beginAnew_4 rfl (lv_at hl 1 rfl) ?_
  refine lv_iload_n S.1 S.2.1 dX0_beginAnew_5 rfl (lv_at hl 2 rfl) ?_
  refine xk_V (x_runVN (As := [.int x, .int z]) (rest := []) S hE hS (bk_in (k := 1) (by decide)) (c_X5_startOver l E (b + 1) χ.1 (χ.2.2.2 0) x z _ hC.2.1) kv_X5_startOver nw77 kw19_14 kw19_15 (x_recv hE (hC.2.1.1) (ci := 5) rfl) ⟨Nat.le_of_ble_eq_true rfl, Nat.le_of_ble_eq_true rfl⟩ rfl rfl rfl hl.1 rfl (Nat.le_of_ble_eq_true rfl) dX0_beginAnew_6 ⟨Nat.zero_le _, Nat.zero_le _⟩) hS (bk_in (k := 1) (by decide)) (fun H locs hX hO1 hS => ?_)
  have hO := out_in hO hO1 (k := 1) (by decide)
  have hC : ChoP E b (setT χ (ntOver χ.1 x z)) H := hC.ntT hX hO1
  refine lv_aload_n S.1 S.2.1 dX0_beginAnew_9 rfl (lv_at hl 0 rfl) ?_
  refine x_get S hE (hC.1) (C := RX0) (T := TX0) (N := 10) rfl inlX0 1 (by decide) (v := .ref (b + 9)) rfl kw2_20 rfl dX0_beginAnew_10 ?_
  refine lv_iload_n S.1 S.2.1 dX0_beginAnew_13 rfl (lv_at hl 1 rfl) ?_
  refine xk_V (x_runVN (As := [.int x]) (rest := []) S hE hS (bk_in (k := 9) (by decide)) (c_X3_removeNote l E (b + 9) 8 ((setT χ (ntOver χ.1 x z)).2.1 0) x _ hC.2.2.1 (by decide)) kv_X3_removeNote nw73 kw19_1 kw19_2 (x_recv hE (hC.2.2.1.1) (ci := 3) rfl) ⟨Nat.le_of_ble_eq_true rfl, Nat.le_of_ble_eq_true rfl⟩ rfl rfl rfl hl.1 rfl (Nat.le_of_ble_eq_true rfl) dX0_beginAnew_14 ⟨Nat.zero_le _, Nat.zero_le _⟩) hS (bk_in (k := 9) (by decide)) (fun H locs hX hO1 hS => ?_)
  have hO := out_in hO hO1 (k := 9) (by decide)
  have hC : ChoP E b (lR (setT χ (ntOver χ.1 x z)) 0 x) H := hC.l0 hX hO1
  refine lv_aload_n S.1 S.2.1 dX0_beginAnew_17 rfl (lv_at hl 0 rfl) ?_
  refine x_get S hE (hC.1) (C := RX0) (T := TX0) (N := 10) rfl inlX0 1 (by decide) (v := .ref (b + 9)) rfl kw2_20 rfl dX0_beginAnew_18 ?_
  refine lv_iload_n S.1 S.2.1 dX0_beginAnew_21 rfl (lv_at hl 1 rfl) ?_
  refine xk_V (x_runVN (As := [.int x]) (rest := []) S hE hS (bk_in (k := 9) (by decide)) (c_X3_append l E (b + 9) 8 ((lR (setT χ (ntOver χ.1 x z)) 0 x).2.1 0) x _ hC.2.2.1 (by decide)) kv_X3_append nw71 kw18_18 kw18_19 (x_recv hE (hC.2.2.1.1) (ci := 3) rfl) ⟨Nat.le_of_ble_eq_true rfl, Nat.le_of_ble_eq_true rfl⟩ rfl rfl rfl hl.1 rfl (Nat.le_of_ble_eq_true rfl) dX0_beginAnew_22 ⟨Nat.zero_le _, Nat.zero_le _⟩) hS (bk_in (k := 9) (by decide)) (fun H locs hX hO1 hS => ?_)
  have hO := out_in hO hO1 (k := 9) (by decide)
  have hC : ChoP E b (lA (lR (setT χ (ntOver χ.1 x z)) 0 x) 0 8 x) H := hC.l0 hX hO1
  refine lv_aload_n S.1 S.2.1 dX0_beginAnew_25 rfl (lv_at hl 0 rfl) ?_
  refine lv_dup S.1 S.2.1 dX0_beginAnew_26 rfl ?_
  refine x_get S hE (hC.1) (C := RX0) (T := TX0) (N := 10) rfl inlX0 9 (by decide) (v := .int ((lA (lR (setT χ (ntOver χ.1 x z)) 0 x) 0 8 x).2.2.2 4)) rfl kw18_0 rfl dX0_beginAnew_27 ?_
  refine lv_iconst (v := (nI 1)) S.1 S.2.1 dX0_beginAnew_30 (by decide) ?_
  refine lv_iadd S.1 S.2.1 dX0_beginAnew_31 ?_
  refine x_put S hE hS (bk1 (by omega)) (hC.1) (C := RX0) (T := TX0) (N := 10) rfl inlX0 tyX0 tyX0_ok nmX0 9 (by decide) (Nat.le_of_ble_eq_true rfl) kw18_0 rfl rfl (v := .int (((lA (lR (setT χ (ntOver χ.1 x z)) 0 x) 0 8 x).2.2.2 4) + (nI 1))) rfl rfl dX0_beginAnew_32 (fun H locs hX hO1 hS => ?_)
  have hO := hO.tr hO1 (fun q z => by subst z; exact bk1 (by omega))
  have hC : ChoP E b (setS (lA (lR (setT χ (ntOver χ.1 x z)) 0 x) 0 8 x) 4 (((lA (lR (setT χ (ntOver χ.1 x z)) 0 x) 0 8 x).2.2.2 4) + (nI 1))) H := hC.ob (by decide) hX hO1
  subst hQ
  refine x_retV S hr hlk hS hO ?_ dX0_beginAnew_35
  exact hC
abbrev rm_X0_takeNewNote : Room := ({ frames := 5, cells := 0, slots := 0, locals := 110 } : Room)
set_option maxRecDepth 100000 in
set_option maxHeartbeats 600000 in
theorem c_X0_takeNewNote (l : Launch) (E : XE) (b : Nat) (χ : CS) (p0 : Int32) (q0 : Int32) (z : Int32) (H : Heap) (hC : ChoP E b χ H) : Wr l E yX0_takeNewNote cX0_takeNewNote 6 (some .int) rm_X0_takeNewNote [.ref b, .int p0, .int q0, .int z] H (bk b 18) (fun v H1 => v = χ.2.2.2 0 ∧ ChoP E b (chTake χ p0 q0 z) H1) := by
  refine met_of (by decide) (Nat.le_of_ble_eq_true rfl) (fun p e s m args below meth c hBD Q hQ ls hl => ?_)
  obtain ⟨S, hr, hlk, hnm, hE, hH⟩ := hBD
  subst hH
  have hl : lv_has ls 6 [(0, .ref b), (1, .int p0), (2, .int q0), (3, .int z)] := hl
  have hO : Out (bk b 18) s.heap s.heap := Out.rf
  have hS : va_S (bk b 18) s.heap s.heap [] := va_S.rf
  refine lv_aload_n S.1 S.2.1 dX0_takeNewNote_0 rfl (lv_at hl 0 rfl) ?_
  refine xk_R (v := (bI (chMust χ))) (x_runV (As := []) (rest := []) S hE hS (fun _ h => h.elim) (c_X0_newNoteMustWait l E b χ _ hC) kv_X0_newNoteMustWait kw17_0 kw17_1 kw17_2 (x_recv hE (hC.1) (ci := 0) rfl) ⟨Nat.le_of_ble_eq_true rfl, Nat.le_of_ble_eq_true rfl⟩ rfl rfl rfl hl.1 rfl (Nat.le_of_ble_eq_true rfl) dX0_takeNewNote_1 ⟨Nat.zero_le _, Nat.zero_le _⟩) ?_
  refine lv_istore S.1 S.2.1 dX0_takeNewNote_4 hl (by decide) rfl (fun ls hl => ?_)
  have hl : lv_has ls 6 [(4, .int (bI (chMust χ))), (0, .ref b), (1, .int p0), (2, .int q0), (3, .int z)] := hl
  refine lv_aload_n S.1 S.2.1 dX0_takeNewNote_6 rfl (lv_at hl 1 rfl) ?_
  refine x_get S hE (hC.1) (C := RX0) (T := TX0) (N := 10) rfl inlX0 0 (by decide) (v := .ref (b + 1)) rfl kw2_16 rfl dX0_takeNewNote_7 ?_
  refine lv_iload_n S.1 S.2.1 dX0_takeNewNote_10 rfl (lv_at hl 2 rfl) ?_
  refine lv_iload_n S.1 S.2.1 dX0_takeNewNote_11 rfl (lv_at hl 3 rfl) ?_
  refine lv_iload_n S.1 S.2.1 dX0_takeNewNote_12 rfl (lv_at hl 4 rfl) ?_
  refine xk_W (x_runVN (As := [.int p0, .int q0, .int z]) (rest := []) S hE hS (bk_in (k := 1) (by decide)) (c_X5_append l E (b + 1) χ.1 (χ.2.2.2 0) p0 q0 z _ hC.2.1) kv_X5_append nw69 kw18_15 kw18_16 (x_recv hE (hC.2.1.1) (ci := 5) rfl) ⟨Nat.le_of_ble_eq_true rfl, Nat.le_of_ble_eq_true rfl⟩ rfl rfl rfl hl.1 rfl (Nat.le_of_ble_eq_true rfl) dX0_takeNewNote_13 ⟨Nat.zero_le _, Nat.zero_le _⟩) hS (bk_in (k := 1) (by decide)) (fun v0 H locs hX hO1 hS => ?_)
  obtain ⟨hv0, hX⟩ := hX
  subst hv0
  have hO := out_in hO hO1 (k := 1) (by decide)
  have hC : ChoP E b (chTake0 χ p0 q0 z) H := hC.nt hX hO1
  refine lv_istore S.1 S.2.1 dX0_takeNewNote_16 hl (by decide) rfl (fun ls hl => ?_)
  have hl : lv_has ls 6 [(5, .int (χ.2.2.2 0)), (4, .int (bI (chMust χ))), (0, .ref b), (1, .int p0), (2, .int q0), (3, .int z)] := hl
  refine lv_iload S.1 S.2.1 dX0_takeNewNote_18 (lv_at hl 1 rfl) ?_
  refine lv_if_eq (tgt := 35) S.1 S.2.1 dX0_takeNewNote_20 rfl (fun h1 => ?_) (fun h1 => ?_)
  · skip
    have h1 := bI_0 h1
    refine lv_aload_n S.1 S.2.1 dX0_takeNewNote_35 rfl (lv_at hl 2 rfl) ?_
    refine xk_R (v := (chFree (chTake0 χ p0 q0 z))) (x_runV (As := []) (rest := []) S hE hS (fun _ h => h.elim) (c_X0_freePlaces l E b (chTake0 χ p0 q0 z)  _ hC) kv_X0_freePlaces kw17_4 kw11_20 kw11_21 (x_recv hE (hC.1) (ci := 0) rfl) ⟨Nat.le_of_ble_eq_true rfl, Nat.le_of_ble_eq_true rfl⟩ rfl rfl rfl hl.1 rfl (Nat.le_of_ble_eq_true rfl) dX0_takeNewNote_36 ⟨Nat.zero_le _, Nat.zero_le _⟩) ?_
    refine lv_if_ne (tgt := 50) S.1 S.2.1 dX0_takeNewNote_39 rfl (fun h2 => ?_) (fun h2 => ?_)
    · skip
      refine lv_aload_n S.1 S.2.1 dX0_takeNewNote_50 rfl (lv_at hl 2 rfl) ?_
      refine lv_iload S.1 S.2.1 dX0_takeNewNote_51 (lv_at hl 0 rfl) ?_
      refine xk_V (x_runV (As := [.int (χ.2.2.2 0)]) (rest := []) S hE hS (fun q z => z) (c_X0_comeIn l E b (chTake0 χ p0 q0 z) (χ.2.2.2 0) _ hC) kv_X0_comeIn kw19_7 kw19_8 kw19_9 (x_recv hE (hC.1) (ci := 0) rfl) ⟨Nat.le_of_ble_eq_true rfl, Nat.le_of_ble_eq_true rfl⟩ rfl rfl rfl hl.1 rfl (Nat.le_of_ble_eq_true rfl) dX0_takeNewNote_53 ⟨Nat.zero_le _, Nat.zero_le _⟩) hS (fun q z => z) (fun H locs hX hO1 hS => ?_)
      have hO := hO.tr hO1 (fun q z => z)
      have hC : ChoP E b (chCome (chTake0 χ p0 q0 z) (χ.2.2.2 0)) H := hX
      refine lv_iload S.1 S.2.1 dX0_takeNewNote_56 (lv_at hl 0 rfl) ?_
      subst hQ
      refine x_retW S hr hlk (rfl) hS hO ?_ dX0_takeNewNote_58
      exact ⟨rfl, by rw [chTake, if_neg h1, if_neg h2]; exact hC⟩
    · skip
      refine lv_aload_n S.1 S.2.1 dX0_takeNewNote_42 rfl (lv_at hl 2 rfl) ?_
      refine lv_aload_n S.1 S.2.1 dX0_takeNewNote_43 rfl (lv_at hl 2 rfl) ?_
      refine xk_R (v := (chHome (chTake0 χ p0 q0 z))) (x_runV (As := []) (rest := [.ref b]) S hE hS (fun _ h => h.elim) (c_X0_toSendHome l E b (chTake0 χ p0 q0 z)  _ hC) kv_X0_toSendHome kw17_5 kw11_5 kw11_6 (x_recv hE (hC.1) (ci := 0) rfl) ⟨Nat.le_of_ble_eq_true rfl, Nat.le_of_ble_eq_true rfl⟩ rfl rfl rfl hl.1 rfl (Nat.le_of_ble_eq_true rfl) dX0_takeNewNote_44 ⟨Nat.zero_le _, Nat.zero_le _⟩) ?_
      refine xk_V (x_runV (As := [.int (chHome (chTake0 χ p0 q0 z))]) (rest := []) S hE hS (fun q z => z) (c_X0_sendHome l E b (chTake0 χ p0 q0 z) (chHome (chTake0 χ p0 q0 z)) _ hC) kv_X0_sendHome kw18_21 kw18_22 kw18_23 (x_recv hE (hC.1) (ci := 0) rfl) ⟨Nat.le_of_ble_eq_true rfl, Nat.le_of_ble_eq_true rfl⟩ rfl rfl rfl hl.1 rfl (Nat.le_of_ble_eq_true rfl) dX0_takeNewNote_47 ⟨Nat.zero_le _, Nat.zero_le _⟩) hS (fun q z => z) (fun H locs hX hO1 hS => ?_)
      have hO := hO.tr hO1 (fun q z => z)
      have hC : ChoP E b (chSend (chTake0 χ p0 q0 z) (chHome (chTake0 χ p0 q0 z))) H := hX
      refine lv_aload_n S.1 S.2.1 dX0_takeNewNote_50 rfl (lv_at hl 2 rfl) ?_
      refine lv_iload S.1 S.2.1 dX0_takeNewNote_51 (lv_at hl 0 rfl) ?_
      refine xk_V (x_runV (As := [.int (χ.2.2.2 0)]) (rest := []) S hE hS (fun q z => z) (c_X0_comeIn l E b (chSend (chTake0 χ p0 q0 z) (chHome (chTake0 χ p0 q0 z))) (χ.2.2.2 0) _ hC) kv_X0_comeIn kw19_7 kw19_8 kw19_9 (x_recv hE (hC.1) (ci := 0) rfl) ⟨Nat.le_of_ble_eq_true rfl, Nat.le_of_ble_eq_true rfl⟩ rfl rfl rfl hl.1 rfl (Nat.le_of_ble_eq_true rfl) dX0_takeNewNote_53 ⟨Nat.zero_le _, Nat.zero_le _⟩) hS (fun q z => z) (fun H locs hX hO1 hS => ?_)
      have hO := hO.tr hO1 (fun q z => z)
      have hC : ChoP E b (chCome (chSend (chTake0 χ p0 q0 z) (chHome (chTake0 χ p0 q0 z))) (χ.2.2.2 0)) H := hX
      refine lv_iload S.1 S.2.1 dX0_takeNewNote_56 (lv_at hl 0 rfl) ?_
      subst hQ
      refine x_retW S hr hlk (rfl) hS hO ?_ dX0_takeNewNote_58
      exact ⟨rfl, by rw [chTake, if_neg h1, if_pos h2]; exact hC⟩
  · skip
    have h1 := bI_n0 h1
    refine lv_aload_n S.1 S.2.1 dX0_takeNewNote_23 rfl (lv_at hl 2 rfl) ?_
    refine x_get S hE (hC.1) (C := RX0) (T := TX0) (N := 10) rfl inlX0 3 (by decide) (v := .ref (b + 13)) rfl kw2_22 rfl dX0_takeNewNote_24 ?_
    refine lv_iload S.1 S.2.1 dX0_takeNewNote_27 (lv_at hl 0 rfl) ?_
    refine xk_V (x_runVN (As := [.int (χ.2.2.2 0)]) (rest := []) S hE hS (bk_in (k := 13) (by decide)) (c_X3_append l E (b + 13) 6 ((chTake0 χ p0 q0 z).2.1 2) (χ.2.2.2 0) _ hC.2.2.2.2.1 (by decide)) kv_X3_append nw71 kw18_18 kw18_19 (x_recv hE (hC.2.2.2.2.1.1) (ci := 3) rfl) ⟨Nat.le_of_ble_eq_true rfl, Nat.le_of_ble_eq_true rfl⟩ rfl rfl rfl hl.1 rfl (Nat.le_of_ble_eq_true rfl) dX0_takeNewNote_29 ⟨Nat.zero_le _, Nat.zero_le _⟩) hS (bk_in (k := 13) (by decide)) (fun H locs hX hO1 hS => ?_)
    have hO := out_in hO hO1 (k := 13) (by decide)
    have hC : ChoP E b (lA (chTake0 χ p0 q0 z) 2 6 (χ.2.2.2 0)) H := hC.l2 hX hO1
    refine lv_iload S.1 S.2.1 dX0_takeNewNote_32 (lv_at hl 0 rfl) ?_
    subst hQ
    refine x_retW S hr hlk (rfl) hS hO ?_ dX0_takeNewNote_34
    exact ⟨rfl, by rw [chTake, if_pos h1]; exact hC⟩
abbrev rm_X0_letGo : Room := ({ frames := 2, cells := 0, slots := 0, locals := 47 } : Room)
set_option maxRecDepth 100000 in
set_option maxHeartbeats 600000 in
theorem c_X0_letGo (l : Launch) (E : XE) (b : Nat) (χ : CS) (x : Int32) (H : Heap) (hC : ChoP E b χ H) : Wv l E yX0_letGo cX0_letGo 2 rm_X0_letGo [.ref b, .int x] H (bk b 18) (ChoP E b (chLet χ x)) := by
  refine met_of (by decide) (Nat.le_of_ble_eq_true rfl) (fun p e s m args below meth c hBD Q hQ ls hl => ?_)
  obtain ⟨S, hr, hlk, hnm, hE, hH⟩ := hBD
  subst hH
  have hl : lv_has ls 2 [(0, .ref b), (1, .int x)] := hl
  have hO : Out (bk b 18) s.heap s.heap := Out.rf
  have hS : va_S (bk b 18) s.heap s.heap [] := va_S.rf
  refine lv_aload_n S.1 S.2.1 dX0_letGo_0 rfl (lv_at hl 0 rfl) ?_
  refine x_get S hE (hC.1) (C := RX0) (T := TX0) (N := 10) rfl inlX0 0 (by decide) (v := .ref (b + 1)) rfl kw2_16 rfl dX0_letGo_1 ?_
  refine x_getN S hE (hC.2.1.1) (C := RX5) (T := TX5) (N := 8) rfl inlX5 3 (by decide) (v := .ref (b + 1 + 4)) rfl nw6 rfl dX0_letGo_4 ?_
  refine lv_iload_n S.1 S.2.1 dX0_letGo_7 rfl (lv_at hl 1 rfl) ?_
  refine xk_R (v := (ntG χ.1 3 x)) (x_runSN (As := [.ref (b + 1 + 4), .int x]) (rest := []) S hE hS (fun _ h => h.elim) (c_X7_at l E (b + 1 + (3 + 1)) 200 (χ.1 3) x _ (xr_i (hC.2.1.2 3 (by decide))) (by decide)) kv_X7_at nw49 kw8_2 ⟨Nat.le_of_ble_eq_true rfl, Nat.le_of_ble_eq_true rfl⟩ rfl rfl rfl hl.1 rfl (Nat.le_of_ble_eq_true rfl) dX0_letGo_8 ⟨Nat.zero_le _, Nat.zero_le _⟩) ?_
  refine lv_if_ne (tgt := 33) S.1 S.2.1 dX0_letGo_11 rfl (fun h1 => ?_) (fun h1 => ?_)
  · skip
    refine lv_aload_n S.1 S.2.1 dX0_letGo_33 rfl (lv_at hl 0 rfl) ?_
    refine x_get S hE (hC.1) (C := RX0) (T := TX0) (N := 10) rfl inlX0 7 (by decide) (v := .int (χ.2.2.2 2)) rfl kw17_22 rfl dX0_letGo_34 ?_
    refine lv_iconst (v := (nI 1)) S.1 S.2.1 dX0_letGo_37 (by decide) ?_
    refine lv_icmp_ne (tgt := 56) S.1 S.2.1 dX0_letGo_38 rfl (fun h2 => ?_) (fun h2 => ?_)
    · skip
      refine lv_aload_n S.1 S.2.1 dX0_letGo_56 rfl (lv_at hl 0 rfl) ?_
      refine x_get S hE (hC.1) (C := RX0) (T := TX0) (N := 10) rfl inlX0 0 (by decide) (v := .ref (b + 1)) rfl kw2_16 rfl dX0_letGo_57 ?_
      refine lv_iload_n S.1 S.2.1 dX0_letGo_60 rfl (lv_at hl 1 rfl) ?_
      refine lv_iconst (v := (nI 4)) S.1 S.2.1 dX0_letGo_61 (by decide) ?_
      refine xk_V (x_runVN (As := [.int x, .int (nI 4)]) (rest := []) S hE hS (bk_in (k := 1) (by decide)) (c_X5_startDown l E (b + 1) χ.1 (χ.2.2.2 0) x (nI 4) _ hC.2.1) kv_X5_startDown nw74 kw19_4 kw19_5 (x_recv hE (hC.2.1.1) (ci := 5) rfl) ⟨Nat.le_of_ble_eq_true rfl, Nat.le_of_ble_eq_true rfl⟩ rfl rfl rfl hl.1 rfl (Nat.le_of_ble_eq_true rfl) dX0_letGo_62 ⟨Nat.zero_le _, Nat.zero_le _⟩) hS (bk_in (k := 1) (by decide)) (fun H locs hX hO1 hS => ?_)
      have hO := out_in hO hO1 (k := 1) (by decide)
      have hC : ChoP E b (setT χ (ntDown χ.1 x (nI 4))) H := hC.ntT hX hO1
      subst hQ
      refine x_retV S hr hlk hS hO ?_ dX0_letGo_65
      exact by rw [chLet, if_neg h1, if_neg h2]; exact hC
    · skip
      refine lv_aload_n S.1 S.2.1 dX0_letGo_41 rfl (lv_at hl 0 rfl) ?_
      refine x_get S hE (hC.1) (C := RX0) (T := TX0) (N := 10) rfl inlX0 0 (by decide) (v := .ref (b + 1)) rfl kw2_16 rfl dX0_letGo_42 ?_
      refine x_getN S hE (hC.2.1.1) (C := RX5) (T := TX5) (N := 8) rfl inlX5 6 (by decide) (v := .ref (b + 1 + 7)) rfl nw10 rfl dX0_letGo_45 ?_
      refine lv_iload_n S.1 S.2.1 dX0_letGo_48 rfl (lv_at hl 1 rfl) ?_
      refine lv_iconst (v := (nI 1)) S.1 S.2.1 dX0_letGo_49 (by decide) ?_
      refine xk_V (x_runSN (As := [.ref (b + 1 + 7), .int x, .int (nI 1)]) (rest := []) S hE hS (fun q z => by have z : q = b + 1 + (6 + 1) := z; exact ⟨by omega, by omega⟩) (c_X7_put l E (b + 1 + (6 + 1)) 200 (χ.1 6) x (nI 1) _ (hC.2.1.2 6 (by decide)) (by decide)) kv_X7_put nw75 kw12_9 ⟨Nat.le_of_ble_eq_true rfl, Nat.le_of_ble_eq_true rfl⟩ rfl rfl rfl hl.1 rfl (Nat.le_of_ble_eq_true rfl) dX0_letGo_50 ⟨Nat.zero_le _, Nat.zero_le _⟩) hS (fun q z => by have z : q = b + 1 + (6 + 1) := z; exact ⟨by omega, by omega⟩) (fun H locs hX hO1 hS => ?_)
      have hO := hO.tr hO1 (fun q z => by have z : q = b + 1 + (6 + 1) := z; exact ⟨by omega, by omega⟩)
      have hN1 := hC.2.1.put (k := 6) (by decide) hX hO1
      have hC : ChoP E b (setT χ (ntPut χ.1 6 x (nI 1))) H := hC.ntT hN1 (hO1.mono (fun q z => by have z : q = b + 1 + (6 + 1) := z; exact ⟨by omega, by omega⟩))
      refine lv_goto (tgt := 65) S.1 S.2.1 dX0_letGo_53 rfl ?_
      subst hQ
      refine x_retV S hr hlk hS hO ?_ dX0_letGo_65
      exact by rw [chLet, if_neg h1, if_pos h2]; exact hC
  · skip
    refine lv_aload_n S.1 S.2.1 dX0_letGo_14 rfl (lv_at hl 0 rfl) ?_
    refine x_get S hE (hC.1) (C := RX0) (T := TX0) (N := 10) rfl inlX0 3 (by decide) (v := .ref (b + 13)) rfl kw2_22 rfl dX0_letGo_15 ?_
    refine lv_iload_n S.1 S.2.1 dX0_letGo_18 rfl (lv_at hl 1 rfl) ?_
    refine xk_V (x_runVN (As := [.int x]) (rest := []) S hE hS (bk_in (k := 13) (by decide)) (c_X3_removeNote l E (b + 13) 6 (χ.2.1 2) x _ hC.2.2.2.2.1 (by decide)) kv_X3_removeNote nw73 kw19_1 kw19_2 (x_recv hE (hC.2.2.2.2.1.1) (ci := 3) rfl) ⟨Nat.le_of_ble_eq_true rfl, Nat.le_of_ble_eq_true rfl⟩ rfl rfl rfl hl.1 rfl (Nat.le_of_ble_eq_true rfl) dX0_letGo_19 ⟨Nat.zero_le _, Nat.zero_le _⟩) hS (bk_in (k := 13) (by decide)) (fun H locs hX hO1 hS => ?_)
    have hO := out_in hO hO1 (k := 13) (by decide)
    have hC : ChoP E b (lR χ 2 x) H := hC.l2 hX hO1
    refine lv_aload_n S.1 S.2.1 dX0_letGo_22 rfl (lv_at hl 0 rfl) ?_
    refine x_get S hE (hC.1) (C := RX0) (T := TX0) (N := 10) rfl inlX0 0 (by decide) (v := .ref (b + 1)) rfl kw2_16 rfl dX0_letGo_23 ?_
    refine lv_iload_n S.1 S.2.1 dX0_letGo_26 rfl (lv_at hl 1 rfl) ?_
    refine xk_V (x_runVN (As := [.int x]) (rest := []) S hE hS (bk_in (k := 1) (by decide)) (c_X5_end l E (b + 1) (lR χ 2 x).1 ((lR χ 2 x).2.2.2 0) x _ hC.2.1) kv_X5_end nw81 kw20_17 kw20_18 (x_recv hE (hC.2.1.1) (ci := 5) rfl) ⟨Nat.le_of_ble_eq_true rfl, Nat.le_of_ble_eq_true rfl⟩ rfl rfl rfl hl.1 rfl (Nat.le_of_ble_eq_true rfl) dX0_letGo_27 ⟨Nat.zero_le _, Nat.zero_le _⟩) hS (bk_in (k := 1) (by decide)) (fun H locs hX hO1 hS => ?_)
    have hO := out_in hO hO1 (k := 1) (by decide)
    have hC : ChoP E b (setT (lR χ 2 x) (ntEnd (lR χ 2 x).1 x)) H := hC.ntT hX hO1
    refine lv_goto (tgt := 65) S.1 S.2.1 dX0_letGo_30 rfl ?_
    subst hQ
    refine x_retV S hr hlk hS hO ?_ dX0_letGo_65
    exact by rw [chLet, if_pos h1]; exact hC
abbrev rm_X0_movePedal : Room := ({ frames := 2, cells := 0, slots := 0, locals := 44 } : Room)
set_option maxRecDepth 100000 in
set_option maxHeartbeats 600000 in
theorem c_X0_movePedal (l : Launch) (E : XE) (b : Nat) (χ : CS) (d0 : Int32) (H : Heap) (hC : ChoP E b χ H) : Wr l E yX0_movePedal cX0_movePedal 5 (some .int) rm_X0_movePedal [.ref b, .int d0] H (bk b 18) (fun v H1 => v = (chPed χ d0).2 ∧ ChoP E b (chPed χ d0).1 H1) := by
  refine met_of (by decide) (Nat.le_of_ble_eq_true rfl) (fun p e s m args below meth c hBD Q hQ ls hl => ?_)
  obtain ⟨S, hr, hlk, hnm, hE, hH⟩ := hBD
  subst hH
  have hl : lv_has ls 5 [(0, .ref b), (1, .int d0)] := hl
  have hO : Out (bk b 18) s.heap s.heap := Out.rf
  have hS : va_S (bk b 18) s.heap s.heap [] := va_S.rf
  have hLe := hC.2.2.1.2.1
  refine lv_aload_n S.1 S.2.1 dX0_movePedal_0 rfl (lv_at hl 0 rfl) ?_
  refine lv_iload_n S.1 S.2.1 dX0_movePedal_1 rfl (lv_at hl 1 rfl) ?_
  refine x_put S hE hS (bk1 (by omega)) (hC.1) (C := RX0) (T := TX0) (N := 10) rfl inlX0 tyX0 tyX0_ok nmX0 7 (by decide) (Nat.le_of_ble_eq_true rfl) kw17_22 rfl rfl (v := .int d0) rfl rfl dX0_movePedal_2 (fun H locs hX hO1 hS => ?_)
  have hO := hO.tr hO1 (fun q z => by subst z; exact bk1 (by omega))
  have hC : ChoP E b (setS χ 2 d0) H := hC.ob (by decide) hX hO1
  refine lv_iconst (v := (nI 0)) S.1 S.2.1 dX0_movePedal_5 (by decide) ?_
  refine lv_istore_n S.1 S.2.1 dX0_movePedal_6 rfl hl (by decide) rfl (fun ls hl => ?_)
  have hl : lv_has ls 5 [(2, .int (nI 0)), (0, .ref b), (1, .int d0)] := hl
  refine lv_iconst (v := (nI 0)) S.1 S.2.1 dX0_movePedal_7 (by decide) ?_
  refine lv_istore_n S.1 S.2.1 dX0_movePedal_8 rfl hl (by decide) rfl (fun ls hl => ?_)
  have hl : lv_has ls 5 [(3, .int (nI 0)), (2, .int (nI 0)), (0, .ref b), (1, .int d0)] := hl
  have hloop9 : ∀ (d : Nat) (i : Nat) (r : CS × Int32) (H : Heap) (locs : List Loc) (ls : Array Slot), (χ.2.1 0).length - i = d → i ≤ (χ.2.1 0).length → ((χ.2.1 0).take i).foldl (mpStep d0) (setS χ 2 d0, nI 0) = r → ChoP E b r.1 H → Out (bk b 18) s.heap H → va_S (bk b 18) s.heap H locs → lv_has ls 5 [(2, .int r.2), (3, .int (nI i)), (0, .ref b), (1, .int d0)] → W p l e rm_X0_movePedal s m args below meth c H locs 0 0 Q (F0 m 9 ls []) := by
    intro d
    induction d using Nat.strongRecOn with
    | ind d ih =>
      intro i r H locs ls hd hi hri hC hO hS hl
      have hLq : r.1.2.1 0 = χ.2.1 0 := by rw [← hri, mpFold_L]; rfl
      refine lv_iload_n S.1 S.2.1 dX0_movePedal_9 rfl (lv_at hl 1 rfl) ?_
      refine lv_aload_n S.1 S.2.1 dX0_movePedal_10 rfl (lv_at hl 2 rfl) ?_
      refine x_get S hE (hC.1) (C := RX0) (T := TX0) (N := 10) rfl inlX0 1 (by decide) (v := .ref (b + 9)) rfl kw2_20 rfl dX0_movePedal_11 ?_
      refine x_getN S hE (hC.2.2.1.1) (C := RX3) (T := TX3) (N := 2) rfl inlX3 1 (by decide) (v := .int (nI (r.1.2.1 0).length)) rfl nw14 rfl dX0_movePedal_14 ?_
      refine lv_icmp_ge (tgt := 69) S.1 S.2.1 dX0_movePedal_17 rfl (fun h1 => ?_) (fun h1 => ?_)
      · rw [hLq] at h1
        refine lv_iload_n S.1 S.2.1 dX0_movePedal_69 rfl (lv_at hl 0 rfl) ?_
        subst hQ
        refine x_retW S hr hlk (rfl) hS hO ?_ dX0_movePedal_70
        exact by rw [chPed, ← List.take_of_length_le (ge_of_le (by omega) (by omega) h1), hri]; exact ⟨rfl, hC⟩
      · rw [hLq] at h1
        have hlt := lt_of_nle (by omega) (by omega) h1
        refine lv_aload_n S.1 S.2.1 dX0_movePedal_20 rfl (lv_at hl 2 rfl) ?_
        refine x_get S hE (hC.1) (C := RX0) (T := TX0) (N := 10) rfl inlX0 1 (by decide) (v := .ref (b + 9)) rfl kw2_20 rfl dX0_movePedal_21 ?_
        refine lv_iload_n S.1 S.2.1 dX0_movePedal_24 rfl (lv_at hl 1 rfl) ?_
        refine xk_R (v := (lnAt (r.1.2.1 0) (nI i))) (x_runVN (As := [.int (nI i)]) (rest := []) S hE hS (fun _ h => h.elim) (c_X3_noteAt l E (b + 9) 8 (r.1.2.1 0) (nI i) _ hC.2.2.1 (by decide)) kv_X3_noteAt nw47 kw8_14 kw8_15 (x_recv hE (hC.2.2.1.1) (ci := 3) rfl) ⟨Nat.le_of_ble_eq_true rfl, Nat.le_of_ble_eq_true rfl⟩ rfl rfl rfl hl.1 rfl (Nat.le_of_ble_eq_true rfl) dX0_movePedal_25 ⟨Nat.zero_le _, Nat.zero_le _⟩) ?_
        refine x_top (y := ((χ.2.1 0).getD i 0)) (by rw [hLq]; exact lnAt_nI hlt (by omega)) ?_
        refine lv_istore S.1 S.2.1 dX0_movePedal_28 hl (by decide) rfl (fun ls hl => ?_)
        have hl : lv_has ls 5 [(4, .int ((χ.2.1 0).getD i 0)), (2, .int r.2), (3, .int (nI i)), (0, .ref b), (1, .int d0)] := hl
        refine lv_iload_n S.1 S.2.1 dX0_movePedal_30 rfl (lv_at hl 4 rfl) ?_
        refine lv_if_ne (tgt := 63) S.1 S.2.1 dX0_movePedal_31 rfl (fun h2 => ?_) (fun h2 => ?_)
        · skip
          refine lv_iinc (k := 2) (v := (nI (i + 1))) S.1 S.2.1 dX0_movePedal_63 hl rfl (iincP i 1) (by decide) rfl (fun ls hl => ?_)
          have hl : lv_has ls 5 [(3, .int (nI (i + 1))), (4, .int ((χ.2.1 0).getD i 0)), (2, .int r.2), (0, .ref b), (1, .int d0)] := hl
          refine lv_goto (tgt := 9) S.1 S.2.1 dX0_movePedal_66 rfl ?_
          exact ih _ (by omega) (i + 1) r _ _ ls rfl (by omega) (by rw [fold_s hlt, hri, mpStep, if_neg (fun q => absurd q.1 h2)]) (hC) (hO) (hS) (lv_sub hl [2, 0, 3, 4] rfl)
        · skip
          refine lv_aload_n S.1 S.2.1 dX0_movePedal_34 rfl (lv_at hl 3 rfl) ?_
          refine x_get S hE (hC.1) (C := RX0) (T := TX0) (N := 10) rfl inlX0 0 (by decide) (v := .ref (b + 1)) rfl kw2_16 rfl dX0_movePedal_35 ?_
          refine x_getN S hE (hC.2.1.1) (C := RX5) (T := TX5) (N := 8) rfl inlX5 6 (by decide) (v := .ref (b + 1 + 7)) rfl nw10 rfl dX0_movePedal_38 ?_
          refine lv_iload S.1 S.2.1 dX0_movePedal_41 (lv_at hl 0 rfl) ?_
          refine xk_R (v := (ntG r.1.1 6 ((χ.2.1 0).getD i 0))) (x_runSN (As := [.ref (b + 1 + 7), .int ((χ.2.1 0).getD i 0)]) (rest := []) S hE hS (fun _ h => h.elim) (c_X7_at l E (b + 1 + (6 + 1)) 200 (r.1.1 6) ((χ.2.1 0).getD i 0) _ (xr_i (hC.2.1.2 6 (by decide))) (by decide)) kv_X7_at nw49 kw8_2 ⟨Nat.le_of_ble_eq_true rfl, Nat.le_of_ble_eq_true rfl⟩ rfl rfl rfl hl.1 rfl (Nat.le_of_ble_eq_true rfl) dX0_movePedal_43 ⟨Nat.zero_le _, Nat.zero_le _⟩) ?_
          refine lv_iconst (v := (nI 1)) S.1 S.2.1 dX0_movePedal_46 (by decide) ?_
          refine lv_icmp_ne (tgt := 63) S.1 S.2.1 dX0_movePedal_47 rfl (fun h3 => ?_) (fun h3 => ?_)
          · skip
            refine lv_iinc (k := 2) (v := (nI (i + 1))) S.1 S.2.1 dX0_movePedal_63 hl rfl (iincP i 1) (by decide) rfl (fun ls hl => ?_)
            have hl : lv_has ls 5 [(3, .int (nI (i + 1))), (4, .int ((χ.2.1 0).getD i 0)), (2, .int r.2), (0, .ref b), (1, .int d0)] := hl
            refine lv_goto (tgt := 9) S.1 S.2.1 dX0_movePedal_66 rfl ?_
            exact ih _ (by omega) (i + 1) r _ _ ls rfl (by omega) (by rw [fold_s hlt, hri, mpStep, if_neg (fun q => absurd q.2 h3)]) (hC) (hO) (hS) (lv_sub hl [2, 0, 3, 4] rfl)
          · skip
            refine lv_aload_n S.1 S.2.1 dX0_movePedal_50 rfl (lv_at hl 3 rfl) ?_
            refine x_get S hE (hC.1) (C := RX0) (T := TX0) (N := 10) rfl inlX0 0 (by decide) (v := .ref (b + 1)) rfl kw2_16 rfl dX0_movePedal_51 ?_
            refine lv_iload S.1 S.2.1 dX0_movePedal_54 (lv_at hl 0 rfl) ?_
            refine lv_iconst (v := (nI 4)) S.1 S.2.1 dX0_movePedal_56 (by decide) ?_
            refine xk_V (x_runVN (As := [.int ((χ.2.1 0).getD i 0), .int (nI 4)]) (rest := []) S hE hS (bk_in (k := 1) (by decide)) (c_X5_startDown l E (b + 1) r.1.1 (r.1.2.2.2 0) ((χ.2.1 0).getD i 0) (nI 4) _ hC.2.1) kv_X5_startDown nw74 kw19_4 kw19_5 (x_recv hE (hC.2.1.1) (ci := 5) rfl) ⟨Nat.le_of_ble_eq_true rfl, Nat.le_of_ble_eq_true rfl⟩ rfl rfl rfl hl.1 rfl (Nat.le_of_ble_eq_true rfl) dX0_movePedal_57 ⟨Nat.zero_le _, Nat.zero_le _⟩) hS (bk_in (k := 1) (by decide)) (fun H locs hX hO1 hS => ?_)
            have hO := out_in hO hO1 (k := 1) (by decide)
            have hC : ChoP E b (setT r.1 (ntDown r.1.1 ((χ.2.1 0).getD i 0) (nI 4))) H := hC.ntT hX hO1
            refine lv_iinc (k := 1) (v := (r.2 + nI 1)) S.1 S.2.1 dX0_movePedal_60 hl rfl (rfl) (by decide) rfl (fun ls hl => ?_)
            have hl : lv_has ls 5 [(2, .int (r.2 + nI 1)), (4, .int ((χ.2.1 0).getD i 0)), (3, .int (nI i)), (0, .ref b), (1, .int d0)] := hl
            refine lv_iinc (k := 2) (v := (nI (i + 1))) S.1 S.2.1 dX0_movePedal_63 hl rfl (iincP i 1) (by decide) rfl (fun ls hl => ?_)
            have hl : lv_has ls 5 [(3, .int (nI (i + 1))), (2, .int (r.2 + nI 1)), (4, .int ((χ.2.1 0).getD i 0)), (0, .ref b), (1, .int d0)] := hl
            refine lv_goto (tgt := 9) S.1 S.2.1 dX0_movePedal_66 rfl ?_
            exact ih _ (by omega) (i + 1) ((setT r.1 (ntDown r.1.1 ((χ.2.1 0).getD i 0) (nI 4))), r.2 + nI 1) _ _ ls rfl (by omega) (by rw [fold_s hlt, hri, mpStep, if_pos ⟨h2, h3⟩]) (hC) (hO) (hS) (lv_sub hl [1, 0, 3, 4] rfl)
  exact hloop9 _ 0 (setS χ 2 d0, nI 0) _ _ ls rfl (Nat.zero_le _) (rfl) (hC) (hO) (hS) (lv_sub hl [1, 0, 2, 3] rfl)
abbrev rm_X0_moveAll : Room := ({ frames := 4, cells := 0, slots := 0, locals := 88 } : Room)
set_option maxRecDepth 100000 in
set_option maxHeartbeats 600000 in
theorem c_X0_moveAll_0 (l : Launch) (E : XE) (b : Nat) (χ : CS) (H : Heap) (hC : ChoP E b χ H) : Wv l E yX0_moveAll cX0_moveAll 4 rm_X0_moveAll [.ref b, .ref (b + 9)] H (bk b 18) (ChoP E b (chMove 0 χ)) := by
  refine met_of (by decide) (Nat.le_of_ble_eq_true rfl) (fun p e s m args below meth c hBD Q hQ ls hl => ?_)
  obtain ⟨S, hr, hlk, hnm, hE, hH⟩ := hBD
  subst hH
  have hl : lv_has ls 4 [(0, .ref b), (1, .ref (b + 9))] := hl
  have hO : Out (bk b 18) s.heap s.heap := Out.rf
  have hS : va_S (bk b 18) s.heap s.heap [] := va_S.rf
  have hLe := hC.2.2.1.2.1
  refine lv_aload_n S.1 S.2.1 dX0_moveAll_0 rfl (lv_at hl 1 rfl) ?_
  refine x_getN S hE (hC.2.2.1.1) (C := RX3) (T := TX3) (N := 2) rfl inlX3 1 (by decide) (v := .int (nI (χ.2.1 0).length)) rfl nw14 rfl dX0_moveAll_1 ?_
  refine lv_iconst (v := (nI 1)) S.1 S.2.1 dX0_moveAll_4 (by decide) ?_
  refine lv_isub S.1 S.2.1 dX0_moveAll_5 ?_
  refine lv_istore_n S.1 S.2.1 dX0_moveAll_6 rfl hl (by decide) rfl (fun ls hl => ?_)
  have hl : lv_has ls 4 [(2, .int ((nI (χ.2.1 0).length) - (nI 1))), (0, .ref b), (1, .ref (b + 9))] := hl
  have hloop7 : ∀ (d : Nat) (j : Nat) (r : CS) (H : Heap) (locs : List Loc) (ls : Array Slot), j = d → j ≤ (χ.2.1 0).length → mvN 0 j r = chMove 0 χ → ChoP E b r H → Out (bk b 18) s.heap H → va_S (bk b 18) s.heap H locs → lv_has ls 4 [(2, .int (nI j - nI 1)), (0, .ref b), (1, .ref (b + 9))] → W p l e rm_X0_moveAll s m args below meth c H locs 0 0 Q (F0 m 7 ls []) := by
    intro d
    induction d using Nat.strongRecOn with
    | ind d ih =>
      intro j r H locs ls hd hj hv hC hO hS hl
      refine lv_iload_n S.1 S.2.1 dX0_moveAll_7 rfl (lv_at hl 0 rfl) ?_
      refine lv_if_lt (tgt := 47) S.1 S.2.1 dX0_moveAll_8 rfl (fun h1 => ?_) (fun h1 => ?_)
      · have h1 := sub1_lt (by omega) h1
        subst h1
        subst hQ
        refine x_retV S hr hlk hS hO ?_ dX0_moveAll_47
        exact by rw [← hv]; exact hC
      · obtain ⟨j, rfl⟩ := sub1_nlt (by omega) h1
        have hl : lv_has ls 4 [(2, .int (nI j)), (0, .ref b), (1, .ref (b + 9))] := by
          rw [show nI j = nI (j + 1) - nI 1 from (sub1e j).symm]
          exact hl
        refine lv_aload_n S.1 S.2.1 dX0_moveAll_11 rfl (lv_at hl 2 rfl) ?_
        refine lv_iload_n S.1 S.2.1 dX0_moveAll_12 rfl (lv_at hl 0 rfl) ?_
        refine xk_R (v := (lnAt (r.2.1 0) (nI j))) (x_runVN (As := [.int (nI j)]) (rest := []) S hE hS (fun _ h => h.elim) (c_X3_noteAt l E (b + 9) 8 (r.2.1 0) (nI j) _ hC.2.2.1 (by decide)) kv_X3_noteAt nw47 kw8_14 kw8_15 (x_recv hE (hC.2.2.1.1) (ci := 3) rfl) ⟨Nat.le_of_ble_eq_true rfl, Nat.le_of_ble_eq_true rfl⟩ rfl rfl rfl hl.1 rfl (Nat.le_of_ble_eq_true rfl) dX0_moveAll_13 ⟨Nat.zero_le _, Nat.zero_le _⟩) ?_
        refine lv_istore_n S.1 S.2.1 dX0_moveAll_16 rfl hl (by decide) rfl (fun ls hl => ?_)
        have hl : lv_has ls 4 [(3, .int (lnAt (r.2.1 0) (nI j))), (2, .int (nI j)), (0, .ref b), (1, .ref (b + 9))] := hl
        refine lv_aload_n S.1 S.2.1 dX0_moveAll_17 rfl (lv_at hl 2 rfl) ?_
        refine x_get S hE (hC.1) (C := RX0) (T := TX0) (N := 10) rfl inlX0 0 (by decide) (v := .ref (b + 1)) rfl kw2_16 rfl dX0_moveAll_18 ?_
        refine lv_iload_n S.1 S.2.1 dX0_moveAll_21 rfl (lv_at hl 0 rfl) ?_
        refine xk_V (x_runVN (As := [.int (lnAt (r.2.1 0) (nI j))]) (rest := []) S hE hS (bk_in (k := 1) (by decide)) (c_X5_move l E (b + 1) r.1 (r.2.2.2 0) (lnAt (r.2.1 0) (nI j)) _ hC.2.1) kv_X5_move nw84 kw22_9 kw22_10 (x_recv hE (hC.2.1.1) (ci := 5) rfl) ⟨Nat.le_of_ble_eq_true rfl, Nat.le_of_ble_eq_true rfl⟩ rfl rfl rfl hl.1 rfl (Nat.le_of_ble_eq_true rfl) dX0_moveAll_22 ⟨Nat.zero_le _, Nat.zero_le _⟩) hS (bk_in (k := 1) (by decide)) (fun H locs hX hO1 hS => ?_)
        have hO := out_in hO hO1 (k := 1) (by decide)
        have hC : ChoP E b (setT r (ntMove r.1 (lnAt (r.2.1 0) (nI j)))) H := hC.ntT hX hO1
        refine lv_aload_n S.1 S.2.1 dX0_moveAll_25 rfl (lv_at hl 2 rfl) ?_
        refine x_get S hE (hC.1) (C := RX0) (T := TX0) (N := 10) rfl inlX0 0 (by decide) (v := .ref (b + 1)) rfl kw2_16 rfl dX0_moveAll_26 ?_
        refine lv_iload_n S.1 S.2.1 dX0_moveAll_29 rfl (lv_at hl 0 rfl) ?_
        refine xk_R (v := (bI (ntSings (setT r (ntMove r.1 (lnAt (r.2.1 0) (nI j)))).1 (lnAt (r.2.1 0) (nI j))))) (x_runVN (As := [.int (lnAt (r.2.1 0) (nI j))]) (rest := []) S hE hS (fun _ h => h.elim) (c_X5_sings l E (b + 1) (setT r (ntMove r.1 (lnAt (r.2.1 0) (nI j)))).1 ((setT r (ntMove r.1 (lnAt (r.2.1 0) (nI j)))).2.2.2 0) (lnAt (r.2.1 0) (nI j)) _ hC.2.1) kv_X5_sings nw86 kw8_4 kw8_5 (x_recv hE (hC.2.1.1) (ci := 5) rfl) ⟨Nat.le_of_ble_eq_true rfl, Nat.le_of_ble_eq_true rfl⟩ rfl rfl rfl hl.1 rfl (Nat.le_of_ble_eq_true rfl) dX0_moveAll_30 ⟨Nat.zero_le _, Nat.zero_le _⟩) ?_
        refine lv_if_ne (tgt := 41) S.1 S.2.1 dX0_moveAll_33 rfl (fun h2 => ?_) (fun h2 => ?_)
        · skip
          have h2 := bI_n0 h2
          refine lv_iinc (k := 1) (v := (nI j - nI 1)) S.1 S.2.1 dX0_moveAll_41 hl rfl (idec1 j) (by decide) rfl (fun ls hl => ?_)
          have hl : lv_has ls 4 [(2, .int (nI j - nI 1)), (3, .int (lnAt (r.2.1 0) (nI j))), (0, .ref b), (1, .ref (b + 9))] := hl
          refine lv_goto (tgt := 7) S.1 S.2.1 dX0_moveAll_44 rfl ?_
          exact ih _ (by omega) j (setT r (ntMove r.1 (lnAt (r.2.1 0) (nI j)))) _ _ ls rfl (by omega) (by rw [mvN, mvStep, if_pos h2] at hv; exact hv) (hC) (hO) (hS) (lv_sub hl [0, 2, 3] rfl)
        · skip
          have h2 := bI_0 h2
          refine lv_aload_n S.1 S.2.1 dX0_moveAll_36 rfl (lv_at hl 3 rfl) ?_
          refine lv_iload_n S.1 S.2.1 dX0_moveAll_37 rfl (lv_at hl 0 rfl) ?_
          refine xk_V (x_runVN (As := [.int (lnAt (r.2.1 0) (nI j))]) (rest := []) S hE hS (bk_in (k := 9) (by decide)) (c_X3_removeNote l E (b + 9) 8 ((setT r (ntMove r.1 (lnAt (r.2.1 0) (nI j)))).2.1 0) (lnAt (r.2.1 0) (nI j)) _ hC.2.2.1 (by decide)) kv_X3_removeNote nw73 kw19_1 kw19_2 (x_recv hE (hC.2.2.1.1) (ci := 3) rfl) ⟨Nat.le_of_ble_eq_true rfl, Nat.le_of_ble_eq_true rfl⟩ rfl rfl rfl hl.1 rfl (Nat.le_of_ble_eq_true rfl) dX0_moveAll_38 ⟨Nat.zero_le _, Nat.zero_le _⟩) hS (bk_in (k := 9) (by decide)) (fun H locs hX hO1 hS => ?_)
          have hO := out_in hO hO1 (k := 9) (by decide)
          have hC : ChoP E b (lR (setT r (ntMove r.1 (lnAt (r.2.1 0) (nI j)))) 0 (lnAt (r.2.1 0) (nI j))) H := hC.l0 hX hO1
          refine lv_iinc (k := 1) (v := (nI j - nI 1)) S.1 S.2.1 dX0_moveAll_41 hl rfl (idec1 j) (by decide) rfl (fun ls hl => ?_)
          have hl : lv_has ls 4 [(2, .int (nI j - nI 1)), (3, .int (lnAt (r.2.1 0) (nI j))), (0, .ref b), (1, .ref (b + 9))] := hl
          refine lv_goto (tgt := 7) S.1 S.2.1 dX0_moveAll_44 rfl ?_
          exact ih _ (by omega) j (lR (setT r (ntMove r.1 (lnAt (r.2.1 0) (nI j)))) 0 (lnAt (r.2.1 0) (nI j))) _ _ ls rfl (by omega) (by rw [mvN, mvStep, if_neg h2] at hv; exact hv) (hC) (hO) (hS) (lv_sub hl [0, 2, 3] rfl)
  exact hloop7 _ (χ.2.1 0).length χ _ _ ls rfl (Nat.le_refl _) (rfl) (hC) (hO) (hS) (lv_sub hl [0, 1, 2] rfl)
set_option maxRecDepth 100000 in
set_option maxHeartbeats 600000 in
theorem c_X0_moveAll_1 (l : Launch) (E : XE) (b : Nat) (χ : CS) (H : Heap) (hC : ChoP E b χ H) : Wv l E yX0_moveAll cX0_moveAll 4 rm_X0_moveAll [.ref b, .ref (b + 11)] H (bk b 18) (ChoP E b (chMove 1 χ)) := by
  refine met_of (by decide) (Nat.le_of_ble_eq_true rfl) (fun p e s m args below meth c hBD Q hQ ls hl => ?_)
  obtain ⟨S, hr, hlk, hnm, hE, hH⟩ := hBD
  subst hH
  have hl : lv_has ls 4 [(0, .ref b), (1, .ref (b + 11))] := hl
  have hO : Out (bk b 18) s.heap s.heap := Out.rf
  have hS : va_S (bk b 18) s.heap s.heap [] := va_S.rf
  have hLe := hC.2.2.2.1.2.1
  refine lv_aload_n S.1 S.2.1 dX0_moveAll_0 rfl (lv_at hl 1 rfl) ?_
  refine x_getN S hE (hC.2.2.2.1.1) (C := RX3) (T := TX3) (N := 2) rfl inlX3 1 (by decide) (v := .int (nI (χ.2.1 1).length)) rfl nw14 rfl dX0_moveAll_1 ?_
  refine lv_iconst (v := (nI 1)) S.1 S.2.1 dX0_moveAll_4 (by decide) ?_
  refine lv_isub S.1 S.2.1 dX0_moveAll_5 ?_
  refine lv_istore_n S.1 S.2.1 dX0_moveAll_6 rfl hl (by decide) rfl (fun ls hl => ?_)
  have hl : lv_has ls 4 [(2, .int ((nI (χ.2.1 1).length) - (nI 1))), (0, .ref b), (1, .ref (b + 11))] := hl
  have hloop7 : ∀ (d : Nat) (j : Nat) (r : CS) (H : Heap) (locs : List Loc) (ls : Array Slot), j = d → j ≤ (χ.2.1 1).length → mvN 1 j r = chMove 1 χ → ChoP E b r H → Out (bk b 18) s.heap H → va_S (bk b 18) s.heap H locs → lv_has ls 4 [(2, .int (nI j - nI 1)), (0, .ref b), (1, .ref (b + 11))] → W p l e rm_X0_moveAll s m args below meth c H locs 0 0 Q (F0 m 7 ls []) := by
    intro d
    induction d using Nat.strongRecOn with
    | ind d ih =>
      intro j r H locs ls hd hj hv hC hO hS hl
      refine lv_iload_n S.1 S.2.1 dX0_moveAll_7 rfl (lv_at hl 0 rfl) ?_
      refine lv_if_lt (tgt := 47) S.1 S.2.1 dX0_moveAll_8 rfl (fun h1 => ?_) (fun h1 => ?_)
      · have h1 := sub1_lt (by omega) h1
        subst h1
        subst hQ
        refine x_retV S hr hlk hS hO ?_ dX0_moveAll_47
        exact by rw [← hv]; exact hC
      · obtain ⟨j, rfl⟩ := sub1_nlt (by omega) h1
        have hl : lv_has ls 4 [(2, .int (nI j)), (0, .ref b), (1, .ref (b + 11))] := by
          rw [show nI j = nI (j + 1) - nI 1 from (sub1e j).symm]
          exact hl
        refine lv_aload_n S.1 S.2.1 dX0_moveAll_11 rfl (lv_at hl 2 rfl) ?_
        refine lv_iload_n S.1 S.2.1 dX0_moveAll_12 rfl (lv_at hl 0 rfl) ?_
        refine xk_R (v := (lnAt (r.2.1 1) (nI j))) (x_runVN (As := [.int (nI j)]) (rest := []) S hE hS (fun _ h => h.elim) (c_X3_noteAt l E (b + 11) 4 (r.2.1 1) (nI j) _ hC.2.2.2.1 (by decide)) kv_X3_noteAt nw47 kw8_14 kw8_15 (x_recv hE (hC.2.2.2.1.1) (ci := 3) rfl) ⟨Nat.le_of_ble_eq_true rfl, Nat.le_of_ble_eq_true rfl⟩ rfl rfl rfl hl.1 rfl (Nat.le_of_ble_eq_true rfl) dX0_moveAll_13 ⟨Nat.zero_le _, Nat.zero_le _⟩) ?_
        refine lv_istore_n S.1 S.2.1 dX0_moveAll_16 rfl hl (by decide) rfl (fun ls hl => ?_)
        have hl : lv_has ls 4 [(3, .int (lnAt (r.2.1 1) (nI j))), (2, .int (nI j)), (0, .ref b), (1, .ref (b + 11))] := hl
        refine lv_aload_n S.1 S.2.1 dX0_moveAll_17 rfl (lv_at hl 2 rfl) ?_
        refine x_get S hE (hC.1) (C := RX0) (T := TX0) (N := 10) rfl inlX0 0 (by decide) (v := .ref (b + 1)) rfl kw2_16 rfl dX0_moveAll_18 ?_
        refine lv_iload_n S.1 S.2.1 dX0_moveAll_21 rfl (lv_at hl 0 rfl) ?_
        refine xk_V (x_runVN (As := [.int (lnAt (r.2.1 1) (nI j))]) (rest := []) S hE hS (bk_in (k := 1) (by decide)) (c_X5_move l E (b + 1) r.1 (r.2.2.2 0) (lnAt (r.2.1 1) (nI j)) _ hC.2.1) kv_X5_move nw84 kw22_9 kw22_10 (x_recv hE (hC.2.1.1) (ci := 5) rfl) ⟨Nat.le_of_ble_eq_true rfl, Nat.le_of_ble_eq_true rfl⟩ rfl rfl rfl hl.1 rfl (Nat.le_of_ble_eq_true rfl) dX0_moveAll_22 ⟨Nat.zero_le _, Nat.zero_le _⟩) hS (bk_in (k := 1) (by decide)) (fun H locs hX hO1 hS => ?_)
        have hO := out_in hO hO1 (k := 1) (by decide)
        have hC : ChoP E b (setT r (ntMove r.1 (lnAt (r.2.1 1) (nI j)))) H := hC.ntT hX hO1
        refine lv_aload_n S.1 S.2.1 dX0_moveAll_25 rfl (lv_at hl 2 rfl) ?_
        refine x_get S hE (hC.1) (C := RX0) (T := TX0) (N := 10) rfl inlX0 0 (by decide) (v := .ref (b + 1)) rfl kw2_16 rfl dX0_moveAll_26 ?_
        refine lv_iload_n S.1 S.2.1 dX0_moveAll_29 rfl (lv_at hl 0 rfl) ?_
        refine xk_R (v := (bI (ntSings (setT r (ntMove r.1 (lnAt (r.2.1 1) (nI j)))).1 (lnAt (r.2.1 1) (nI j))))) (x_runVN (As := [.int (lnAt (r.2.1 1) (nI j))]) (rest := []) S hE hS (fun _ h => h.elim) (c_X5_sings l E (b + 1) (setT r (ntMove r.1 (lnAt (r.2.1 1) (nI j)))).1 ((setT r (ntMove r.1 (lnAt (r.2.1 1) (nI j)))).2.2.2 0) (lnAt (r.2.1 1) (nI j)) _ hC.2.1) kv_X5_sings nw86 kw8_4 kw8_5 (x_recv hE (hC.2.1.1) (ci := 5) rfl) ⟨Nat.le_of_ble_eq_true rfl, Nat.le_of_ble_eq_true rfl⟩ rfl rfl rfl hl.1 rfl (Nat.le_of_ble_eq_true rfl) dX0_moveAll_30 ⟨Nat.zero_le _, Nat.zero_le _⟩) ?_
        refine lv_if_ne (tgt := 41) S.1 S.2.1 dX0_moveAll_33 rfl (fun h2 => ?_) (fun h2 => ?_)
        · skip
          have h2 := bI_n0 h2
          refine lv_iinc (k := 1) (v := (nI j - nI 1)) S.1 S.2.1 dX0_moveAll_41 hl rfl (idec1 j) (by decide) rfl (fun ls hl => ?_)
          have hl : lv_has ls 4 [(2, .int (nI j - nI 1)), (3, .int (lnAt (r.2.1 1) (nI j))), (0, .ref b), (1, .ref (b + 11))] := hl
          refine lv_goto (tgt := 7) S.1 S.2.1 dX0_moveAll_44 rfl ?_
          exact ih _ (by omega) j (setT r (ntMove r.1 (lnAt (r.2.1 1) (nI j)))) _ _ ls rfl (by omega) (by rw [mvN, mvStep, if_pos h2] at hv; exact hv) (hC) (hO) (hS) (lv_sub hl [0, 2, 3] rfl)
        · skip
          have h2 := bI_0 h2
          refine lv_aload_n S.1 S.2.1 dX0_moveAll_36 rfl (lv_at hl 3 rfl) ?_
          refine lv_iload_n S.1 S.2.1 dX0_moveAll_37 rfl (lv_at hl 0 rfl) ?_
          refine xk_V (x_runVN (As := [.int (lnAt (r.2.1 1) (nI j))]) (rest := []) S hE hS (bk_in (k := 11) (by decide)) (c_X3_removeNote l E (b + 11) 4 ((setT r (ntMove r.1 (lnAt (r.2.1 1) (nI j)))).2.1 1) (lnAt (r.2.1 1) (nI j)) _ hC.2.2.2.1 (by decide)) kv_X3_removeNote nw73 kw19_1 kw19_2 (x_recv hE (hC.2.2.2.1.1) (ci := 3) rfl) ⟨Nat.le_of_ble_eq_true rfl, Nat.le_of_ble_eq_true rfl⟩ rfl rfl rfl hl.1 rfl (Nat.le_of_ble_eq_true rfl) dX0_moveAll_38 ⟨Nat.zero_le _, Nat.zero_le _⟩) hS (bk_in (k := 11) (by decide)) (fun H locs hX hO1 hS => ?_)
          have hO := out_in hO hO1 (k := 11) (by decide)
          have hC : ChoP E b (lR (setT r (ntMove r.1 (lnAt (r.2.1 1) (nI j)))) 1 (lnAt (r.2.1 1) (nI j))) H := hC.l1 hX hO1
          refine lv_iinc (k := 1) (v := (nI j - nI 1)) S.1 S.2.1 dX0_moveAll_41 hl rfl (idec1 j) (by decide) rfl (fun ls hl => ?_)
          have hl : lv_has ls 4 [(2, .int (nI j - nI 1)), (3, .int (lnAt (r.2.1 1) (nI j))), (0, .ref b), (1, .ref (b + 11))] := hl
          refine lv_goto (tgt := 7) S.1 S.2.1 dX0_moveAll_44 rfl ?_
          exact ih _ (by omega) j (lR (setT r (ntMove r.1 (lnAt (r.2.1 1) (nI j)))) 1 (lnAt (r.2.1 1) (nI j))) _ _ ls rfl (by omega) (by rw [mvN, mvStep, if_neg h2] at hv; exact hv) (hC) (hO) (hS) (lv_sub hl [0, 2, 3] rfl)
  exact hloop7 _ (χ.2.1 1).length χ _ _ ls rfl (Nat.le_refl _) (rfl) (hC) (hO) (hS) (lv_sub hl [0, 1, 2] rfl)
abbrev rm_X0_openDoor : Room := ({ frames := 4, cells := 0, slots := 0, locals := 91 } : Room)
set_option maxRecDepth 100000 in
set_option maxHeartbeats 600000 in
theorem c_X0_openDoor (l : Launch) (E : XE) (b : Nat) (χ : CS) (H : Heap) (hC : ChoP E b χ H) : Wv l E yX0_openDoor cX0_openDoor 4 rm_X0_openDoor [.ref b] H (bk b 18) (ChoP E b (chDoor χ)) := by
  refine met_of (by decide) (Nat.le_of_ble_eq_true rfl) (fun p e s m args below meth c hBD Q hQ ls hl => ?_)
  obtain ⟨S, hr, hlk, hnm, hE, hH⟩ := hBD
  subst hH
  have hl : lv_has ls 4 [(0, .ref b)] := hl
  have hO : Out (bk b 18) s.heap s.heap := Out.rf
  have hS : va_S (bk b 18) s.heap s.heap [] := va_S.rf
  refine lv_iconst (v := (nI 0)) S.1 S.2.1 dX0_openDoor_0 (by decide) ?_
  refine lv_istore_n S.1 S.2.1 dX0_openDoor_1 rfl hl (by decide) rfl (fun ls hl => ?_)
  have hl : lv_has ls 4 [(1, .int (nI 0)), (0, .ref b)] := hl
  have hloop2 : ∀ (d : Nat) (t : Nat) (r : CS) (H : Heap) (locs : List Loc) (ls : Array Slot), 6 - t = d → t ≤ 6 → odN (6 - t) r = chDoor χ → ChoP E b r H → Out (bk b 18) s.heap H → va_S (bk b 18) s.heap H locs → lv_has ls 4 [(1, .int (nI t)), (0, .ref b)] → W p l e rm_X0_openDoor s m args below meth c H locs 0 0 Q (F0 m 2 ls []) := by
    intro d
    induction d using Nat.strongRecOn with
    | ind d ih =>
      intro t r H locs ls hd ht hv hC hO hS hl
      refine lv_iload_n S.1 S.2.1 dX0_openDoor_2 rfl (lv_at hl 0 rfl) ?_
      refine lv_bipush (v := (nI 6)) S.1 S.2.1 dX0_openDoor_3 (by decide) ?_
      refine lv_icmp_ge (tgt := 118) S.1 S.2.1 dX0_openDoor_5 rfl (fun h1 => ?_) (fun h1 => ?_)
      · skip
        have hge : t = 6 := (by have := ge_of_le (by omega) (by omega) h1; omega)
        subst hQ
        refine x_retV S hr hlk hS hO ?_ dX0_openDoor_118
        exact by rw [hge, Nat.sub_self, odN] at hv; rw [← hv]; exact hC
      · skip
        have hlt : t < 6 := lt_of_nle (by omega) (by omega) h1
        refine lv_aload_n S.1 S.2.1 dX0_openDoor_8 rfl (lv_at hl 1 rfl) ?_
        refine x_get S hE (hC.1) (C := RX0) (T := TX0) (N := 10) rfl inlX0 3 (by decide) (v := .ref (b + 13)) rfl kw2_22 rfl dX0_openDoor_9 ?_
        refine x_getN S hE (hC.2.2.2.2.1.1) (C := RX3) (T := TX3) (N := 2) rfl inlX3 1 (by decide) (v := .int (nI (r.2.1 2).length)) rfl nw14 rfl dX0_openDoor_12 ?_
        refine lv_if_le (tgt := 118) S.1 S.2.1 dX0_openDoor_15 rfl (fun h2 => ?_) (fun h2 => ?_)
        · skip
          have hLe := hC.2.2.2.2.1.2.1
          have hd0 : ¬ 0 < (r.2.1 2).length := fun q => nI_nle q (by omega) h2
          subst hQ
          refine x_retV S hr hlk hS hO ?_ dX0_openDoor_118
          exact by rw [show 6 - t = (6 - (t + 1)) + 1 by omega, odN, if_neg hd0] at hv; rw [← hv]; exact hC
        · skip
          have hLe := hC.2.2.2.2.1.2.1
          have hd0 : 0 < (r.2.1 2).length := Nat.pos_of_ne_zero (fun q => by rw [q] at h2; exact absurd (show nI 0 ≤ 0 by decide) h2)
          refine lv_aload_n S.1 S.2.1 dX0_openDoor_18 rfl (lv_at hl 1 rfl) ?_
          refine x_get S hE (hC.1) (C := RX0) (T := TX0) (N := 10) rfl inlX0 3 (by decide) (v := .ref (b + 13)) rfl kw2_22 rfl dX0_openDoor_19 ?_
          refine lv_iconst (v := (nI 0)) S.1 S.2.1 dX0_openDoor_22 (by decide) ?_
          refine xk_R (v := (lnAt (r.2.1 2) (nI 0))) (x_runVN (As := [.int (nI 0)]) (rest := []) S hE hS (fun _ h => h.elim) (c_X3_noteAt l E (b + 13) 6 (r.2.1 2) (nI 0) _ hC.2.2.2.2.1 (by decide)) kv_X3_noteAt nw47 kw8_14 kw8_15 (x_recv hE (hC.2.2.2.2.1.1) (ci := 3) rfl) ⟨Nat.le_of_ble_eq_true rfl, Nat.le_of_ble_eq_true rfl⟩ rfl rfl rfl hl.1 rfl (Nat.le_of_ble_eq_true rfl) dX0_openDoor_23 ⟨Nat.zero_le _, Nat.zero_le _⟩) ?_
          refine x_top (y := (odX r)) (rfl) ?_
          refine lv_istore_n S.1 S.2.1 dX0_openDoor_26 rfl hl (by decide) rfl (fun ls hl => ?_)
          have hl : lv_has ls 4 [(2, .int (odX r)), (1, .int (nI t)), (0, .ref b)] := hl
          refine lv_aload_n S.1 S.2.1 dX0_openDoor_27 rfl (lv_at hl 2 rfl) ?_
          refine lv_aload_n S.1 S.2.1 dX0_openDoor_28 rfl (lv_at hl 2 rfl) ?_
          refine x_get S hE (hC.1) (C := RX0) (T := TX0) (N := 10) rfl inlX0 0 (by decide) (v := .ref (b + 1)) rfl kw2_16 rfl dX0_openDoor_29 ?_
          refine x_getN S hE (hC.2.1.1) (C := RX5) (T := TX5) (N := 8) rfl inlX5 0 (by decide) (v := .ref (b + 1 + 1)) rfl nw1 rfl dX0_openDoor_32 ?_
          refine lv_iload_n S.1 S.2.1 dX0_openDoor_35 rfl (lv_at hl 0 rfl) ?_
          refine xk_R (v := (ntG r.1 0 (odX r))) (x_runSN (As := [.ref (b + 1 + 1), .int (odX r)]) (rest := [.ref b]) S hE hS (fun _ h => h.elim) (c_X7_at l E (b + 1 + (0 + 1)) 200 (r.1 0) (odX r) _ (xr_i (hC.2.1.2 0 (by decide))) (by decide)) kv_X7_at nw49 kw8_2 ⟨Nat.le_of_ble_eq_true rfl, Nat.le_of_ble_eq_true rfl⟩ rfl rfl rfl hl.1 rfl (Nat.le_of_ble_eq_true rfl) dX0_openDoor_36 ⟨Nat.zero_le _, Nat.zero_le _⟩) ?_
          refine lv_aload_n S.1 S.2.1 dX0_openDoor_39 rfl (lv_at hl 2 rfl) ?_
          refine x_get S hE (hC.1) (C := RX0) (T := TX0) (N := 10) rfl inlX0 0 (by decide) (v := .ref (b + 1)) rfl kw2_16 rfl dX0_openDoor_40 ?_
          refine x_getN S hE (hC.2.1.1) (C := RX5) (T := TX5) (N := 8) rfl inlX5 1 (by decide) (v := .ref (b + 1 + 2)) rfl nw3 rfl dX0_openDoor_43 ?_
          refine lv_iload_n S.1 S.2.1 dX0_openDoor_46 rfl (lv_at hl 0 rfl) ?_
          refine xk_R (v := (ntG r.1 1 (odX r))) (x_runSN (As := [.ref (b + 1 + 2), .int (odX r)]) (rest := [.int (ntG r.1 0 (odX r)), .ref b]) S hE hS (fun _ h => h.elim) (c_X7_at l E (b + 1 + (1 + 1)) 200 (r.1 1) (odX r) _ (xr_i (hC.2.1.2 1 (by decide))) (by decide)) kv_X7_at nw49 kw8_2 ⟨Nat.le_of_ble_eq_true rfl, Nat.le_of_ble_eq_true rfl⟩ rfl rfl rfl hl.1 rfl (Nat.le_of_ble_eq_true rfl) dX0_openDoor_47 ⟨Nat.zero_le _, Nat.zero_le _⟩) ?_
          refine xk_R (v := (chVoice r (ntG r.1 0 (odX r)) (ntG r.1 1 (odX r)))) (x_runV (As := [.int (ntG r.1 0 (odX r)), .int (ntG r.1 1 (odX r))]) (rest := []) S hE hS (fun _ h => h.elim) (c_X0_voiceOf l E b r (ntG r.1 0 (odX r)) (ntG r.1 1 (odX r)) _ hC) kv_X0_voiceOf kw20_10 kw10_12 kw10_13 (x_recv hE (hC.1) (ci := 0) rfl) ⟨Nat.le_of_ble_eq_true rfl, Nat.le_of_ble_eq_true rfl⟩ rfl rfl rfl hl.1 rfl (Nat.le_of_ble_eq_true rfl) dX0_openDoor_50 ⟨Nat.zero_le _, Nat.zero_le _⟩) ?_
          refine x_top (y := (odV r)) (rfl) ?_
          refine lv_istore_n S.1 S.2.1 dX0_openDoor_53 rfl hl (by decide) rfl (fun ls hl => ?_)
          have hl : lv_has ls 4 [(3, .int (odV r)), (2, .int (odX r)), (1, .int (nI t)), (0, .ref b)] := hl
          refine lv_iload_n S.1 S.2.1 dX0_openDoor_54 rfl (lv_at hl 0 rfl) ?_
          refine lv_iconst (v := (-1)) S.1 S.2.1 dX0_openDoor_55 (by decide) ?_
          refine lv_icmp_ne (tgt := 67) S.1 S.2.1 dX0_openDoor_56 rfl (fun h3 => ?_) (fun h3 => ?_)
          · skip
            refine lv_aload_n S.1 S.2.1 dX0_openDoor_67 rfl (lv_at hl 3 rfl) ?_
            refine x_get S hE (hC.1) (C := RX0) (T := TX0) (N := 10) rfl inlX0 3 (by decide) (v := .ref (b + 13)) rfl kw2_22 rfl dX0_openDoor_68 ?_
            refine lv_iload_n S.1 S.2.1 dX0_openDoor_71 rfl (lv_at hl 1 rfl) ?_
            refine xk_V (x_runVN (As := [.int (odX r)]) (rest := []) S hE hS (bk_in (k := 13) (by decide)) (c_X3_removeNote l E (b + 13) 6 (r.2.1 2) (odX r) _ hC.2.2.2.2.1 (by decide)) kv_X3_removeNote nw73 kw19_1 kw19_2 (x_recv hE (hC.2.2.2.2.1.1) (ci := 3) rfl) ⟨Nat.le_of_ble_eq_true rfl, Nat.le_of_ble_eq_true rfl⟩ rfl rfl rfl hl.1 rfl (Nat.le_of_ble_eq_true rfl) dX0_openDoor_72 ⟨Nat.zero_le _, Nat.zero_le _⟩) hS (bk_in (k := 13) (by decide)) (fun H locs hX hO1 hS => ?_)
            have hO := out_in hO hO1 (k := 13) (by decide)
            have hC : ChoP E b (lR r 2 (odX r)) H := hC.l2 hX hO1
            refine lv_iload_n S.1 S.2.1 dX0_openDoor_75 rfl (lv_at hl 0 rfl) ?_
            refine lv_iconst (v := (-1)) S.1 S.2.1 dX0_openDoor_76 (by decide) ?_
            refine lv_icmp_ne (tgt := 88) S.1 S.2.1 dX0_openDoor_77 rfl (fun h4 => ?_) (fun h4 => ?_)
            · skip
              refine lv_aload_n S.1 S.2.1 dX0_openDoor_88 rfl (lv_at hl 3 rfl) ?_
              refine x_get S hE (hC.1) (C := RX0) (T := TX0) (N := 10) rfl inlX0 0 (by decide) (v := .ref (b + 1)) rfl kw2_16 rfl dX0_openDoor_89 ?_
              refine lv_iload_n S.1 S.2.1 dX0_openDoor_92 rfl (lv_at hl 1 rfl) ?_
              refine xk_V (x_runVN (As := [.int (odX r)]) (rest := []) S hE hS (bk_in (k := 1) (by decide)) (c_X5_end l E (b + 1) (lR r 2 (odX r)).1 ((lR r 2 (odX r)).2.2.2 0) (odX r) _ hC.2.1) kv_X5_end nw81 kw20_17 kw20_18 (x_recv hE (hC.2.1.1) (ci := 5) rfl) ⟨Nat.le_of_ble_eq_true rfl, Nat.le_of_ble_eq_true rfl⟩ rfl rfl rfl hl.1 rfl (Nat.le_of_ble_eq_true rfl) dX0_openDoor_93 ⟨Nat.zero_le _, Nat.zero_le _⟩) hS (bk_in (k := 1) (by decide)) (fun H locs hX hO1 hS => ?_)
              have hO := out_in hO hO1 (k := 1) (by decide)
              have hC : ChoP E b (setT (lR r 2 (odX r)) (ntEnd (lR r 2 (odX r)).1 (odX r))) H := hC.ntT hX hO1
              refine lv_aload_n S.1 S.2.1 dX0_openDoor_96 rfl (lv_at hl 3 rfl) ?_
              refine lv_iload_n S.1 S.2.1 dX0_openDoor_97 rfl (lv_at hl 0 rfl) ?_
              refine lv_aload_n S.1 S.2.1 dX0_openDoor_98 rfl (lv_at hl 3 rfl) ?_
              refine x_get S hE (hC.1) (C := RX0) (T := TX0) (N := 10) rfl inlX0 0 (by decide) (v := .ref (b + 1)) rfl kw2_16 rfl dX0_openDoor_99 ?_
              refine x_getN S hE (hC.2.1.1) (C := RX5) (T := TX5) (N := 8) rfl inlX5 2 (by decide) (v := .ref (b + 1 + 3)) rfl nw5 rfl dX0_openDoor_102 ?_
              refine lv_iload_n S.1 S.2.1 dX0_openDoor_105 rfl (lv_at hl 1 rfl) ?_
              refine xk_R (v := (ntG (setT (lR r 2 (odX r)) (ntEnd (lR r 2 (odX r)).1 (odX r))).1 2 (odX r))) (x_runSN (As := [.ref (b + 1 + 3), .int (odX r)]) (rest := [.int (odV r), .ref b]) S hE hS (fun _ h => h.elim) (c_X7_at l E (b + 1 + (2 + 1)) 200 ((setT (lR r 2 (odX r)) (ntEnd (lR r 2 (odX r)).1 (odX r))).1 2) (odX r) _ (xr_i (hC.2.1.2 2 (by decide))) (by decide)) kv_X7_at nw49 kw8_2 ⟨Nat.le_of_ble_eq_true rfl, Nat.le_of_ble_eq_true rfl⟩ rfl rfl rfl hl.1 rfl (Nat.le_of_ble_eq_true rfl) dX0_openDoor_106 ⟨Nat.zero_le _, Nat.zero_le _⟩) ?_
              refine xk_V (x_runV (As := [.int (odV r), .int (ntG (setT (lR r 2 (odX r)) (ntEnd (lR r 2 (odX r)).1 (odX r))).1 2 (odX r))]) (rest := []) S hE hS (fun q z => z) (c_X0_beginAnew l E b (setT (lR r 2 (odX r)) (ntEnd (lR r 2 (odX r)).1 (odX r))) (odV r) (ntG (setT (lR r 2 (odX r)) (ntEnd (lR r 2 (odX r)).1 (odX r))).1 2 (odX r)) _ hC) kv_X0_beginAnew kw23_13 kw19_11 kw19_12 (x_recv hE (hC.1) (ci := 0) rfl) ⟨Nat.le_of_ble_eq_true rfl, Nat.le_of_ble_eq_true rfl⟩ rfl rfl rfl hl.1 rfl (Nat.le_of_ble_eq_true rfl) dX0_openDoor_109 ⟨Nat.zero_le _, Nat.zero_le _⟩) hS (fun q z => z) (fun H locs hX hO1 hS => ?_)
              have hO := hO.tr hO1 (fun q z => z)
              have hC : ChoP E b (chAnew (setT (lR r 2 (odX r)) (ntEnd (lR r 2 (odX r)).1 (odX r))) (odV r) (ntG (setT (lR r 2 (odX r)) (ntEnd (lR r 2 (odX r)).1 (odX r))).1 2 (odX r))) H := hX
              refine lv_iinc (k := 2) (v := (nI (t + 1))) S.1 S.2.1 dX0_openDoor_112 hl rfl (iincP t 1) (by decide) rfl (fun ls hl => ?_)
              have hl : lv_has ls 4 [(1, .int (nI (t + 1))), (3, .int (odV r)), (2, .int (odX r)), (0, .ref b)] := hl
              refine lv_goto (tgt := 2) S.1 S.2.1 dX0_openDoor_115 rfl ?_
              exact ih _ (by omega) (t + 1) (chAnew (setT (lR r 2 (odX r)) (ntEnd (lR r 2 (odX r)).1 (odX r))) (odV r) (ntG (setT (lR r 2 (odX r)) (ntEnd (lR r 2 (odX r)).1 (odX r))).1 2 (odX r))) _ _ ls rfl (by omega) (by rw [show 6 - t = (6 - (t + 1)) + 1 by omega, odN, if_pos hd0, if_neg (fun q => h3 q.1), odStep, if_neg h4] at hv; exact hv) (hC) (hO) (hS) (lv_sub hl [0, 3] rfl)
            · exact absurd h4 h3
          · skip
            refine lv_aload_n S.1 S.2.1 dX0_openDoor_59 rfl (lv_at hl 3 rfl) ?_
            refine xk_R (v := (chFree r)) (x_runV (As := []) (rest := []) S hE hS (fun _ h => h.elim) (c_X0_freePlaces l E b r  _ hC) kv_X0_freePlaces kw17_4 kw11_20 kw11_21 (x_recv hE (hC.1) (ci := 0) rfl) ⟨Nat.le_of_ble_eq_true rfl, Nat.le_of_ble_eq_true rfl⟩ rfl rfl rfl hl.1 rfl (Nat.le_of_ble_eq_true rfl) dX0_openDoor_60 ⟨Nat.zero_le _, Nat.zero_le _⟩) ?_
            refine lv_if_ne (tgt := 67) S.1 S.2.1 dX0_openDoor_63 rfl (fun h5 => ?_) (fun h5 => ?_)
            · skip
              refine lv_aload_n S.1 S.2.1 dX0_openDoor_67 rfl (lv_at hl 3 rfl) ?_
              refine x_get S hE (hC.1) (C := RX0) (T := TX0) (N := 10) rfl inlX0 3 (by decide) (v := .ref (b + 13)) rfl kw2_22 rfl dX0_openDoor_68 ?_
              refine lv_iload_n S.1 S.2.1 dX0_openDoor_71 rfl (lv_at hl 1 rfl) ?_
              refine xk_V (x_runVN (As := [.int (odX r)]) (rest := []) S hE hS (bk_in (k := 13) (by decide)) (c_X3_removeNote l E (b + 13) 6 (r.2.1 2) (odX r) _ hC.2.2.2.2.1 (by decide)) kv_X3_removeNote nw73 kw19_1 kw19_2 (x_recv hE (hC.2.2.2.2.1.1) (ci := 3) rfl) ⟨Nat.le_of_ble_eq_true rfl, Nat.le_of_ble_eq_true rfl⟩ rfl rfl rfl hl.1 rfl (Nat.le_of_ble_eq_true rfl) dX0_openDoor_72 ⟨Nat.zero_le _, Nat.zero_le _⟩) hS (bk_in (k := 13) (by decide)) (fun H locs hX hO1 hS => ?_)
              have hO := out_in hO hO1 (k := 13) (by decide)
              have hC : ChoP E b (lR r 2 (odX r)) H := hC.l2 hX hO1
              refine lv_iload_n S.1 S.2.1 dX0_openDoor_75 rfl (lv_at hl 0 rfl) ?_
              refine lv_iconst (v := (-1)) S.1 S.2.1 dX0_openDoor_76 (by decide) ?_
              refine lv_icmp_ne (tgt := 88) S.1 S.2.1 dX0_openDoor_77 rfl (fun h6 => ?_) (fun h6 => ?_)
              · exact absurd h3 h6
              · skip
                refine lv_aload_n S.1 S.2.1 dX0_openDoor_80 rfl (lv_at hl 3 rfl) ?_
                refine lv_iload_n S.1 S.2.1 dX0_openDoor_81 rfl (lv_at hl 1 rfl) ?_
                refine xk_V (x_runV (As := [.int (odX r)]) (rest := []) S hE hS (fun q z => z) (c_X0_comeIn l E b (lR r 2 (odX r)) (odX r) _ hC) kv_X0_comeIn kw19_7 kw19_8 kw19_9 (x_recv hE (hC.1) (ci := 0) rfl) ⟨Nat.le_of_ble_eq_true rfl, Nat.le_of_ble_eq_true rfl⟩ rfl rfl rfl hl.1 rfl (Nat.le_of_ble_eq_true rfl) dX0_openDoor_82 ⟨Nat.zero_le _, Nat.zero_le _⟩) hS (fun q z => z) (fun H locs hX hO1 hS => ?_)
                have hO := hO.tr hO1 (fun q z => z)
                have hC : ChoP E b (chCome (lR r 2 (odX r)) (odX r)) H := hX
                refine lv_goto (tgt := 112) S.1 S.2.1 dX0_openDoor_85 rfl ?_
                refine lv_iinc (k := 2) (v := (nI (t + 1))) S.1 S.2.1 dX0_openDoor_112 hl rfl (iincP t 1) (by decide) rfl (fun ls hl => ?_)
                have hl : lv_has ls 4 [(1, .int (nI (t + 1))), (3, .int (odV r)), (2, .int (odX r)), (0, .ref b)] := hl
                refine lv_goto (tgt := 2) S.1 S.2.1 dX0_openDoor_115 rfl ?_
                exact ih _ (by omega) (t + 1) (chCome (lR r 2 (odX r)) (odX r)) _ _ ls rfl (by omega) (by rw [show 6 - t = (6 - (t + 1)) + 1 by omega, odN, if_pos hd0, if_neg (fun q => h5 q.2), odStep, if_pos h6] at hv; exact hv) (hC) (hO) (hS) (lv_sub hl [0, 3] rfl)
            · skip
              subst hQ
              refine x_retV S hr hlk hS hO ?_ dX0_openDoor_66
              exact by rw [show 6 - t = (6 - (t + 1)) + 1 by omega, odN, if_pos hd0, if_pos ⟨h3, h5⟩] at hv; rw [← hv]; exact hC
  exact hloop2 _ 0 χ _ _ ls rfl (Nat.zero_le _) (rfl) (hC) (hO) (hS) (lv_sub hl [0, 1] rfl)
abbrev rm_X0_passTick : Room := ({ frames := 5, cells := 0, slots := 0, locals := 114 } : Room)
set_option maxRecDepth 100000 in
set_option maxHeartbeats 600000 in
theorem c_X0_passTick (l : Launch) (E : XE) (b : Nat) (χ : CS) (H : Heap) (hC : ChoP E b χ H) : Wv l E yX0_passTick cX0_passTick 1 rm_X0_passTick [.ref b] H (bk b 18) (ChoP E b (chTick χ)) := by
  refine met_of (by decide) (Nat.le_of_ble_eq_true rfl) (fun p e s m args below meth c hBD Q hQ ls hl => ?_)
  obtain ⟨S, hr, hlk, hnm, hE, hH⟩ := hBD
  subst hH
  have hl : lv_has ls 1 [(0, .ref b)] := hl
  have hO : Out (bk b 18) s.heap s.heap := Out.rf
  have hS : va_S (bk b 18) s.heap s.heap [] := va_S.rf
  refine lv_aload_n S.1 S.2.1 dX0_passTick_0 rfl (lv_at hl 0 rfl) ?_
  refine lv_dup S.1 S.2.1 dX0_passTick_1 rfl ?_
  refine x_get S hE (hC.1) (C := RX0) (T := TX0) (N := 10) rfl inlX0 6 (by decide) (v := .int (χ.2.2.2 1)) rfl kw17_21 rfl dX0_passTick_2 ?_
  refine lv_iconst (v := (nI 1)) S.1 S.2.1 dX0_passTick_5 (by decide) ?_
  refine lv_iadd S.1 S.2.1 dX0_passTick_6 ?_
  refine x_put S hE hS (bk1 (by omega)) (hC.1) (C := RX0) (T := TX0) (N := 10) rfl inlX0 tyX0 tyX0_ok nmX0 6 (by decide) (Nat.le_of_ble_eq_true rfl) kw17_21 rfl rfl (v := .int ((χ.2.2.2 1) + (nI 1))) rfl rfl dX0_passTick_7 (fun H locs hX hO1 hS => ?_)
  have hO := hO.tr hO1 (fun q z => by subst z; exact bk1 (by omega))
  have hC : ChoP E b (setS χ 1 ((χ.2.2.2 1) + (nI 1))) H := hC.ob (by decide) hX hO1
  refine lv_aload_n S.1 S.2.1 dX0_passTick_10 rfl (lv_at hl 0 rfl) ?_
  refine lv_aload_n S.1 S.2.1 dX0_passTick_11 rfl (lv_at hl 0 rfl) ?_
  refine x_get S hE (hC.1) (C := RX0) (T := TX0) (N := 10) rfl inlX0 1 (by decide) (v := .ref (b + 9)) rfl kw2_20 rfl dX0_passTick_12 ?_
  refine xk_V (x_runV (As := [.ref (b + 9)]) (rest := []) S hE hS (fun q z => z) (c_X0_moveAll_0 l E b (setS χ 1 ((χ.2.2.2 1) + (nI 1))) _ hC) kv_X0_moveAll kw22_5 kw22_6 kw22_7 (x_recv hE (hC.1) (ci := 0) rfl) ⟨Nat.le_of_ble_eq_true rfl, Nat.le_of_ble_eq_true rfl⟩ rfl rfl rfl hl.1 rfl (Nat.le_of_ble_eq_true rfl) dX0_passTick_15 ⟨Nat.zero_le _, Nat.zero_le _⟩) hS (fun q z => z) (fun H locs hX hO1 hS => ?_)
  have hO := hO.tr hO1 (fun q z => z)
  have hC : ChoP E b (chMove 0 (setS χ 1 ((χ.2.2.2 1) + (nI 1)))) H := hX
  refine lv_aload_n S.1 S.2.1 dX0_passTick_18 rfl (lv_at hl 0 rfl) ?_
  refine lv_aload_n S.1 S.2.1 dX0_passTick_19 rfl (lv_at hl 0 rfl) ?_
  refine x_get S hE (hC.1) (C := RX0) (T := TX0) (N := 10) rfl inlX0 2 (by decide) (v := .ref (b + 11)) rfl kw2_21 rfl dX0_passTick_20 ?_
  refine xk_V (x_runV (As := [.ref (b + 11)]) (rest := []) S hE hS (fun q z => z) (c_X0_moveAll_1 l E b (chMove 0 (setS χ 1 ((χ.2.2.2 1) + (nI 1)))) _ hC) kv_X0_moveAll kw22_5 kw22_6 kw22_7 (x_recv hE (hC.1) (ci := 0) rfl) ⟨Nat.le_of_ble_eq_true rfl, Nat.le_of_ble_eq_true rfl⟩ rfl rfl rfl hl.1 rfl (Nat.le_of_ble_eq_true rfl) dX0_passTick_23 ⟨Nat.zero_le _, Nat.zero_le _⟩) hS (fun q z => z) (fun H locs hX hO1 hS => ?_)
  have hO := hO.tr hO1 (fun q z => z)
  have hC : ChoP E b (chMove 1 (chMove 0 (setS χ 1 ((χ.2.2.2 1) + (nI 1))))) H := hX
  refine lv_aload_n S.1 S.2.1 dX0_passTick_26 rfl (lv_at hl 0 rfl) ?_
  refine xk_V (x_runV (As := []) (rest := []) S hE hS (fun q z => z) (c_X0_openDoor l E b (chMove 1 (chMove 0 (setS χ 1 ((χ.2.2.2 1) + (nI 1)))))  _ hC) kv_X0_openDoor kw23_9 kw23_10 kw23_11 (x_recv hE (hC.1) (ci := 0) rfl) ⟨Nat.le_of_ble_eq_true rfl, Nat.le_of_ble_eq_true rfl⟩ rfl rfl rfl hl.1 rfl (Nat.le_of_ble_eq_true rfl) dX0_passTick_27 ⟨Nat.zero_le _, Nat.zero_le _⟩) hS (fun q z => z) (fun H locs hX hO1 hS => ?_)
  have hO := hO.tr hO1 (fun q z => z)
  have hC : ChoP E b (chDoor (chMove 1 (chMove 0 (setS χ 1 ((χ.2.2.2 1) + (nI 1)))))) H := hX
  subst hQ
  refine x_retV S hr hlk hS hO ?_ dX0_passTick_30
  exact hC
