/-! 52.rc: constructor of a choir: walk, by program -/
abbrev rm_X0_init : Room := ({ frames := 5, cells := 17, slots := 1497, locals := 108 } : Room)
set_option maxRecDepth 100000 in
set_option maxHeartbeats 1000000 in
theorem c_X0_init (l : Launch) (E : XE) (a : Nat) (H : Heap) (hz : H.size = a + 1) (ho : XO E a 0 [.null, .null, .null, .null, .null, .null, .int (nI 0), .int (nI 0), .int (nI 0), .int (nI 0)] H) : Cn l E yX0_init cX0_init 1 rm_X0_init [.ref a] H a (fun H1 => ChoP E a χ0 H1 ∧ Gr H H1 a 18) 17 1497 := by
  refine met_ofC (by decide) (Nat.le_of_ble_eq_true rfl) (fun p e s m args below meth c hBD Q hQ ls hl => ?_)
  obtain ⟨S, hr, hlk, hnm, hEA, hH⟩ := hBD
  subst hH
  have hE := hEA.1
  have hl : lv_has ls 1 [(0, .ref a)] := hl
  have hS : va_S (fun q => a ≤ q) s.heap s.heap [] := va_S.rf
  have hG : s.heap.size = a + 1 := hz
  have hp : ∀ q : Nat, q < a → s.heap[q]? = s.heap[q]? := fun _ _ => rfl
  refine lv_aload_n S.1 S.2.1 dX0_init_0 rfl (lv_at hl 0 rfl) ?_
  refine x_init0 S kw2_12 kw1_10 kw1_11 hl.1 dX0_init_1 (Nat.le_of_ble_eq_true rfl) (Nat.le_of_ble_eq_true rfl) ?_
  refine lv_aload_n S.1 S.2.1 dX0_init_4 rfl (lv_at hl 0 rfl) ?_
  refine x_newO S hE hS (ci := 5) (C := RX5) (T := TX5) (N := 8) (fs := [.null, .null, .null, .null, .null, .null, .null, .int (nI 0)]) rfl inlX5 tyX5 tyX5_ok kw2_13 kw2_14 kw2_15 (fun j hj => by rcases (show j = 0 ∨ j = 1 ∨ j = 2 ∨ j = 3 ∨ j = 4 ∨ j = 5 ∨ j = 6 ∨ j = 7 by omega) with rfl | rfl | rfl | rfl | rfl | rfl | rfl | rfl <;> rfl) (Nat.le_of_ble_eq_true rfl) (Nat.le_of_ble_eq_true rfl) dX0_init_5 hG (fun H hX hz1 hK hS => ?_)
  have ho := va_at.kept ho (hK (a) (k_lt0 (by decide)))
  have hp : ∀ q : Nat, q < a → H[q]? = s.heap[q]? := fun q h => (hK q (kp_lt h)).trans (hp q h)
  have hG : H.size = a + 2 := hz1
  have hn1 : XO E (a + 1) 5 [.null, .null, .null, .null, .null, .null, .null, .int (nI 0)] H := hX
  refine W.widen (k := 1) (n := 8) (Nat.le_of_ble_eq_true rfl) (Nat.le_of_ble_eq_true rfl) ?_
  refine lv_dup S.1 S.2.1 dX0_init_8 rfl ?_
  refine xk_C (x_runIN (As := []) (rest := [.ref (a + 1), .ref a]) S hEA hS (fun q h => Nat.le_trans (Nat.le_add_right a 1) h) (c_X5_init l E (a + 1) _ hG hn1) kv_X5_init nw35 kw3_2 rfl ⟨(Nat.le_of_ble_eq_true rfl), (Nat.le_of_ble_eq_true rfl)⟩ rfl rfl rfl hl.1 rfl (Nat.le_of_ble_eq_true rfl) dX0_init_9 ⟨(Nat.le_of_ble_eq_true rfl), (Nat.le_of_ble_eq_true rfl)⟩) hS (fun q h => Nat.le_trans (Nat.le_add_right a 1) h) (fun H locs hX hS => ?_)
  obtain ⟨hX, hz1, hK⟩ := hX
  have ho := va_at.kept ho (hK (a) (k_lt0 (by decide)))
  have hp : ∀ q : Nat, q < a → H[q]? = s.heap[q]? := fun q h => (hK q (kp_lt h)).trans (hp q h)
  have hG : H.size = a + 9 := hz1
  have hp1 : NotP E (a + 1) (fun _ _ => 0) (nI 0) H := hX
  refine W.widen (k := 8) (n := 1408) (Nat.le_of_ble_eq_true rfl) (Nat.le_of_ble_eq_true rfl) ?_
  refine x_putF S hE hS (show a ≤ a from Nat.le_refl _) (ho) (C := RX0) (T := TX0) (N := 10) rfl inlX0 tyX0 tyX0_ok nmX0 0 (by decide) (Nat.le_of_ble_eq_true rfl) kw2_16 rfl rfl hnm rfl (v := .ref (a + 1)) rfl rfl dX0_init_12 (fun H locs hX hO1 hS => ?_)
  have hp1 := hp1.fr (fun q z => hO1.2 q (kb_ne0 (by decide) z))
  have hp : ∀ q : Nat, q < a → H[q]? = s.heap[q]? := fun q h => (hO1.2 q (kp_ne0 h)).trans (hp q h)
  have hG : H.size = a + 9 := hO1.1.trans hG
  have ho : XO E a 0 [.ref (a + 1), .null, .null, .null, .null, .null, .int (nI 0), .int (nI 0), .int (nI 0), .int (nI 0)] H := hX
  refine lv_aload_n S.1 S.2.1 dX0_init_15 rfl (lv_at hl 0 rfl) ?_
  refine x_newO S hE hS (ci := 3) (C := RX3) (T := TX3) (N := 2) (fs := [.null, .int (nI 0)]) rfl inlX3 tyX3 tyX3_ok kw2_17 kw2_18 kw2_19 (fun j hj => by rcases (show j = 0 ∨ j = 1 by omega) with rfl | rfl <;> rfl) (Nat.le_of_ble_eq_true rfl) (Nat.le_of_ble_eq_true rfl) dX0_init_16 hG (fun H hX hz1 hK hS => ?_)
  have ho := va_at.kept ho (hK (a) (k_lt0 (by decide)))
  have hp1 := hp1.fr (fun q z => hK q (kb_lt (by decide) z))
  have hp : ∀ q : Nat, q < a → H[q]? = s.heap[q]? := fun q h => (hK q (kp_lt h)).trans (hp q h)
  have hG : H.size = a + 10 := hz1
  have hn9 : XO E (a + 9) 3 [.null, .int (nI 0)] H := hX
  refine W.widen (k := 9) (n := 1410) (Nat.le_of_ble_eq_true rfl) (Nat.le_of_ble_eq_true rfl) ?_
  refine lv_dup S.1 S.2.1 dX0_init_19 rfl ?_
  refine lv_bipush (v := (nI 8)) S.1 S.2.1 dX0_init_20 (by decide) ?_
  refine xk_C (x_runIN (As := [.int (nI 8)]) (rest := [.ref (a + 9), .ref a]) S hEA hS (fun q h => Nat.le_trans (Nat.le_add_right a 9) h) (c_X3_init_8 l E (a + 9) _ hG hn9) kv_X3_init nw36 kw3_12 rfl ⟨(Nat.le_of_ble_eq_true rfl), (Nat.le_of_ble_eq_true rfl)⟩ rfl rfl rfl hl.1 rfl (Nat.le_of_ble_eq_true rfl) dX0_init_22 ⟨(Nat.le_of_ble_eq_true rfl), (Nat.le_of_ble_eq_true rfl)⟩) hS (fun q h => Nat.le_trans (Nat.le_add_right a 9) h) (fun H locs hX hS => ?_)
  obtain ⟨hX, hz1, hK⟩ := hX
  have ho := va_at.kept ho (hK (a) (k_lt0 (by decide)))
  have hp1 := hp1.fr (fun q z => hK q (kb_lt (by decide) z))
  have hp : ∀ q : Nat, q < a → H[q]? = s.heap[q]? := fun q h => (hK q (kp_lt h)).trans (hp q h)
  have hG : H.size = a + 11 := hz1
  have hp9 : LinP E (a + 9) 8 [] H := hX
  refine W.widen (k := 10) (n := 1418) (Nat.le_of_ble_eq_true rfl) (Nat.le_of_ble_eq_true rfl) ?_
  refine x_putF S hE hS (show a ≤ a from Nat.le_refl _) (ho) (C := RX0) (T := TX0) (N := 10) rfl inlX0 tyX0 tyX0_ok nmX0 1 (by decide) (Nat.le_of_ble_eq_true rfl) kw2_20 rfl rfl hnm rfl (v := .ref (a + 9)) rfl rfl dX0_init_25 (fun H locs hX hO1 hS => ?_)
  have hp1 := hp1.fr (fun q z => hO1.2 q (kb_ne0 (by decide) z))
  have hp9 := hp9.fr (fun q z => hO1.2 q (kb_ne0 (by decide) z))
  have hp : ∀ q : Nat, q < a → H[q]? = s.heap[q]? := fun q h => (hO1.2 q (kp_ne0 h)).trans (hp q h)
  have hG : H.size = a + 11 := hO1.1.trans hG
  have ho : XO E a 0 [.ref (a + 1), .ref (a + 9), .null, .null, .null, .null, .int (nI 0), .int (nI 0), .int (nI 0), .int (nI 0)] H := hX
  refine lv_aload_n S.1 S.2.1 dX0_init_28 rfl (lv_at hl 0 rfl) ?_
  refine x_newO S hE hS (ci := 3) (C := RX3) (T := TX3) (N := 2) (fs := [.null, .int (nI 0)]) rfl inlX3 tyX3 tyX3_ok kw2_17 kw2_18 kw2_19 (fun j hj => by rcases (show j = 0 ∨ j = 1 by omega) with rfl | rfl <;> rfl) (Nat.le_of_ble_eq_true rfl) (Nat.le_of_ble_eq_true rfl) dX0_init_29 hG (fun H hX hz1 hK hS => ?_)
  have ho := va_at.kept ho (hK (a) (k_lt0 (by decide)))
  have hp1 := hp1.fr (fun q z => hK q (kb_lt (by decide) z))
  have hp9 := hp9.fr (fun q z => hK q (kb_lt (by decide) z))
  have hp : ∀ q : Nat, q < a → H[q]? = s.heap[q]? := fun q h => (hK q (kp_lt h)).trans (hp q h)
  have hG : H.size = a + 12 := hz1
  have hn11 : XO E (a + 11) 3 [.null, .int (nI 0)] H := hX
  refine W.widen (k := 11) (n := 1420) (Nat.le_of_ble_eq_true rfl) (Nat.le_of_ble_eq_true rfl) ?_
  refine lv_dup S.1 S.2.1 dX0_init_32 rfl ?_
  refine lv_iconst (v := (nI 4)) S.1 S.2.1 dX0_init_33 (by decide) ?_
  refine xk_C (x_runIN (As := [.int (nI 4)]) (rest := [.ref (a + 11), .ref a]) S hEA hS (fun q h => Nat.le_trans (Nat.le_add_right a 11) h) (c_X3_init_4 l E (a + 11) _ hG hn11) kv_X3_init nw36 kw3_12 rfl ⟨(Nat.le_of_ble_eq_true rfl), (Nat.le_of_ble_eq_true rfl)⟩ rfl rfl rfl hl.1 rfl (Nat.le_of_ble_eq_true rfl) dX0_init_34 ⟨(Nat.le_of_ble_eq_true rfl), (Nat.le_of_ble_eq_true rfl)⟩) hS (fun q h => Nat.le_trans (Nat.le_add_right a 11) h) (fun H locs hX hS => ?_)
  obtain ⟨hX, hz1, hK⟩ := hX
  have ho := va_at.kept ho (hK (a) (k_lt0 (by decide)))
  have hp1 := hp1.fr (fun q z => hK q (kb_lt (by decide) z))
  have hp9 := hp9.fr (fun q z => hK q (kb_lt (by decide) z))
  have hp : ∀ q : Nat, q < a → H[q]? = s.heap[q]? := fun q h => (hK q (kp_lt h)).trans (hp q h)
  have hG : H.size = a + 13 := hz1
  have hp11 : LinP E (a + 11) 4 [] H := hX
  refine W.widen (k := 12) (n := 1424) (Nat.le_of_ble_eq_true rfl) (Nat.le_of_ble_eq_true rfl) ?_
  refine x_putF S hE hS (show a ≤ a from Nat.le_refl _) (ho) (C := RX0) (T := TX0) (N := 10) rfl inlX0 tyX0 tyX0_ok nmX0 2 (by decide) (Nat.le_of_ble_eq_true rfl) kw2_21 rfl rfl hnm rfl (v := .ref (a + 11)) rfl rfl dX0_init_37 (fun H locs hX hO1 hS => ?_)
  have hp1 := hp1.fr (fun q z => hO1.2 q (kb_ne0 (by decide) z))
  have hp9 := hp9.fr (fun q z => hO1.2 q (kb_ne0 (by decide) z))
  have hp11 := hp11.fr (fun q z => hO1.2 q (kb_ne0 (by decide) z))
  have hp : ∀ q : Nat, q < a → H[q]? = s.heap[q]? := fun q h => (hO1.2 q (kp_ne0 h)).trans (hp q h)
  have hG : H.size = a + 13 := hO1.1.trans hG
  have ho : XO E a 0 [.ref (a + 1), .ref (a + 9), .ref (a + 11), .null, .null, .null, .int (nI 0), .int (nI 0), .int (nI 0), .int (nI 0)] H := hX
  refine lv_aload_n S.1 S.2.1 dX0_init_40 rfl (lv_at hl 0 rfl) ?_
  refine x_newO S hE hS (ci := 3) (C := RX3) (T := TX3) (N := 2) (fs := [.null, .int (nI 0)]) rfl inlX3 tyX3 tyX3_ok kw2_17 kw2_18 kw2_19 (fun j hj => by rcases (show j = 0 ∨ j = 1 by omega) with rfl | rfl <;> rfl) (Nat.le_of_ble_eq_true rfl) (Nat.le_of_ble_eq_true rfl) dX0_init_41 hG (fun H hX hz1 hK hS => ?_)
  have ho := va_at.kept ho (hK (a) (k_lt0 (by decide)))
  have hp1 := hp1.fr (fun q z => hK q (kb_lt (by decide) z))
  have hp9 := hp9.fr (fun q z => hK q (kb_lt (by decide) z))
  have hp11 := hp11.fr (fun q z => hK q (kb_lt (by decide) z))
  have hp : ∀ q : Nat, q < a → H[q]? = s.heap[q]? := fun q h => (hK q (kp_lt h)).trans (hp q h)
  have hG : H.size = a + 14 := hz1
  have hn13 : XO E (a + 13) 3 [.null, .int (nI 0)] H := hX
  refine W.widen (k := 13) (n := 1426) (Nat.le_of_ble_eq_true rfl) (Nat.le_of_ble_eq_true rfl) ?_
  refine lv_dup S.1 S.2.1 dX0_init_44 rfl ?_
  refine lv_bipush (v := (nI 6)) S.1 S.2.1 dX0_init_45 (by decide) ?_
  refine xk_C (x_runIN (As := [.int (nI 6)]) (rest := [.ref (a + 13), .ref a]) S hEA hS (fun q h => Nat.le_trans (Nat.le_add_right a 13) h) (c_X3_init_6 l E (a + 13) _ hG hn13) kv_X3_init nw36 kw3_12 rfl ⟨(Nat.le_of_ble_eq_true rfl), (Nat.le_of_ble_eq_true rfl)⟩ rfl rfl rfl hl.1 rfl (Nat.le_of_ble_eq_true rfl) dX0_init_47 ⟨(Nat.le_of_ble_eq_true rfl), (Nat.le_of_ble_eq_true rfl)⟩) hS (fun q h => Nat.le_trans (Nat.le_add_right a 13) h) (fun H locs hX hS => ?_)
  obtain ⟨hX, hz1, hK⟩ := hX
  have ho := va_at.kept ho (hK (a) (k_lt0 (by decide)))
  have hp1 := hp1.fr (fun q z => hK q (kb_lt (by decide) z))
  have hp9 := hp9.fr (fun q z => hK q (kb_lt (by decide) z))
  have hp11 := hp11.fr (fun q z => hK q (kb_lt (by decide) z))
  have hp : ∀ q : Nat, q < a → H[q]? = s.heap[q]? := fun q h => (hK q (kp_lt h)).trans (hp q h)
  have hG : H.size = a + 15 := hz1
  have hp13 : LinP E (a + 13) 6 [] H := hX
  refine W.widen (k := 14) (n := 1432) (Nat.le_of_ble_eq_true rfl) (Nat.le_of_ble_eq_true rfl) ?_
  refine x_putF S hE hS (show a ≤ a from Nat.le_refl _) (ho) (C := RX0) (T := TX0) (N := 10) rfl inlX0 tyX0 tyX0_ok nmX0 3 (by decide) (Nat.le_of_ble_eq_true rfl) kw2_22 rfl rfl hnm rfl (v := .ref (a + 13)) rfl rfl dX0_init_50 (fun H locs hX hO1 hS => ?_)
  have hp1 := hp1.fr (fun q z => hO1.2 q (kb_ne0 (by decide) z))
  have hp9 := hp9.fr (fun q z => hO1.2 q (kb_ne0 (by decide) z))
  have hp11 := hp11.fr (fun q z => hO1.2 q (kb_ne0 (by decide) z))
  have hp13 := hp13.fr (fun q z => hO1.2 q (kb_ne0 (by decide) z))
  have hp : ∀ q : Nat, q < a → H[q]? = s.heap[q]? := fun q h => (hO1.2 q (kp_ne0 h)).trans (hp q h)
  have hG : H.size = a + 15 := hO1.1.trans hG
  have ho : XO E a 0 [.ref (a + 1), .ref (a + 9), .ref (a + 11), .ref (a + 13), .null, .null, .int (nI 0), .int (nI 0), .int (nI 0), .int (nI 0)] H := hX
  refine lv_aload_n S.1 S.2.1 dX0_init_53 rfl (lv_at hl 0 rfl) ?_
  refine lv_iconst (v := (nI 3)) S.1 S.2.1 dX0_init_54 (by decide) ?_
  refine x_newI S hE hS kw1_3 (k := 3) rfl (by decide) (Nat.le_of_ble_eq_true rfl) (Nat.le_of_ble_eq_true rfl) dX0_init_55 hG (fun H hX hz1 hK hS => ?_)
  have ho := va_at.kept ho (hK (a) (k_lt0 (by decide)))
  have hp1 := hp1.fr (fun q z => hK q (kb_lt (by decide) z))
  have hp9 := hp9.fr (fun q z => hK q (kb_lt (by decide) z))
  have hp11 := hp11.fr (fun q z => hK q (kb_lt (by decide) z))
  have hp13 := hp13.fr (fun q z => hK q (kb_lt (by decide) z))
  have hp : ∀ q : Nat, q < a → H[q]? = s.heap[q]? := fun q h => (hK q (kp_lt h)).trans (hp q h)
  have hG : H.size = a + 16 := hz1
  have hn15 : XI E (a + 15) 3 (fun _ => 0) H := hX
  refine W.widen (k := 15) (n := 1435) (Nat.le_of_ble_eq_true rfl) (Nat.le_of_ble_eq_true rfl) ?_
  refine x_putF S hE hS (show a ≤ a from Nat.le_refl _) (ho) (C := RX0) (T := TX0) (N := 10) rfl inlX0 tyX0 tyX0_ok nmX0 4 (by decide) (Nat.le_of_ble_eq_true rfl) kw2_23 rfl rfl hnm rfl (v := .ref (a + 15)) rfl rfl dX0_init_57 (fun H locs hX hO1 hS => ?_)
  have hp1 := hp1.fr (fun q z => hO1.2 q (kb_ne0 (by decide) z))
  have hp9 := hp9.fr (fun q z => hO1.2 q (kb_ne0 (by decide) z))
  have hp11 := hp11.fr (fun q z => hO1.2 q (kb_ne0 (by decide) z))
  have hp13 := hp13.fr (fun q z => hO1.2 q (kb_ne0 (by decide) z))
  have hn15 := va_at.kept hn15 (hO1.2 ((a + 15)) (k_ne0b (by decide)))
  have hp : ∀ q : Nat, q < a → H[q]? = s.heap[q]? := fun q h => (hO1.2 q (kp_ne0 h)).trans (hp q h)
  have hG : H.size = a + 16 := hO1.1.trans hG
  have ho : XO E a 0 [.ref (a + 1), .ref (a + 9), .ref (a + 11), .ref (a + 13), .ref (a + 15), .null, .int (nI 0), .int (nI 0), .int (nI 0), .int (nI 0)] H := hX
  refine lv_aload_n S.1 S.2.1 dX0_init_60 rfl (lv_at hl 0 rfl) ?_
  refine x_newO S hE hS (ci := 1) (C := RX1) (T := TX1) (N := 2) (fs := [.null, .int (nI 0)]) rfl inlX1 tyX1 tyX1_ok kw3_0 kw1_22 kw1_23 (fun j hj => by rcases (show j = 0 ∨ j = 1 by omega) with rfl | rfl <;> rfl) (Nat.le_of_ble_eq_true rfl) (Nat.le_of_ble_eq_true rfl) dX0_init_61 hG (fun H hX hz1 hK hS => ?_)
  have ho := va_at.kept ho (hK (a) (k_lt0 (by decide)))
  have hp1 := hp1.fr (fun q z => hK q (kb_lt (by decide) z))
  have hp9 := hp9.fr (fun q z => hK q (kb_lt (by decide) z))
  have hp11 := hp11.fr (fun q z => hK q (kb_lt (by decide) z))
  have hp13 := hp13.fr (fun q z => hK q (kb_lt (by decide) z))
  have hn15 := va_at.kept hn15 (hK ((a + 15)) (k_lt (by decide)))
  have hp : ∀ q : Nat, q < a → H[q]? = s.heap[q]? := fun q h => (hK q (kp_lt h)).trans (hp q h)
  have hG : H.size = a + 17 := hz1
  have hn16 : XO E (a + 16) 1 [.null, .int (nI 0)] H := hX
  refine W.widen (k := 16) (n := 1437) (Nat.le_of_ble_eq_true rfl) (Nat.le_of_ble_eq_true rfl) ?_
  refine lv_dup S.1 S.2.1 dX0_init_64 rfl ?_
  refine va_ldcS S.1 S.2.1 S.2.2.2.1 (show vk_R RX0 39 "s+a+t+b" (E.2.2.2 10) s from hE.2.1 0 (by decide)) dX0_init_65 ?_
  refine xk_C (x_runIN (As := [.ref (E.2.2.2 10)]) (rest := [.ref (a + 16), .ref a]) S hEA hS (fun q h => Nat.le_trans (Nat.le_add_right a 16) h) (c_X1_init_0 l E (a + 16) _ hG hn16) kv_X1_init nw37 kw3_20 rfl ⟨(Nat.le_of_ble_eq_true rfl), (Nat.le_of_ble_eq_true rfl)⟩ rfl rfl rfl hl.1 rfl (Nat.le_of_ble_eq_true rfl) dX0_init_67 ⟨(Nat.le_of_ble_eq_true rfl), (Nat.le_of_ble_eq_true rfl)⟩) hS (fun q h => Nat.le_trans (Nat.le_add_right a 16) h) (fun H locs hX hS => ?_)
  obtain ⟨hX, hz1, hK⟩ := hX
  have ho := va_at.kept ho (hK (a) (k_lt0 (by decide)))
  have hp1 := hp1.fr (fun q z => hK q (kb_lt (by decide) z))
  have hp9 := hp9.fr (fun q z => hK q (kb_lt (by decide) z))
  have hp11 := hp11.fr (fun q z => hK q (kb_lt (by decide) z))
  have hp13 := hp13.fr (fun q z => hK q (kb_lt (by decide) z))
  have hn15 := va_at.kept hn15 (hK ((a + 15)) (k_lt (by decide)))
  have hp : ∀ q : Nat, q < a → H[q]? = s.heap[q]? := fun q h => (hK q (kp_lt h)).trans (hp q h)
  have hG : H.size = a + 18 := hz1
  have hp16 : ForP E (a + 16) fs0 H := hX
  refine W.widen (k := 17) (n := 1497) (Nat.le_of_ble_eq_true rfl) (Nat.le_of_ble_eq_true rfl) ?_
  refine x_putF S hE hS (show a ≤ a from Nat.le_refl _) (ho) (C := RX0) (T := TX0) (N := 10) rfl inlX0 tyX0 tyX0_ok nmX0 5 (by decide) (Nat.le_of_ble_eq_true rfl) kw3_1 rfl rfl hnm rfl (v := .ref (a + 16)) rfl rfl dX0_init_70 (fun H locs hX hO1 hS => ?_)
  have hp1 := hp1.fr (fun q z => hO1.2 q (kb_ne0 (by decide) z))
  have hp9 := hp9.fr (fun q z => hO1.2 q (kb_ne0 (by decide) z))
  have hp11 := hp11.fr (fun q z => hO1.2 q (kb_ne0 (by decide) z))
  have hp13 := hp13.fr (fun q z => hO1.2 q (kb_ne0 (by decide) z))
  have hn15 := va_at.kept hn15 (hO1.2 ((a + 15)) (k_ne0b (by decide)))
  have hp16 := hp16.fr (fun q z => hO1.2 q (kb_ne0 (by decide) z))
  have hp : ∀ q : Nat, q < a → H[q]? = s.heap[q]? := fun q h => (hO1.2 q (kp_ne0 h)).trans (hp q h)
  have hG : H.size = a + 18 := hO1.1.trans hG
  have ho : XO E a 0 [.ref (a + 1), .ref (a + 9), .ref (a + 11), .ref (a + 13), .ref (a + 15), .ref (a + 16), .int (nI 0), .int (nI 0), .int (nI 0), .int (nI 0)] H := hX
  refine x_getsN S hE hS 6 (by decide) nw18 dX0_init_73 ?_
  refine lv_aload_n S.1 S.2.1 dX0_init_76 rfl (lv_at hl 0 rfl) ?_
  refine x_get S hE (ho) (C := RX0) (T := TX0) (N := 10) rfl inlX0 4 (by decide) (v := .ref (a + 15)) rfl kw2_23 rfl dX0_init_77 ?_
  refine lv_iconst (v := (nI 3)) S.1 S.2.1 dX0_init_80 (by decide) ?_
  refine xk_V (x_runSN (As := [.ref (E.2.2.2 6), .ref (a + 15), .int (nI 3)]) (rest := []) S hE hS (fun q h => Nat.le_trans (Nat.le_add_right a 15) (Nat.le_of_eq (Eq.symm h))) (c_X7_copyRow l E (E.2.2.2 6) (a + 15) 3 3 (st_val 6) (fun _ => 0) (nI 3) _ (xr_s 6 (by decide)) hn15 (by decide) (by decide)) kv_X7_copyRow nw38 kw6_6 ⟨Nat.le_of_ble_eq_true rfl, Nat.le_of_ble_eq_true rfl⟩ rfl rfl rfl hl.1 rfl (Nat.le_of_ble_eq_true rfl) dX0_init_81 ⟨Nat.le_of_ble_eq_true rfl, Nat.le_of_ble_eq_true rfl⟩) hS (fun q h => Nat.le_trans (Nat.le_add_right a 15) (Nat.le_of_eq (Eq.symm h))) (fun H locs hX hO1 hS => ?_)
  have ho := va_at.kept ho (hO1.2 (a) (k_ne0a (by decide)))
  have hp1 := hp1.fr (fun q z => hO1.2 q (kb_ne (by decide) z))
  have hp9 := hp9.fr (fun q z => hO1.2 q (kb_ne (by decide) z))
  have hp11 := hp11.fr (fun q z => hO1.2 q (kb_ne (by decide) z))
  have hp13 := hp13.fr (fun q z => hO1.2 q (kb_ne (by decide) z))
  have hp16 := hp16.fr (fun q z => hO1.2 q (kb_ne (by decide) z))
  have hp : ∀ q : Nat, q < a → H[q]? = s.heap[q]? := fun q h => (hO1.2 q (kp_ne h)).trans (hp q h)
  have hG : H.size = a + 18 := hO1.1.trans hG
  have hn15 : XI E (a + 15) 3 (xcpy (st_val 6) 3 (fun _ => 0) 3 (nI 3)) H := hX
  subst hQ
  refine x_retC S hr hlk hS ?_ dX0_init_84
  exact ⟨⟨ho, hp1, hp9, hp11, hp13, hn15, hp16⟩, hG, hp⟩
