/-! 54.re: constructor of the reference: walk, by program -/
abbrev rm_X8_init : Room := ({ frames := 1, cells := 7, slots := 10098, locals := 12 } : Room)
set_option maxRecDepth 100000 in
set_option maxHeartbeats 1000000 in
theorem c_X8_init (l : Launch) (E : XE) (a : Nat) (H : Heap) (hz : H.size = a + 1) (ho : XO E a 8 [.null, .null, .null, .int (nI 0), .null, .int (nI 0), .int (nI 0), .null, .null, .null] H) : Cn l E yX8_init cX8_init 2 rm_X8_init [.ref a] H a (fun H1 => RfP E a (σ0, ((fun _ _ => 0), 0), ((fun _ => 0), 0)) H1 ∧ Gr H H1 a 8) 7 10098 := by
  refine met_ofC (by decide) (Nat.le_of_ble_eq_true rfl) (fun p e s m args below meth c hBD Q hQ ls hl => ?_)
  obtain ⟨S, hr, hlk, hnm, hEA, hH⟩ := hBD
  subst hH
  have hE := hEA.1
  have hl : lv_has ls 2 [(0, .ref a)] := hl
  have hS : va_S (fun q => a ≤ q) s.heap s.heap [] := va_S.rf
  have hG : s.heap.size = a + 1 := hz
  have hp : ∀ q : Nat, q < a → s.heap[q]? = s.heap[q]? := fun _ _ => rfl
  refine lv_aload_n S.1 S.2.1 dX8_init_0 rfl (lv_at hl 0 rfl) ?_
  refine x_init0 S kw7_5 kw1_10 kw1_11 hl.1 dX8_init_1 (Nat.le_of_ble_eq_true rfl) (Nat.le_of_ble_eq_true rfl) ?_
  refine lv_aload_n S.1 S.2.1 dX8_init_4 rfl (lv_at hl 0 rfl) ?_
  refine lv_sipush (v := (nI 1670)) S.1 S.2.1 dX8_init_5 (by decide) ?_
  refine x_newI S hE hS kw2_9 (k := 1670) rfl (by decide) (Nat.le_of_ble_eq_true rfl) (Nat.le_of_ble_eq_true rfl) dX8_init_8 hG (fun H hX hz1 hK hS => ?_)
  have ho := va_at.kept ho (hK (a) (k_lt0 (by decide)))
  have hp : ∀ q : Nat, q < a → H[q]? = s.heap[q]? := fun q h => (hK q (kp_lt h)).trans (hp q h)
  have hG : H.size = a + 2 := hz1
  have hn1 : XI E (a + 1) 1670 (fun _ => 0) H := hX
  refine W.widen (k := 1) (n := 1670) (Nat.le_of_ble_eq_true rfl) (Nat.le_of_ble_eq_true rfl) ?_
  refine x_putF S hE hS (show a ≤ a from Nat.le_refl _) (ho) (C := RX8) (T := TX8) (N := 10) rfl inlX8 tyX8 tyX8_ok nmX8 0 (by decide) (Nat.le_of_ble_eq_true rfl) kw7_6 rfl rfl hnm rfl (v := .ref (a + 1)) rfl rfl dX8_init_10 (fun H locs hX hO1 hS => ?_)
  have hn1 := va_at.kept hn1 (hO1.2 ((a + 1)) (k_ne0b (by decide)))
  have hp : ∀ q : Nat, q < a → H[q]? = s.heap[q]? := fun q h => (hO1.2 q (kp_ne0 h)).trans (hp q h)
  have hG : H.size = a + 2 := hO1.1.trans hG
  have ho : XO E a 8 [.ref (a + 1), .null, .null, .int (nI 0), .null, .int (nI 0), .int (nI 0), .null, .null, .null] H := hX
  refine lv_aload_n S.1 S.2.1 dX8_init_13 rfl (lv_at hl 0 rfl) ?_
  refine lv_sipush (v := (nI 6680)) S.1 S.2.1 dX8_init_14 (by decide) ?_
  refine x_newI S hE hS kw2_9 (k := 6680) rfl (by decide) (Nat.le_of_ble_eq_true rfl) (Nat.le_of_ble_eq_true rfl) dX8_init_17 hG (fun H hX hz1 hK hS => ?_)
  have ho := va_at.kept ho (hK (a) (k_lt0 (by decide)))
  have hn1 := va_at.kept hn1 (hK ((a + 1)) (k_lt (by decide)))
  have hp : ∀ q : Nat, q < a → H[q]? = s.heap[q]? := fun q h => (hK q (kp_lt h)).trans (hp q h)
  have hG : H.size = a + 3 := hz1
  have hn2 : XI E (a + 2) 6680 (fun _ => 0) H := hX
  refine W.widen (k := 2) (n := 8350) (Nat.le_of_ble_eq_true rfl) (Nat.le_of_ble_eq_true rfl) ?_
  refine x_putF S hE hS (show a ≤ a from Nat.le_refl _) (ho) (C := RX8) (T := TX8) (N := 10) rfl inlX8 tyX8 tyX8_ok nmX8 1 (by decide) (Nat.le_of_ble_eq_true rfl) kw7_7 rfl rfl hnm rfl (v := .ref (a + 2)) rfl rfl dX8_init_19 (fun H locs hX hO1 hS => ?_)
  have hn1 := va_at.kept hn1 (hO1.2 ((a + 1)) (k_ne0b (by decide)))
  have hn2 := va_at.kept hn2 (hO1.2 ((a + 2)) (k_ne0b (by decide)))
  have hp : ∀ q : Nat, q < a → H[q]? = s.heap[q]? := fun q h => (hO1.2 q (kp_ne0 h)).trans (hp q h)
  have hG : H.size = a + 3 := hO1.1.trans hG
  have ho : XO E a 8 [.ref (a + 1), .ref (a + 2), .null, .int (nI 0), .null, .int (nI 0), .int (nI 0), .null, .null, .null] H := hX
  refine lv_aload_n S.1 S.2.1 dX8_init_22 rfl (lv_at hl 0 rfl) ?_
  refine lv_sipush (v := (nI 1670)) S.1 S.2.1 dX8_init_23 (by decide) ?_
  refine x_newI S hE hS kw2_9 (k := 1670) rfl (by decide) (Nat.le_of_ble_eq_true rfl) (Nat.le_of_ble_eq_true rfl) dX8_init_26 hG (fun H hX hz1 hK hS => ?_)
  have ho := va_at.kept ho (hK (a) (k_lt0 (by decide)))
  have hn1 := va_at.kept hn1 (hK ((a + 1)) (k_lt (by decide)))
  have hn2 := va_at.kept hn2 (hK ((a + 2)) (k_lt (by decide)))
  have hp : ∀ q : Nat, q < a → H[q]? = s.heap[q]? := fun q h => (hK q (kp_lt h)).trans (hp q h)
  have hG : H.size = a + 4 := hz1
  have hn3 : XI E (a + 3) 1670 (fun _ => 0) H := hX
  refine W.widen (k := 3) (n := 10020) (Nat.le_of_ble_eq_true rfl) (Nat.le_of_ble_eq_true rfl) ?_
  refine x_putF S hE hS (show a ≤ a from Nat.le_refl _) (ho) (C := RX8) (T := TX8) (N := 10) rfl inlX8 tyX8 tyX8_ok nmX8 2 (by decide) (Nat.le_of_ble_eq_true rfl) kw7_8 rfl rfl hnm rfl (v := .ref (a + 3)) rfl rfl dX8_init_28 (fun H locs hX hO1 hS => ?_)
  have hn1 := va_at.kept hn1 (hO1.2 ((a + 1)) (k_ne0b (by decide)))
  have hn2 := va_at.kept hn2 (hO1.2 ((a + 2)) (k_ne0b (by decide)))
  have hn3 := va_at.kept hn3 (hO1.2 ((a + 3)) (k_ne0b (by decide)))
  have hp : ∀ q : Nat, q < a → H[q]? = s.heap[q]? := fun q h => (hO1.2 q (kp_ne0 h)).trans (hp q h)
  have hG : H.size = a + 4 := hO1.1.trans hG
  have ho : XO E a 8 [.ref (a + 1), .ref (a + 2), .ref (a + 3), .int (nI 0), .null, .int (nI 0), .int (nI 0), .null, .null, .null] H := hX
  refine lv_aload_n S.1 S.2.1 dX8_init_31 rfl (lv_at hl 0 rfl) ?_
  refine lv_bipush (v := (nI 60)) S.1 S.2.1 dX8_init_32 (by decide) ?_
  refine x_newI S hE hS kw2_9 (k := 60) rfl (by decide) (Nat.le_of_ble_eq_true rfl) (Nat.le_of_ble_eq_true rfl) dX8_init_34 hG (fun H hX hz1 hK hS => ?_)
  have ho := va_at.kept ho (hK (a) (k_lt0 (by decide)))
  have hn1 := va_at.kept hn1 (hK ((a + 1)) (k_lt (by decide)))
  have hn2 := va_at.kept hn2 (hK ((a + 2)) (k_lt (by decide)))
  have hn3 := va_at.kept hn3 (hK ((a + 3)) (k_lt (by decide)))
  have hp : ∀ q : Nat, q < a → H[q]? = s.heap[q]? := fun q h => (hK q (kp_lt h)).trans (hp q h)
  have hG : H.size = a + 5 := hz1
  have hn4 : XI E (a + 4) 60 (fun _ => 0) H := hX
  refine W.widen (k := 4) (n := 10080) (Nat.le_of_ble_eq_true rfl) (Nat.le_of_ble_eq_true rfl) ?_
  refine x_putF S hE hS (show a ≤ a from Nat.le_refl _) (ho) (C := RX8) (T := TX8) (N := 10) rfl inlX8 tyX8 tyX8_ok nmX8 4 (by decide) (Nat.le_of_ble_eq_true rfl) kw7_9 rfl rfl hnm rfl (v := .ref (a + 4)) rfl rfl dX8_init_36 (fun H locs hX hO1 hS => ?_)
  have hn1 := va_at.kept hn1 (hO1.2 ((a + 1)) (k_ne0b (by decide)))
  have hn2 := va_at.kept hn2 (hO1.2 ((a + 2)) (k_ne0b (by decide)))
  have hn3 := va_at.kept hn3 (hO1.2 ((a + 3)) (k_ne0b (by decide)))
  have hn4 := va_at.kept hn4 (hO1.2 ((a + 4)) (k_ne0b (by decide)))
  have hp : ∀ q : Nat, q < a → H[q]? = s.heap[q]? := fun q h => (hO1.2 q (kp_ne0 h)).trans (hp q h)
  have hG : H.size = a + 5 := hO1.1.trans hG
  have ho : XO E a 8 [.ref (a + 1), .ref (a + 2), .ref (a + 3), .int (nI 0), .ref (a + 4), .int (nI 0), .int (nI 0), .null, .null, .null] H := hX
  refine lv_aload_n S.1 S.2.1 dX8_init_39 rfl (lv_at hl 0 rfl) ?_
  refine lv_iconst (v := (nI 4)) S.1 S.2.1 dX8_init_40 (by decide) ?_
  refine x_newI S hE hS kw2_9 (k := 4) rfl (by decide) (Nat.le_of_ble_eq_true rfl) (Nat.le_of_ble_eq_true rfl) dX8_init_41 hG (fun H hX hz1 hK hS => ?_)
  have ho := va_at.kept ho (hK (a) (k_lt0 (by decide)))
  have hn1 := va_at.kept hn1 (hK ((a + 1)) (k_lt (by decide)))
  have hn2 := va_at.kept hn2 (hK ((a + 2)) (k_lt (by decide)))
  have hn3 := va_at.kept hn3 (hK ((a + 3)) (k_lt (by decide)))
  have hn4 := va_at.kept hn4 (hK ((a + 4)) (k_lt (by decide)))
  have hp : ∀ q : Nat, q < a → H[q]? = s.heap[q]? := fun q h => (hK q (kp_lt h)).trans (hp q h)
  have hG : H.size = a + 6 := hz1
  have hn5 : XI E (a + 5) 4 (fun _ => 0) H := hX
  refine W.widen (k := 5) (n := 10084) (Nat.le_of_ble_eq_true rfl) (Nat.le_of_ble_eq_true rfl) ?_
  refine x_putF S hE hS (show a ≤ a from Nat.le_refl _) (ho) (C := RX8) (T := TX8) (N := 10) rfl inlX8 tyX8 tyX8_ok nmX8 7 (by decide) (Nat.le_of_ble_eq_true rfl) kw7_10 rfl rfl hnm rfl (v := .ref (a + 5)) rfl rfl dX8_init_43 (fun H locs hX hO1 hS => ?_)
  have hn1 := va_at.kept hn1 (hO1.2 ((a + 1)) (k_ne0b (by decide)))
  have hn2 := va_at.kept hn2 (hO1.2 ((a + 2)) (k_ne0b (by decide)))
  have hn3 := va_at.kept hn3 (hO1.2 ((a + 3)) (k_ne0b (by decide)))
  have hn4 := va_at.kept hn4 (hO1.2 ((a + 4)) (k_ne0b (by decide)))
  have hn5 := va_at.kept hn5 (hO1.2 ((a + 5)) (k_ne0b (by decide)))
  have hp : ∀ q : Nat, q < a → H[q]? = s.heap[q]? := fun q h => (hO1.2 q (kp_ne0 h)).trans (hp q h)
  have hG : H.size = a + 6 := hO1.1.trans hG
  have ho : XO E a 8 [.ref (a + 1), .ref (a + 2), .ref (a + 3), .int (nI 0), .ref (a + 4), .int (nI 0), .int (nI 0), .ref (a + 5), .null, .null] H := hX
  refine lv_aload_n S.1 S.2.1 dX8_init_46 rfl (lv_at hl 0 rfl) ?_
  refine lv_bipush (v := (nI 7)) S.1 S.2.1 dX8_init_47 (by decide) ?_
  refine x_newI S hE hS kw2_9 (k := 7) rfl (by decide) (Nat.le_of_ble_eq_true rfl) (Nat.le_of_ble_eq_true rfl) dX8_init_49 hG (fun H hX hz1 hK hS => ?_)
  have ho := va_at.kept ho (hK (a) (k_lt0 (by decide)))
  have hn1 := va_at.kept hn1 (hK ((a + 1)) (k_lt (by decide)))
  have hn2 := va_at.kept hn2 (hK ((a + 2)) (k_lt (by decide)))
  have hn3 := va_at.kept hn3 (hK ((a + 3)) (k_lt (by decide)))
  have hn4 := va_at.kept hn4 (hK ((a + 4)) (k_lt (by decide)))
  have hn5 := va_at.kept hn5 (hK ((a + 5)) (k_lt (by decide)))
  have hp : ∀ q : Nat, q < a → H[q]? = s.heap[q]? := fun q h => (hK q (kp_lt h)).trans (hp q h)
  have hG : H.size = a + 7 := hz1
  have hn6 : XI E (a + 6) 7 (fun _ => 0) H := hX
  refine W.widen (k := 6) (n := 10091) (Nat.le_of_ble_eq_true rfl) (Nat.le_of_ble_eq_true rfl) ?_
  refine x_putF S hE hS (show a ≤ a from Nat.le_refl _) (ho) (C := RX8) (T := TX8) (N := 10) rfl inlX8 tyX8 tyX8_ok nmX8 8 (by decide) (Nat.le_of_ble_eq_true rfl) kw7_11 rfl rfl hnm rfl (v := .ref (a + 6)) rfl rfl dX8_init_51 (fun H locs hX hO1 hS => ?_)
  have hn1 := va_at.kept hn1 (hO1.2 ((a + 1)) (k_ne0b (by decide)))
  have hn2 := va_at.kept hn2 (hO1.2 ((a + 2)) (k_ne0b (by decide)))
  have hn3 := va_at.kept hn3 (hO1.2 ((a + 3)) (k_ne0b (by decide)))
  have hn4 := va_at.kept hn4 (hO1.2 ((a + 4)) (k_ne0b (by decide)))
  have hn5 := va_at.kept hn5 (hO1.2 ((a + 5)) (k_ne0b (by decide)))
  have hn6 := va_at.kept hn6 (hO1.2 ((a + 6)) (k_ne0b (by decide)))
  have hp : ∀ q : Nat, q < a → H[q]? = s.heap[q]? := fun q h => (hO1.2 q (kp_ne0 h)).trans (hp q h)
  have hG : H.size = a + 7 := hO1.1.trans hG
  have ho : XO E a 8 [.ref (a + 1), .ref (a + 2), .ref (a + 3), .int (nI 0), .ref (a + 4), .int (nI 0), .int (nI 0), .ref (a + 5), .ref (a + 6), .null] H := hX
  refine lv_aload_n S.1 S.2.1 dX8_init_54 rfl (lv_at hl 0 rfl) ?_
  refine lv_bipush (v := (nI 7)) S.1 S.2.1 dX8_init_55 (by decide) ?_
  refine x_newI S hE hS kw2_9 (k := 7) rfl (by decide) (Nat.le_of_ble_eq_true rfl) (Nat.le_of_ble_eq_true rfl) dX8_init_57 hG (fun H hX hz1 hK hS => ?_)
  have ho := va_at.kept ho (hK (a) (k_lt0 (by decide)))
  have hn1 := va_at.kept hn1 (hK ((a + 1)) (k_lt (by decide)))
  have hn2 := va_at.kept hn2 (hK ((a + 2)) (k_lt (by decide)))
  have hn3 := va_at.kept hn3 (hK ((a + 3)) (k_lt (by decide)))
  have hn4 := va_at.kept hn4 (hK ((a + 4)) (k_lt (by decide)))
  have hn5 := va_at.kept hn5 (hK ((a + 5)) (k_lt (by decide)))
  have hn6 := va_at.kept hn6 (hK ((a + 6)) (k_lt (by decide)))
  have hp : ∀ q : Nat, q < a → H[q]? = s.heap[q]? := fun q h => (hK q (kp_lt h)).trans (hp q h)
  have hG : H.size = a + 8 := hz1
  have hn7 : XI E (a + 7) 7 (fun _ => 0) H := hX
  refine W.widen (k := 7) (n := 10098) (Nat.le_of_ble_eq_true rfl) (Nat.le_of_ble_eq_true rfl) ?_
  refine x_putF S hE hS (show a ≤ a from Nat.le_refl _) (ho) (C := RX8) (T := TX8) (N := 10) rfl inlX8 tyX8 tyX8_ok nmX8 9 (by decide) (Nat.le_of_ble_eq_true rfl) kw7_12 rfl rfl hnm rfl (v := .ref (a + 7)) rfl rfl dX8_init_59 (fun H locs hX hO1 hS => ?_)
  have hn1 := va_at.kept hn1 (hO1.2 ((a + 1)) (k_ne0b (by decide)))
  have hn2 := va_at.kept hn2 (hO1.2 ((a + 2)) (k_ne0b (by decide)))
  have hn3 := va_at.kept hn3 (hO1.2 ((a + 3)) (k_ne0b (by decide)))
  have hn4 := va_at.kept hn4 (hO1.2 ((a + 4)) (k_ne0b (by decide)))
  have hn5 := va_at.kept hn5 (hO1.2 ((a + 5)) (k_ne0b (by decide)))
  have hn6 := va_at.kept hn6 (hO1.2 ((a + 6)) (k_ne0b (by decide)))
  have hn7 := va_at.kept hn7 (hO1.2 ((a + 7)) (k_ne0b (by decide)))
  have hp : ∀ q : Nat, q < a → H[q]? = s.heap[q]? := fun q h => (hO1.2 q (kp_ne0 h)).trans (hp q h)
  have hG : H.size = a + 8 := hO1.1.trans hG
  have ho : XO E a 8 [.ref (a + 1), .ref (a + 2), .ref (a + 3), .int (nI 0), .ref (a + 4), .int (nI 0), .int (nI 0), .ref (a + 5), .ref (a + 6), .ref (a + 7)] H := hX
  refine lv_aload_n S.1 S.2.1 dX8_init_62 rfl (lv_at hl 0 rfl) ?_
  refine x_get S hE (ho) (C := RX8) (T := TX8) (N := 10) rfl inlX8 0 (by decide) (v := .ref (a + 1)) rfl kw7_6 rfl dX8_init_63 ?_
  refine lv_bipush (v := (nI 6)) S.1 S.2.1 dX8_init_66 (by decide) ?_
  refine lv_iconst (v := (nI 4)) S.1 S.2.1 dX8_init_68 (by decide) ?_
  refine x_iast S hE hS (Nat.le_add_right a 1) (hn1) 6 rfl (by decide) (by decide) dX8_init_69 (fun H locs hX hO1 hS => ?_)
  have ho := va_at.kept ho (hO1.2 (a) (k_ne0a (by decide)))
  have hn2 := va_at.kept hn2 (hO1.2 ((a + 2)) (k_ne (by decide)))
  have hn3 := va_at.kept hn3 (hO1.2 ((a + 3)) (k_ne (by decide)))
  have hn4 := va_at.kept hn4 (hO1.2 ((a + 4)) (k_ne (by decide)))
  have hn5 := va_at.kept hn5 (hO1.2 ((a + 5)) (k_ne (by decide)))
  have hn6 := va_at.kept hn6 (hO1.2 ((a + 6)) (k_ne (by decide)))
  have hn7 := va_at.kept hn7 (hO1.2 ((a + 7)) (k_ne (by decide)))
  have hp : ∀ q : Nat, q < a → H[q]? = s.heap[q]? := fun q h => (hO1.2 q (kp_ne h)).trans (hp q h)
  have hG : H.size = a + 8 := hO1.1.trans hG
  have hn1 : XI E (a + 1) 1670 (upd (fun _ => 0) 6 (nI 4)) H := hX
  refine lv_aload_n S.1 S.2.1 dX8_init_70 rfl (lv_at hl 0 rfl) ?_
  refine x_get S hE (ho) (C := RX8) (T := TX8) (N := 10) rfl inlX8 0 (by decide) (v := .ref (a + 1)) rfl kw7_6 rfl dX8_init_71 ?_
  refine lv_bipush (v := (nI 8)) S.1 S.2.1 dX8_init_74 (by decide) ?_
  refine lv_sipush (v := (nI 2500)) S.1 S.2.1 dX8_init_76 (by decide) ?_
  refine x_iast S hE hS (Nat.le_add_right a 1) (hn1) 8 rfl (by decide) (by decide) dX8_init_79 (fun H locs hX hO1 hS => ?_)
  have ho := va_at.kept ho (hO1.2 (a) (k_ne0a (by decide)))
  have hn2 := va_at.kept hn2 (hO1.2 ((a + 2)) (k_ne (by decide)))
  have hn3 := va_at.kept hn3 (hO1.2 ((a + 3)) (k_ne (by decide)))
  have hn4 := va_at.kept hn4 (hO1.2 ((a + 4)) (k_ne (by decide)))
  have hn5 := va_at.kept hn5 (hO1.2 ((a + 5)) (k_ne (by decide)))
  have hn6 := va_at.kept hn6 (hO1.2 ((a + 6)) (k_ne (by decide)))
  have hn7 := va_at.kept hn7 (hO1.2 ((a + 7)) (k_ne (by decide)))
  have hp : ∀ q : Nat, q < a → H[q]? = s.heap[q]? := fun q h => (hO1.2 q (kp_ne h)).trans (hp q h)
  have hG : H.size = a + 8 := hO1.1.trans hG
  have hn1 : XI E (a + 1) 1670 (upd (upd (fun _ => 0) 6 (nI 4)) 8 (nI 2500)) H := hX
  refine lv_aload_n S.1 S.2.1 dX8_init_80 rfl (lv_at hl 0 rfl) ?_
  refine x_get S hE (ho) (C := RX8) (T := TX8) (N := 10) rfl inlX8 0 (by decide) (v := .ref (a + 1)) rfl kw7_6 rfl dX8_init_81 ?_
  refine lv_bipush (v := (nI 9)) S.1 S.2.1 dX8_init_84 (by decide) ?_
  refine lv_bipush (v := (nI 7)) S.1 S.2.1 dX8_init_86 (by decide) ?_
  refine x_iast S hE hS (Nat.le_add_right a 1) (hn1) 9 rfl (by decide) (by decide) dX8_init_88 (fun H locs hX hO1 hS => ?_)
  have ho := va_at.kept ho (hO1.2 (a) (k_ne0a (by decide)))
  have hn2 := va_at.kept hn2 (hO1.2 ((a + 2)) (k_ne (by decide)))
  have hn3 := va_at.kept hn3 (hO1.2 ((a + 3)) (k_ne (by decide)))
  have hn4 := va_at.kept hn4 (hO1.2 ((a + 4)) (k_ne (by decide)))
  have hn5 := va_at.kept hn5 (hO1.2 ((a + 5)) (k_ne (by decide)))
  have hn6 := va_at.kept hn6 (hO1.2 ((a + 6)) (k_ne (by decide)))
  have hn7 := va_at.kept hn7 (hO1.2 ((a + 7)) (k_ne (by decide)))
  have hp : ∀ q : Nat, q < a → H[q]? = s.heap[q]? := fun q h => (hO1.2 q (kp_ne h)).trans (hp q h)
  have hG : H.size = a + 8 := hO1.1.trans hG
  have hn1 : XI E (a + 1) 1670 (upd (upd (upd (fun _ => 0) 6 (nI 4)) 8 (nI 2500)) 9 (nI 7)) H := hX
  refine lv_iconst (v := (nI 0)) S.1 S.2.1 dX8_init_89 (by decide) ?_
  refine lv_istore_n S.1 S.2.1 dX8_init_90 rfl hl (by decide) rfl (fun ls hl => ?_)
  have hl : lv_has ls 2 [(1, .int (nI 0)), (0, .ref a)] := hl
  refine lv_iload_n S.1 S.2.1 dX8_init_91 rfl (lv_at hl 0 rfl) ?_
  refine lv_bipush (v := (nI 7)) S.1 S.2.1 dX8_init_92 (by decide) ?_
  refine lv_icmp_ge (tgt := 155) S.1 S.2.1 dX8_init_94 rfl (fun h1 => ?_) (fun h1 => ?_)
  · exact absurd h1 (by decide)
  · skip
    refine lv_aload_n S.1 S.2.1 dX8_init_97 rfl (lv_at hl 1 rfl) ?_
    refine x_get S hE (ho) (C := RX8) (T := TX8) (N := 10) rfl inlX8 0 (by decide) (v := .ref (a + 1)) rfl kw7_6 rfl dX8_init_98 ?_
    refine lv_bipush (v := (nI 10)) S.1 S.2.1 dX8_init_101 (by decide) ?_
    refine lv_iload_n S.1 S.2.1 dX8_init_103 rfl (lv_at hl 0 rfl) ?_
    refine lv_iadd S.1 S.2.1 dX8_init_104 ?_
    refine x_top (y := (nI 10)) (nI_add 10 0) ?_
    refine lv_iload_n S.1 S.2.1 dX8_init_105 rfl (lv_at hl 0 rfl) ?_
    refine lv_iconst (v := (nI 2)) S.1 S.2.1 dX8_init_106 (by decide) ?_
    refine lv_irem S.1 S.2.1 dX8_init_107 (by decide) ?_
    refine x_top (y := (nI 0)) (by decide) ?_
    refine lv_iconst (v := (nI 1)) S.1 S.2.1 dX8_init_108 (by decide) ?_
    refine lv_icmp_ne (tgt := 117) S.1 S.2.1 dX8_init_109 rfl (fun h2 => ?_) (fun h2 => ?_)
    · skip
      refine lv_iload_n S.1 S.2.1 dX8_init_117 rfl (lv_at hl 0 rfl) ?_
      refine lv_if_ne (tgt := 126) S.1 S.2.1 dX8_init_118 rfl (fun h3 => ?_) (fun h3 => ?_)
      · exact absurd h3 (by decide)
      · skip
        refine lv_bipush (v := (nI 115)) S.1 S.2.1 dX8_init_121 (by decide) ?_
        refine lv_goto (tgt := 148) S.1 S.2.1 dX8_init_123 rfl ?_
        refine x_iast S hE hS (Nat.le_add_right a 1) (hn1) 10 rfl (by decide) (by decide) dX8_init_148 (fun H locs hX hO1 hS => ?_)
        have ho := va_at.kept ho (hO1.2 (a) (k_ne0a (by decide)))
        have hn2 := va_at.kept hn2 (hO1.2 ((a + 2)) (k_ne (by decide)))
        have hn3 := va_at.kept hn3 (hO1.2 ((a + 3)) (k_ne (by decide)))
        have hn4 := va_at.kept hn4 (hO1.2 ((a + 4)) (k_ne (by decide)))
        have hn5 := va_at.kept hn5 (hO1.2 ((a + 5)) (k_ne (by decide)))
        have hn6 := va_at.kept hn6 (hO1.2 ((a + 6)) (k_ne (by decide)))
        have hn7 := va_at.kept hn7 (hO1.2 ((a + 7)) (k_ne (by decide)))
        have hp : ∀ q : Nat, q < a → H[q]? = s.heap[q]? := fun q h => (hO1.2 q (kp_ne h)).trans (hp q h)
        have hG : H.size = a + 8 := hO1.1.trans hG
        have hn1 : XI E (a + 1) 1670 (upd (upd (upd (upd (fun _ => 0) 6 (nI 4)) 8 (nI 2500)) 9 (nI 7)) 10 (nI 115)) H := hX
        refine lv_iinc (k := 0) (v := (nI 1)) S.1 S.2.1 dX8_init_149 hl rfl (iincP 0 1) (by decide) rfl (fun ls hl => ?_)
        have hl : lv_has ls 2 [(1, .int (nI 1)), (0, .ref a)] := hl
        refine lv_goto (tgt := 91) S.1 S.2.1 dX8_init_152 rfl ?_
        refine lv_iload_n S.1 S.2.1 dX8_init_91 rfl (lv_at hl 0 rfl) ?_
        refine lv_bipush (v := (nI 7)) S.1 S.2.1 dX8_init_92 (by decide) ?_
        refine lv_icmp_ge (tgt := 155) S.1 S.2.1 dX8_init_94 rfl (fun h4 => ?_) (fun h4 => ?_)
        · exact absurd h4 (by decide)
        · skip
          refine lv_aload_n S.1 S.2.1 dX8_init_97 rfl (lv_at hl 1 rfl) ?_
          refine x_get S hE (ho) (C := RX8) (T := TX8) (N := 10) rfl inlX8 0 (by decide) (v := .ref (a + 1)) rfl kw7_6 rfl dX8_init_98 ?_
          refine lv_bipush (v := (nI 10)) S.1 S.2.1 dX8_init_101 (by decide) ?_
          refine lv_iload_n S.1 S.2.1 dX8_init_103 rfl (lv_at hl 0 rfl) ?_
          refine lv_iadd S.1 S.2.1 dX8_init_104 ?_
          refine x_top (y := (nI 11)) (nI_add 10 1) ?_
          refine lv_iload_n S.1 S.2.1 dX8_init_105 rfl (lv_at hl 0 rfl) ?_
          refine lv_iconst (v := (nI 2)) S.1 S.2.1 dX8_init_106 (by decide) ?_
          refine lv_irem S.1 S.2.1 dX8_init_107 (by decide) ?_
          refine x_top (y := (nI 1)) (by decide) ?_
          refine lv_iconst (v := (nI 1)) S.1 S.2.1 dX8_init_108 (by decide) ?_
          refine lv_icmp_ne (tgt := 117) S.1 S.2.1 dX8_init_109 rfl (fun h5 => ?_) (fun h5 => ?_)
          · exact absurd h5 (by decide)
          · skip
            refine lv_bipush (v := (nI 43)) S.1 S.2.1 dX8_init_112 (by decide) ?_
            refine lv_goto (tgt := 148) S.1 S.2.1 dX8_init_114 rfl ?_
            refine x_iast S hE hS (Nat.le_add_right a 1) (hn1) 11 rfl (by decide) (by decide) dX8_init_148 (fun H locs hX hO1 hS => ?_)
            have ho := va_at.kept ho (hO1.2 (a) (k_ne0a (by decide)))
            have hn2 := va_at.kept hn2 (hO1.2 ((a + 2)) (k_ne (by decide)))
            have hn3 := va_at.kept hn3 (hO1.2 ((a + 3)) (k_ne (by decide)))
            have hn4 := va_at.kept hn4 (hO1.2 ((a + 4)) (k_ne (by decide)))
            have hn5 := va_at.kept hn5 (hO1.2 ((a + 5)) (k_ne (by decide)))
            have hn6 := va_at.kept hn6 (hO1.2 ((a + 6)) (k_ne (by decide)))
            have hn7 := va_at.kept hn7 (hO1.2 ((a + 7)) (k_ne (by decide)))
            have hp : ∀ q : Nat, q < a → H[q]? = s.heap[q]? := fun q h => (hO1.2 q (kp_ne h)).trans (hp q h)
            have hG : H.size = a + 8 := hO1.1.trans hG
            have hn1 : XI E (a + 1) 1670 (upd (upd (upd (upd (upd (fun _ => 0) 6 (nI 4)) 8 (nI 2500)) 9 (nI 7)) 10 (nI 115)) 11 (nI 43)) H := hX
            refine lv_iinc (k := 0) (v := (nI 2)) S.1 S.2.1 dX8_init_149 hl rfl (iincP 1 1) (by decide) rfl (fun ls hl => ?_)
            have hl : lv_has ls 2 [(1, .int (nI 2)), (0, .ref a)] := hl
            refine lv_goto (tgt := 91) S.1 S.2.1 dX8_init_152 rfl ?_
            refine lv_iload_n S.1 S.2.1 dX8_init_91 rfl (lv_at hl 0 rfl) ?_
            refine lv_bipush (v := (nI 7)) S.1 S.2.1 dX8_init_92 (by decide) ?_
            refine lv_icmp_ge (tgt := 155) S.1 S.2.1 dX8_init_94 rfl (fun h6 => ?_) (fun h6 => ?_)
            · exact absurd h6 (by decide)
            · skip
              refine lv_aload_n S.1 S.2.1 dX8_init_97 rfl (lv_at hl 1 rfl) ?_
              refine x_get S hE (ho) (C := RX8) (T := TX8) (N := 10) rfl inlX8 0 (by decide) (v := .ref (a + 1)) rfl kw7_6 rfl dX8_init_98 ?_
              refine lv_bipush (v := (nI 10)) S.1 S.2.1 dX8_init_101 (by decide) ?_
              refine lv_iload_n S.1 S.2.1 dX8_init_103 rfl (lv_at hl 0 rfl) ?_
              refine lv_iadd S.1 S.2.1 dX8_init_104 ?_
              refine x_top (y := (nI 12)) (nI_add 10 2) ?_
              refine lv_iload_n S.1 S.2.1 dX8_init_105 rfl (lv_at hl 0 rfl) ?_
              refine lv_iconst (v := (nI 2)) S.1 S.2.1 dX8_init_106 (by decide) ?_
              refine lv_irem S.1 S.2.1 dX8_init_107 (by decide) ?_
              refine x_top (y := (nI 0)) (by decide) ?_
              refine lv_iconst (v := (nI 1)) S.1 S.2.1 dX8_init_108 (by decide) ?_
              refine lv_icmp_ne (tgt := 117) S.1 S.2.1 dX8_init_109 rfl (fun h7 => ?_) (fun h7 => ?_)
              · skip
                refine lv_iload_n S.1 S.2.1 dX8_init_117 rfl (lv_at hl 0 rfl) ?_
                refine lv_if_ne (tgt := 126) S.1 S.2.1 dX8_init_118 rfl (fun h8 => ?_) (fun h8 => ?_)
                · skip
                  refine lv_iload_n S.1 S.2.1 dX8_init_126 rfl (lv_at hl 0 rfl) ?_
                  refine lv_iconst (v := (nI 2)) S.1 S.2.1 dX8_init_127 (by decide) ?_
                  refine lv_icmp_ne (tgt := 136) S.1 S.2.1 dX8_init_128 rfl (fun h9 => ?_) (fun h9 => ?_)
                  · exact absurd h9 (by decide)
                  · skip
                    refine lv_bipush (v := (nI 97)) S.1 S.2.1 dX8_init_131 (by decide) ?_
                    refine lv_goto (tgt := 148) S.1 S.2.1 dX8_init_133 rfl ?_
                    refine x_iast S hE hS (Nat.le_add_right a 1) (hn1) 12 rfl (by decide) (by decide) dX8_init_148 (fun H locs hX hO1 hS => ?_)
                    have ho := va_at.kept ho (hO1.2 (a) (k_ne0a (by decide)))
                    have hn2 := va_at.kept hn2 (hO1.2 ((a + 2)) (k_ne (by decide)))
                    have hn3 := va_at.kept hn3 (hO1.2 ((a + 3)) (k_ne (by decide)))
                    have hn4 := va_at.kept hn4 (hO1.2 ((a + 4)) (k_ne (by decide)))
                    have hn5 := va_at.kept hn5 (hO1.2 ((a + 5)) (k_ne (by decide)))
                    have hn6 := va_at.kept hn6 (hO1.2 ((a + 6)) (k_ne (by decide)))
                    have hn7 := va_at.kept hn7 (hO1.2 ((a + 7)) (k_ne (by decide)))
                    have hp : ∀ q : Nat, q < a → H[q]? = s.heap[q]? := fun q h => (hO1.2 q (kp_ne h)).trans (hp q h)
                    have hG : H.size = a + 8 := hO1.1.trans hG
                    have hn1 : XI E (a + 1) 1670 (upd (upd (upd (upd (upd (upd (fun _ => 0) 6 (nI 4)) 8 (nI 2500)) 9 (nI 7)) 10 (nI 115)) 11 (nI 43)) 12 (nI 97)) H := hX
                    refine lv_iinc (k := 0) (v := (nI 3)) S.1 S.2.1 dX8_init_149 hl rfl (iincP 2 1) (by decide) rfl (fun ls hl => ?_)
                    have hl : lv_has ls 2 [(1, .int (nI 3)), (0, .ref a)] := hl
                    refine lv_goto (tgt := 91) S.1 S.2.1 dX8_init_152 rfl ?_
                    refine lv_iload_n S.1 S.2.1 dX8_init_91 rfl (lv_at hl 0 rfl) ?_
                    refine lv_bipush (v := (nI 7)) S.1 S.2.1 dX8_init_92 (by decide) ?_
                    refine lv_icmp_ge (tgt := 155) S.1 S.2.1 dX8_init_94 rfl (fun h10 => ?_) (fun h10 => ?_)
                    · exact absurd h10 (by decide)
                    · skip
                      refine lv_aload_n S.1 S.2.1 dX8_init_97 rfl (lv_at hl 1 rfl) ?_
                      refine x_get S hE (ho) (C := RX8) (T := TX8) (N := 10) rfl inlX8 0 (by decide) (v := .ref (a + 1)) rfl kw7_6 rfl dX8_init_98 ?_
                      refine lv_bipush (v := (nI 10)) S.1 S.2.1 dX8_init_101 (by decide) ?_
                      refine lv_iload_n S.1 S.2.1 dX8_init_103 rfl (lv_at hl 0 rfl) ?_
                      refine lv_iadd S.1 S.2.1 dX8_init_104 ?_
                      refine x_top (y := (nI 13)) (nI_add 10 3) ?_
                      refine lv_iload_n S.1 S.2.1 dX8_init_105 rfl (lv_at hl 0 rfl) ?_
                      refine lv_iconst (v := (nI 2)) S.1 S.2.1 dX8_init_106 (by decide) ?_
                      refine lv_irem S.1 S.2.1 dX8_init_107 (by decide) ?_
                      refine x_top (y := (nI 1)) (by decide) ?_
                      refine lv_iconst (v := (nI 1)) S.1 S.2.1 dX8_init_108 (by decide) ?_
                      refine lv_icmp_ne (tgt := 117) S.1 S.2.1 dX8_init_109 rfl (fun h11 => ?_) (fun h11 => ?_)
                      · exact absurd h11 (by decide)
                      · skip
                        refine lv_bipush (v := (nI 43)) S.1 S.2.1 dX8_init_112 (by decide) ?_
                        refine lv_goto (tgt := 148) S.1 S.2.1 dX8_init_114 rfl ?_
                        refine x_iast S hE hS (Nat.le_add_right a 1) (hn1) 13 rfl (by decide) (by decide) dX8_init_148 (fun H locs hX hO1 hS => ?_)
                        have ho := va_at.kept ho (hO1.2 (a) (k_ne0a (by decide)))
                        have hn2 := va_at.kept hn2 (hO1.2 ((a + 2)) (k_ne (by decide)))
                        have hn3 := va_at.kept hn3 (hO1.2 ((a + 3)) (k_ne (by decide)))
                        have hn4 := va_at.kept hn4 (hO1.2 ((a + 4)) (k_ne (by decide)))
                        have hn5 := va_at.kept hn5 (hO1.2 ((a + 5)) (k_ne (by decide)))
                        have hn6 := va_at.kept hn6 (hO1.2 ((a + 6)) (k_ne (by decide)))
                        have hn7 := va_at.kept hn7 (hO1.2 ((a + 7)) (k_ne (by decide)))
                        have hp : ∀ q : Nat, q < a → H[q]? = s.heap[q]? := fun q h => (hO1.2 q (kp_ne h)).trans (hp q h)
                        have hG : H.size = a + 8 := hO1.1.trans hG
                        have hn1 : XI E (a + 1) 1670 (upd (upd (upd (upd (upd (upd (upd (fun _ => 0) 6 (nI 4)) 8 (nI 2500)) 9 (nI 7)) 10 (nI 115)) 11 (nI 43)) 12 (nI 97)) 13 (nI 43)) H := hX
                        refine lv_iinc (k := 0) (v := (nI 4)) S.1 S.2.1 dX8_init_149 hl rfl (iincP 3 1) (by decide) rfl (fun ls hl => ?_)
                        have hl : lv_has ls 2 [(1, .int (nI 4)), (0, .ref a)] := hl
                        refine lv_goto (tgt := 91) S.1 S.2.1 dX8_init_152 rfl ?_
                        refine lv_iload_n S.1 S.2.1 dX8_init_91 rfl (lv_at hl 0 rfl) ?_
                        refine lv_bipush (v := (nI 7)) S.1 S.2.1 dX8_init_92 (by decide) ?_
                        refine lv_icmp_ge (tgt := 155) S.1 S.2.1 dX8_init_94 rfl (fun h12 => ?_) (fun h12 => ?_)
                        · exact absurd h12 (by decide)
                        · skip
                          refine lv_aload_n S.1 S.2.1 dX8_init_97 rfl (lv_at hl 1 rfl) ?_
                          refine x_get S hE (ho) (C := RX8) (T := TX8) (N := 10) rfl inlX8 0 (by decide) (v := .ref (a + 1)) rfl kw7_6 rfl dX8_init_98 ?_
                          refine lv_bipush (v := (nI 10)) S.1 S.2.1 dX8_init_101 (by decide) ?_
                          refine lv_iload_n S.1 S.2.1 dX8_init_103 rfl (lv_at hl 0 rfl) ?_
                          refine lv_iadd S.1 S.2.1 dX8_init_104 ?_
                          refine x_top (y := (nI 14)) (nI_add 10 4) ?_
                          refine lv_iload_n S.1 S.2.1 dX8_init_105 rfl (lv_at hl 0 rfl) ?_
                          refine lv_iconst (v := (nI 2)) S.1 S.2.1 dX8_init_106 (by decide) ?_
                          refine lv_irem S.1 S.2.1 dX8_init_107 (by decide) ?_
                          refine x_top (y := (nI 0)) (by decide) ?_
                          refine lv_iconst (v := (nI 1)) S.1 S.2.1 dX8_init_108 (by decide) ?_
                          refine lv_icmp_ne (tgt := 117) S.1 S.2.1 dX8_init_109 rfl (fun h13 => ?_) (fun h13 => ?_)
                          · skip
                            refine lv_iload_n S.1 S.2.1 dX8_init_117 rfl (lv_at hl 0 rfl) ?_
                            refine lv_if_ne (tgt := 126) S.1 S.2.1 dX8_init_118 rfl (fun h14 => ?_) (fun h14 => ?_)
                            · skip
                              refine lv_iload_n S.1 S.2.1 dX8_init_126 rfl (lv_at hl 0 rfl) ?_
                              refine lv_iconst (v := (nI 2)) S.1 S.2.1 dX8_init_127 (by decide) ?_
                              refine lv_icmp_ne (tgt := 136) S.1 S.2.1 dX8_init_128 rfl (fun h15 => ?_) (fun h15 => ?_)
                              · skip
                                refine lv_iload_n S.1 S.2.1 dX8_init_136 rfl (lv_at hl 0 rfl) ?_
                                refine lv_iconst (v := (nI 4)) S.1 S.2.1 dX8_init_137 (by decide) ?_
                                refine lv_icmp_ne (tgt := 146) S.1 S.2.1 dX8_init_138 rfl (fun h16 => ?_) (fun h16 => ?_)
                                · exact absurd h16 (by decide)
                                · skip
                                  refine lv_bipush (v := (nI 116)) S.1 S.2.1 dX8_init_141 (by decide) ?_
                                  refine lv_goto (tgt := 148) S.1 S.2.1 dX8_init_143 rfl ?_
                                  refine x_iast S hE hS (Nat.le_add_right a 1) (hn1) 14 rfl (by decide) (by decide) dX8_init_148 (fun H locs hX hO1 hS => ?_)
                                  have ho := va_at.kept ho (hO1.2 (a) (k_ne0a (by decide)))
                                  have hn2 := va_at.kept hn2 (hO1.2 ((a + 2)) (k_ne (by decide)))
                                  have hn3 := va_at.kept hn3 (hO1.2 ((a + 3)) (k_ne (by decide)))
                                  have hn4 := va_at.kept hn4 (hO1.2 ((a + 4)) (k_ne (by decide)))
                                  have hn5 := va_at.kept hn5 (hO1.2 ((a + 5)) (k_ne (by decide)))
                                  have hn6 := va_at.kept hn6 (hO1.2 ((a + 6)) (k_ne (by decide)))
                                  have hn7 := va_at.kept hn7 (hO1.2 ((a + 7)) (k_ne (by decide)))
                                  have hp : ∀ q : Nat, q < a → H[q]? = s.heap[q]? := fun q h => (hO1.2 q (kp_ne h)).trans (hp q h)
                                  have hG : H.size = a + 8 := hO1.1.trans hG
                                  have hn1 : XI E (a + 1) 1670 (upd (upd (upd (upd (upd (upd (upd (upd (fun _ => 0) 6 (nI 4)) 8 (nI 2500)) 9 (nI 7)) 10 (nI 115)) 11 (nI 43)) 12 (nI 97)) 13 (nI 43)) 14 (nI 116)) H := hX
                                  refine lv_iinc (k := 0) (v := (nI 5)) S.1 S.2.1 dX8_init_149 hl rfl (iincP 4 1) (by decide) rfl (fun ls hl => ?_)
                                  have hl : lv_has ls 2 [(1, .int (nI 5)), (0, .ref a)] := hl
                                  refine lv_goto (tgt := 91) S.1 S.2.1 dX8_init_152 rfl ?_
                                  refine lv_iload_n S.1 S.2.1 dX8_init_91 rfl (lv_at hl 0 rfl) ?_
                                  refine lv_bipush (v := (nI 7)) S.1 S.2.1 dX8_init_92 (by decide) ?_
                                  refine lv_icmp_ge (tgt := 155) S.1 S.2.1 dX8_init_94 rfl (fun h17 => ?_) (fun h17 => ?_)
                                  · exact absurd h17 (by decide)
                                  · skip
                                    refine lv_aload_n S.1 S.2.1 dX8_init_97 rfl (lv_at hl 1 rfl) ?_
                                    refine x_get S hE (ho) (C := RX8) (T := TX8) (N := 10) rfl inlX8 0 (by decide) (v := .ref (a + 1)) rfl kw7_6 rfl dX8_init_98 ?_
                                    refine lv_bipush (v := (nI 10)) S.1 S.2.1 dX8_init_101 (by decide) ?_
                                    refine lv_iload_n S.1 S.2.1 dX8_init_103 rfl (lv_at hl 0 rfl) ?_
                                    refine lv_iadd S.1 S.2.1 dX8_init_104 ?_
                                    refine x_top (y := (nI 15)) (nI_add 10 5) ?_
                                    refine lv_iload_n S.1 S.2.1 dX8_init_105 rfl (lv_at hl 0 rfl) ?_
                                    refine lv_iconst (v := (nI 2)) S.1 S.2.1 dX8_init_106 (by decide) ?_
                                    refine lv_irem S.1 S.2.1 dX8_init_107 (by decide) ?_
                                    refine x_top (y := (nI 1)) (by decide) ?_
                                    refine lv_iconst (v := (nI 1)) S.1 S.2.1 dX8_init_108 (by decide) ?_
                                    refine lv_icmp_ne (tgt := 117) S.1 S.2.1 dX8_init_109 rfl (fun h18 => ?_) (fun h18 => ?_)
                                    · exact absurd h18 (by decide)
                                    · skip
                                      refine lv_bipush (v := (nI 43)) S.1 S.2.1 dX8_init_112 (by decide) ?_
                                      refine lv_goto (tgt := 148) S.1 S.2.1 dX8_init_114 rfl ?_
                                      refine x_iast S hE hS (Nat.le_add_right a 1) (hn1) 15 rfl (by decide) (by decide) dX8_init_148 (fun H locs hX hO1 hS => ?_)
                                      have ho := va_at.kept ho (hO1.2 (a) (k_ne0a (by decide)))
                                      have hn2 := va_at.kept hn2 (hO1.2 ((a + 2)) (k_ne (by decide)))
                                      have hn3 := va_at.kept hn3 (hO1.2 ((a + 3)) (k_ne (by decide)))
                                      have hn4 := va_at.kept hn4 (hO1.2 ((a + 4)) (k_ne (by decide)))
                                      have hn5 := va_at.kept hn5 (hO1.2 ((a + 5)) (k_ne (by decide)))
                                      have hn6 := va_at.kept hn6 (hO1.2 ((a + 6)) (k_ne (by decide)))
                                      have hn7 := va_at.kept hn7 (hO1.2 ((a + 7)) (k_ne (by decide)))
                                      have hp : ∀ q : Nat, q < a → H[q]? = s.heap[q]? := fun q h => (hO1.2 q (kp_ne h)).trans (hp q h)
                                      have hG : H.size = a + 8 := hO1.1.trans hG
                                      have hn1 : XI E (a + 1) 1670 (upd (upd (upd (upd (upd (upd (upd (upd (upd (fun _ => 0) 6 (nI 4)) 8 (nI 2500)) 9 (nI 7)) 10 (nI 115)) 11 (nI 43)) 12 (nI 97)) 13 (nI 43)) 14 (nI 116)) 15 (nI 43)) H := hX
                                      refine lv_iinc (k := 0) (v := (nI 6)) S.1 S.2.1 dX8_init_149 hl rfl (iincP 5 1) (by decide) rfl (fun ls hl => ?_)
                                      have hl : lv_has ls 2 [(1, .int (nI 6)), (0, .ref a)] := hl
                                      refine lv_goto (tgt := 91) S.1 S.2.1 dX8_init_152 rfl ?_
                                      refine lv_iload_n S.1 S.2.1 dX8_init_91 rfl (lv_at hl 0 rfl) ?_
                                      refine lv_bipush (v := (nI 7)) S.1 S.2.1 dX8_init_92 (by decide) ?_
                                      refine lv_icmp_ge (tgt := 155) S.1 S.2.1 dX8_init_94 rfl (fun h19 => ?_) (fun h19 => ?_)
                                      · exact absurd h19 (by decide)
                                      · skip
                                        refine lv_aload_n S.1 S.2.1 dX8_init_97 rfl (lv_at hl 1 rfl) ?_
                                        refine x_get S hE (ho) (C := RX8) (T := TX8) (N := 10) rfl inlX8 0 (by decide) (v := .ref (a + 1)) rfl kw7_6 rfl dX8_init_98 ?_
                                        refine lv_bipush (v := (nI 10)) S.1 S.2.1 dX8_init_101 (by decide) ?_
                                        refine lv_iload_n S.1 S.2.1 dX8_init_103 rfl (lv_at hl 0 rfl) ?_
                                        refine lv_iadd S.1 S.2.1 dX8_init_104 ?_
                                        refine x_top (y := (nI 16)) (nI_add 10 6) ?_
                                        refine lv_iload_n S.1 S.2.1 dX8_init_105 rfl (lv_at hl 0 rfl) ?_
                                        refine lv_iconst (v := (nI 2)) S.1 S.2.1 dX8_init_106 (by decide) ?_
                                        refine lv_irem S.1 S.2.1 dX8_init_107 (by decide) ?_
                                        refine x_top (y := (nI 0)) (by decide) ?_
                                        refine lv_iconst (v := (nI 1)) S.1 S.2.1 dX8_init_108 (by decide) ?_
                                        refine lv_icmp_ne (tgt := 117) S.1 S.2.1 dX8_init_109 rfl (fun h20 => ?_) (fun h20 => ?_)
                                        · skip
                                          refine lv_iload_n S.1 S.2.1 dX8_init_117 rfl (lv_at hl 0 rfl) ?_
                                          refine lv_if_ne (tgt := 126) S.1 S.2.1 dX8_init_118 rfl (fun h21 => ?_) (fun h21 => ?_)
                                          · skip
                                            refine lv_iload_n S.1 S.2.1 dX8_init_126 rfl (lv_at hl 0 rfl) ?_
                                            refine lv_iconst (v := (nI 2)) S.1 S.2.1 dX8_init_127 (by decide) ?_
                                            refine lv_icmp_ne (tgt := 136) S.1 S.2.1 dX8_init_128 rfl (fun h22 => ?_) (fun h22 => ?_)
                                            · skip
                                              refine lv_iload_n S.1 S.2.1 dX8_init_136 rfl (lv_at hl 0 rfl) ?_
                                              refine lv_iconst (v := (nI 4)) S.1 S.2.1 dX8_init_137 (by decide) ?_
                                              refine lv_icmp_ne (tgt := 146) S.1 S.2.1 dX8_init_138 rfl (fun h23 => ?_) (fun h23 => ?_)
                                              · skip
                                                refine lv_bipush (v := (nI 98)) S.1 S.2.1 dX8_init_146 (by decide) ?_
                                                refine x_iast S hE hS (Nat.le_add_right a 1) (hn1) 16 rfl (by decide) (by decide) dX8_init_148 (fun H locs hX hO1 hS => ?_)
                                                have ho := va_at.kept ho (hO1.2 (a) (k_ne0a (by decide)))
                                                have hn2 := va_at.kept hn2 (hO1.2 ((a + 2)) (k_ne (by decide)))
                                                have hn3 := va_at.kept hn3 (hO1.2 ((a + 3)) (k_ne (by decide)))
                                                have hn4 := va_at.kept hn4 (hO1.2 ((a + 4)) (k_ne (by decide)))
                                                have hn5 := va_at.kept hn5 (hO1.2 ((a + 5)) (k_ne (by decide)))
                                                have hn6 := va_at.kept hn6 (hO1.2 ((a + 6)) (k_ne (by decide)))
                                                have hn7 := va_at.kept hn7 (hO1.2 ((a + 7)) (k_ne (by decide)))
                                                have hp : ∀ q : Nat, q < a → H[q]? = s.heap[q]? := fun q h => (hO1.2 q (kp_ne h)).trans (hp q h)
                                                have hG : H.size = a + 8 := hO1.1.trans hG
                                                have hn1 : XI E (a + 1) 1670 (upd (upd (upd (upd (upd (upd (upd (upd (upd (upd (fun _ => 0) 6 (nI 4)) 8 (nI 2500)) 9 (nI 7)) 10 (nI 115)) 11 (nI 43)) 12 (nI 97)) 13 (nI 43)) 14 (nI 116)) 15 (nI 43)) 16 (nI 98)) H := hX
                                                refine lv_iinc (k := 0) (v := (nI 7)) S.1 S.2.1 dX8_init_149 hl rfl (iincP 6 1) (by decide) rfl (fun ls hl => ?_)
                                                have hl : lv_has ls 2 [(1, .int (nI 7)), (0, .ref a)] := hl
                                                refine lv_goto (tgt := 91) S.1 S.2.1 dX8_init_152 rfl ?_
                                                refine lv_iload_n S.1 S.2.1 dX8_init_91 rfl (lv_at hl 0 rfl) ?_
                                                refine lv_bipush (v := (nI 7)) S.1 S.2.1 dX8_init_92 (by decide) ?_
                                                refine lv_icmp_ge (tgt := 155) S.1 S.2.1 dX8_init_94 rfl (fun h24 => ?_) (fun h24 => ?_)
                                                · skip
                                                  subst hQ
                                                  refine x_retC S hr hlk hS ?_ dX8_init_155
                                                  exact ⟨⟨_, ho, xi_ext hn1 (fun _ _ => rfl), xi_ext hn2 (fun _ _ => rfl), ⟨_, hn3⟩, hn4, ⟨_, hn5⟩, ⟨_, hn6⟩, _, hn7⟩, hG, hp⟩
                                                · exact absurd h24 (by decide)
                                              · exact absurd h23 (by decide)
                                            · exact absurd h22 (by decide)
                                          · exact absurd h21 (by decide)
                                        · exact absurd h20 (by decide)
                              · exact absurd h15 (by decide)
                            · exact absurd h14 (by decide)
                          · exact absurd h13 (by decide)
                · exact absurd h8 (by decide)
              · exact absurd h7 (by decide)
    · exact absurd h2 (by decide)
