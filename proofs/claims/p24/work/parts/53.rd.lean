/-! 53.rd: constructors of history, reader, mixer, box: walks, by program -/
abbrev rm_X2_init : Room := ({ frames := 6, cells := 73, slots := 6032, locals := 128 } : Room)
set_option maxRecDepth 100000 in
set_option maxHeartbeats 1000000 in
theorem c_X2_init (l : Launch) (E : XE) (a : Nat) (H : Heap) (hQt : E.2.2.1[0]? = some (E.2.1 2, .object "ChoirBox$Choir")) (hz : H.size = a + 1) (ho : XO E a 2 [.null, .int (nI 0)] H) : Cn l E yX2_init cX2_init 2 rm_X2_init [.ref a] H a (fun H1 => HisP E a (fun _ => χ0) 0 H1 ∧ Gr H H1 a 74) 73 6032 := by
  refine met_ofC (by decide) (Nat.le_of_ble_eq_true rfl) (fun p e s m args below meth c hBD Q hQ ls hl => ?_)
  obtain ⟨S, hr, hlk, hnm, hEA, hH⟩ := hBD
  subst hH
  have hE := hEA.1
  have hl : lv_has ls 2 [(0, .ref a)] := hl
  have hS : va_S (fun q => a ≤ q) s.heap s.heap [] := va_S.rf
  have hG : s.heap.size = a + 1 := hz
  have hp : ∀ q : Nat, q < a → s.heap[q]? = s.heap[q]? := fun _ _ => rfl
  have hQK : ∃ C, ArrOfT s (E.2.1 2) (.object C) := ⟨_, (hE.1.1.2 2 _ hQt).1⟩
  refine lv_aload_n S.1 S.2.1 dX2_init_0 rfl (lv_at hl 0 rfl) ?_
  refine x_init0 S kw6_14 kw1_10 kw1_11 hl.1 dX2_init_1 (Nat.le_of_ble_eq_true rfl) (Nat.le_of_ble_eq_true rfl) ?_
  refine lv_aload_n S.1 S.2.1 dX2_init_4 rfl (lv_at hl 0 rfl) ?_
  refine lv_iconst (v := (nI 4)) S.1 S.2.1 dX2_init_5 (by decide) ?_
  refine x_newQ (D := RX0) S hE hEA.2 hQt hS kw6_15 (k := 4) rfl (by decide) (Nat.le_of_ble_eq_true rfl) (Nat.le_of_ble_eq_true rfl) dX2_init_6 hG (fun H hX hz1 hK hS => ?_)
  have ho := va_at.kept ho (hK (a) (k_lt0 (by decide)))
  have hp : ∀ q : Nat, q < a → H[q]? = s.heap[q]? := fun q h => (hK q (kp_lt h)).trans (hp q h)
  have hG : H.size = a + 2 := hz1
  have hn1 : XQ E (a + 1) 4 (fun _ => none) H := hX
  refine W.widen (k := 1) (n := 4) (Nat.le_of_ble_eq_true rfl) (Nat.le_of_ble_eq_true rfl) ?_
  refine x_putF S hE hS (show a ≤ a from Nat.le_refl _) (ho) (C := RX2) (T := TX2) (N := 2) rfl inlX2 tyX2 tyX2_ok nmX2 0 (by decide) (Nat.le_of_ble_eq_true rfl) kw6_16 rfl rfl hnm rfl (v := .ref (a + 1)) rfl rfl dX2_init_9 (fun H locs hX hO1 hS => ?_)
  have hn1 := va_at.kept hn1 (hO1.2 ((a + 1)) (k_ne0b (by decide)))
  have hp : ∀ q : Nat, q < a → H[q]? = s.heap[q]? := fun q h => (hO1.2 q (kp_ne0 h)).trans (hp q h)
  have hG : H.size = a + 2 := hO1.1.trans hG
  have ho : XO E a 2 [.ref (a + 1), .int (nI 0)] H := hX
  refine lv_iconst (v := (nI 0)) S.1 S.2.1 dX2_init_12 (by decide) ?_
  refine lv_istore_n S.1 S.2.1 dX2_init_13 rfl hl (by decide) rfl (fun ls hl => ?_)
  have hl : lv_has ls 2 [(1, .int (nI 0)), (0, .ref a)] := hl
  refine lv_iload_n S.1 S.2.1 dX2_init_14 rfl (lv_at hl 0 rfl) ?_
  refine lv_aload_n S.1 S.2.1 dX2_init_15 rfl (lv_at hl 1 rfl) ?_
  refine x_get S hE (ho) (C := RX2) (T := TX2) (N := 2) rfl inlX2 0 (by decide) (v := .ref (a + 1)) rfl kw6_16 rfl dX2_init_16 ?_
  refine x_alenQ S hQK (hn1) (by decide) dX2_init_19 ?_
  refine lv_icmp_ge (tgt := 42) S.1 S.2.1 dX2_init_20 rfl (fun h1 => ?_) (fun h1 => ?_)
  · exact absurd h1 (by decide)
  · skip
    refine lv_aload_n S.1 S.2.1 dX2_init_23 rfl (lv_at hl 1 rfl) ?_
    refine x_get S hE (ho) (C := RX2) (T := TX2) (N := 2) rfl inlX2 0 (by decide) (v := .ref (a + 1)) rfl kw6_16 rfl dX2_init_24 ?_
    refine lv_iload_n S.1 S.2.1 dX2_init_27 rfl (lv_at hl 0 rfl) ?_
    refine x_newO S hE hS (ci := 0) (C := RX0) (T := TX0) (N := 10) (fs := [.null, .null, .null, .null, .null, .null, .int (nI 0), .int (nI 0), .int (nI 0), .int (nI 0)]) rfl inlX0 tyX0 tyX0_ok kw6_15 kw1_13 kw1_14 (fun j hj => by rcases (show j = 0 ∨ j = 1 ∨ j = 2 ∨ j = 3 ∨ j = 4 ∨ j = 5 ∨ j = 6 ∨ j = 7 ∨ j = 8 ∨ j = 9 by omega) with rfl | rfl | rfl | rfl | rfl | rfl | rfl | rfl | rfl | rfl <;> rfl) (Nat.le_of_ble_eq_true rfl) (Nat.le_of_ble_eq_true rfl) dX2_init_28 hG (fun H hX hz1 hK hS => ?_)
    have ho := va_at.kept ho (hK (a) (k_lt0 (by decide)))
    have hn1 := va_at.kept hn1 (hK ((a + 1)) (k_lt (by decide)))
    have hp : ∀ q : Nat, q < a → H[q]? = s.heap[q]? := fun q h => (hK q (kp_lt h)).trans (hp q h)
    have hG : H.size = a + 3 := hz1
    have hn2 : XO E (a + 2) 0 [.null, .null, .null, .null, .null, .null, .int (nI 0), .int (nI 0), .int (nI 0), .int (nI 0)] H := hX
    refine W.widen (k := 2) (n := 14) (Nat.le_of_ble_eq_true rfl) (Nat.le_of_ble_eq_true rfl) ?_
    refine lv_dup S.1 S.2.1 dX2_init_31 rfl ?_
    refine xk_C (x_runIN (As := []) (rest := [.ref (a + 2), .int (nI 0), .ref (a + 1)]) S hEA hS (fun q h => Nat.le_trans (Nat.le_add_right a 2) h) (c_X0_init l E (a + 2) _ hG hn2) kv_X0_init nw40 kw2_10 rfl ⟨(Nat.le_of_ble_eq_true rfl), (Nat.le_of_ble_eq_true rfl)⟩ rfl rfl rfl hl.1 rfl (Nat.le_of_ble_eq_true rfl) dX2_init_32 ⟨(Nat.le_of_ble_eq_true rfl), (Nat.le_of_ble_eq_true rfl)⟩) hS (fun q h => Nat.le_trans (Nat.le_add_right a 2) h) (fun H locs hX hS => ?_)
    obtain ⟨hX, hz1, hK⟩ := hX
    have ho := va_at.kept ho (hK (a) (k_lt0 (by decide)))
    have hn1 := va_at.kept hn1 (hK ((a + 1)) (k_lt (by decide)))
    have hp : ∀ q : Nat, q < a → H[q]? = s.heap[q]? := fun q h => (hK q (kp_lt h)).trans (hp q h)
    have hG : H.size = a + 20 := hz1
    have hp2 : ChoP E (a + 2) χ0 H := hX
    refine W.widen (k := 19) (n := 1511) (Nat.le_of_ble_eq_true rfl) (Nat.le_of_ble_eq_true rfl) ?_
    refine x_astq S hE hS (Nat.le_add_right a 1) hQt (hn1) (hp2.1) (ci := 0) rfl 0 rfl (by decide) (by decide) dX2_init_35 (fun H locs hX hO1 hS => ?_)
    have ho := va_at.kept ho (hO1.2 (a) (k_ne0a (by decide)))
    have hp2 := hp2.fr (fun q z => hO1.2 q (kb_ne (by decide) z))
    have hp : ∀ q : Nat, q < a → H[q]? = s.heap[q]? := fun q h => (hO1.2 q (kp_ne h)).trans (hp q h)
    have hG : H.size = a + 20 := hO1.1.trans hG
    have hn1 : XQ E (a + 1) 4 (va_up (fun _ => none) 0 (some (a + 2))) H := hX
    refine lv_iinc (k := 0) (v := (nI 1)) S.1 S.2.1 dX2_init_36 hl rfl (iincP 0 1) (by decide) rfl (fun ls hl => ?_)
    have hl : lv_has ls 2 [(1, .int (nI 1)), (0, .ref a)] := hl
    refine lv_goto (tgt := 14) S.1 S.2.1 dX2_init_39 rfl ?_
    refine lv_iload_n S.1 S.2.1 dX2_init_14 rfl (lv_at hl 0 rfl) ?_
    refine lv_aload_n S.1 S.2.1 dX2_init_15 rfl (lv_at hl 1 rfl) ?_
    refine x_get S hE (ho) (C := RX2) (T := TX2) (N := 2) rfl inlX2 0 (by decide) (v := .ref (a + 1)) rfl kw6_16 rfl dX2_init_16 ?_
    refine x_alenQ S hQK (hn1) (by decide) dX2_init_19 ?_
    refine lv_icmp_ge (tgt := 42) S.1 S.2.1 dX2_init_20 rfl (fun h2 => ?_) (fun h2 => ?_)
    · exact absurd h2 (by decide)
    · skip
      refine lv_aload_n S.1 S.2.1 dX2_init_23 rfl (lv_at hl 1 rfl) ?_
      refine x_get S hE (ho) (C := RX2) (T := TX2) (N := 2) rfl inlX2 0 (by decide) (v := .ref (a + 1)) rfl kw6_16 rfl dX2_init_24 ?_
      refine lv_iload_n S.1 S.2.1 dX2_init_27 rfl (lv_at hl 0 rfl) ?_
      refine x_newO S hE hS (ci := 0) (C := RX0) (T := TX0) (N := 10) (fs := [.null, .null, .null, .null, .null, .null, .int (nI 0), .int (nI 0), .int (nI 0), .int (nI 0)]) rfl inlX0 tyX0 tyX0_ok kw6_15 kw1_13 kw1_14 (fun j hj => by rcases (show j = 0 ∨ j = 1 ∨ j = 2 ∨ j = 3 ∨ j = 4 ∨ j = 5 ∨ j = 6 ∨ j = 7 ∨ j = 8 ∨ j = 9 by omega) with rfl | rfl | rfl | rfl | rfl | rfl | rfl | rfl | rfl | rfl <;> rfl) (Nat.le_of_ble_eq_true rfl) (Nat.le_of_ble_eq_true rfl) dX2_init_28 hG (fun H hX hz1 hK hS => ?_)
      have ho := va_at.kept ho (hK (a) (k_lt0 (by decide)))
      have hn1 := va_at.kept hn1 (hK ((a + 1)) (k_lt (by decide)))
      have hp2 := hp2.fr (fun q z => hK q (kb_lt (by decide) z))
      have hp : ∀ q : Nat, q < a → H[q]? = s.heap[q]? := fun q h => (hK q (kp_lt h)).trans (hp q h)
      have hG : H.size = a + 21 := hz1
      have hn20 : XO E (a + 20) 0 [.null, .null, .null, .null, .null, .null, .int (nI 0), .int (nI 0), .int (nI 0), .int (nI 0)] H := hX
      refine W.widen (k := 20) (n := 1521) (Nat.le_of_ble_eq_true rfl) (Nat.le_of_ble_eq_true rfl) ?_
      refine lv_dup S.1 S.2.1 dX2_init_31 rfl ?_
      refine xk_C (x_runIN (As := []) (rest := [.ref (a + 20), .int (nI 1), .ref (a + 1)]) S hEA hS (fun q h => Nat.le_trans (Nat.le_add_right a 20) h) (c_X0_init l E (a + 20) _ hG hn20) kv_X0_init nw40 kw2_10 rfl ⟨(Nat.le_of_ble_eq_true rfl), (Nat.le_of_ble_eq_true rfl)⟩ rfl rfl rfl hl.1 rfl (Nat.le_of_ble_eq_true rfl) dX2_init_32 ⟨(Nat.le_of_ble_eq_true rfl), (Nat.le_of_ble_eq_true rfl)⟩) hS (fun q h => Nat.le_trans (Nat.le_add_right a 20) h) (fun H locs hX hS => ?_)
      obtain ⟨hX, hz1, hK⟩ := hX
      have ho := va_at.kept ho (hK (a) (k_lt0 (by decide)))
      have hn1 := va_at.kept hn1 (hK ((a + 1)) (k_lt (by decide)))
      have hp2 := hp2.fr (fun q z => hK q (kb_lt (by decide) z))
      have hp : ∀ q : Nat, q < a → H[q]? = s.heap[q]? := fun q h => (hK q (kp_lt h)).trans (hp q h)
      have hG : H.size = a + 38 := hz1
      have hp20 : ChoP E (a + 20) χ0 H := hX
      refine W.widen (k := 37) (n := 3018) (Nat.le_of_ble_eq_true rfl) (Nat.le_of_ble_eq_true rfl) ?_
      refine x_astq S hE hS (Nat.le_add_right a 1) hQt (hn1) (hp20.1) (ci := 0) rfl 1 rfl (by decide) (by decide) dX2_init_35 (fun H locs hX hO1 hS => ?_)
      have ho := va_at.kept ho (hO1.2 (a) (k_ne0a (by decide)))
      have hp2 := hp2.fr (fun q z => hO1.2 q (kb_ne (by decide) z))
      have hp20 := hp20.fr (fun q z => hO1.2 q (kb_ne (by decide) z))
      have hp : ∀ q : Nat, q < a → H[q]? = s.heap[q]? := fun q h => (hO1.2 q (kp_ne h)).trans (hp q h)
      have hG : H.size = a + 38 := hO1.1.trans hG
      have hn1 : XQ E (a + 1) 4 (va_up (va_up (fun _ => none) 0 (some (a + 2))) 1 (some (a + 20))) H := hX
      refine lv_iinc (k := 0) (v := (nI 2)) S.1 S.2.1 dX2_init_36 hl rfl (iincP 1 1) (by decide) rfl (fun ls hl => ?_)
      have hl : lv_has ls 2 [(1, .int (nI 2)), (0, .ref a)] := hl
      refine lv_goto (tgt := 14) S.1 S.2.1 dX2_init_39 rfl ?_
      refine lv_iload_n S.1 S.2.1 dX2_init_14 rfl (lv_at hl 0 rfl) ?_
      refine lv_aload_n S.1 S.2.1 dX2_init_15 rfl (lv_at hl 1 rfl) ?_
      refine x_get S hE (ho) (C := RX2) (T := TX2) (N := 2) rfl inlX2 0 (by decide) (v := .ref (a + 1)) rfl kw6_16 rfl dX2_init_16 ?_
      refine x_alenQ S hQK (hn1) (by decide) dX2_init_19 ?_
      refine lv_icmp_ge (tgt := 42) S.1 S.2.1 dX2_init_20 rfl (fun h3 => ?_) (fun h3 => ?_)
      · exact absurd h3 (by decide)
      · skip
        refine lv_aload_n S.1 S.2.1 dX2_init_23 rfl (lv_at hl 1 rfl) ?_
        refine x_get S hE (ho) (C := RX2) (T := TX2) (N := 2) rfl inlX2 0 (by decide) (v := .ref (a + 1)) rfl kw6_16 rfl dX2_init_24 ?_
        refine lv_iload_n S.1 S.2.1 dX2_init_27 rfl (lv_at hl 0 rfl) ?_
        refine x_newO S hE hS (ci := 0) (C := RX0) (T := TX0) (N := 10) (fs := [.null, .null, .null, .null, .null, .null, .int (nI 0), .int (nI 0), .int (nI 0), .int (nI 0)]) rfl inlX0 tyX0 tyX0_ok kw6_15 kw1_13 kw1_14 (fun j hj => by rcases (show j = 0 ∨ j = 1 ∨ j = 2 ∨ j = 3 ∨ j = 4 ∨ j = 5 ∨ j = 6 ∨ j = 7 ∨ j = 8 ∨ j = 9 by omega) with rfl | rfl | rfl | rfl | rfl | rfl | rfl | rfl | rfl | rfl <;> rfl) (Nat.le_of_ble_eq_true rfl) (Nat.le_of_ble_eq_true rfl) dX2_init_28 hG (fun H hX hz1 hK hS => ?_)
        have ho := va_at.kept ho (hK (a) (k_lt0 (by decide)))
        have hn1 := va_at.kept hn1 (hK ((a + 1)) (k_lt (by decide)))
        have hp2 := hp2.fr (fun q z => hK q (kb_lt (by decide) z))
        have hp20 := hp20.fr (fun q z => hK q (kb_lt (by decide) z))
        have hp : ∀ q : Nat, q < a → H[q]? = s.heap[q]? := fun q h => (hK q (kp_lt h)).trans (hp q h)
        have hG : H.size = a + 39 := hz1
        have hn38 : XO E (a + 38) 0 [.null, .null, .null, .null, .null, .null, .int (nI 0), .int (nI 0), .int (nI 0), .int (nI 0)] H := hX
        refine W.widen (k := 38) (n := 3028) (Nat.le_of_ble_eq_true rfl) (Nat.le_of_ble_eq_true rfl) ?_
        refine lv_dup S.1 S.2.1 dX2_init_31 rfl ?_
        refine xk_C (x_runIN (As := []) (rest := [.ref (a + 38), .int (nI 2), .ref (a + 1)]) S hEA hS (fun q h => Nat.le_trans (Nat.le_add_right a 38) h) (c_X0_init l E (a + 38) _ hG hn38) kv_X0_init nw40 kw2_10 rfl ⟨(Nat.le_of_ble_eq_true rfl), (Nat.le_of_ble_eq_true rfl)⟩ rfl rfl rfl hl.1 rfl (Nat.le_of_ble_eq_true rfl) dX2_init_32 ⟨(Nat.le_of_ble_eq_true rfl), (Nat.le_of_ble_eq_true rfl)⟩) hS (fun q h => Nat.le_trans (Nat.le_add_right a 38) h) (fun H locs hX hS => ?_)
        obtain ⟨hX, hz1, hK⟩ := hX
        have ho := va_at.kept ho (hK (a) (k_lt0 (by decide)))
        have hn1 := va_at.kept hn1 (hK ((a + 1)) (k_lt (by decide)))
        have hp2 := hp2.fr (fun q z => hK q (kb_lt (by decide) z))
        have hp20 := hp20.fr (fun q z => hK q (kb_lt (by decide) z))
        have hp : ∀ q : Nat, q < a → H[q]? = s.heap[q]? := fun q h => (hK q (kp_lt h)).trans (hp q h)
        have hG : H.size = a + 56 := hz1
        have hp38 : ChoP E (a + 38) χ0 H := hX
        refine W.widen (k := 55) (n := 4525) (Nat.le_of_ble_eq_true rfl) (Nat.le_of_ble_eq_true rfl) ?_
        refine x_astq S hE hS (Nat.le_add_right a 1) hQt (hn1) (hp38.1) (ci := 0) rfl 2 rfl (by decide) (by decide) dX2_init_35 (fun H locs hX hO1 hS => ?_)
        have ho := va_at.kept ho (hO1.2 (a) (k_ne0a (by decide)))
        have hp2 := hp2.fr (fun q z => hO1.2 q (kb_ne (by decide) z))
        have hp20 := hp20.fr (fun q z => hO1.2 q (kb_ne (by decide) z))
        have hp38 := hp38.fr (fun q z => hO1.2 q (kb_ne (by decide) z))
        have hp : ∀ q : Nat, q < a → H[q]? = s.heap[q]? := fun q h => (hO1.2 q (kp_ne h)).trans (hp q h)
        have hG : H.size = a + 56 := hO1.1.trans hG
        have hn1 : XQ E (a + 1) 4 (va_up (va_up (va_up (fun _ => none) 0 (some (a + 2))) 1 (some (a + 20))) 2 (some (a + 38))) H := hX
        refine lv_iinc (k := 0) (v := (nI 3)) S.1 S.2.1 dX2_init_36 hl rfl (iincP 2 1) (by decide) rfl (fun ls hl => ?_)
        have hl : lv_has ls 2 [(1, .int (nI 3)), (0, .ref a)] := hl
        refine lv_goto (tgt := 14) S.1 S.2.1 dX2_init_39 rfl ?_
        refine lv_iload_n S.1 S.2.1 dX2_init_14 rfl (lv_at hl 0 rfl) ?_
        refine lv_aload_n S.1 S.2.1 dX2_init_15 rfl (lv_at hl 1 rfl) ?_
        refine x_get S hE (ho) (C := RX2) (T := TX2) (N := 2) rfl inlX2 0 (by decide) (v := .ref (a + 1)) rfl kw6_16 rfl dX2_init_16 ?_
        refine x_alenQ S hQK (hn1) (by decide) dX2_init_19 ?_
        refine lv_icmp_ge (tgt := 42) S.1 S.2.1 dX2_init_20 rfl (fun h4 => ?_) (fun h4 => ?_)
        · exact absurd h4 (by decide)
        · skip
          refine lv_aload_n S.1 S.2.1 dX2_init_23 rfl (lv_at hl 1 rfl) ?_
          refine x_get S hE (ho) (C := RX2) (T := TX2) (N := 2) rfl inlX2 0 (by decide) (v := .ref (a + 1)) rfl kw6_16 rfl dX2_init_24 ?_
          refine lv_iload_n S.1 S.2.1 dX2_init_27 rfl (lv_at hl 0 rfl) ?_
          refine x_newO S hE hS (ci := 0) (C := RX0) (T := TX0) (N := 10) (fs := [.null, .null, .null, .null, .null, .null, .int (nI 0), .int (nI 0), .int (nI 0), .int (nI 0)]) rfl inlX0 tyX0 tyX0_ok kw6_15 kw1_13 kw1_14 (fun j hj => by rcases (show j = 0 ∨ j = 1 ∨ j = 2 ∨ j = 3 ∨ j = 4 ∨ j = 5 ∨ j = 6 ∨ j = 7 ∨ j = 8 ∨ j = 9 by omega) with rfl | rfl | rfl | rfl | rfl | rfl | rfl | rfl | rfl | rfl <;> rfl) (Nat.le_of_ble_eq_true rfl) (Nat.le_of_ble_eq_true rfl) dX2_init_28 hG (fun H hX hz1 hK hS => ?_)
          have ho := va_at.kept ho (hK (a) (k_lt0 (by decide)))
          have hn1 := va_at.kept hn1 (hK ((a + 1)) (k_lt (by decide)))
          have hp2 := hp2.fr (fun q z => hK q (kb_lt (by decide) z))
          have hp20 := hp20.fr (fun q z => hK q (kb_lt (by decide) z))
          have hp38 := hp38.fr (fun q z => hK q (kb_lt (by decide) z))
          have hp : ∀ q : Nat, q < a → H[q]? = s.heap[q]? := fun q h => (hK q (kp_lt h)).trans (hp q h)
          have hG : H.size = a + 57 := hz1
          have hn56 : XO E (a + 56) 0 [.null, .null, .null, .null, .null, .null, .int (nI 0), .int (nI 0), .int (nI 0), .int (nI 0)] H := hX
          refine W.widen (k := 56) (n := 4535) (Nat.le_of_ble_eq_true rfl) (Nat.le_of_ble_eq_true rfl) ?_
          refine lv_dup S.1 S.2.1 dX2_init_31 rfl ?_
          refine xk_C (x_runIN (As := []) (rest := [.ref (a + 56), .int (nI 3), .ref (a + 1)]) S hEA hS (fun q h => Nat.le_trans (Nat.le_add_right a 56) h) (c_X0_init l E (a + 56) _ hG hn56) kv_X0_init nw40 kw2_10 rfl ⟨(Nat.le_of_ble_eq_true rfl), (Nat.le_of_ble_eq_true rfl)⟩ rfl rfl rfl hl.1 rfl (Nat.le_of_ble_eq_true rfl) dX2_init_32 ⟨(Nat.le_of_ble_eq_true rfl), (Nat.le_of_ble_eq_true rfl)⟩) hS (fun q h => Nat.le_trans (Nat.le_add_right a 56) h) (fun H locs hX hS => ?_)
          obtain ⟨hX, hz1, hK⟩ := hX
          have ho := va_at.kept ho (hK (a) (k_lt0 (by decide)))
          have hn1 := va_at.kept hn1 (hK ((a + 1)) (k_lt (by decide)))
          have hp2 := hp2.fr (fun q z => hK q (kb_lt (by decide) z))
          have hp20 := hp20.fr (fun q z => hK q (kb_lt (by decide) z))
          have hp38 := hp38.fr (fun q z => hK q (kb_lt (by decide) z))
          have hp : ∀ q : Nat, q < a → H[q]? = s.heap[q]? := fun q h => (hK q (kp_lt h)).trans (hp q h)
          have hG : H.size = a + 74 := hz1
          have hp56 : ChoP E (a + 56) χ0 H := hX
          refine W.widen (k := 73) (n := 6032) (Nat.le_of_ble_eq_true rfl) (Nat.le_of_ble_eq_true rfl) ?_
          refine x_astq S hE hS (Nat.le_add_right a 1) hQt (hn1) (hp56.1) (ci := 0) rfl 3 rfl (by decide) (by decide) dX2_init_35 (fun H locs hX hO1 hS => ?_)
          have ho := va_at.kept ho (hO1.2 (a) (k_ne0a (by decide)))
          have hp2 := hp2.fr (fun q z => hO1.2 q (kb_ne (by decide) z))
          have hp20 := hp20.fr (fun q z => hO1.2 q (kb_ne (by decide) z))
          have hp38 := hp38.fr (fun q z => hO1.2 q (kb_ne (by decide) z))
          have hp56 := hp56.fr (fun q z => hO1.2 q (kb_ne (by decide) z))
          have hp : ∀ q : Nat, q < a → H[q]? = s.heap[q]? := fun q h => (hO1.2 q (kp_ne h)).trans (hp q h)
          have hG : H.size = a + 74 := hO1.1.trans hG
          have hn1 : XQ E (a + 1) 4 (va_up (va_up (va_up (va_up (fun _ => none) 0 (some (a + 2))) 1 (some (a + 20))) 2 (some (a + 38))) 3 (some (a + 56))) H := hX
          refine lv_iinc (k := 0) (v := (nI 4)) S.1 S.2.1 dX2_init_36 hl rfl (iincP 3 1) (by decide) rfl (fun ls hl => ?_)
          have hl : lv_has ls 2 [(1, .int (nI 4)), (0, .ref a)] := hl
          refine lv_goto (tgt := 14) S.1 S.2.1 dX2_init_39 rfl ?_
          refine lv_iload_n S.1 S.2.1 dX2_init_14 rfl (lv_at hl 0 rfl) ?_
          refine lv_aload_n S.1 S.2.1 dX2_init_15 rfl (lv_at hl 1 rfl) ?_
          refine x_get S hE (ho) (C := RX2) (T := TX2) (N := 2) rfl inlX2 0 (by decide) (v := .ref (a + 1)) rfl kw6_16 rfl dX2_init_16 ?_
          refine x_alenQ S hQK (hn1) (by decide) dX2_init_19 ?_
          refine lv_icmp_ge (tgt := 42) S.1 S.2.1 dX2_init_20 rfl (fun h5 => ?_) (fun h5 => ?_)
          · skip
            subst hQ
            refine x_retC S hr hlk hS ?_ dX2_init_42
            exact ⟨⟨hQt, ho, Nat.zero_le _, fun i => i, _, hn1, fun i hi => by rcases (show i = 0 ∨ i = 1 ∨ i = 2 ∨ i = 3 by omega) with rfl | rfl | rfl | rfl; exact ⟨by omega, rfl, hp2⟩; exact ⟨by omega, rfl, hp20⟩; exact ⟨by omega, rfl, hp38⟩; exact ⟨by omega, rfl, hp56⟩, fun i j _ _ h => h⟩, hG, hp⟩
          · exact absurd h5 (by decide)
abbrev rm_X6_init : Room := ({ frames := 1, cells := 0, slots := 0, locals := 12 } : Room)
set_option maxRecDepth 100000 in
set_option maxHeartbeats 1000000 in
theorem c_X6_init (l : Launch) (E : XE) (a : Nat) (H : Heap) (hz : H.size = a + 1) (ho : XO E a 6 [.int (nI 0), .int (nI 0), .int (nI 0), .int (nI 0)] H) : Cn l E yX6_init cX6_init 1 rm_X6_init [.ref a] H a (fun H1 => RdP E a (nI 0) (nI 0) (nI 0) (nI 0) H1 ∧ Gr H H1 a 1) 0 0 := by
  refine met_ofC (by decide) (Nat.le_of_ble_eq_true rfl) (fun p e s m args below meth c hBD Q hQ ls hl => ?_)
  obtain ⟨S, hr, hlk, hnm, hEA, hH⟩ := hBD
  subst hH
  have hE := hEA.1
  have hl : lv_has ls 1 [(0, .ref a)] := hl
  have hS : va_S (fun q => a ≤ q) s.heap s.heap [] := va_S.rf
  have hG : s.heap.size = a + 1 := hz
  have hp : ∀ q : Nat, q < a → s.heap[q]? = s.heap[q]? := fun _ _ => rfl
  refine lv_aload_n S.1 S.2.1 dX6_init_0 rfl (lv_at hl 0 rfl) ?_
  refine x_init0 S kw6_19 kw1_10 kw1_11 hl.1 dX6_init_1 (Nat.le_of_ble_eq_true rfl) (Nat.le_of_ble_eq_true rfl) ?_
  subst hQ
  refine x_retC S hr hlk hS ?_ dX6_init_4
  exact ⟨ho, hG, hp⟩
abbrev rm_X4_init : Room := ({ frames := 1, cells := 2, slots := 14, locals := 12 } : Room)
set_option maxRecDepth 100000 in
set_option maxHeartbeats 1000000 in
theorem c_X4_init (l : Launch) (E : XE) (a : Nat) (H : Heap) (hz : H.size = a + 1) (ho : XO E a 4 [.null, .null, .int (nI 0)] H) : Cn l E yX4_init cX4_init 1 rm_X4_init [.ref a] H a (fun H1 => MixP E a ((fun _ => 0), (fun _ => 0), (nI 0)) H1 ∧ Gr H H1 a 3) 2 14 := by
  refine met_ofC (by decide) (Nat.le_of_ble_eq_true rfl) (fun p e s m args below meth c hBD Q hQ ls hl => ?_)
  obtain ⟨S, hr, hlk, hnm, hEA, hH⟩ := hBD
  subst hH
  have hE := hEA.1
  have hl : lv_has ls 1 [(0, .ref a)] := hl
  have hS : va_S (fun q => a ≤ q) s.heap s.heap [] := va_S.rf
  have hG : s.heap.size = a + 1 := hz
  have hp : ∀ q : Nat, q < a → s.heap[q]? = s.heap[q]? := fun _ _ => rfl
  refine lv_aload_n S.1 S.2.1 dX4_init_0 rfl (lv_at hl 0 rfl) ?_
  refine x_init0 S kw6_22 kw1_10 kw1_11 hl.1 dX4_init_1 (Nat.le_of_ble_eq_true rfl) (Nat.le_of_ble_eq_true rfl) ?_
  refine lv_aload_n S.1 S.2.1 dX4_init_4 rfl (lv_at hl 0 rfl) ?_
  refine lv_bipush (v := (nI 7)) S.1 S.2.1 dX4_init_5 (by decide) ?_
  refine x_newI S hE hS kw1_3 (k := 7) rfl (by decide) (Nat.le_of_ble_eq_true rfl) (Nat.le_of_ble_eq_true rfl) dX4_init_7 hG (fun H hX hz1 hK hS => ?_)
  have ho := va_at.kept ho (hK (a) (k_lt0 (by decide)))
  have hp : ∀ q : Nat, q < a → H[q]? = s.heap[q]? := fun q h => (hK q (kp_lt h)).trans (hp q h)
  have hG : H.size = a + 2 := hz1
  have hn1 : XI E (a + 1) 7 (fun _ => 0) H := hX
  refine W.widen (k := 1) (n := 7) (Nat.le_of_ble_eq_true rfl) (Nat.le_of_ble_eq_true rfl) ?_
  refine x_putF S hE hS (show a ≤ a from Nat.le_refl _) (ho) (C := RX4) (T := TX4) (N := 3) rfl inlX4 tyX4 tyX4_ok nmX4 0 (by decide) (Nat.le_of_ble_eq_true rfl) kw6_23 rfl rfl hnm rfl (v := .ref (a + 1)) rfl rfl dX4_init_9 (fun H locs hX hO1 hS => ?_)
  have hn1 := va_at.kept hn1 (hO1.2 ((a + 1)) (k_ne0b (by decide)))
  have hp : ∀ q : Nat, q < a → H[q]? = s.heap[q]? := fun q h => (hO1.2 q (kp_ne0 h)).trans (hp q h)
  have hG : H.size = a + 2 := hO1.1.trans hG
  have ho : XO E a 4 [.ref (a + 1), .null, .int (nI 0)] H := hX
  refine lv_aload_n S.1 S.2.1 dX4_init_12 rfl (lv_at hl 0 rfl) ?_
  refine lv_bipush (v := (nI 7)) S.1 S.2.1 dX4_init_13 (by decide) ?_
  refine x_newI S hE hS kw1_3 (k := 7) rfl (by decide) (Nat.le_of_ble_eq_true rfl) (Nat.le_of_ble_eq_true rfl) dX4_init_15 hG (fun H hX hz1 hK hS => ?_)
  have ho := va_at.kept ho (hK (a) (k_lt0 (by decide)))
  have hn1 := va_at.kept hn1 (hK ((a + 1)) (k_lt (by decide)))
  have hp : ∀ q : Nat, q < a → H[q]? = s.heap[q]? := fun q h => (hK q (kp_lt h)).trans (hp q h)
  have hG : H.size = a + 3 := hz1
  have hn2 : XI E (a + 2) 7 (fun _ => 0) H := hX
  refine W.widen (k := 2) (n := 14) (Nat.le_of_ble_eq_true rfl) (Nat.le_of_ble_eq_true rfl) ?_
  refine x_putF S hE hS (show a ≤ a from Nat.le_refl _) (ho) (C := RX4) (T := TX4) (N := 3) rfl inlX4 tyX4 tyX4_ok nmX4 1 (by decide) (Nat.le_of_ble_eq_true rfl) kw7_0 rfl rfl hnm rfl (v := .ref (a + 2)) rfl rfl dX4_init_17 (fun H locs hX hO1 hS => ?_)
  have hn1 := va_at.kept hn1 (hO1.2 ((a + 1)) (k_ne0b (by decide)))
  have hn2 := va_at.kept hn2 (hO1.2 ((a + 2)) (k_ne0b (by decide)))
  have hp : ∀ q : Nat, q < a → H[q]? = s.heap[q]? := fun q h => (hO1.2 q (kp_ne0 h)).trans (hp q h)
  have hG : H.size = a + 3 := hO1.1.trans hG
  have ho : XO E a 4 [.ref (a + 1), .ref (a + 2), .int (nI 0)] H := hX
  subst hQ
  refine x_retC S hr hlk hS ?_ dX4_init_20
  exact ⟨⟨ho, hn1, hn2⟩, hG, hp⟩
abbrev rm_X7_init : Room := ({ frames := 7, cells := 117, slots := 9135, locals := 149 } : Room)
set_option maxRecDepth 100000 in
set_option maxHeartbeats 1000000 in
theorem c_X7_init (l : Launch) (E : XE) (a : Nat) (H : Heap) (hQt : E.2.2.1[0]? = some (E.2.1 2, .object "ChoirBox$Choir")) (hz : H.size = a + 1) (ho : XO E a 7 [.null, .null, .null, .null, .null, .null, .null] H) : Cn l E yX7_init cX7_init 1 rm_X7_init [.ref a] H a (fun H1 => BoxP E a (χ0, (fun _ => χ0), 0, []) H1 ∧ Gr H H1 a 118) 117 9135 := by
  refine met_ofC (by decide) (Nat.le_of_ble_eq_true rfl) (fun p e s m args below meth c hBD Q hQ ls hl => ?_)
  obtain ⟨S, hr, hlk, hnm, hEA, hH⟩ := hBD
  subst hH
  have hE := hEA.1
  have hl : lv_has ls 1 [(0, .ref a)] := hl
  have hS : va_S (fun q => a ≤ q) s.heap s.heap [] := va_S.rf
  have hG : s.heap.size = a + 1 := hz
  have hp : ∀ q : Nat, q < a → s.heap[q]? = s.heap[q]? := fun _ _ => rfl
  refine lv_aload_n S.1 S.2.1 dX7_init_0 rfl (lv_at hl 0 rfl) ?_
  refine x_init0 S kw1_9 kw1_10 kw1_11 hl.1 dX7_init_1 (Nat.le_of_ble_eq_true rfl) (Nat.le_of_ble_eq_true rfl) ?_
  refine lv_aload_n S.1 S.2.1 dX7_init_4 rfl (lv_at hl 0 rfl) ?_
  refine x_newO S hE hS (ci := 0) (C := RX0) (T := TX0) (N := 10) (fs := [.null, .null, .null, .null, .null, .null, .int (nI 0), .int (nI 0), .int (nI 0), .int (nI 0)]) rfl inlX0 tyX0 tyX0_ok kw1_12 kw1_13 kw1_14 (fun j hj => by rcases (show j = 0 ∨ j = 1 ∨ j = 2 ∨ j = 3 ∨ j = 4 ∨ j = 5 ∨ j = 6 ∨ j = 7 ∨ j = 8 ∨ j = 9 by omega) with rfl | rfl | rfl | rfl | rfl | rfl | rfl | rfl | rfl | rfl <;> rfl) (Nat.le_of_ble_eq_true rfl) (Nat.le_of_ble_eq_true rfl) dX7_init_5 hG (fun H hX hz1 hK hS => ?_)
  have ho := va_at.kept ho (hK (a) (k_lt0 (by decide)))
  have hp : ∀ q : Nat, q < a → H[q]? = s.heap[q]? := fun q h => (hK q (kp_lt h)).trans (hp q h)
  have hG : H.size = a + 2 := hz1
  have hn1 : XO E (a + 1) 0 [.null, .null, .null, .null, .null, .null, .int (nI 0), .int (nI 0), .int (nI 0), .int (nI 0)] H := hX
  refine W.widen (k := 1) (n := 10) (Nat.le_of_ble_eq_true rfl) (Nat.le_of_ble_eq_true rfl) ?_
  refine lv_dup S.1 S.2.1 dX7_init_8 rfl ?_
  refine xk_C (x_runIN (As := []) (rest := [.ref (a + 1), .ref a]) S hEA hS (fun q h => Nat.le_trans (Nat.le_add_right a 1) h) (c_X0_init l E (a + 1) _ hG hn1) kv_X0_init nw34 kw2_10 rfl ⟨(Nat.le_of_ble_eq_true rfl), (Nat.le_of_ble_eq_true rfl)⟩ rfl rfl rfl hl.1 rfl (Nat.le_of_ble_eq_true rfl) dX7_init_9 ⟨(Nat.le_of_ble_eq_true rfl), (Nat.le_of_ble_eq_true rfl)⟩) hS (fun q h => Nat.le_trans (Nat.le_add_right a 1) h) (fun H locs hX hS => ?_)
  obtain ⟨hX, hz1, hK⟩ := hX
  have ho := va_at.kept ho (hK (a) (k_lt0 (by decide)))
  have hp : ∀ q : Nat, q < a → H[q]? = s.heap[q]? := fun q h => (hK q (kp_lt h)).trans (hp q h)
  have hG : H.size = a + 19 := hz1
  have hp1 : ChoP E (a + 1) χ0 H := hX
  refine W.widen (k := 18) (n := 1507) (Nat.le_of_ble_eq_true rfl) (Nat.le_of_ble_eq_true rfl) ?_
  refine x_putF S hE hS (show a ≤ a from Nat.le_refl _) (ho) (C := RX7) (T := TX7) (N := 7) rfl inlX7 tyX7 tyX7_ok nmX7 0 (by decide) (Nat.le_of_ble_eq_true rfl) kw1_15 rfl rfl hnm rfl (v := .ref (a + 1)) rfl rfl dX7_init_12 (fun H locs hX hO1 hS => ?_)
  have hp1 := hp1.fr (fun q z => hO1.2 q (kb_ne0 (by decide) z))
  have hp : ∀ q : Nat, q < a → H[q]? = s.heap[q]? := fun q h => (hO1.2 q (kp_ne0 h)).trans (hp q h)
  have hG : H.size = a + 19 := hO1.1.trans hG
  have ho : XO E a 7 [.ref (a + 1), .null, .null, .null, .null, .null, .null] H := hX
  refine lv_aload_n S.1 S.2.1 dX7_init_15 rfl (lv_at hl 0 rfl) ?_
  refine x_newO S hE hS (ci := 0) (C := RX0) (T := TX0) (N := 10) (fs := [.null, .null, .null, .null, .null, .null, .int (nI 0), .int (nI 0), .int (nI 0), .int (nI 0)]) rfl inlX0 tyX0 tyX0_ok kw1_12 kw1_13 kw1_14 (fun j hj => by rcases (show j = 0 ∨ j = 1 ∨ j = 2 ∨ j = 3 ∨ j = 4 ∨ j = 5 ∨ j = 6 ∨ j = 7 ∨ j = 8 ∨ j = 9 by omega) with rfl | rfl | rfl | rfl | rfl | rfl | rfl | rfl | rfl | rfl <;> rfl) (Nat.le_of_ble_eq_true rfl) (Nat.le_of_ble_eq_true rfl) dX7_init_16 hG (fun H hX hz1 hK hS => ?_)
  have ho := va_at.kept ho (hK (a) (k_lt0 (by decide)))
  have hp1 := hp1.fr (fun q z => hK q (kb_lt (by decide) z))
  have hp : ∀ q : Nat, q < a → H[q]? = s.heap[q]? := fun q h => (hK q (kp_lt h)).trans (hp q h)
  have hG : H.size = a + 20 := hz1
  have hn19 : XO E (a + 19) 0 [.null, .null, .null, .null, .null, .null, .int (nI 0), .int (nI 0), .int (nI 0), .int (nI 0)] H := hX
  refine W.widen (k := 19) (n := 1517) (Nat.le_of_ble_eq_true rfl) (Nat.le_of_ble_eq_true rfl) ?_
  refine lv_dup S.1 S.2.1 dX7_init_19 rfl ?_
  refine xk_C (x_runIN (As := []) (rest := [.ref (a + 19), .ref a]) S hEA hS (fun q h => Nat.le_trans (Nat.le_add_right a 19) h) (c_X0_init l E (a + 19) _ hG hn19) kv_X0_init nw34 kw2_10 rfl ⟨(Nat.le_of_ble_eq_true rfl), (Nat.le_of_ble_eq_true rfl)⟩ rfl rfl rfl hl.1 rfl (Nat.le_of_ble_eq_true rfl) dX7_init_20 ⟨(Nat.le_of_ble_eq_true rfl), (Nat.le_of_ble_eq_true rfl)⟩) hS (fun q h => Nat.le_trans (Nat.le_add_right a 19) h) (fun H locs hX hS => ?_)
  obtain ⟨hX, hz1, hK⟩ := hX
  have ho := va_at.kept ho (hK (a) (k_lt0 (by decide)))
  have hp1 := hp1.fr (fun q z => hK q (kb_lt (by decide) z))
  have hp : ∀ q : Nat, q < a → H[q]? = s.heap[q]? := fun q h => (hK q (kp_lt h)).trans (hp q h)
  have hG : H.size = a + 37 := hz1
  have hp19 : ChoP E (a + 19) χ0 H := hX
  refine W.widen (k := 36) (n := 3014) (Nat.le_of_ble_eq_true rfl) (Nat.le_of_ble_eq_true rfl) ?_
  refine x_putF S hE hS (show a ≤ a from Nat.le_refl _) (ho) (C := RX7) (T := TX7) (N := 7) rfl inlX7 tyX7 tyX7_ok nmX7 1 (by decide) (Nat.le_of_ble_eq_true rfl) kw1_16 rfl rfl hnm rfl (v := .ref (a + 19)) rfl rfl dX7_init_23 (fun H locs hX hO1 hS => ?_)
  have hp1 := hp1.fr (fun q z => hO1.2 q (kb_ne0 (by decide) z))
  have hp19 := hp19.fr (fun q z => hO1.2 q (kb_ne0 (by decide) z))
  have hp : ∀ q : Nat, q < a → H[q]? = s.heap[q]? := fun q h => (hO1.2 q (kp_ne0 h)).trans (hp q h)
  have hG : H.size = a + 37 := hO1.1.trans hG
  have ho : XO E a 7 [.ref (a + 1), .ref (a + 19), .null, .null, .null, .null, .null] H := hX
  refine lv_aload_n S.1 S.2.1 dX7_init_26 rfl (lv_at hl 0 rfl) ?_
  refine x_newO S hE hS (ci := 2) (C := RX2) (T := TX2) (N := 2) (fs := [.null, .int (nI 0)]) rfl inlX2 tyX2 tyX2_ok kw1_17 kw1_18 kw1_19 (fun j hj => by rcases (show j = 0 ∨ j = 1 by omega) with rfl | rfl <;> rfl) (Nat.le_of_ble_eq_true rfl) (Nat.le_of_ble_eq_true rfl) dX7_init_27 hG (fun H hX hz1 hK hS => ?_)
  have ho := va_at.kept ho (hK (a) (k_lt0 (by decide)))
  have hp1 := hp1.fr (fun q z => hK q (kb_lt (by decide) z))
  have hp19 := hp19.fr (fun q z => hK q (kb_lt (by decide) z))
  have hp : ∀ q : Nat, q < a → H[q]? = s.heap[q]? := fun q h => (hK q (kp_lt h)).trans (hp q h)
  have hG : H.size = a + 38 := hz1
  have hn37 : XO E (a + 37) 2 [.null, .int (nI 0)] H := hX
  refine W.widen (k := 37) (n := 3016) (Nat.le_of_ble_eq_true rfl) (Nat.le_of_ble_eq_true rfl) ?_
  refine lv_dup S.1 S.2.1 dX7_init_30 rfl ?_
  refine xk_C (x_runIN (As := []) (rest := [.ref (a + 37), .ref a]) S hEA hS (fun q h => Nat.le_trans (Nat.le_add_right a 37) h) (c_X2_init l E (a + 37) _ hQt hG hn37) kv_X2_init nw39 kw6_12 rfl ⟨(Nat.le_of_ble_eq_true rfl), (Nat.le_of_ble_eq_true rfl)⟩ rfl rfl rfl hl.1 rfl (Nat.le_of_ble_eq_true rfl) dX7_init_31 ⟨(Nat.le_of_ble_eq_true rfl), (Nat.le_of_ble_eq_true rfl)⟩) hS (fun q h => Nat.le_trans (Nat.le_add_right a 37) h) (fun H locs hX hS => ?_)
  obtain ⟨hX, hz1, hK⟩ := hX
  have ho := va_at.kept ho (hK (a) (k_lt0 (by decide)))
  have hp1 := hp1.fr (fun q z => hK q (kb_lt (by decide) z))
  have hp19 := hp19.fr (fun q z => hK q (kb_lt (by decide) z))
  have hp : ∀ q : Nat, q < a → H[q]? = s.heap[q]? := fun q h => (hK q (kp_lt h)).trans (hp q h)
  have hG : H.size = a + 111 := hz1
  have hp37 : HisP E (a + 37) (fun _ => χ0) 0 H := hX
  refine W.widen (k := 110) (n := 9048) (Nat.le_of_ble_eq_true rfl) (Nat.le_of_ble_eq_true rfl) ?_
  refine x_putF S hE hS (show a ≤ a from Nat.le_refl _) (ho) (C := RX7) (T := TX7) (N := 7) rfl inlX7 tyX7 tyX7_ok nmX7 2 (by decide) (Nat.le_of_ble_eq_true rfl) kw1_20 rfl rfl hnm rfl (v := .ref (a + 37)) rfl rfl dX7_init_34 (fun H locs hX hO1 hS => ?_)
  have hp1 := hp1.fr (fun q z => hO1.2 q (kb_ne0 (by decide) z))
  have hp19 := hp19.fr (fun q z => hO1.2 q (kb_ne0 (by decide) z))
  have hp37 := hp37.fr (fun q z => hO1.2 q (kb_ne0 (by decide) z))
  have hp : ∀ q : Nat, q < a → H[q]? = s.heap[q]? := fun q h => (hO1.2 q (kp_ne0 h)).trans (hp q h)
  have hG : H.size = a + 111 := hO1.1.trans hG
  have ho : XO E a 7 [.ref (a + 1), .ref (a + 19), .ref (a + 37), .null, .null, .null, .null] H := hX
  refine lv_aload_n S.1 S.2.1 dX7_init_37 rfl (lv_at hl 0 rfl) ?_
  refine x_newO S hE hS (ci := 1) (C := RX1) (T := TX1) (N := 2) (fs := [.null, .int (nI 0)]) rfl inlX1 tyX1 tyX1_ok kw1_21 kw1_22 kw1_23 (fun j hj => by rcases (show j = 0 ∨ j = 1 by omega) with rfl | rfl <;> rfl) (Nat.le_of_ble_eq_true rfl) (Nat.le_of_ble_eq_true rfl) dX7_init_38 hG (fun H hX hz1 hK hS => ?_)
  have ho := va_at.kept ho (hK (a) (k_lt0 (by decide)))
  have hp1 := hp1.fr (fun q z => hK q (kb_lt (by decide) z))
  have hp19 := hp19.fr (fun q z => hK q (kb_lt (by decide) z))
  have hp37 := hp37.fr (fun q z => hK q (kb_lt (by decide) z))
  have hp : ∀ q : Nat, q < a → H[q]? = s.heap[q]? := fun q h => (hK q (kp_lt h)).trans (hp q h)
  have hG : H.size = a + 112 := hz1
  have hn111 : XO E (a + 111) 1 [.null, .int (nI 0)] H := hX
  refine W.widen (k := 111) (n := 9050) (Nat.le_of_ble_eq_true rfl) (Nat.le_of_ble_eq_true rfl) ?_
  refine lv_dup S.1 S.2.1 dX7_init_41 rfl ?_
  refine va_ldcS S.1 S.2.1 S.2.2.2.1 (show vk_R RX7 28 "" (E.2.2.2 11) s from hE.2.1 1 (by decide)) dX7_init_42 ?_
  refine xk_C (x_runIN (As := [.ref (E.2.2.2 11)]) (rest := [.ref (a + 111), .ref a]) S hEA hS (fun q h => Nat.le_trans (Nat.le_add_right a 111) h) (c_X1_init_1 l E (a + 111) _ hG hn111) kv_X1_init nw41 kw3_20 rfl ⟨(Nat.le_of_ble_eq_true rfl), (Nat.le_of_ble_eq_true rfl)⟩ rfl rfl rfl hl.1 rfl (Nat.le_of_ble_eq_true rfl) dX7_init_44 ⟨(Nat.le_of_ble_eq_true rfl), (Nat.le_of_ble_eq_true rfl)⟩) hS (fun q h => Nat.le_trans (Nat.le_add_right a 111) h) (fun H locs hX hS => ?_)
  obtain ⟨hX, hz1, hK⟩ := hX
  have ho := va_at.kept ho (hK (a) (k_lt0 (by decide)))
  have hp1 := hp1.fr (fun q z => hK q (kb_lt (by decide) z))
  have hp19 := hp19.fr (fun q z => hK q (kb_lt (by decide) z))
  have hp37 := hp37.fr (fun q z => hK q (kb_lt (by decide) z))
  have hp : ∀ q : Nat, q < a → H[q]? = s.heap[q]? := fun q h => (hK q (kp_lt h)).trans (hp q h)
  have hG : H.size = a + 113 := hz1
  have hp111 : ForP E (a + 111) [] H := hX
  refine W.widen (k := 112) (n := 9110) (Nat.le_of_ble_eq_true rfl) (Nat.le_of_ble_eq_true rfl) ?_
  refine x_putF S hE hS (show a ≤ a from Nat.le_refl _) (ho) (C := RX7) (T := TX7) (N := 7) rfl inlX7 tyX7 tyX7_ok nmX7 3 (by decide) (Nat.le_of_ble_eq_true rfl) kw2_0 rfl rfl hnm rfl (v := .ref (a + 111)) rfl rfl dX7_init_47 (fun H locs hX hO1 hS => ?_)
  have hp1 := hp1.fr (fun q z => hO1.2 q (kb_ne0 (by decide) z))
  have hp19 := hp19.fr (fun q z => hO1.2 q (kb_ne0 (by decide) z))
  have hp37 := hp37.fr (fun q z => hO1.2 q (kb_ne0 (by decide) z))
  have hp111 := hp111.fr (fun q z => hO1.2 q (kb_ne0 (by decide) z))
  have hp : ∀ q : Nat, q < a → H[q]? = s.heap[q]? := fun q h => (hO1.2 q (kp_ne0 h)).trans (hp q h)
  have hG : H.size = a + 113 := hO1.1.trans hG
  have ho : XO E a 7 [.ref (a + 1), .ref (a + 19), .ref (a + 37), .ref (a + 111), .null, .null, .null] H := hX
  refine lv_aload_n S.1 S.2.1 dX7_init_50 rfl (lv_at hl 0 rfl) ?_
  refine x_newO S hE hS (ci := 6) (C := RX6) (T := TX6) (N := 4) (fs := [.int (nI 0), .int (nI 0), .int (nI 0), .int (nI 0)]) rfl inlX6 tyX6 tyX6_ok kw2_1 kw2_2 kw2_3 (fun j hj => by rcases (show j = 0 ∨ j = 1 ∨ j = 2 ∨ j = 3 by omega) with rfl | rfl | rfl | rfl <;> rfl) (Nat.le_of_ble_eq_true rfl) (Nat.le_of_ble_eq_true rfl) dX7_init_51 hG (fun H hX hz1 hK hS => ?_)
  have ho := va_at.kept ho (hK (a) (k_lt0 (by decide)))
  have hp1 := hp1.fr (fun q z => hK q (kb_lt (by decide) z))
  have hp19 := hp19.fr (fun q z => hK q (kb_lt (by decide) z))
  have hp37 := hp37.fr (fun q z => hK q (kb_lt (by decide) z))
  have hp111 := hp111.fr (fun q z => hK q (kb_lt (by decide) z))
  have hp : ∀ q : Nat, q < a → H[q]? = s.heap[q]? := fun q h => (hK q (kp_lt h)).trans (hp q h)
  have hG : H.size = a + 114 := hz1
  have hn113 : XO E (a + 113) 6 [.int (nI 0), .int (nI 0), .int (nI 0), .int (nI 0)] H := hX
  refine W.widen (k := 113) (n := 9114) (Nat.le_of_ble_eq_true rfl) (Nat.le_of_ble_eq_true rfl) ?_
  refine lv_dup S.1 S.2.1 dX7_init_54 rfl ?_
  refine xk_C (x_runIN (As := []) (rest := [.ref (a + 113), .ref a]) S hEA hS (fun q h => Nat.le_trans (Nat.le_add_right a 113) h) (c_X6_init l E (a + 113) _ hG hn113) kv_X6_init nw42 kw6_17 rfl ⟨(Nat.le_of_ble_eq_true rfl), (Nat.le_of_ble_eq_true rfl)⟩ rfl rfl rfl hl.1 rfl (Nat.le_of_ble_eq_true rfl) dX7_init_55 ⟨(Nat.le_of_ble_eq_true rfl), (Nat.le_of_ble_eq_true rfl)⟩) hS (fun q h => Nat.le_trans (Nat.le_add_right a 113) h) (fun H locs hX hS => ?_)
  obtain ⟨hX, hz1, hK⟩ := hX
  have ho := va_at.kept ho (hK (a) (k_lt0 (by decide)))
  have hp1 := hp1.fr (fun q z => hK q (kb_lt (by decide) z))
  have hp19 := hp19.fr (fun q z => hK q (kb_lt (by decide) z))
  have hp37 := hp37.fr (fun q z => hK q (kb_lt (by decide) z))
  have hp111 := hp111.fr (fun q z => hK q (kb_lt (by decide) z))
  have hp : ∀ q : Nat, q < a → H[q]? = s.heap[q]? := fun q h => (hK q (kp_lt h)).trans (hp q h)
  have hG : H.size = a + 114 := hz1
  have hp113 : RdP E (a + 113) (nI 0) (nI 0) (nI 0) (nI 0) H := hX
  refine W.widen (k := 113) (n := 9114) (Nat.le_of_ble_eq_true rfl) (Nat.le_of_ble_eq_true rfl) ?_
  refine x_putF S hE hS (show a ≤ a from Nat.le_refl _) (ho) (C := RX7) (T := TX7) (N := 7) rfl inlX7 tyX7 tyX7_ok nmX7 4 (by decide) (Nat.le_of_ble_eq_true rfl) kw2_4 rfl rfl hnm rfl (v := .ref (a + 113)) rfl rfl dX7_init_58 (fun H locs hX hO1 hS => ?_)
  have hp1 := hp1.fr (fun q z => hO1.2 q (kb_ne0 (by decide) z))
  have hp19 := hp19.fr (fun q z => hO1.2 q (kb_ne0 (by decide) z))
  have hp37 := hp37.fr (fun q z => hO1.2 q (kb_ne0 (by decide) z))
  have hp111 := hp111.fr (fun q z => hO1.2 q (kb_ne0 (by decide) z))
  have hp113 := hp113.fr (hO1.2 ((a + 113)) (k_ne0b (by decide)))
  have hp : ∀ q : Nat, q < a → H[q]? = s.heap[q]? := fun q h => (hO1.2 q (kp_ne0 h)).trans (hp q h)
  have hG : H.size = a + 114 := hO1.1.trans hG
  have ho : XO E a 7 [.ref (a + 1), .ref (a + 19), .ref (a + 37), .ref (a + 111), .ref (a + 113), .null, .null] H := hX
  refine lv_aload_n S.1 S.2.1 dX7_init_61 rfl (lv_at hl 0 rfl) ?_
  refine x_newO S hE hS (ci := 4) (C := RX4) (T := TX4) (N := 3) (fs := [.null, .null, .int (nI 0)]) rfl inlX4 tyX4 tyX4_ok kw2_5 kw2_6 kw2_7 (fun j hj => by rcases (show j = 0 ∨ j = 1 ∨ j = 2 by omega) with rfl | rfl | rfl <;> rfl) (Nat.le_of_ble_eq_true rfl) (Nat.le_of_ble_eq_true rfl) dX7_init_62 hG (fun H hX hz1 hK hS => ?_)
  have ho := va_at.kept ho (hK (a) (k_lt0 (by decide)))
  have hp1 := hp1.fr (fun q z => hK q (kb_lt (by decide) z))
  have hp19 := hp19.fr (fun q z => hK q (kb_lt (by decide) z))
  have hp37 := hp37.fr (fun q z => hK q (kb_lt (by decide) z))
  have hp111 := hp111.fr (fun q z => hK q (kb_lt (by decide) z))
  have hp113 := hp113.fr (hK ((a + 113)) (k_lt (by decide)))
  have hp : ∀ q : Nat, q < a → H[q]? = s.heap[q]? := fun q h => (hK q (kp_lt h)).trans (hp q h)
  have hG : H.size = a + 115 := hz1
  have hn114 : XO E (a + 114) 4 [.null, .null, .int (nI 0)] H := hX
  refine W.widen (k := 114) (n := 9117) (Nat.le_of_ble_eq_true rfl) (Nat.le_of_ble_eq_true rfl) ?_
  refine lv_dup S.1 S.2.1 dX7_init_65 rfl ?_
  refine xk_C (x_runIN (As := []) (rest := [.ref (a + 114), .ref a]) S hEA hS (fun q h => Nat.le_trans (Nat.le_add_right a 114) h) (c_X4_init l E (a + 114) _ hG hn114) kv_X4_init nw43 kw6_20 rfl ⟨(Nat.le_of_ble_eq_true rfl), (Nat.le_of_ble_eq_true rfl)⟩ rfl rfl rfl hl.1 rfl (Nat.le_of_ble_eq_true rfl) dX7_init_66 ⟨(Nat.le_of_ble_eq_true rfl), (Nat.le_of_ble_eq_true rfl)⟩) hS (fun q h => Nat.le_trans (Nat.le_add_right a 114) h) (fun H locs hX hS => ?_)
  obtain ⟨hX, hz1, hK⟩ := hX
  have ho := va_at.kept ho (hK (a) (k_lt0 (by decide)))
  have hp1 := hp1.fr (fun q z => hK q (kb_lt (by decide) z))
  have hp19 := hp19.fr (fun q z => hK q (kb_lt (by decide) z))
  have hp37 := hp37.fr (fun q z => hK q (kb_lt (by decide) z))
  have hp111 := hp111.fr (fun q z => hK q (kb_lt (by decide) z))
  have hp113 := hp113.fr (hK ((a + 113)) (k_lt (by decide)))
  have hp : ∀ q : Nat, q < a → H[q]? = s.heap[q]? := fun q h => (hK q (kp_lt h)).trans (hp q h)
  have hG : H.size = a + 117 := hz1
  have hp114 : MixP E (a + 114) ((fun _ => 0), (fun _ => 0), (nI 0)) H := hX
  refine W.widen (k := 116) (n := 9131) (Nat.le_of_ble_eq_true rfl) (Nat.le_of_ble_eq_true rfl) ?_
  refine x_putF S hE hS (show a ≤ a from Nat.le_refl _) (ho) (C := RX7) (T := TX7) (N := 7) rfl inlX7 tyX7 tyX7_ok nmX7 5 (by decide) (Nat.le_of_ble_eq_true rfl) kw2_8 rfl rfl hnm rfl (v := .ref (a + 114)) rfl rfl dX7_init_69 (fun H locs hX hO1 hS => ?_)
  have hp1 := hp1.fr (fun q z => hO1.2 q (kb_ne0 (by decide) z))
  have hp19 := hp19.fr (fun q z => hO1.2 q (kb_ne0 (by decide) z))
  have hp37 := hp37.fr (fun q z => hO1.2 q (kb_ne0 (by decide) z))
  have hp111 := hp111.fr (fun q z => hO1.2 q (kb_ne0 (by decide) z))
  have hp113 := hp113.fr (hO1.2 ((a + 113)) (k_ne0b (by decide)))
  have hp114 := hp114.fr (fun q z => hO1.2 q (kb_ne0 (by decide) z))
  have hp : ∀ q : Nat, q < a → H[q]? = s.heap[q]? := fun q h => (hO1.2 q (kp_ne0 h)).trans (hp q h)
  have hG : H.size = a + 117 := hO1.1.trans hG
  have ho : XO E a 7 [.ref (a + 1), .ref (a + 19), .ref (a + 37), .ref (a + 111), .ref (a + 113), .ref (a + 114), .null] H := hX
  refine lv_aload_n S.1 S.2.1 dX7_init_72 rfl (lv_at hl 0 rfl) ?_
  refine lv_iconst (v := (nI 4)) S.1 S.2.1 dX7_init_73 (by decide) ?_
  refine x_newI S hE hS kw1_3 (k := 4) rfl (by decide) (Nat.le_of_ble_eq_true rfl) (Nat.le_of_ble_eq_true rfl) dX7_init_74 hG (fun H hX hz1 hK hS => ?_)
  have ho := va_at.kept ho (hK (a) (k_lt0 (by decide)))
  have hp1 := hp1.fr (fun q z => hK q (kb_lt (by decide) z))
  have hp19 := hp19.fr (fun q z => hK q (kb_lt (by decide) z))
  have hp37 := hp37.fr (fun q z => hK q (kb_lt (by decide) z))
  have hp111 := hp111.fr (fun q z => hK q (kb_lt (by decide) z))
  have hp113 := hp113.fr (hK ((a + 113)) (k_lt (by decide)))
  have hp114 := hp114.fr (fun q z => hK q (kb_lt (by decide) z))
  have hp : ∀ q : Nat, q < a → H[q]? = s.heap[q]? := fun q h => (hK q (kp_lt h)).trans (hp q h)
  have hG : H.size = a + 118 := hz1
  have hn117 : XI E (a + 117) 4 (fun _ => 0) H := hX
  refine W.widen (k := 117) (n := 9135) (Nat.le_of_ble_eq_true rfl) (Nat.le_of_ble_eq_true rfl) ?_
  refine x_putF S hE hS (show a ≤ a from Nat.le_refl _) (ho) (C := RX7) (T := TX7) (N := 7) rfl inlX7 tyX7 tyX7_ok nmX7 6 (by decide) (Nat.le_of_ble_eq_true rfl) kw2_9 rfl rfl hnm rfl (v := .ref (a + 117)) rfl rfl dX7_init_76 (fun H locs hX hO1 hS => ?_)
  have hp1 := hp1.fr (fun q z => hO1.2 q (kb_ne0 (by decide) z))
  have hp19 := hp19.fr (fun q z => hO1.2 q (kb_ne0 (by decide) z))
  have hp37 := hp37.fr (fun q z => hO1.2 q (kb_ne0 (by decide) z))
  have hp111 := hp111.fr (fun q z => hO1.2 q (kb_ne0 (by decide) z))
  have hp113 := hp113.fr (hO1.2 ((a + 113)) (k_ne0b (by decide)))
  have hp114 := hp114.fr (fun q z => hO1.2 q (kb_ne0 (by decide) z))
  have hn117 := va_at.kept hn117 (hO1.2 ((a + 117)) (k_ne0b (by decide)))
  have hp : ∀ q : Nat, q < a → H[q]? = s.heap[q]? := fun q h => (hO1.2 q (kp_ne0 h)).trans (hp q h)
  have hG : H.size = a + 118 := hO1.1.trans hG
  have ho : XO E a 7 [.ref (a + 1), .ref (a + 19), .ref (a + 37), .ref (a + 111), .ref (a + 113), .ref (a + 114), .ref (a + 117)] H := hX
  subst hQ
  refine x_retC S hr hlk hS ?_ dX7_init_79
  exact ⟨⟨ho, hp1, hp37, hp111, ⟨_, hp19⟩, ⟨_, _, _, _, hp113⟩, ⟨_, hp114⟩, _, hn117⟩, hG, hp⟩
