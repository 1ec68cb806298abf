/-! 13.desk: walks, by program -/
def hpStep (acc c : Int32) : Int32 := acc + (if pnOf c = (-1) then nI 0 else nI 1)
def hpOf (L : List Int32) : Int32 := L.foldl hpStep (nI 0)
abbrev RZ : Type := Int32 × Int32 × Int32
def rdOpen (p o : Int32) : RZ := if o = nI 6 then (p, o, nI 2) else (p, o + nI 1, nI 0)
def rdThing (p o c : Int32) : RZ := if c = nI 40 then rdOpen p o else if pnOf c = (-1) then (nI 1, o, nI 1) else (nI 1, o, nI 0)
def rdDigit (o c : Int32) : RZ := if c < nI 48 then (nI 3, o, nI 1) else if nI 57 < c then (nI 3, o, nI 1) else (nI 3, o, nI 0)
def rdBehind (p o c : Int32) : RZ := if c = nI 43 ∨ c = nI 94 then (nI 0, o, nI 0) else if c = nI 42 ∧ p = nI 1 then (nI 2, o, nI 0) else if c = nI 41 ∧ 0 < o then (nI 1, o - nI 1, nI 0) else (p, o, nI 1)
def rdTake (p o c : Int32) : RZ := if p = nI 0 then rdThing p o c else if p = nI 2 then rdDigit o c else rdBehind p o c
def RdP (E : XE) (a : Nat) (p o q r : Int32) (H : Heap) : Prop := XO E a 6 [.int p, .int o, .int q, .int r] H
abbrev rdEnd (p o : Int32) : Prop := o = 0 ∧ (p = nI 1 ∨ p = nI 3)
def rdGo : List Int32 → Nat → Int32 → Int32 → Int32 × Int32
  | [], i, p, o => (nI i, if rdEnd p o then nI 0 else nI 3)
  | c :: l, i, p, o => if (rdTake p o c).2.2 = 0 then rdGo l (i + 1) (rdTake p o c).1 (rdTake p o c).2.1 else (nI i, (rdTake p o c).2.2)
theorem rdGo_s {L : List Int32} {i : Nat} {p o : Int32} (h : i < L.length) : rdGo (L.drop i) i p o = if (rdTake p o (L.getD i 0)).2.2 = 0 then rdGo (L.drop (i + 1)) (i + 1) (rdTake p o (L.getD i 0)).1 (rdTake p o (L.getD i 0)).2.1 else (nI i, (rdTake p o (L.getD i 0)).2.2) := by
  rw [drop_cons h, rdGo]
abbrev MZ : Type := (Nat → Int32) × (Nat → Int32) × Int32
def MixP (E : XE) (a : Nat) (z : MZ) (H : Heap) : Prop := XO E a 4 [.ref (a + 1), .ref (a + 2), .int z.2.2] H ∧ XI E (a + 1) 7 z.1 H ∧ XI E (a + 2) 7 z.2.1 H
def mxBegin (z : MZ) (d : Int32) : MZ := (xput z.1 7 d (nI 0), xput z.2.1 7 d (nI 43), d)
def mxAfter (z : MZ) (t : Int32) : Int32 := if xat z.2.1 7 z.2.2 = nI 43 then xat z.1 7 z.2.2 + t else xmax (xat z.1 7 z.2.2) t
def mxJoin (z : MZ) (t : Int32) : MZ := (xput z.1 7 z.2.2 (xmin (nI 1000000) (mxAfter z t)), z.2.1, z.2.2)
def mxTimes (L : List Int32) (i t : Int32) : Int32 := if fsAt L i = nI 42 then xmin (nI 1000000) (t * (fsAt L (i + nI 1) - nI 48)) else t
def mxStep (L : List Int32) (sh : Nat → Int32) (z : MZ) (i : Nat) (c : Int32) : MZ :=
  if pnOf c = (-1) then (if c = nI 40 then mxBegin z (z.2.2 + nI 1) else if c = nI 41 then mxJoin (z.1, z.2.1, z.2.2 - nI 1) (mxTimes L (nI (i + 1)) (xat z.1 7 z.2.2)) else if c = nI 43 ∨ c = nI 94 then (z.1, xput z.2.1 7 z.2.2 c, z.2.2) else z)
  else mxJoin z (mxTimes L (nI (i + 1)) (xat sh 4 (pnOf c)))
def mxN (L : List Int32) (sh : Nat → Int32) (z : MZ) : Nat → MZ
  | 0 => mxBegin z (nI 0)
  | i + 1 => mxStep L sh (mxN L sh z i) i (L.getD i 0)
def mxOf (L : List Int32) (sh : Nat → Int32) (z : MZ) : Int32 := xat (mxN L sh z L.length).1 7 (nI 0)
abbrev rm_X4_begin : Room := ({ frames := 1, cells := 0, slots := 0, locals := 22 } : Room)
set_option maxRecDepth 100000 in
set_option maxHeartbeats 600000 in
theorem c_X4_begin (l : Launch) (E : XE) (a : Nat) (z : MZ) (d0 : Int32) (H : Heap) (hM : MixP E a z H) : Wv l E yX4_begin cX4_begin 2 rm_X4_begin [.ref a, .int d0] H (bk a 3) (MixP E a (mxBegin z d0)) := by
  refine met_of (by decide) (Nat.le_of_ble_eq_true rfl) (fun p e s m args below meth c hBD Q hQ ls hl => ?_)
  obtain ⟨S, hr, hlk, hnm, hE, hH⟩ := hBD
  subst hH
  have hl : lv_has ls 2 [(0, .ref a), (1, .int d0)] := hl
  have hO : Out (bk a 3) s.heap s.heap := Out.rf
  have hS : va_S (bk a 3) s.heap s.heap [] := va_S.rf
  refine lv_aload_n S.1 S.2.1 dX4_begin_0 rfl (lv_at hl 0 rfl) ?_
  refine lv_iload_n S.1 S.2.1 dX4_begin_1 rfl (lv_at hl 1 rfl) ?_
  refine x_put S hE hS (bk1 (by omega)) (hM.1) (C := RX4) (T := TX4) (N := 3) rfl inlX4 tyX4 tyX4_ok nmX4 2 (by decide) (Nat.le_of_ble_eq_true rfl) kw12_14 rfl rfl (v := .int d0) rfl rfl dX4_begin_2 (fun H locs hX hO1 hS => ?_)
  have hO := hO.tr hO1 (fun q z => by subst z; exact bk1 (by omega))
  have hM : MixP E a (z.1, z.2.1, d0) H := ⟨hX, va_at.kept hM.2.1 (hO1.2 _ (fun z => by have z : a + 1 = a := z; omega)), va_at.kept hM.2.2 (hO1.2 _ (fun z => by have z : a + 2 = a := z; omega))⟩
  refine lv_aload_n S.1 S.2.1 dX4_begin_5 rfl (lv_at hl 0 rfl) ?_
  refine x_get S hE (hM.1) (C := RX4) (T := TX4) (N := 3) rfl inlX4 0 (by decide) (v := .ref (a + 1)) rfl kw6_23 rfl dX4_begin_6 ?_
  refine lv_iload_n S.1 S.2.1 dX4_begin_9 rfl (lv_at hl 1 rfl) ?_
  refine lv_iconst (v := (nI 0)) S.1 S.2.1 dX4_begin_10 (by decide) ?_
  refine xk_V (x_runSN (As := [.ref (a + 1), .int d0, .int (nI 0)]) (rest := []) S hE hS (bk_eq (by decide)) (c_X7_put l E (a + 1) 7 (z.1, z.2.1, d0).1 d0 (nI 0) _ hM.2.1 (by decide)) kv_X7_put nw89 kw12_9 ⟨Nat.le_of_ble_eq_true rfl, Nat.le_of_ble_eq_true rfl⟩ rfl rfl rfl hl.1 rfl (Nat.le_of_ble_eq_true rfl) dX4_begin_11 ⟨Nat.zero_le _, Nat.zero_le _⟩) hS (bk_eq (by decide)) (fun H locs hX hO1 hS => ?_)
  have hO := hO.tr hO1 (bk_eq (by decide))
  have hM : MixP E a ((xput (z.1, z.2.1, d0).1 7 d0 (nI 0)), (z.1, z.2.1, d0).2.1, (z.1, z.2.1, d0).2.2) H := ⟨va_at.kept hM.1 (hO1.2 _ (fun z => by have z : a = a + 1 := z; omega)), hX, va_at.kept hM.2.2 (hO1.2 _ (fun z => by have z : a + 2 = a + 1 := z; omega))⟩
  refine lv_aload_n S.1 S.2.1 dX4_begin_14 rfl (lv_at hl 0 rfl) ?_
  refine x_get S hE (hM.1) (C := RX4) (T := TX4) (N := 3) rfl inlX4 1 (by decide) (v := .ref (a + 2)) rfl kw7_0 rfl dX4_begin_15 ?_
  refine lv_iload_n S.1 S.2.1 dX4_begin_18 rfl (lv_at hl 1 rfl) ?_
  refine lv_bipush (v := (nI 43)) S.1 S.2.1 dX4_begin_19 (by decide) ?_
  refine xk_V (x_runSN (As := [.ref (a + 2), .int d0, .int (nI 43)]) (rest := []) S hE hS (bk_eq (by decide)) (c_X7_put l E (a + 2) 7 ((xput (z.1, z.2.1, d0).1 7 d0 (nI 0)), (z.1, z.2.1, d0).2.1, (z.1, z.2.1, d0).2.2).2.1 d0 (nI 43) _ hM.2.2 (by decide)) kv_X7_put nw89 kw12_9 ⟨Nat.le_of_ble_eq_true rfl, Nat.le_of_ble_eq_true rfl⟩ rfl rfl rfl hl.1 rfl (Nat.le_of_ble_eq_true rfl) dX4_begin_21 ⟨Nat.zero_le _, Nat.zero_le _⟩) hS (bk_eq (by decide)) (fun H locs hX hO1 hS => ?_)
  have hO := hO.tr hO1 (bk_eq (by decide))
  have hM : MixP E a (((xput (z.1, z.2.1, d0).1 7 d0 (nI 0)), (z.1, z.2.1, d0).2.1, (z.1, z.2.1, d0).2.2).1, (xput ((xput (z.1, z.2.1, d0).1 7 d0 (nI 0)), (z.1, z.2.1, d0).2.1, (z.1, z.2.1, d0).2.2).2.1 7 d0 (nI 43)), ((xput (z.1, z.2.1, d0).1 7 d0 (nI 0)), (z.1, z.2.1, d0).2.1, (z.1, z.2.1, d0).2.2).2.2) H := ⟨va_at.kept hM.1 (hO1.2 _ (fun z => by have z : a = a + 2 := z; omega)), va_at.kept hM.2.1 (hO1.2 _ (fun z => by have z : a + 1 = a + 2 := z; omega)), hX⟩
  subst hQ
  refine x_retV S hr hlk hS hO ?_ dX4_begin_24
  exact hM
abbrev rm_X4_join : Room := ({ frames := 1, cells := 0, slots := 0, locals := 22 } : Room)
set_option maxRecDepth 100000 in
set_option maxHeartbeats 600000 in
theorem c_X4_join (l : Launch) (E : XE) (a : Nat) (z : MZ) (t0 : Int32) (H : Heap) (hM : MixP E a z H) : Wv l E yX4_join cX4_join 4 rm_X4_join [.ref a, .int t0] H (bk a 3) (MixP E a (mxJoin z t0)) := by
  refine met_of (by decide) (Nat.le_of_ble_eq_true rfl) (fun p e s m args below meth c hBD Q hQ ls hl => ?_)
  obtain ⟨S, hr, hlk, hnm, hE, hH⟩ := hBD
  subst hH
  have hl : lv_has ls 4 [(0, .ref a), (1, .int t0)] := hl
  have hO : Out (bk a 3) s.heap s.heap := Out.rf
  have hS : va_S (bk a 3) s.heap s.heap [] := va_S.rf
  refine lv_aload_n S.1 S.2.1 dX4_join_0 rfl (lv_at hl 0 rfl) ?_
  refine x_get S hE (hM.1) (C := RX4) (T := TX4) (N := 3) rfl inlX4 0 (by decide) (v := .ref (a + 1)) rfl kw6_23 rfl dX4_join_1 ?_
  refine lv_aload_n S.1 S.2.1 dX4_join_4 rfl (lv_at hl 0 rfl) ?_
  refine x_get S hE (hM.1) (C := RX4) (T := TX4) (N := 3) rfl inlX4 2 (by decide) (v := .int z.2.2) rfl kw12_14 rfl dX4_join_5 ?_
  refine xk_R (v := (xat z.1 7 z.2.2)) (x_runSN (As := [.ref (a + 1), .int z.2.2]) (rest := []) S hE hS (fun _ h => h.elim) (c_X7_at l E (a + 1) 7 z.1 z.2.2 _ (xr_i hM.2.1) (by decide)) kv_X7_at nw92 kw8_2 ⟨Nat.le_of_ble_eq_true rfl, Nat.le_of_ble_eq_true rfl⟩ rfl rfl rfl hl.1 rfl (Nat.le_of_ble_eq_true rfl) dX4_join_8 ⟨Nat.zero_le _, Nat.zero_le _⟩) ?_
  refine lv_istore_n S.1 S.2.1 dX4_join_11 rfl hl (by decide) rfl (fun ls hl => ?_)
  have hl : lv_has ls 4 [(2, .int (xat z.1 7 z.2.2)), (0, .ref a), (1, .int t0)] := hl
  refine lv_aload_n S.1 S.2.1 dX4_join_12 rfl (lv_at hl 1 rfl) ?_
  refine x_get S hE (hM.1) (C := RX4) (T := TX4) (N := 3) rfl inlX4 1 (by decide) (v := .ref (a + 2)) rfl kw7_0 rfl dX4_join_13 ?_
  refine lv_aload_n S.1 S.2.1 dX4_join_16 rfl (lv_at hl 1 rfl) ?_
  refine x_get S hE (hM.1) (C := RX4) (T := TX4) (N := 3) rfl inlX4 2 (by decide) (v := .int z.2.2) rfl kw12_14 rfl dX4_join_17 ?_
  refine xk_R (v := (xat z.2.1 7 z.2.2)) (x_runSN (As := [.ref (a + 2), .int z.2.2]) (rest := []) S hE hS (fun _ h => h.elim) (c_X7_at l E (a + 2) 7 z.2.1 z.2.2 _ (xr_i hM.2.2) (by decide)) kv_X7_at nw92 kw8_2 ⟨Nat.le_of_ble_eq_true rfl, Nat.le_of_ble_eq_true rfl⟩ rfl rfl rfl hl.1 rfl (Nat.le_of_ble_eq_true rfl) dX4_join_20 ⟨Nat.zero_le _, Nat.zero_le _⟩) ?_
  refine lv_bipush (v := (nI 43)) S.1 S.2.1 dX4_join_23 (by decide) ?_
  refine lv_icmp_ne (tgt := 34) S.1 S.2.1 dX4_join_25 rfl (fun h1 => ?_) (fun h1 => ?_)
  · skip
    refine lv_iload_n S.1 S.2.1 dX4_join_34 rfl (lv_at hl 0 rfl) ?_
    refine lv_iload_n S.1 S.2.1 dX4_join_35 rfl (lv_at hl 2 rfl) ?_
    refine va_mmax S.1 S.2.1 (S.2.2.1.trans hl.1.symm) S.2.2.2.1 (S.2.2.2.2 _ kw15_17) (S.2.2.2.2 _ kw3_16) (S.2.2.2.2 _ kw3_17) (S.2.2.2.2 _ kw3_18) (Nat.le_of_ble_eq_true rfl) (Nat.le_of_ble_eq_true rfl) (Nat.zero_le _) (Nat.zero_le _) dX4_join_36 ?_
    refine x_top (y := (xmax (xat z.1 7 z.2.2) t0)) rfl ?_
    refine x_top (y := (mxAfter z t0)) (by rw [mxAfter, if_neg h1]) ?_
    refine lv_istore_n S.1 S.2.1 dX4_join_39 rfl hl (by decide) rfl (fun ls hl => ?_)
    have hl : lv_has ls 4 [(3, .int (mxAfter z t0)), (2, .int (xat z.1 7 z.2.2)), (0, .ref a), (1, .int t0)] := hl
    refine lv_aload_n S.1 S.2.1 dX4_join_40 rfl (lv_at hl 2 rfl) ?_
    refine x_get S hE (hM.1) (C := RX4) (T := TX4) (N := 3) rfl inlX4 0 (by decide) (v := .ref (a + 1)) rfl kw6_23 rfl dX4_join_41 ?_
    refine lv_aload_n S.1 S.2.1 dX4_join_44 rfl (lv_at hl 2 rfl) ?_
    refine x_get S hE (hM.1) (C := RX4) (T := TX4) (N := 3) rfl inlX4 2 (by decide) (v := .int z.2.2) rfl kw12_14 rfl dX4_join_45 ?_
    refine lv_ldc (v := 1000000) S.1 S.2.1 S.2.2.2.1 (S.2.2.2.2 _ kw15_11) dX4_join_48 ?_
    refine x_top (y := (nI 1000000)) (by decide) ?_
    refine lv_iload_n S.1 S.2.1 dX4_join_50 rfl (lv_at hl 0 rfl) ?_
    refine va_mmin S.1 S.2.1 (S.2.2.1.trans hl.1.symm) S.2.2.2.1 (S.2.2.2.2 _ kw15_12) (S.2.2.2.2 _ kw4_2) (S.2.2.2.2 _ kw3_17) (S.2.2.2.2 _ kw4_3) (Nat.le_of_ble_eq_true rfl) (Nat.le_of_ble_eq_true rfl) (Nat.zero_le _) (Nat.zero_le _) dX4_join_51 ?_
    refine x_top (y := (xmin (nI 1000000) (mxAfter z t0))) rfl ?_
    refine xk_V (x_runSN (As := [.ref (a + 1), .int z.2.2, .int (xmin (nI 1000000) (mxAfter z t0))]) (rest := []) S hE hS (bk_eq (by decide)) (c_X7_put l E (a + 1) 7 z.1 z.2.2 (xmin (nI 1000000) (mxAfter z t0)) _ hM.2.1 (by decide)) kv_X7_put nw89 kw12_9 ⟨Nat.le_of_ble_eq_true rfl, Nat.le_of_ble_eq_true rfl⟩ rfl rfl rfl hl.1 rfl (Nat.le_of_ble_eq_true rfl) dX4_join_54 ⟨Nat.zero_le _, Nat.zero_le _⟩) hS (bk_eq (by decide)) (fun H locs hX hO1 hS => ?_)
    have hO := hO.tr hO1 (bk_eq (by decide))
    have hM : MixP E a ((xput z.1 7 z.2.2 (xmin (nI 1000000) (mxAfter z t0))), z.2.1, z.2.2) H := ⟨va_at.kept hM.1 (hO1.2 _ (fun z => by have z : a = a + 1 := z; omega)), hX, va_at.kept hM.2.2 (hO1.2 _ (fun z => by have z : a + 2 = a + 1 := z; omega))⟩
    subst hQ
    refine x_retV S hr hlk hS hO ?_ dX4_join_57
    exact hM
  · skip
    refine lv_iload_n S.1 S.2.1 dX4_join_28 rfl (lv_at hl 0 rfl) ?_
    refine lv_iload_n S.1 S.2.1 dX4_join_29 rfl (lv_at hl 2 rfl) ?_
    refine lv_iadd S.1 S.2.1 dX4_join_30 ?_
    refine lv_goto (tgt := 39) S.1 S.2.1 dX4_join_31 rfl ?_
    refine x_top (y := (mxAfter z t0)) (by rw [mxAfter, if_pos h1]) ?_
    refine lv_istore_n S.1 S.2.1 dX4_join_39 rfl hl (by decide) rfl (fun ls hl => ?_)
    have hl : lv_has ls 4 [(3, .int (mxAfter z t0)), (2, .int (xat z.1 7 z.2.2)), (0, .ref a), (1, .int t0)] := hl
    refine lv_aload_n S.1 S.2.1 dX4_join_40 rfl (lv_at hl 2 rfl) ?_
    refine x_get S hE (hM.1) (C := RX4) (T := TX4) (N := 3) rfl inlX4 0 (by decide) (v := .ref (a + 1)) rfl kw6_23 rfl dX4_join_41 ?_
    refine lv_aload_n S.1 S.2.1 dX4_join_44 rfl (lv_at hl 2 rfl) ?_
    refine x_get S hE (hM.1) (C := RX4) (T := TX4) (N := 3) rfl inlX4 2 (by decide) (v := .int z.2.2) rfl kw12_14 rfl dX4_join_45 ?_
    refine lv_ldc (v := 1000000) S.1 S.2.1 S.2.2.2.1 (S.2.2.2.2 _ kw15_11) dX4_join_48 ?_
    refine x_top (y := (nI 1000000)) (by decide) ?_
    refine lv_iload_n S.1 S.2.1 dX4_join_50 rfl (lv_at hl 0 rfl) ?_
    refine va_mmin S.1 S.2.1 (S.2.2.1.trans hl.1.symm) S.2.2.2.1 (S.2.2.2.2 _ kw15_12) (S.2.2.2.2 _ kw4_2) (S.2.2.2.2 _ kw3_17) (S.2.2.2.2 _ kw4_3) (Nat.le_of_ble_eq_true rfl) (Nat.le_of_ble_eq_true rfl) (Nat.zero_le _) (Nat.zero_le _) dX4_join_51 ?_
    refine x_top (y := (xmin (nI 1000000) (mxAfter z t0))) rfl ?_
    refine xk_V (x_runSN (As := [.ref (a + 1), .int z.2.2, .int (xmin (nI 1000000) (mxAfter z t0))]) (rest := []) S hE hS (bk_eq (by decide)) (c_X7_put l E (a + 1) 7 z.1 z.2.2 (xmin (nI 1000000) (mxAfter z t0)) _ hM.2.1 (by decide)) kv_X7_put nw89 kw12_9 ⟨Nat.le_of_ble_eq_true rfl, Nat.le_of_ble_eq_true rfl⟩ rfl rfl rfl hl.1 rfl (Nat.le_of_ble_eq_true rfl) dX4_join_54 ⟨Nat.zero_le _, Nat.zero_le _⟩) hS (bk_eq (by decide)) (fun H locs hX hO1 hS => ?_)
    have hO := hO.tr hO1 (bk_eq (by decide))
    have hM : MixP E a ((xput z.1 7 z.2.2 (xmin (nI 1000000) (mxAfter z t0))), z.2.1, z.2.2) H := ⟨va_at.kept hM.1 (hO1.2 _ (fun z => by have z : a = a + 1 := z; omega)), hX, va_at.kept hM.2.2 (hO1.2 _ (fun z => by have z : a + 2 = a + 1 := z; omega))⟩
    subst hQ
    refine x_retV S hr hlk hS hO ?_ dX4_join_57
    exact hM
abbrev rm_X4_times : Room := ({ frames := 1, cells := 0, slots := 0, locals := 21 } : Room)
set_option maxRecDepth 100000 in
set_option maxHeartbeats 600000 in
theorem c_X4_times (l : Launch) (E : XE) (b : Nat) (L : List Int32) (i0 t0 : Int32) (H : Heap) (hF : ForP E b L H) : Rd l E yX4_times cX4_times 3 (some .int) rm_X4_times [.ref b, .int i0, .int t0] H (mxTimes L i0 t0) := by
  refine met_of (by decide) (Nat.le_of_ble_eq_true rfl) (fun p e s m args below meth c hBD Q hQ ls hl => ?_)
  obtain ⟨S, hr, hlk, hnm, hE, hH⟩ := hBD
  subst hH
  have hl : lv_has ls 3 [(0, .ref b), (1, .int i0), (2, .int t0)] := hl
  have hS : va_S (fun _ => False) s.heap s.heap [] := va_S.rf
  refine lv_aload_n S.1 S.2.1 dX4_times_0 rfl (lv_at hl 0 rfl) ?_
  refine lv_iload_n S.1 S.2.1 dX4_times_1 rfl (lv_at hl 1 rfl) ?_
  refine xk_R (v := (fsAt L i0)) (x_runVN (As := [.int i0]) (rest := []) S hE hS (fun _ h => h.elim) (c_X1_signAt l E b L i0 _ hF) kv_X1_signAt nw90 kw12_19 kw12_20 (x_recv hE (hF.1) (ci := 1) rfl) ⟨Nat.le_of_ble_eq_true rfl, Nat.le_of_ble_eq_true rfl⟩ rfl rfl rfl hl.1 rfl (Nat.le_of_ble_eq_true rfl) dX4_times_2 ⟨Nat.zero_le _, Nat.zero_le _⟩) ?_
  refine lv_bipush (v := (nI 42)) S.1 S.2.1 dX4_times_5 (by decide) ?_
  refine lv_icmp_eq (tgt := 12) S.1 S.2.1 dX4_times_7 rfl (fun h1 => ?_) (fun h1 => ?_)
  · skip
    refine lv_ldc (v := 1000000) S.1 S.2.1 S.2.2.2.1 (S.2.2.2.2 _ kw15_11) dX4_times_12 ?_
    refine x_top (y := (nI 1000000)) (by decide) ?_
    refine lv_iload_n S.1 S.2.1 dX4_times_14 rfl (lv_at hl 2 rfl) ?_
    refine lv_aload_n S.1 S.2.1 dX4_times_15 rfl (lv_at hl 0 rfl) ?_
    refine lv_iload_n S.1 S.2.1 dX4_times_16 rfl (lv_at hl 1 rfl) ?_
    refine lv_iconst (v := (nI 1)) S.1 S.2.1 dX4_times_17 (by decide) ?_
    refine lv_iadd S.1 S.2.1 dX4_times_18 ?_
    refine xk_R (v := (fsAt L (i0 + (nI 1)))) (x_runVN (As := [.int (i0 + (nI 1))]) (rest := [.int t0, .int (nI 1000000)]) S hE hS (fun _ h => h.elim) (c_X1_signAt l E b L (i0 + (nI 1)) _ hF) kv_X1_signAt nw90 kw12_19 kw12_20 (x_recv hE (hF.1) (ci := 1) rfl) ⟨Nat.le_of_ble_eq_true rfl, Nat.le_of_ble_eq_true rfl⟩ rfl rfl rfl hl.1 rfl (Nat.le_of_ble_eq_true rfl) dX4_times_19 ⟨Nat.zero_le _, Nat.zero_le _⟩) ?_
    refine lv_bipush (v := (nI 48)) S.1 S.2.1 dX4_times_22 (by decide) ?_
    refine lv_isub S.1 S.2.1 dX4_times_24 ?_
    refine lv_imul S.1 S.2.1 dX4_times_25 ?_
    refine va_mmin S.1 S.2.1 (S.2.2.1.trans hl.1.symm) S.2.2.2.1 (S.2.2.2.2 _ kw15_12) (S.2.2.2.2 _ kw4_2) (S.2.2.2.2 _ kw3_17) (S.2.2.2.2 _ kw4_3) (Nat.le_of_ble_eq_true rfl) (Nat.le_of_ble_eq_true rfl) (Nat.zero_le _) (Nat.zero_le _) dX4_times_26 ?_
    refine x_top (y := (xmin (nI 1000000) (t0 * ((fsAt L (i0 + (nI 1))) - (nI 48))))) rfl ?_
    subst hQ
    exact x_retR S hr hlk (rfl) (by rw [mxTimes]; first | rw [if_pos h1] | rw [if_neg h1]) dX4_times_29
  · skip
    refine lv_iload_n S.1 S.2.1 dX4_times_10 rfl (lv_at hl 2 rfl) ?_
    subst hQ
    exact x_retR S hr hlk (rfl) (by rw [mxTimes]; first | rw [if_pos h1] | rw [if_neg h1]) dX4_times_11
abbrev rm_X4_result : Room := ({ frames := 5, cells := 0, slots := 0, locals := 111 } : Room)
set_option maxRecDepth 100000 in
set_option maxHeartbeats 600000 in
theorem c_X4_result (l : Launch) (E : XE) (a b s0 : Nat) (z : MZ) (L : List Int32) (sh : Nat → Int32) (H : Heap) (hM : MixP E a z H) (hF : ForP E b L H) (hSh : XI E s0 4 sh H) (hd : a + 3 ≤ b ∨ b + 2 ≤ a) (hd2 : a + 3 ≤ s0 ∨ s0 < a) : Wr l E yX4_result cX4_result 7 (some .int) rm_X4_result [.ref a, .ref b, .ref s0] H (bk a 3) (fun v H1 => v = mxOf L sh z ∧ ∃ z1 : MZ, MixP E a z1 H1) := by
  refine met_of (by decide) (Nat.le_of_ble_eq_true rfl) (fun p e s m args below meth c hBD Q hQ ls hl => ?_)
  obtain ⟨S, hr, hlk, hnm, hE, hH⟩ := hBD
  subst hH
  have hl : lv_has ls 7 [(0, .ref a), (1, .ref b), (2, .ref s0)] := hl
  have hO : Out (bk a 3) s.heap s.heap := Out.rf
  have hS : va_S (bk a 3) s.heap s.heap [] := va_S.rf
  have hLe := hF.2.1
  refine lv_aload_n S.1 S.2.1 dX4_result_0 rfl (lv_at hl 0 rfl) ?_
  refine lv_iconst (v := (nI 0)) S.1 S.2.1 dX4_result_1 (by decide) ?_
  refine xk_V (x_runV (As := [.int (nI 0)]) (rest := []) S hE hS (fun q z => z) (c_X4_begin l E a z (nI 0) _ hM) kv_X4_begin kw12_15 kw12_16 kw12_17 (x_recv hE (hM.1) (ci := 4) rfl) ⟨Nat.le_of_ble_eq_true rfl, Nat.le_of_ble_eq_true rfl⟩ rfl rfl rfl hl.1 rfl (Nat.le_of_ble_eq_true rfl) dX4_result_2 ⟨Nat.zero_le _, Nat.zero_le _⟩) hS (fun q z => z) (fun H locs hX hO1 hS => ?_)
  have hO := hO.tr hO1 (fun q z => z)
  have hM : MixP E a (mxBegin z (nI 0)) H := hX
  have hF := hF.fr (fun q z => hO1.2 q (fun y => by obtain ⟨u, v⟩ := z; obtain ⟨u', v'⟩ := y; omega))
  have hSh := va_at.kept hSh (hO1.2 _ (fun y => by obtain ⟨u', v'⟩ := y; omega))
  refine lv_iconst (v := (nI 0)) S.1 S.2.1 dX4_result_5 (by decide) ?_
  refine lv_istore_n S.1 S.2.1 dX4_result_6 rfl hl (by decide) rfl (fun ls hl => ?_)
  have hl : lv_has ls 7 [(3, .int (nI 0)), (0, .ref a), (1, .ref b), (2, .ref s0)] := hl
  have hloop7 : ∀ (d : Nat) (i : Nat) (y : MZ) (H : Heap) (locs : List Loc) (ls : Array Slot), L.length - i = d → i ≤ L.length → mxN L sh z i = y → MixP E a y H → ForP E b L H → XI E s0 4 sh H → Out (bk a 3) s.heap H → va_S (bk a 3) s.heap H locs → lv_has ls 7 [(3, .int (nI i)), (0, .ref a), (1, .ref b), (2, .ref s0)] → W p l e rm_X4_result s m args below meth c H locs 0 0 Q (F0 m 7 ls []) := by
    intro d
    induction d using Nat.strongRecOn with
    | ind d ih =>
      intro i y H locs ls hd hi hv hM hF hSh hO hS hl
      refine lv_iload_n S.1 S.2.1 dX4_result_7 rfl (lv_at hl 0 rfl) ?_
      refine lv_aload_n S.1 S.2.1 dX4_result_8 rfl (lv_at hl 2 rfl) ?_
      refine x_getN S hE (hF.1) (C := RX1) (T := TX1) (N := 2) rfl inlX1 1 (by decide) (v := .int (nI L.length)) rfl nw16 rfl dX4_result_9 ?_
      refine lv_icmp_ge (tgt := 154) S.1 S.2.1 dX4_result_12 rfl (fun h1 => ?_) (fun h1 => ?_)
      · skip
        have hge : i = L.length := (by have := ge_of_le (by omega) (by omega) h1; omega)
        refine lv_aload_n S.1 S.2.1 dX4_result_154 rfl (lv_at hl 1 rfl) ?_
        refine x_get S hE (hM.1) (C := RX4) (T := TX4) (N := 3) rfl inlX4 0 (by decide) (v := .ref (a + 1)) rfl kw6_23 rfl dX4_result_155 ?_
        refine lv_iconst (v := (nI 0)) S.1 S.2.1 dX4_result_158 (by decide) ?_
        refine xk_R (v := (xat y.1 7 (nI 0))) (x_runSN (As := [.ref (a + 1), .int (nI 0)]) (rest := []) S hE hS (fun _ h => h.elim) (c_X7_at l E (a + 1) 7 y.1 (nI 0) _ (xr_i hM.2.1) (by decide)) kv_X7_at nw92 kw8_2 ⟨Nat.le_of_ble_eq_true rfl, Nat.le_of_ble_eq_true rfl⟩ rfl rfl rfl hl.1 rfl (Nat.le_of_ble_eq_true rfl) dX4_result_159 ⟨Nat.zero_le _, Nat.zero_le _⟩) ?_
        subst hQ
        refine x_retW S hr hlk (rfl) hS hO ?_ dX4_result_162
        exact ⟨by rw [mxOf, ← hge, hv], y, hM⟩
      · skip
        have hlt := lt_of_nle (by omega) (by omega) h1
        refine lv_aload_n S.1 S.2.1 dX4_result_15 rfl (lv_at hl 2 rfl) ?_
        refine lv_iload_n S.1 S.2.1 dX4_result_16 rfl (lv_at hl 0 rfl) ?_
        refine xk_R (v := (fsAt L (nI i))) (x_runVN (As := [.int (nI i)]) (rest := []) S hE hS (fun _ h => h.elim) (c_X1_signAt l E b L (nI i) _ hF) kv_X1_signAt nw90 kw12_19 kw12_20 (x_recv hE (hF.1) (ci := 1) rfl) ⟨Nat.le_of_ble_eq_true rfl, Nat.le_of_ble_eq_true rfl⟩ rfl rfl rfl hl.1 rfl (Nat.le_of_ble_eq_true rfl) dX4_result_17 ⟨Nat.zero_le _, Nat.zero_le _⟩) ?_
        refine x_top (y := (L.getD i 0)) (fsAt_nI hlt hF.2.1) ?_
        refine lv_istore S.1 S.2.1 dX4_result_20 hl (by decide) rfl (fun ls hl => ?_)
        have hl : lv_has ls 7 [(4, .int (L.getD i 0)), (3, .int (nI i)), (0, .ref a), (1, .ref b), (2, .ref s0)] := hl
        refine lv_iload S.1 S.2.1 dX4_result_22 (lv_at hl 0 rfl) ?_
        refine xk_R (v := (pnOf (L.getD i 0))) (x_runSN (As := [.int (L.getD i 0)]) (rest := []) S hE hS (fun _ h => h.elim) (c_X1_partNamed l E (L.getD i 0) _) kv_X1_partNamed nw91 kw12_22 ⟨Nat.le_of_ble_eq_true rfl, Nat.le_of_ble_eq_true rfl⟩ rfl rfl rfl hl.1 rfl (Nat.le_of_ble_eq_true rfl) dX4_result_24 ⟨Nat.zero_le _, Nat.zero_le _⟩) ?_
        refine lv_istore S.1 S.2.1 dX4_result_27 hl (by decide) rfl (fun ls hl => ?_)
        have hl : lv_has ls 7 [(5, .int (pnOf (L.getD i 0))), (4, .int (L.getD i 0)), (3, .int (nI i)), (0, .ref a), (1, .ref b), (2, .ref s0)] := hl
        refine lv_iload S.1 S.2.1 dX4_result_29 (lv_at hl 0 rfl) ?_
        refine lv_iconst (v := (-1)) S.1 S.2.1 dX4_result_31 (by decide) ?_
        refine lv_icmp_eq (tgt := 55) S.1 S.2.1 dX4_result_32 rfl (fun h2 => ?_) (fun h2 => ?_)
        · skip
          refine lv_iload S.1 S.2.1 dX4_result_55 (lv_at hl 1 rfl) ?_
          refine lv_bipush (v := (nI 40)) S.1 S.2.1 dX4_result_57 (by decide) ?_
          refine lv_icmp_ne (tgt := 75) S.1 S.2.1 dX4_result_59 rfl (fun h3 => ?_) (fun h3 => ?_)
          · skip
            refine lv_iload S.1 S.2.1 dX4_result_75 (lv_at hl 1 rfl) ?_
            refine lv_bipush (v := (nI 41)) S.1 S.2.1 dX4_result_77 (by decide) ?_
            refine lv_icmp_ne (tgt := 121) S.1 S.2.1 dX4_result_79 rfl (fun h4 => ?_) (fun h4 => ?_)
            · skip
              refine lv_iload S.1 S.2.1 dX4_result_121 (lv_at hl 1 rfl) ?_
              refine lv_bipush (v := (nI 43)) S.1 S.2.1 dX4_result_123 (by decide) ?_
              refine lv_icmp_eq (tgt := 135) S.1 S.2.1 dX4_result_125 rfl (fun h5 => ?_) (fun h5 => ?_)
              · skip
                refine lv_aload_n S.1 S.2.1 dX4_result_135 rfl (lv_at hl 3 rfl) ?_
                refine x_get S hE (hM.1) (C := RX4) (T := TX4) (N := 3) rfl inlX4 1 (by decide) (v := .ref (a + 2)) rfl kw7_0 rfl dX4_result_136 ?_
                refine lv_aload_n S.1 S.2.1 dX4_result_139 rfl (lv_at hl 3 rfl) ?_
                refine x_get S hE (hM.1) (C := RX4) (T := TX4) (N := 3) rfl inlX4 2 (by decide) (v := .int y.2.2) rfl kw12_14 rfl dX4_result_140 ?_
                refine lv_iload S.1 S.2.1 dX4_result_143 (lv_at hl 1 rfl) ?_
                refine xk_V (x_runSN (As := [.ref (a + 2), .int y.2.2, .int (L.getD i 0)]) (rest := []) S hE hS (bk_eq (by decide)) (c_X7_put l E (a + 2) 7 y.2.1 y.2.2 (L.getD i 0) _ hM.2.2 (by decide)) kv_X7_put nw89 kw12_9 ⟨Nat.le_of_ble_eq_true rfl, Nat.le_of_ble_eq_true rfl⟩ rfl rfl rfl hl.1 rfl (Nat.le_of_ble_eq_true rfl) dX4_result_145 ⟨Nat.zero_le _, Nat.zero_le _⟩) hS (bk_eq (by decide)) (fun H locs hX hO1 hS => ?_)
                have hO := hO.tr hO1 (bk_eq (by decide))
                have hM : MixP E a (y.1, (xput y.2.1 7 y.2.2 (L.getD i 0)), y.2.2) H := ⟨va_at.kept hM.1 (hO1.2 _ (fun z => by have z : a = a + 2 := z; omega)), va_at.kept hM.2.1 (hO1.2 _ (fun z => by have z : a + 1 = a + 2 := z; omega)), hX⟩
                have hF := hF.fr (fun q z => hO1.2 q (fun y => by have y : q = a + 2 := y; obtain ⟨u, v⟩ := z; omega))
                have hSh := va_at.kept hSh (hO1.2 _ (fun y => by have y : s0 = a + 2 := y; omega))
                refine lv_iinc (k := 2) (v := (nI (i + 1))) S.1 S.2.1 dX4_result_148 hl rfl (iincP i 1) (by decide) rfl (fun ls hl => ?_)
                have hl : lv_has ls 7 [(3, .int (nI (i + 1))), (5, .int (pnOf (L.getD i 0))), (4, .int (L.getD i 0)), (0, .ref a), (1, .ref b), (2, .ref s0)] := hl
                refine lv_goto (tgt := 7) S.1 S.2.1 dX4_result_151 rfl ?_
                exact ih _ (by omega) (i + 1) (mxStep L sh y i (L.getD i 0)) _ _ ls rfl (by omega) (by rw [mxN, hv]) (by rw [mxStep, if_pos h2, if_neg h3, if_neg h4, if_pos (Or.inl h5)]; exact hM) (hF) (hSh) (hO) (hS) (lv_sub hl [0, 3, 4, 5] rfl)
              · skip
                refine lv_iload S.1 S.2.1 dX4_result_128 (lv_at hl 1 rfl) ?_
                refine lv_bipush (v := (nI 94)) S.1 S.2.1 dX4_result_130 (by decide) ?_
                refine lv_icmp_ne (tgt := 148) S.1 S.2.1 dX4_result_132 rfl (fun h6 => ?_) (fun h6 => ?_)
                · skip
                  refine lv_iinc (k := 2) (v := (nI (i + 1))) S.1 S.2.1 dX4_result_148 hl rfl (iincP i 1) (by decide) rfl (fun ls hl => ?_)
                  have hl : lv_has ls 7 [(3, .int (nI (i + 1))), (5, .int (pnOf (L.getD i 0))), (4, .int (L.getD i 0)), (0, .ref a), (1, .ref b), (2, .ref s0)] := hl
                  refine lv_goto (tgt := 7) S.1 S.2.1 dX4_result_151 rfl ?_
                  exact ih _ (by omega) (i + 1) (mxStep L sh y i (L.getD i 0)) _ _ ls rfl (by omega) (by rw [mxN, hv]) (by rw [mxStep, if_pos h2, if_neg h3, if_neg h4, if_neg (fun z => z.elim h5 h6)]; exact hM) (hF) (hSh) (hO) (hS) (lv_sub hl [0, 3, 4, 5] rfl)
                · skip
                  refine lv_aload_n S.1 S.2.1 dX4_result_135 rfl (lv_at hl 3 rfl) ?_
                  refine x_get S hE (hM.1) (C := RX4) (T := TX4) (N := 3) rfl inlX4 1 (by decide) (v := .ref (a + 2)) rfl kw7_0 rfl dX4_result_136 ?_
                  refine lv_aload_n S.1 S.2.1 dX4_result_139 rfl (lv_at hl 3 rfl) ?_
                  refine x_get S hE (hM.1) (C := RX4) (T := TX4) (N := 3) rfl inlX4 2 (by decide) (v := .int y.2.2) rfl kw12_14 rfl dX4_result_140 ?_
                  refine lv_iload S.1 S.2.1 dX4_result_143 (lv_at hl 1 rfl) ?_
                  refine xk_V (x_runSN (As := [.ref (a + 2), .int y.2.2, .int (L.getD i 0)]) (rest := []) S hE hS (bk_eq (by decide)) (c_X7_put l E (a + 2) 7 y.2.1 y.2.2 (L.getD i 0) _ hM.2.2 (by decide)) kv_X7_put nw89 kw12_9 ⟨Nat.le_of_ble_eq_true rfl, Nat.le_of_ble_eq_true rfl⟩ rfl rfl rfl hl.1 rfl (Nat.le_of_ble_eq_true rfl) dX4_result_145 ⟨Nat.zero_le _, Nat.zero_le _⟩) hS (bk_eq (by decide)) (fun H locs hX hO1 hS => ?_)
                  have hO := hO.tr hO1 (bk_eq (by decide))
                  have hM : MixP E a (y.1, (xput y.2.1 7 y.2.2 (L.getD i 0)), y.2.2) H := ⟨va_at.kept hM.1 (hO1.2 _ (fun z => by have z : a = a + 2 := z; omega)), va_at.kept hM.2.1 (hO1.2 _ (fun z => by have z : a + 1 = a + 2 := z; omega)), hX⟩
                  have hF := hF.fr (fun q z => hO1.2 q (fun y => by have y : q = a + 2 := y; obtain ⟨u, v⟩ := z; omega))
                  have hSh := va_at.kept hSh (hO1.2 _ (fun y => by have y : s0 = a + 2 := y; omega))
                  refine lv_iinc (k := 2) (v := (nI (i + 1))) S.1 S.2.1 dX4_result_148 hl rfl (iincP i 1) (by decide) rfl (fun ls hl => ?_)
                  have hl : lv_has ls 7 [(3, .int (nI (i + 1))), (5, .int (pnOf (L.getD i 0))), (4, .int (L.getD i 0)), (0, .ref a), (1, .ref b), (2, .ref s0)] := hl
                  refine lv_goto (tgt := 7) S.1 S.2.1 dX4_result_151 rfl ?_
                  exact ih _ (by omega) (i + 1) (mxStep L sh y i (L.getD i 0)) _ _ ls rfl (by omega) (by rw [mxN, hv]) (by rw [mxStep, if_pos h2, if_neg h3, if_neg h4, if_pos (Or.inr h6)]; exact hM) (hF) (hSh) (hO) (hS) (lv_sub hl [0, 3, 4, 5] rfl)
            · skip
              refine lv_aload_n S.1 S.2.1 dX4_result_82 rfl (lv_at hl 3 rfl) ?_
              refine x_get S hE (hM.1) (C := RX4) (T := TX4) (N := 3) rfl inlX4 0 (by decide) (v := .ref (a + 1)) rfl kw6_23 rfl dX4_result_83 ?_
              refine lv_aload_n S.1 S.2.1 dX4_result_86 rfl (lv_at hl 3 rfl) ?_
              refine x_get S hE (hM.1) (C := RX4) (T := TX4) (N := 3) rfl inlX4 2 (by decide) (v := .int y.2.2) rfl kw12_14 rfl dX4_result_87 ?_
              refine xk_R (v := (xat y.1 7 y.2.2)) (x_runSN (As := [.ref (a + 1), .int y.2.2]) (rest := []) S hE hS (fun _ h => h.elim) (c_X7_at l E (a + 1) 7 y.1 y.2.2 _ (xr_i hM.2.1) (by decide)) kv_X7_at nw92 kw8_2 ⟨Nat.le_of_ble_eq_true rfl, Nat.le_of_ble_eq_true rfl⟩ rfl rfl rfl hl.1 rfl (Nat.le_of_ble_eq_true rfl) dX4_result_90 ⟨Nat.zero_le _, Nat.zero_le _⟩) ?_
              refine lv_istore S.1 S.2.1 dX4_result_93 hl (by decide) rfl (fun ls hl => ?_)
              have hl : lv_has ls 7 [(6, .int (xat y.1 7 y.2.2)), (5, .int (pnOf (L.getD i 0))), (4, .int (L.getD i 0)), (3, .int (nI i)), (0, .ref a), (1, .ref b), (2, .ref s0)] := hl
              refine lv_aload_n S.1 S.2.1 dX4_result_95 rfl (lv_at hl 4 rfl) ?_
              refine lv_dup S.1 S.2.1 dX4_result_96 rfl ?_
              refine x_get S hE (hM.1) (C := RX4) (T := TX4) (N := 3) rfl inlX4 2 (by decide) (v := .int y.2.2) rfl kw12_14 rfl dX4_result_97 ?_
              refine lv_iconst (v := (nI 1)) S.1 S.2.1 dX4_result_100 (by decide) ?_
              refine lv_isub S.1 S.2.1 dX4_result_101 ?_
              refine x_put S hE hS (bk1 (by omega)) (hM.1) (C := RX4) (T := TX4) (N := 3) rfl inlX4 tyX4 tyX4_ok nmX4 2 (by decide) (Nat.le_of_ble_eq_true rfl) kw12_14 rfl rfl (v := .int (y.2.2 - (nI 1))) rfl rfl dX4_result_102 (fun H locs hX hO1 hS => ?_)
              have hO := hO.tr hO1 (fun q z => by subst z; exact bk1 (by omega))
              have hM : MixP E a (y.1, y.2.1, (y.2.2 - (nI 1))) H := ⟨hX, va_at.kept hM.2.1 (hO1.2 _ (fun z => by have z : a + 1 = a := z; omega)), va_at.kept hM.2.2 (hO1.2 _ (fun z => by have z : a + 2 = a := z; omega))⟩
              have hF := hF.fr (fun q z => hO1.2 q (fun y => by have y : q = a := y; obtain ⟨u, v⟩ := z; omega))
              have hSh := va_at.kept hSh (hO1.2 _ (fun y => by have y : s0 = a := y; omega))
              refine lv_aload_n S.1 S.2.1 dX4_result_105 rfl (lv_at hl 4 rfl) ?_
              refine lv_aload_n S.1 S.2.1 dX4_result_106 rfl (lv_at hl 5 rfl) ?_
              refine lv_iload_n S.1 S.2.1 dX4_result_107 rfl (lv_at hl 3 rfl) ?_
              refine lv_iconst (v := (nI 1)) S.1 S.2.1 dX4_result_108 (by decide) ?_
              refine lv_iadd S.1 S.2.1 dX4_result_109 ?_
              refine x_top (y := (nI (i + 1))) (nI_add i 1) ?_
              refine lv_iload S.1 S.2.1 dX4_result_110 (lv_at hl 0 rfl) ?_
              refine xk_R (v := (mxTimes L (nI (i + 1)) (xat y.1 7 y.2.2))) (x_runS (As := [.ref b, .int (nI (i + 1)), .int (xat y.1 7 y.2.2)]) (rest := [.ref a]) S hE hS (fun _ h => h.elim) (c_X4_times l E b L (nI (i + 1)) (xat y.1 7 y.2.2) _ hF) kv_X4_times kw15_8 kw15_9 ⟨Nat.le_of_ble_eq_true rfl, Nat.le_of_ble_eq_true rfl⟩ rfl rfl rfl hl.1 rfl (Nat.le_of_ble_eq_true rfl) dX4_result_112 ⟨Nat.zero_le _, Nat.zero_le _⟩) ?_
              refine xk_V (x_runV (As := [.int (mxTimes L (nI (i + 1)) (xat y.1 7 y.2.2))]) (rest := []) S hE hS (fun q z => z) (c_X4_join l E a (y.1, y.2.1, (y.2.2 - (nI 1))) (mxTimes L (nI (i + 1)) (xat y.1 7 y.2.2)) _ hM) kv_X4_join kw15_13 kw15_14 kw15_15 (x_recv hE (hM.1) (ci := 4) rfl) ⟨Nat.le_of_ble_eq_true rfl, Nat.le_of_ble_eq_true rfl⟩ rfl rfl rfl hl.1 rfl (Nat.le_of_ble_eq_true rfl) dX4_result_115 ⟨Nat.zero_le _, Nat.zero_le _⟩) hS (fun q z => z) (fun H locs hX hO1 hS => ?_)
              have hO := hO.tr hO1 (fun q z => z)
              have hM : MixP E a (mxJoin (y.1, y.2.1, (y.2.2 - (nI 1))) (mxTimes L (nI (i + 1)) (xat y.1 7 y.2.2))) H := hX
              have hF := hF.fr (fun q z => hO1.2 q (fun y => by obtain ⟨u, v⟩ := z; obtain ⟨u', v'⟩ := y; omega))
              have hSh := va_at.kept hSh (hO1.2 _ (fun y => by obtain ⟨u', v'⟩ := y; omega))
              refine lv_goto (tgt := 148) S.1 S.2.1 dX4_result_118 rfl ?_
              refine lv_iinc (k := 3) (v := (nI (i + 1))) S.1 S.2.1 dX4_result_148 hl rfl (iincP i 1) (by decide) rfl (fun ls hl => ?_)
              have hl : lv_has ls 7 [(3, .int (nI (i + 1))), (6, .int (xat y.1 7 y.2.2)), (5, .int (pnOf (L.getD i 0))), (4, .int (L.getD i 0)), (0, .ref a), (1, .ref b), (2, .ref s0)] := hl
              refine lv_goto (tgt := 7) S.1 S.2.1 dX4_result_151 rfl ?_
              exact ih _ (by omega) (i + 1) (mxStep L sh y i (L.getD i 0)) _ _ ls rfl (by omega) (by rw [mxN, hv]) (by rw [mxStep, if_pos h2, if_neg h3, if_pos h4]; exact hM) (hF) (hSh) (hO) (hS) (lv_sub hl [0, 4, 5, 6] rfl)
          · skip
            refine lv_aload_n S.1 S.2.1 dX4_result_62 rfl (lv_at hl 3 rfl) ?_
            refine lv_aload_n S.1 S.2.1 dX4_result_63 rfl (lv_at hl 3 rfl) ?_
            refine x_get S hE (hM.1) (C := RX4) (T := TX4) (N := 3) rfl inlX4 2 (by decide) (v := .int y.2.2) rfl kw12_14 rfl dX4_result_64 ?_
            refine lv_iconst (v := (nI 1)) S.1 S.2.1 dX4_result_67 (by decide) ?_
            refine lv_iadd S.1 S.2.1 dX4_result_68 ?_
            refine xk_V (x_runV (As := [.int (y.2.2 + (nI 1))]) (rest := []) S hE hS (fun q z => z) (c_X4_begin l E a y (y.2.2 + (nI 1)) _ hM) kv_X4_begin kw12_15 kw12_16 kw12_17 (x_recv hE (hM.1) (ci := 4) rfl) ⟨Nat.le_of_ble_eq_true rfl, Nat.le_of_ble_eq_true rfl⟩ rfl rfl rfl hl.1 rfl (Nat.le_of_ble_eq_true rfl) dX4_result_69 ⟨Nat.zero_le _, Nat.zero_le _⟩) hS (fun q z => z) (fun H locs hX hO1 hS => ?_)
            have hO := hO.tr hO1 (fun q z => z)
            have hM : MixP E a (mxBegin y (y.2.2 + (nI 1))) H := hX
            have hF := hF.fr (fun q z => hO1.2 q (fun y => by obtain ⟨u, v⟩ := z; obtain ⟨u', v'⟩ := y; omega))
            have hSh := va_at.kept hSh (hO1.2 _ (fun y => by obtain ⟨u', v'⟩ := y; omega))
            refine lv_goto (tgt := 148) S.1 S.2.1 dX4_result_72 rfl ?_
            refine lv_iinc (k := 2) (v := (nI (i + 1))) S.1 S.2.1 dX4_result_148 hl rfl (iincP i 1) (by decide) rfl (fun ls hl => ?_)
            have hl : lv_has ls 7 [(3, .int (nI (i + 1))), (5, .int (pnOf (L.getD i 0))), (4, .int (L.getD i 0)), (0, .ref a), (1, .ref b), (2, .ref s0)] := hl
            refine lv_goto (tgt := 7) S.1 S.2.1 dX4_result_151 rfl ?_
            exact ih _ (by omega) (i + 1) (mxStep L sh y i (L.getD i 0)) _ _ ls rfl (by omega) (by rw [mxN, hv]) (by rw [mxStep, if_pos h2, if_pos h3]; exact hM) (hF) (hSh) (hO) (hS) (lv_sub hl [0, 3, 4, 5] rfl)
        · skip
          refine lv_aload_n S.1 S.2.1 dX4_result_35 rfl (lv_at hl 3 rfl) ?_
          refine lv_aload_n S.1 S.2.1 dX4_result_36 rfl (lv_at hl 4 rfl) ?_
          refine lv_iload_n S.1 S.2.1 dX4_result_37 rfl (lv_at hl 2 rfl) ?_
          refine lv_iconst (v := (nI 1)) S.1 S.2.1 dX4_result_38 (by decide) ?_
          refine lv_iadd S.1 S.2.1 dX4_result_39 ?_
          refine x_top (y := (nI (i + 1))) (nI_add i 1) ?_
          refine lv_aload_n S.1 S.2.1 dX4_result_40 rfl (lv_at hl 5 rfl) ?_
          refine lv_iload S.1 S.2.1 dX4_result_41 (lv_at hl 0 rfl) ?_
          refine xk_R (v := (xat sh 4 (pnOf (L.getD i 0)))) (x_runSN (As := [.ref s0, .int (pnOf (L.getD i 0))]) (rest := [.int (nI (i + 1)), .ref b, .ref a]) S hE hS (fun _ h => h.elim) (c_X7_at l E s0 4 sh (pnOf (L.getD i 0)) _ (xr_i hSh) (by decide)) kv_X7_at nw92 kw8_2 ⟨Nat.le_of_ble_eq_true rfl, Nat.le_of_ble_eq_true rfl⟩ rfl rfl rfl hl.1 rfl (Nat.le_of_ble_eq_true rfl) dX4_result_43 ⟨Nat.zero_le _, Nat.zero_le _⟩) ?_
          refine xk_R (v := (mxTimes L (nI (i + 1)) (xat sh 4 (pnOf (L.getD i 0))))) (x_runS (As := [.ref b, .int (nI (i + 1)), .int (xat sh 4 (pnOf (L.getD i 0)))]) (rest := [.ref a]) S hE hS (fun _ h => h.elim) (c_X4_times l E b L (nI (i + 1)) (xat sh 4 (pnOf (L.getD i 0))) _ hF) kv_X4_times kw15_8 kw15_9 ⟨Nat.le_of_ble_eq_true rfl, Nat.le_of_ble_eq_true rfl⟩ rfl rfl rfl hl.1 rfl (Nat.le_of_ble_eq_true rfl) dX4_result_46 ⟨Nat.zero_le _, Nat.zero_le _⟩) ?_
          refine xk_V (x_runV (As := [.int (mxTimes L (nI (i + 1)) (xat sh 4 (pnOf (L.getD i 0))))]) (rest := []) S hE hS (fun q z => z) (c_X4_join l E a y (mxTimes L (nI (i + 1)) (xat sh 4 (pnOf (L.getD i 0)))) _ hM) kv_X4_join kw15_13 kw15_14 kw15_15 (x_recv hE (hM.1) (ci := 4) rfl) ⟨Nat.le_of_ble_eq_true rfl, Nat.le_of_ble_eq_true rfl⟩ rfl rfl rfl hl.1 rfl (Nat.le_of_ble_eq_true rfl) dX4_result_49 ⟨Nat.zero_le _, Nat.zero_le _⟩) hS (fun q z => z) (fun H locs hX hO1 hS => ?_)
          have hO := hO.tr hO1 (fun q z => z)
          have hM : MixP E a (mxJoin y (mxTimes L (nI (i + 1)) (xat sh 4 (pnOf (L.getD i 0))))) H := hX
          have hF := hF.fr (fun q z => hO1.2 q (fun y => by obtain ⟨u, v⟩ := z; obtain ⟨u', v'⟩ := y; omega))
          have hSh := va_at.kept hSh (hO1.2 _ (fun y => by obtain ⟨u', v'⟩ := y; omega))
          refine lv_goto (tgt := 148) S.1 S.2.1 dX4_result_52 rfl ?_
          refine lv_iinc (k := 2) (v := (nI (i + 1))) S.1 S.2.1 dX4_result_148 hl rfl (iincP i 1) (by decide) rfl (fun ls hl => ?_)
          have hl : lv_has ls 7 [(3, .int (nI (i + 1))), (5, .int (pnOf (L.getD i 0))), (4, .int (L.getD i 0)), (0, .ref a), (1, .ref b), (2, .ref s0)] := hl
          refine lv_goto (tgt := 7) S.1 S.2.1 dX4_result_151 rfl ?_
          exact ih _ (by omega) (i + 1) (mxStep L sh y i (L.getD i 0)) _ _ ls rfl (by omega) (by rw [mxN, hv]) (by rw [mxStep, if_neg h2]; exact hM) (hF) (hSh) (hO) (hS) (lv_sub hl [0, 3, 4, 5] rfl)
  exact hloop7 _ 0 (mxBegin z (nI 0)) _ _ ls rfl (Nat.zero_le _) (rfl) (hM) (hF) (hSh) (hO) (hS) (lv_sub hl [0, 1, 2, 3] rfl)
