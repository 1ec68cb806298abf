/-! 06.line: walks, by program -/
def LinP (E : XE) (a N : Nat) (L : List Int32) (H : Heap) : Prop := XO E a 3 [.ref (a + 1), .int (nI L.length)] H ∧ L.length ≤ N ∧ ∃ f : Nat → Int32, XI E (a + 1) N f H ∧ ∀ j, j < L.length → f j = L.getD j 0
theorem LinP.fr {E : XE} {a N : Nat} {L : List Int32} {H H1 : Heap} (h : LinP E a N L H) (hq : ∀ q, bk a 2 q → H1[q]? = H[q]?) : LinP E a N L H1 := by
  obtain ⟨h1, h2, f, h3, h4⟩ := h
  exact ⟨va_at.kept h1 (hq a ⟨Nat.le_refl _, by omega⟩), h2, f, va_at.kept h3 (hq (a + 1) ⟨by omega, by omega⟩), h4⟩
def lnAt (L : List Int32) (i : Int32) : Int32 := if 0 ≤ i ∧ i < nI L.length then L.getD i.toNatClampNeg 0 else (-1)
def lnIxF (c : Int32) : List Int32 → Nat → Int32
  | [], _ => (-1)
  | b :: l, k => if b = c then nI k else lnIxF c l (k + 1)
def lnApp (N : Nat) (L : List Int32) (x : Int32) : List Int32 := if L.length < N then L ++ [x] else L
def lnRem (L : List Int32) (x : Int32) : List Int32 := L.filter (fun y => decide (¬ y = x))
theorem xat_L {N : Nat} {L : List Int32} {f : Nat → Int32} (hN : N < 2 ^ 31) (hL : L.length ≤ N) (hf : ∀ j, j < L.length → f j = L.getD j 0) {j : Nat} (hj : j < L.length) : xat f N (nI j) = L.getD j 0 := by
  rw [xat_nI hN (by omega), hf j hj]
theorem lnAt_in {L : List Int32} {i : Int32} {N : Nat} {f : Nat → Int32} (hN : N < 2 ^ 31) (hL : L.length ≤ N) (hf : ∀ j, j < L.length → f j = L.getD j 0) (h0 : ¬ i < 0) (h1 : ¬ nI L.length ≤ i) : xat f N i = lnAt L i := by
  obtain ⟨j, hj, rfl⟩ := nI_of h0
  have hjL : j < L.length := by
    rcases Nat.lt_or_ge j L.length with h | h
    · exact h
    · exact absurd (nI_le h hj) h1
  rw [xat_L hN hL hf hjL, lnAt, if_pos ⟨nI_pos' hj, nI_lt hjL (by omega)⟩, nI_clamp hj]
theorem lnAt_nI {L : List Int32} {j : Nat} (hj : j < L.length) (hL : L.length < 2 ^ 31) : lnAt L (nI j) = L.getD j 0 := by
  rw [lnAt, if_pos ⟨nI_pos' (by omega), nI_lt hj hL⟩, nI_clamp (by omega)]
theorem drop_cons {L : List Int32} {i : Nat} (h : i < L.length) : L.drop i = L.getD i 0 :: L.drop (i + 1) := by
  rw [List.drop_eq_getElem_cons h, List.getD_eq_getElem?_getD, List.getElem?_eq_getElem h]; rfl
theorem lnIx_s {L : List Int32} {i : Nat} {c : Int32} (h : i < L.length) : lnIxF c (L.drop i) i = if L.getD i 0 = c then nI i else lnIxF c (L.drop (i + 1)) (i + 1) := by
  rw [drop_cons h, lnIxF]
theorem take_s {L : List Int32} {i : Nat} (h : i < L.length) : L.take (i + 1) = L.take i ++ [L.getD i 0] := by
  rw [List.take_succ, List.getD_eq_getElem?_getD, List.getElem?_eq_getElem h]; rfl
theorem lnRem_s {L : List Int32} {i : Nat} {x : Int32} (h : i < L.length) : lnRem (L.take (i + 1)) x = if L.getD i 0 = x then lnRem (L.take i) x else lnRem (L.take i) x ++ [L.getD i 0] := by
  rw [take_s h, lnRem, List.filter_append]
  by_cases e : L.getD i 0 = x
  · rw [if_pos e, e]; simp [lnRem]
  · rw [if_neg e]; simp [lnRem]; intro z; exact absurd z e
theorem lnRem_le (L : List Int32) (x : Int32) : (lnRem L x).length ≤ L.length := List.length_filter_le _ _
theorem ge_of_le {a b : Nat} (ha : a < 2 ^ 31) (hb : b < 2 ^ 31) (h : nI a ≤ nI b) : a ≤ b := (nI_leI ha hb).mp h
theorem lt_of_nle {a b : Nat} (ha : a < 2 ^ 31) (hb : b < 2 ^ 31) (h : ¬ nI a ≤ nI b) : b < a := by
  rcases Nat.lt_or_ge b a with q | q
  · exact q
  · exact absurd (nI_le q hb) h
theorem bk1 {a n : Nat} (hn : 0 < n) : bk a n a := ⟨Nat.le_refl _, by omega⟩
theorem bkk {a n k : Nat} (hn : k < n) : bk a n (a + k) := ⟨by omega, by omega⟩
theorem getD_app_lt {L : List Int32} {x : Int32} {j : Nat} (h : j < L.length) : (L ++ [x]).getD j 0 = L.getD j 0 := by
  rw [List.getD_eq_getElem?_getD, List.getD_eq_getElem?_getD, List.getElem?_append_left h]
theorem getD_app_eq {L : List Int32} {x : Int32} : (L ++ [x]).getD L.length 0 = x := by
  rw [List.getD_eq_getElem?_getD, List.getElem?_append_right (Nat.le_refl _)]; simp
theorem xcpy_L {N : Nat} {L : List Int32} {f g : Nat → Int32} (hN : N < 2 ^ 31) (hL : L.length ≤ N) (hf : ∀ j, j < L.length → f j = L.getD j 0) : ∀ j, j < L.length → xcpy f N g N (nI L.length) j = L.getD j 0 := by
  intro j hj
  rw [xcpy, if_pos ⟨by have := nI_lt (a := 0) (b := L.length) (by omega) (by omega); rwa [nI_0] at this, nI_le hL hN, nI_le hL hN⟩, nI_clamp (by omega), pk_cpy_in (Nat.zero_le _) (by omega)]
  rw [← hf j hj]; congr 1; omega
abbrev rm_X3_noteAt : Room := ({ frames := 1, cells := 0, slots := 0, locals := 21 } : Room)
set_option maxRecDepth 100000 in
set_option maxHeartbeats 600000 in
theorem c_X3_noteAt (l : Launch) (E : XE) (a N : Nat) (L : List Int32) (i : Int32) (H : Heap) (hP : LinP E a N L H) (hN : N < 2 ^ 31) : Rd l E yX3_noteAt cX3_noteAt 2 (some .int) rm_X3_noteAt [.ref a, .int i] H (lnAt L i) := by
  refine met_of (by decide) (Nat.le_of_ble_eq_true rfl) (fun p e s m args below meth c hBD Q hQ ls hl => ?_)
  obtain ⟨S, hr, hlk, hnm, hE, hH⟩ := hBD
  subst hH
  have hl : lv_has ls 2 [(0, .ref a), (1, .int i)] := hl
  have hS : va_S (fun _ => False) s.heap s.heap [] := va_S.rf
  obtain ⟨ho, hL, f, hf0, hf⟩ := hP
  refine lv_iload_n S.1 S.2.1 dX3_noteAt_0 rfl (lv_at hl 1 rfl) ?_
  refine lv_if_lt (tgt := 23) S.1 S.2.1 dX3_noteAt_1 rfl (fun h1 => ?_) (fun h1 => ?_)
  · skip
    refine lv_iconst (v := (-1)) S.1 S.2.1 dX3_noteAt_23 (by decide) ?_
    subst hQ
    exact x_retR S hr hlk (rfl) (by rw [lnAt, if_neg (fun z => by first | exact absurd h1 (Int32.not_lt.mpr z.1) | exact absurd h2 (Int32.not_le.mpr z.2))]) dX3_noteAt_24
  · skip
    refine lv_iload_n S.1 S.2.1 dX3_noteAt_4 rfl (lv_at hl 1 rfl) ?_
    refine lv_aload_n S.1 S.2.1 dX3_noteAt_5 rfl (lv_at hl 0 rfl) ?_
    refine x_get S hE (ho) (C := RX3) (T := TX3) (N := 2) rfl inlX3 1 (by decide) (v := .int (nI L.length)) rfl kw8_17 rfl dX3_noteAt_6 ?_
    refine lv_icmp_ge (tgt := 23) S.1 S.2.1 dX3_noteAt_9 rfl (fun h2 => ?_) (fun h2 => ?_)
    · skip
      refine lv_iconst (v := (-1)) S.1 S.2.1 dX3_noteAt_23 (by decide) ?_
      subst hQ
      exact x_retR S hr hlk (rfl) (by rw [lnAt, if_neg (fun z => by first | exact absurd h1 (Int32.not_lt.mpr z.1) | exact absurd h2 (Int32.not_le.mpr z.2))]) dX3_noteAt_24
    · skip
      refine lv_aload_n S.1 S.2.1 dX3_noteAt_12 rfl (lv_at hl 0 rfl) ?_
      refine x_get S hE (ho) (C := RX3) (T := TX3) (N := 2) rfl inlX3 0 (by decide) (v := .ref (a + 1)) rfl kw3_19 rfl dX3_noteAt_13 ?_
      refine lv_iload_n S.1 S.2.1 dX3_noteAt_16 rfl (lv_at hl 1 rfl) ?_
      refine xk_R (v := (xat f N i)) (x_runSN (As := [.ref (a + 1), .int i]) (rest := []) S hE hS (fun _ h => h.elim) (c_X7_at l E (a + 1) N f i _ (xr_i hf0) hN) kv_X7_at nw48 kw8_2 ⟨Nat.le_of_ble_eq_true rfl, Nat.le_of_ble_eq_true rfl⟩ rfl rfl rfl hl.1 rfl (Nat.le_of_ble_eq_true rfl) dX3_noteAt_17 ⟨Nat.zero_le _, Nat.zero_le _⟩) ?_
      refine x_top (y := (lnAt L i)) (lnAt_in hN hL hf h1 h2) ?_
      refine lv_goto (tgt := 24) S.1 S.2.1 dX3_noteAt_20 rfl ?_
      subst hQ
      exact x_retR S hr hlk (rfl) (rfl) dX3_noteAt_24
abbrev rm_X3_indexOf : Room := ({ frames := 1, cells := 0, slots := 0, locals := 21 } : Room)
set_option maxRecDepth 100000 in
set_option maxHeartbeats 600000 in
theorem c_X3_indexOf (l : Launch) (E : XE) (a N : Nat) (L : List Int32) (x : Int32) (H : Heap) (hP : LinP E a N L H) (hN : N < 2 ^ 31) : Rd l E yX3_indexOf cX3_indexOf 3 (some .int) rm_X3_indexOf [.ref a, .int x] H (lnIxF x L 0) := by
  refine met_of (by decide) (Nat.le_of_ble_eq_true rfl) (fun p e s m args below meth c hBD Q hQ ls hl => ?_)
  obtain ⟨S, hr, hlk, hnm, hE, hH⟩ := hBD
  subst hH
  have hl : lv_has ls 3 [(0, .ref a), (1, .int x)] := hl
  have hS : va_S (fun _ => False) s.heap s.heap [] := va_S.rf
  obtain ⟨ho, hL, f, hf0, hf⟩ := hP
  refine lv_iconst (v := (nI 0)) S.1 S.2.1 dX3_indexOf_0 (by decide) ?_
  refine lv_istore_n S.1 S.2.1 dX3_indexOf_1 rfl hl (by decide) rfl (fun ls hl => ?_)
  have hl : lv_has ls 3 [(2, .int (nI 0)), (0, .ref a), (1, .int x)] := hl
  have hloop2 : ∀ (d : Nat) (i : Nat) (ls : Array Slot), L.length - i = d → i ≤ L.length → lnIxF x L 0 = lnIxF x (L.drop i) i → lv_has ls 3 [(2, .int (nI i)), (0, .ref a), (1, .int x)] → W p l e rm_X3_indexOf s m args below meth c s.heap [] 0 0 Q (F0 m 2 ls []) := by
    intro d
    induction d using Nat.strongRecOn with
    | ind d ih =>
      intro i ls hd hi hv  hl
      refine lv_iload_n S.1 S.2.1 dX3_indexOf_2 rfl (lv_at hl 0 rfl) ?_
      refine lv_aload_n S.1 S.2.1 dX3_indexOf_3 rfl (lv_at hl 1 rfl) ?_
      refine x_get S hE (ho) (C := RX3) (T := TX3) (N := 2) rfl inlX3 1 (by decide) (v := .int (nI L.length)) rfl kw8_17 rfl dX3_indexOf_4 ?_
      refine lv_icmp_ge (tgt := 30) S.1 S.2.1 dX3_indexOf_7 rfl (fun h1 => ?_) (fun h1 => ?_)
      · skip
        refine lv_iconst (v := (-1)) S.1 S.2.1 dX3_indexOf_30 (by decide) ?_
        subst hQ
        exact x_retR S hr hlk (rfl) (by have hge := ge_of_le (by omega) (by omega) h1; rw [hv, List.drop_eq_nil_of_le hge]; rfl) dX3_indexOf_31
      · skip
        refine lv_aload_n S.1 S.2.1 dX3_indexOf_10 rfl (lv_at hl 1 rfl) ?_
        refine x_get S hE (ho) (C := RX3) (T := TX3) (N := 2) rfl inlX3 0 (by decide) (v := .ref (a + 1)) rfl kw3_19 rfl dX3_indexOf_11 ?_
        refine lv_iload_n S.1 S.2.1 dX3_indexOf_14 rfl (lv_at hl 0 rfl) ?_
        refine xk_R (v := (xat f N (nI i))) (x_runSN (As := [.ref (a + 1), .int (nI i)]) (rest := []) S hE hS (fun _ h => h.elim) (c_X7_at l E (a + 1) N f (nI i) _ (xr_i hf0) hN) kv_X7_at nw48 kw8_2 ⟨Nat.le_of_ble_eq_true rfl, Nat.le_of_ble_eq_true rfl⟩ rfl rfl rfl hl.1 rfl (Nat.le_of_ble_eq_true rfl) dX3_indexOf_15 ⟨Nat.zero_le _, Nat.zero_le _⟩) ?_
        refine x_top (y := (L.getD i 0)) (xat_L hN hL hf (lt_of_nle (by omega) (by omega) h1)) ?_
        refine lv_iload_n S.1 S.2.1 dX3_indexOf_18 rfl (lv_at hl 2 rfl) ?_
        refine lv_icmp_ne (tgt := 24) S.1 S.2.1 dX3_indexOf_19 rfl (fun h2 => ?_) (fun h2 => ?_)
        · skip
          refine lv_iinc (k := 0) (v := (nI (i + 1))) S.1 S.2.1 dX3_indexOf_24 hl rfl (iincP i 1) (by decide) rfl (fun ls hl => ?_)
          have hl : lv_has ls 3 [(2, .int (nI (i + 1))), (0, .ref a), (1, .int x)] := hl
          refine lv_goto (tgt := 2) S.1 S.2.1 dX3_indexOf_27 rfl ?_
          have hlt := lt_of_nle (by omega) (by omega) h1
          exact ih _ (by omega) (i + 1) ls rfl (by omega) (by rw [hv, lnIx_s hlt, if_neg h2])  (lv_sub hl [0, 1, 2] rfl)
        · skip
          refine lv_iload_n S.1 S.2.1 dX3_indexOf_22 rfl (lv_at hl 0 rfl) ?_
          subst hQ
          exact x_retR S hr hlk (rfl) (by have hlt := lt_of_nle (by omega) (by omega) h1; rw [hv, lnIx_s hlt, if_pos h2]) dX3_indexOf_23
  exact hloop2 _ 0 ls rfl (Nat.zero_le _) (rfl)  (lv_sub hl [0, 1, 2] rfl)
abbrev rm_X3_append : Room := ({ frames := 1, cells := 0, slots := 0, locals := 22 } : Room)
set_option maxRecDepth 100000 in
set_option maxHeartbeats 600000 in
theorem c_X3_append (l : Launch) (E : XE) (a N : Nat) (L : List Int32) (x : Int32) (H : Heap) (hP : LinP E a N L H) (hN : N < 2 ^ 31) : Wv l E yX3_append cX3_append 2 rm_X3_append [.ref a, .int x] H (bk a 2) (LinP E a N (lnApp N L x)) := by
  refine met_of (by decide) (Nat.le_of_ble_eq_true rfl) (fun p e s m args below meth c hBD Q hQ ls hl => ?_)
  obtain ⟨S, hr, hlk, hnm, hE, hH⟩ := hBD
  subst hH
  have hl : lv_has ls 2 [(0, .ref a), (1, .int x)] := hl
  have hO : Out (bk a 2) s.heap s.heap := Out.rf
  have hS : va_S (bk a 2) s.heap s.heap [] := va_S.rf
  obtain ⟨ho, hL, f, hf0, hf⟩ := hP
  have hX0 := hf0
  refine lv_aload_n S.1 S.2.1 dX3_append_0 rfl (lv_at hl 0 rfl) ?_
  refine x_get S hE (ho) (C := RX3) (T := TX3) (N := 2) rfl inlX3 1 (by decide) (v := .int (nI L.length)) rfl kw8_17 rfl dX3_append_1 ?_
  refine lv_aload_n S.1 S.2.1 dX3_append_4 rfl (lv_at hl 0 rfl) ?_
  refine x_get S hE (ho) (C := RX3) (T := TX3) (N := 2) rfl inlX3 0 (by decide) (v := .ref (a + 1)) rfl kw3_19 rfl dX3_append_5 ?_
  refine x_alenI S hE hf0 hN dX3_append_8 ?_
  refine lv_icmp_ge (tgt := 34) S.1 S.2.1 dX3_append_9 rfl (fun h1 => ?_) (fun h1 => ?_)
  · skip
    subst hQ
    refine x_retV S hr hlk hS hO ?_ dX3_append_34
    exact by have hge := ge_of_le hN (by omega) h1; rw [lnApp, if_neg (by omega)]; exact ⟨ho, hL, f, hf0, hf⟩
  · skip
    refine lv_aload_n S.1 S.2.1 dX3_append_12 rfl (lv_at hl 0 rfl) ?_
    refine x_get S hE (ho) (C := RX3) (T := TX3) (N := 2) rfl inlX3 0 (by decide) (v := .ref (a + 1)) rfl kw3_19 rfl dX3_append_13 ?_
    refine lv_aload_n S.1 S.2.1 dX3_append_16 rfl (lv_at hl 0 rfl) ?_
    refine x_get S hE (ho) (C := RX3) (T := TX3) (N := 2) rfl inlX3 1 (by decide) (v := .int (nI L.length)) rfl kw8_17 rfl dX3_append_17 ?_
    refine lv_iload_n S.1 S.2.1 dX3_append_20 rfl (lv_at hl 1 rfl) ?_
    refine xk_V (x_runSN (As := [.ref (a + 1), .int (nI L.length), .int x]) (rest := []) S hE hS (fun q h => by rw [h]; exact bkk (by omega)) (c_X7_put l E (a + 1) N f (nI L.length) x _ hf0 hN) kv_X7_put nw72 kw12_9 ⟨Nat.le_of_ble_eq_true rfl, Nat.le_of_ble_eq_true rfl⟩ rfl rfl rfl hl.1 rfl (Nat.le_of_ble_eq_true rfl) dX3_append_21 ⟨Nat.zero_le _, Nat.zero_le _⟩) hS (fun q h => by rw [h]; exact bkk (by omega)) (fun H locs hX hO1 hS => ?_)
    have ho := va_at.kept ho (hO1.2 a (fun z => by have z : a = a + 1 := z; omega))
    have hO := hO.tr hO1 (fun q h => by rw [h]; exact bkk (by omega))
    have hX0 : XI E (a + 1) N (xput f N (nI L.length) x) H := hX
    refine lv_aload_n S.1 S.2.1 dX3_append_24 rfl (lv_at hl 0 rfl) ?_
    refine lv_dup S.1 S.2.1 dX3_append_25 rfl ?_
    refine x_get S hE (ho) (C := RX3) (T := TX3) (N := 2) rfl inlX3 1 (by decide) (v := .int (nI L.length)) rfl kw8_17 rfl dX3_append_26 ?_
    refine lv_iconst (v := (nI 1)) S.1 S.2.1 dX3_append_29 (by decide) ?_
    refine lv_iadd S.1 S.2.1 dX3_append_30 ?_
    refine x_top (y := (nI (L.length + 1))) (nI_add L.length 1) ?_
    refine x_put S hE hS (bk1 (by omega)) (ho) (C := RX3) (T := TX3) (N := 2) rfl inlX3 tyX3 tyX3_ok nmX3 1 (by decide) (Nat.le_of_ble_eq_true rfl) kw8_17 rfl rfl (v := .int (nI (L.length + 1))) rfl rfl dX3_append_31 (fun H locs hX hO1 hS => ?_)
    have hf0 := va_at.kept hX0 (hO1.2 (a + 1) (fun z => by have z : a + 1 = a := z; omega))
    have hO := hO.tr hO1 (fun q h => by rw [h]; exact bk1 (by omega))
    subst hQ
    refine x_retV S hr hlk hS hO ?_ dX3_append_34
    exact by have hlt := lt_of_nle hN (by omega) h1; rw [lnApp, if_pos hlt]; exact ⟨by rw [List.length_append]; exact hX, by rw [List.length_append]; exact hlt, _, hf0, fun j hj => by rw [List.length_append] at hj; rw [xput_nI hN hlt]; exact (Nat.lt_or_ge j L.length).elim (fun q => by rw [pk_un (by omega), hf j q, getD_app_lt q]) (fun q => by have e : j = L.length := (by simp at hj; omega); rw [e, pk_us, getD_app_eq])⟩
abbrev rm_X3_removeNote : Room := ({ frames := 1, cells := 0, slots := 0, locals := 22 } : Room)
set_option maxRecDepth 100000 in
set_option maxHeartbeats 600000 in
theorem c_X3_removeNote (l : Launch) (E : XE) (a N : Nat) (L : List Int32) (x : Int32) (H : Heap) (hP : LinP E a N L H) (hN : N < 2 ^ 31) : Wv l E yX3_removeNote cX3_removeNote 6 rm_X3_removeNote [.ref a, .int x] H (bk a 2) (LinP E a N (lnRem L x)) := by
  refine met_of (by decide) (Nat.le_of_ble_eq_true rfl) (fun p e s m args below meth c hBD Q hQ ls hl => ?_)
  obtain ⟨S, hr, hlk, hnm, hE, hH⟩ := hBD
  subst hH
  have hl : lv_has ls 6 [(0, .ref a), (1, .int x)] := hl
  have hO : Out (bk a 2) s.heap s.heap := Out.rf
  have hS : va_S (bk a 2) s.heap s.heap [] := va_S.rf
  obtain ⟨ho, hL, f, hf0, hf⟩ := hP
  refine lv_iconst (v := (nI 0)) S.1 S.2.1 dX3_removeNote_0 (by decide) ?_
  refine lv_istore_n S.1 S.2.1 dX3_removeNote_1 rfl hl (by decide) rfl (fun ls hl => ?_)
  have hl : lv_has ls 6 [(2, .int (nI 0)), (0, .ref a), (1, .int x)] := hl
  refine lv_aload_n S.1 S.2.1 dX3_removeNote_2 rfl (lv_at hl 1 rfl) ?_
  refine x_get S hE (ho) (C := RX3) (T := TX3) (N := 2) rfl inlX3 1 (by decide) (v := .int (nI L.length)) rfl kw8_17 rfl dX3_removeNote_3 ?_
  refine lv_istore_n S.1 S.2.1 dX3_removeNote_6 rfl hl (by decide) rfl (fun ls hl => ?_)
  have hl : lv_has ls 6 [(3, .int (nI L.length)), (2, .int (nI 0)), (0, .ref a), (1, .int x)] := hl
  refine lv_iconst (v := (nI 0)) S.1 S.2.1 dX3_removeNote_7 (by decide) ?_
  refine lv_istore S.1 S.2.1 dX3_removeNote_8 hl (by decide) rfl (fun ls hl => ?_)
  have hl : lv_has ls 6 [(4, .int (nI 0)), (3, .int (nI L.length)), (2, .int (nI 0)), (0, .ref a), (1, .int x)] := hl
  have hloop10 : ∀ (d : Nat) (i : Nat) (g : Nat → Int32) (H : Heap) (locs : List Loc) (ls : Array Slot), L.length - i = d → i ≤ L.length → (∀ j, j < (lnRem (L.take i) x).length → g j = (lnRem (L.take i) x).getD j 0) → (∀ j, i ≤ j → j < L.length → g j = L.getD j 0) → XO E a 3 [.ref (a + 1), .int (nI L.length)] H → XI E (a + 1) N g H → Out (bk a 2) s.heap H → va_S (bk a 2) s.heap H locs → lv_has ls 6 [(4, .int (nI i)), (3, .int (nI L.length)), (2, .int (nI (lnRem (L.take i) x).length)), (0, .ref a), (1, .int x)] → W p l e rm_X3_removeNote s m args below meth c H locs 0 0 Q (F0 m 10 ls []) := by
    intro d
    induction d using Nat.strongRecOn with
    | ind d ih =>
      intro i g H locs ls hd hi hg1 hg2 ho hg0 hO hS hl
      refine lv_iload S.1 S.2.1 dX3_removeNote_10 (lv_at hl 0 rfl) ?_
      refine lv_iload_n S.1 S.2.1 dX3_removeNote_12 rfl (lv_at hl 1 rfl) ?_
      refine lv_icmp_ge (tgt := 52) S.1 S.2.1 dX3_removeNote_13 rfl (fun h1 => ?_) (fun h1 => ?_)
      · skip
        refine lv_aload_n S.1 S.2.1 dX3_removeNote_52 rfl (lv_at hl 3 rfl) ?_
        refine lv_iload_n S.1 S.2.1 dX3_removeNote_53 rfl (lv_at hl 2 rfl) ?_
        refine x_put S hE hS (bk1 (by omega)) (ho) (C := RX3) (T := TX3) (N := 2) rfl inlX3 tyX3 tyX3_ok nmX3 1 (by decide) (Nat.le_of_ble_eq_true rfl) kw8_17 rfl rfl (v := .int (nI (lnRem (L.take i) x).length)) rfl rfl dX3_removeNote_54 (fun H locs hX hO1 hS => ?_)
        have hg0 := va_at.kept hg0 (hO1.2 (a + 1) (fun z => by have z : a + 1 = a := z; omega))
        have hO := hO.tr hO1 (fun q h => by rw [h]; exact bk1 (by omega))
        subst hQ
        refine x_retV S hr hlk hS hO ?_ dX3_removeNote_57
        exact by have hge := ge_of_le (by omega) (by omega) h1; rw [List.take_of_length_le hge] at hX hg1; exact ⟨hX, Nat.le_trans (lnRem_le L x) hL, g, hg0, hg1⟩
      · skip
        have hlt := lt_of_nle (by omega) (by omega) h1
        refine lv_aload_n S.1 S.2.1 dX3_removeNote_16 rfl (lv_at hl 3 rfl) ?_
        refine x_get S hE (ho) (C := RX3) (T := TX3) (N := 2) rfl inlX3 0 (by decide) (v := .ref (a + 1)) rfl kw3_19 rfl dX3_removeNote_17 ?_
        refine lv_iload S.1 S.2.1 dX3_removeNote_20 (lv_at hl 0 rfl) ?_
        refine xk_R (v := (xat g N (nI i))) (x_runSN (As := [.ref (a + 1), .int (nI i)]) (rest := []) S hE hS (fun _ h => h.elim) (c_X7_at l E (a + 1) N g (nI i) _ (xr_i hg0) hN) kv_X7_at nw48 kw8_2 ⟨Nat.le_of_ble_eq_true rfl, Nat.le_of_ble_eq_true rfl⟩ rfl rfl rfl hl.1 rfl (Nat.le_of_ble_eq_true rfl) dX3_removeNote_22 ⟨Nat.zero_le _, Nat.zero_le _⟩) ?_
        refine x_top (y := (L.getD i 0)) (by rw [xat_nI hN (by omega)]; exact hg2 i (Nat.le_refl _) hlt) ?_
        refine lv_istore S.1 S.2.1 dX3_removeNote_25 hl (by decide) rfl (fun ls hl => ?_)
        have hl : lv_has ls 6 [(5, .int (L.getD i 0)), (4, .int (nI i)), (3, .int (nI L.length)), (2, .int (nI (lnRem (L.take i) x).length)), (0, .ref a), (1, .int x)] := hl
        refine lv_iload S.1 S.2.1 dX3_removeNote_27 (lv_at hl 0 rfl) ?_
        refine lv_iload_n S.1 S.2.1 dX3_removeNote_29 rfl (lv_at hl 5 rfl) ?_
        refine lv_icmp_eq (tgt := 46) S.1 S.2.1 dX3_removeNote_30 rfl (fun h2 => ?_) (fun h2 => ?_)
        · skip
          refine lv_iinc (k := 1) (v := (nI (i + 1))) S.1 S.2.1 dX3_removeNote_46 hl rfl (iincP i 1) (by decide) rfl (fun ls hl => ?_)
          have hl : lv_has ls 6 [(4, .int (nI (i + 1))), (5, .int (L.getD i 0)), (3, .int (nI L.length)), (2, .int (nI (lnRem (L.take i) x).length)), (0, .ref a), (1, .int x)] := hl
          refine lv_goto (tgt := 10) S.1 S.2.1 dX3_removeNote_49 rfl ?_
          have e1 : lnRem (L.take (i + 1)) x = lnRem (L.take i) x := by rw [lnRem_s hlt, if_pos h2]
          rw [← e1] at hl hg1
          exact ih _ (by omega) (i + 1) g _ _ ls rfl (by omega) (hg1) (fun j hj hj2 => hg2 j (by omega) hj2) (ho) (hg0) (hO) (hS) (lv_sub hl [0, 2, 3, 4, 5] rfl)
        · skip
          refine lv_aload_n S.1 S.2.1 dX3_removeNote_33 rfl (lv_at hl 4 rfl) ?_
          refine x_get S hE (ho) (C := RX3) (T := TX3) (N := 2) rfl inlX3 0 (by decide) (v := .ref (a + 1)) rfl kw3_19 rfl dX3_removeNote_34 ?_
          refine lv_iload_n S.1 S.2.1 dX3_removeNote_37 rfl (lv_at hl 3 rfl) ?_
          refine lv_iload S.1 S.2.1 dX3_removeNote_38 (lv_at hl 0 rfl) ?_
          refine xk_V (x_runSN (As := [.ref (a + 1), .int (nI (lnRem (L.take i) x).length), .int (L.getD i 0)]) (rest := []) S hE hS (fun q h => by rw [h]; exact bkk (by omega)) (c_X7_put l E (a + 1) N g (nI (lnRem (L.take i) x).length) (L.getD i 0) _ hg0 hN) kv_X7_put nw72 kw12_9 ⟨Nat.le_of_ble_eq_true rfl, Nat.le_of_ble_eq_true rfl⟩ rfl rfl rfl hl.1 rfl (Nat.le_of_ble_eq_true rfl) dX3_removeNote_40 ⟨Nat.zero_le _, Nat.zero_le _⟩) hS (fun q h => by rw [h]; exact bkk (by omega)) (fun H locs hX hO1 hS => ?_)
          have ho := va_at.kept ho (hO1.2 a (fun z => by have z : a = a + 1 := z; omega))
          have hO := hO.tr hO1 (fun q h => by rw [h]; exact bkk (by omega))
          have hle := lnRem_le (L.take i) x
          have htl : (L.take i).length = i := List.length_take_of_le (by omega)
          rw [xput_nI hN (by omega)] at hX
          have e1 : lnRem (L.take (i + 1)) x = lnRem (L.take i) x ++ [L.getD i 0] := by rw [lnRem_s hlt, if_neg h2]
          refine lv_iinc (k := 3) (v := (nI ((lnRem (L.take i) x).length + 1))) S.1 S.2.1 dX3_removeNote_43 hl rfl (iincP (lnRem (L.take i) x).length 1) (by decide) rfl (fun ls hl => ?_)
          have hl : lv_has ls 6 [(2, .int (nI ((lnRem (L.take i) x).length + 1))), (5, .int (L.getD i 0)), (4, .int (nI i)), (3, .int (nI L.length)), (0, .ref a), (1, .int x)] := hl
          refine lv_iinc (k := 2) (v := (nI (i + 1))) S.1 S.2.1 dX3_removeNote_46 hl rfl (iincP i 1) (by decide) rfl (fun ls hl => ?_)
          have hl : lv_has ls 6 [(4, .int (nI (i + 1))), (2, .int (nI ((lnRem (L.take i) x).length + 1))), (5, .int (L.getD i 0)), (3, .int (nI L.length)), (0, .ref a), (1, .int x)] := hl
          refine lv_goto (tgt := 10) S.1 S.2.1 dX3_removeNote_49 rfl ?_
          rw [show (lnRem (L.take i) x).length + 1 = (lnRem (L.take (i + 1)) x).length by rw [e1, List.length_append]; rfl] at hl
          exact ih _ (by omega) (i + 1) (upd g (lnRem (L.take i) x).length (L.getD i 0)) _ _ ls rfl (by omega) (fun j hj => by rw [e1] at hj ⊢; rw [List.length_append] at hj; exact (Nat.lt_or_ge j (lnRem (L.take i) x).length).elim (fun q => by rw [pk_un (by omega), getD_app_lt q]; exact hg1 j q) (fun q => by have e : j = (lnRem (L.take i) x).length := (by simp at hj; omega); rw [e, pk_us, getD_app_eq])) (fun j hj hj2 => by rw [pk_un (by omega)]; exact hg2 j (by omega) hj2) (ho) (hX) (hO) (hS) (lv_sub hl [0, 3, 1, 4, 5] rfl)
  exact hloop10 _ 0 f _ _ ls rfl (Nat.zero_le _) (fun j hj => by simp [lnRem] at hj) (fun j _ hj => hf j hj) (ho) (hf0) (hO) (hS) (lv_sub hl [0, 1, 2, 3, 4] rfl)
abbrev rm_X3_copyFrom : Room := ({ frames := 2, cells := 0, slots := 0, locals := 43 } : Room)
set_option maxRecDepth 100000 in
set_option maxHeartbeats 600000 in
theorem c_X3_copyFrom (l : Launch) (E : XE) (a b N : Nat) (L M : List Int32) (H : Heap) (hP : LinP E a N M H) (hP2 : LinP E b N L H) (hN : N < 2 ^ 31) (hd : a + 2 ≤ b ∨ b + 2 ≤ a) : Wv l E yX3_copyFrom cX3_copyFrom 2 rm_X3_copyFrom [.ref a, .ref b] H (bk a 2) (LinP E a N L) := by
  refine met_of (by decide) (Nat.le_of_ble_eq_true rfl) (fun p e s m args below meth c hBD Q hQ ls hl => ?_)
  obtain ⟨S, hr, hlk, hnm, hE, hH⟩ := hBD
  subst hH
  have hl : lv_has ls 2 [(0, .ref a), (1, .ref b)] := hl
  have hO : Out (bk a 2) s.heap s.heap := Out.rf
  have hS : va_S (bk a 2) s.heap s.heap [] := va_S.rf
  obtain ⟨ho, hM, g, hg0, hg⟩ := hP
  obtain ⟨ho2, hL, f, hf0, hf⟩ := hP2
  refine lv_aload_n S.1 S.2.1 dX3_copyFrom_0 rfl (lv_at hl 1 rfl) ?_
  refine x_get S hE (ho2) (C := RX3) (T := TX3) (N := 2) rfl inlX3 0 (by decide) (v := .ref (b + 1)) rfl kw3_19 rfl dX3_copyFrom_1 ?_
  refine lv_aload_n S.1 S.2.1 dX3_copyFrom_4 rfl (lv_at hl 0 rfl) ?_
  refine x_get S hE (ho) (C := RX3) (T := TX3) (N := 2) rfl inlX3 0 (by decide) (v := .ref (a + 1)) rfl kw3_19 rfl dX3_copyFrom_5 ?_
  refine lv_aload_n S.1 S.2.1 dX3_copyFrom_8 rfl (lv_at hl 1 rfl) ?_
  refine x_get S hE (ho2) (C := RX3) (T := TX3) (N := 2) rfl inlX3 1 (by decide) (v := .int (nI L.length)) rfl kw8_17 rfl dX3_copyFrom_9 ?_
  refine xk_V (x_runSN (As := [.ref (b + 1), .ref (a + 1), .int (nI L.length)]) (rest := []) S hE hS (fun q h => by rw [h]; exact bkk (by omega)) (c_X7_copyRow l E (b + 1) (a + 1) N N f g (nI L.length) _ (xr_i hf0) hg0 hN hN) kv_X7_copyRow nw66 kw6_6 ⟨Nat.le_of_ble_eq_true rfl, Nat.le_of_ble_eq_true rfl⟩ rfl rfl rfl hl.1 rfl (Nat.le_of_ble_eq_true rfl) dX3_copyFrom_12 ⟨Nat.zero_le _, Nat.zero_le _⟩) hS (fun q h => by rw [h]; exact bkk (by omega)) (fun H locs hX hO1 hS => ?_)
  have ho := va_at.kept ho (hO1.2 a (fun z => by have z : a = a + 1 := z; omega))
  have ho2 := va_at.kept ho2 (hO1.2 b (fun z => by have z : b = a + 1 := z; omega))
  have hO := hO.tr hO1 (fun q h => by rw [h]; exact bkk (by omega))
  have hX0 := hX
  refine lv_aload_n S.1 S.2.1 dX3_copyFrom_15 rfl (lv_at hl 0 rfl) ?_
  refine lv_aload_n S.1 S.2.1 dX3_copyFrom_16 rfl (lv_at hl 1 rfl) ?_
  refine x_get S hE (ho2) (C := RX3) (T := TX3) (N := 2) rfl inlX3 1 (by decide) (v := .int (nI L.length)) rfl kw8_17 rfl dX3_copyFrom_17 ?_
  refine x_put S hE hS (bk1 (by omega)) (ho) (C := RX3) (T := TX3) (N := 2) rfl inlX3 tyX3 tyX3_ok nmX3 1 (by decide) (Nat.le_of_ble_eq_true rfl) kw8_17 rfl rfl (v := .int (nI L.length)) rfl rfl dX3_copyFrom_20 (fun H locs hX hO1 hS => ?_)
  have hX0 := va_at.kept hX0 (hO1.2 (a + 1) (fun z => by have z : a + 1 = a := z; omega))
  have hO := hO.tr hO1 (fun q h => by rw [h]; exact bk1 (by omega))
  subst hQ
  refine x_retV S hr hlk hS hO ?_ dX3_copyFrom_23
  exact ⟨hX, hL, _, hX0, xcpy_L hN hL hf⟩
