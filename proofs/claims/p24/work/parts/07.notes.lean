/-! 07.notes: walks, by program -/
def updF (T : Nat → Nat → Int32) (k : Nat) (f : Nat → Int32) : Nat → Nat → Int32 := fun j => if j = k then f else T j
def ntPut (T : Nat → Nat → Int32) (k : Nat) (i v : Int32) : Nat → Nat → Int32 := updF T k (xput (T k) 200 i v)
abbrev ntG (T : Nat → Nat → Int32) (k : Nat) (i : Int32) : Int32 := xat (T k) 200 i
def NotP (E : XE) (a : Nat) (T : Nat → Nat → Int32) (n : Int32) (H : Heap) : Prop := XO E a 5 [.ref (a + 1), .ref (a + 2), .ref (a + 3), .ref (a + 4), .ref (a + 5), .ref (a + 6), .ref (a + 7), .int n] H ∧ ∀ k, k < 7 → XI E (a + (k + 1)) 200 (T k) H
theorem NotP.fr {E : XE} {a : Nat} {T : Nat → Nat → Int32} {n : Int32} {H H1 : Heap} (h : NotP E a T n H) (hq : ∀ q, bk a 8 q → H1[q]? = H[q]?) : NotP E a T n H1 :=
  ⟨va_at.kept h.1 (hq a ⟨Nat.le_refl _, by omega⟩), fun k hk => va_at.kept (h.2 k hk) (hq _ ⟨by show a ≤ a + (k + 1); omega, by show a + (k + 1) < a + 8; omega⟩)⟩
theorem NotP.put {E : XE} {a : Nat} {T : Nat → Nat → Int32} {n : Int32} {H H1 : Heap} (h : NotP E a T n H) {k : Nat} (hk : k < 7) {f : Nat → Int32} (hX : XI E (a + (k + 1)) 200 f H1) (hO : Out (fun q => q = a + (k + 1)) H H1) : NotP E a (updF T k f) n H1 := by
  refine ⟨va_at.kept h.1 (hO.2 a (fun z => by have z : a = a + (k + 1) := z; omega)), fun j hj => ?_⟩
  by_cases e : j = k
  · subst e; rw [updF, if_pos rfl]; exact hX
  · rw [updF, if_neg e]; exact va_at.kept (h.2 j hj) (hO.2 _ (fun z => e (by have z : a + (j + 1) = a + (k + 1) := z; omega)))
theorem NotP.sz {E : XE} {a : Nat} {T : Nat → Nat → Int32} {n m : Int32} {H H1 : Heap} (h : NotP E a T n H) (hX : XO E a 5 [.ref (a + 1), .ref (a + 2), .ref (a + 3), .ref (a + 4), .ref (a + 5), .ref (a + 6), .ref (a + 7), .int m] H1) (hO : Out (fun q => q = a) H H1) : NotP E a T m H1 :=
  ⟨hX, fun k hk => va_at.kept (h.2 k hk) (hO.2 _ (fun z => by have z : a + (k + 1) = a := z; omega))⟩
def ntApp (T : Nat → Nat → Int32) (n p q s : Int32) : Nat → Nat → Int32 := ntPut (ntPut (ntPut (ntPut (ntPut (ntPut (ntPut T 0 n p) 1 n q) 2 n s) 3 n (nI 0)) 4 n (nI 0)) 5 n (nI 0)) 6 n (nI 0)
abbrev ntSings (T : Nat → Nat → Int32) (i : Int32) : Prop := ¬ ntG T 3 i = nI 0 ∧ ¬ ntG T 3 i = nI 6
abbrev ntIs (T : Nat → Nat → Int32) (i p q : Int32) : Prop := ntG T 0 i = p ∧ ntG T 1 i = q
def ntTop (T : Nat → Nat → Int32) (i : Int32) : Int32 := nI 8 * ntG T 2 i
def ntRest (T : Nat → Nat → Int32) (i : Int32) : Int32 := ntTop T i * xat (st_val 1) 4 (ntG T 0 i) / nI 1000
def ntRestT (T : Nat → Nat → Int32) (i t : Int32) : Int32 := t * xat (st_val 1) 4 (ntG T 0 i) / nI 1000
def ntOver (T : Nat → Nat → Int32) (i s : Int32) : Nat → Nat → Int32 := if ntG (ntPut (ntPut T 2 i s) 6 i (nI 0)) 4 i < ntTop (ntPut (ntPut T 2 i s) 6 i (nI 0)) i then ntPut (ntPut (ntPut T 2 i s) 6 i (nI 0)) 3 i (nI 1) else ntPut (ntPut (ntPut T 2 i s) 6 i (nI 0)) 3 i (nI 2)
def ntDown (T : Nat → Nat → Int32) (i ph : Int32) : Nat → Nat → Int32 := ntPut (ntPut (ntPut T 3 i ph) 5 i (ntG (ntPut T 3 i ph) 4 i)) 6 i (nI 0)
def ntEnd (T : Nat → Nat → Int32) (i : Int32) : Nat → Nat → Int32 := ntPut T 3 i (nI 6)
def ntRisen (T : Nat → Nat → Int32) (i : Int32) : Int32 := xmin (ntTop T i) (ntG T 4 i + xdiv (ntTop T i) (xat (st_val 2) 4 (ntG T 0 i)))
def ntRise (T : Nat → Nat → Int32) (i : Int32) : Nat → Nat → Int32 := if ntRisen T i = ntTop T i then ntPut (ntPut T 4 i (ntRisen T i)) 3 i (nI 2) else ntPut T 4 i (ntRisen T i)
def ntSunk (T : Nat → Nat → Int32) (i : Int32) : Int32 := xmax (ntRest T i) (ntG T 4 i - xdiv (ntTop T i - ntRest T i) (xat (st_val 3) 4 (ntG T 0 i)))
def ntSink (T : Nat → Nat → Int32) (i : Int32) : Nat → Nat → Int32 := if ntSunk T i = ntRest T i then ntPut (ntPut T 4 i (ntSunk T i)) 3 i (nI 3) else ntPut T 4 i (ntSunk T i)
def ntLeft (T : Nat → Nat → Int32) (i d : Int32) : Int32 := xmax (nI 0) (ntG T 4 i - xdiv (ntG T 5 i) d)
def ntGo (T : Nat → Nat → Int32) (i d : Int32) : Nat → Nat → Int32 := if ntLeft T i d = 0 then ntEnd (ntPut T 4 i (ntLeft T i d)) i else ntPut T 4 i (ntLeft T i d)
def ntMove (T : Nat → Nat → Int32) (i : Int32) : Nat → Nat → Int32 :=
  if ntG T 3 i = nI 1 then ntRise T i else if ntG T 3 i = nI 2 then ntSink T i else if ntG T 3 i = nI 4 then ntGo T i (xat (st_val 0) 4 (ntG T 0 i)) else if ntG T 3 i = nI 5 then ntGo T i (nI 3) else T
def ntCopy (To T : Nat → Nat → Int32) (n : Int32) : Nat → Nat → Int32 := fun k => xcpy (To k) 200 (T k) 200 n
theorem NotP.cp {E : XE} {a : Nat} {T To : Nat → Nat → Int32} {k0 : Int32} {H : Heap} (h : NotP E a (updF (updF (updF (updF (updF (updF (updF T 0 (xcpy (To 0) 200 (T 0) 200 k0)) 1 (xcpy (To 1) 200 (T 1) 200 k0)) 2 (xcpy (To 2) 200 (T 2) 200 k0)) 3 (xcpy (To 3) 200 (T 3) 200 k0)) 4 (xcpy (To 4) 200 (T 4) 200 k0)) 5 (xcpy (To 5) 200 (T 5) 200 k0)) 6 (xcpy (To 6) 200 (T 6) 200 k0)) k0 H) : NotP E a (ntCopy To T k0) k0 H := by
  refine ⟨h.1, fun k hk => ?_⟩
  have h2 := h.2 k hk
  rcases (show k = 0 ∨ k = 1 ∨ k = 2 ∨ k = 3 ∨ k = 4 ∨ k = 5 ∨ k = 6 by omega) with e | e | e | e | e | e | e <;> subst e <;> exact h2
theorem nI1_2 : (nI 2 = nI 1) = False := by simp; decide
theorem nI1_4 : (nI 4 = nI 1) = False := by simp; decide
theorem nI1_5 : (nI 5 = nI 1) = False := by simp; decide
theorem nI2_4 : (nI 4 = nI 2) = False := by simp; decide
theorem nI2_5 : (nI 5 = nI 2) = False := by simp; decide
theorem nI4_5 : (nI 5 = nI 4) = False := by simp; decide
theorem nI3_1 : (nI 3 = nI 1) = False := by simp; decide
theorem nI3_2 : (nI 3 = nI 2) = False := by simp; decide
theorem nI3_4 : (nI 3 = nI 4) = False := by simp; decide
theorem nI3_5 : (nI 3 = nI 5) = False := by simp; decide
abbrev rm_X5_sings : Room := ({ frames := 1, cells := 0, slots := 0, locals := 21 } : Room)
set_option maxRecDepth 100000 in
set_option maxHeartbeats 600000 in
theorem c_X5_sings (l : Launch) (E : XE) (a : Nat) (T : Nat → Nat → Int32) (n : Int32) (i : Int32) (H : Heap) (hP : NotP E a T n H) : Rd l E yX5_sings cX5_sings 3 (some .boolean) rm_X5_sings [.ref a, .int i] H (bI (ntSings T i)) := by
  refine met_of (by decide) (Nat.le_of_ble_eq_true rfl) (fun p e s m args below meth c hBD Q hQ ls hl => ?_)
  obtain ⟨S, hr, hlk, hnm, hE, hH⟩ := hBD
  subst hH
  have hl : lv_has ls 3 [(0, .ref a), (1, .int i)] := hl
  have hS : va_S (fun _ => False) s.heap s.heap [] := va_S.rf
  refine lv_aload_n S.1 S.2.1 dX5_sings_0 rfl (lv_at hl 0 rfl) ?_
  refine x_get S hE (hP.1) (C := RX5) (T := TX5) (N := 8) rfl inlX5 3 (by decide) (v := .ref (a + 4)) rfl kw3_8 rfl dX5_sings_1 ?_
  refine lv_iload_n S.1 S.2.1 dX5_sings_4 rfl (lv_at hl 1 rfl) ?_
  refine xk_R (v := (ntG T 3 i)) (x_runSN (As := [.ref (a + 4), .int i]) (rest := []) S hE hS (fun _ h => h.elim) (c_X7_at l E (a + (3 + 1)) 200 (T 3) i _ (xr_i (hP.2 3 (by decide))) (by decide)) kv_X7_at nw45 kw8_2 ⟨Nat.le_of_ble_eq_true rfl, Nat.le_of_ble_eq_true rfl⟩ rfl rfl rfl hl.1 rfl (Nat.le_of_ble_eq_true rfl) dX5_sings_5 ⟨Nat.zero_le _, Nat.zero_le _⟩) ?_
  refine lv_istore_n S.1 S.2.1 dX5_sings_8 rfl hl (by decide) rfl (fun ls hl => ?_)
  have hl : lv_has ls 3 [(2, .int (ntG T 3 i)), (0, .ref a), (1, .int i)] := hl
  refine lv_iload_n S.1 S.2.1 dX5_sings_9 rfl (lv_at hl 0 rfl) ?_
  refine lv_if_eq (tgt := 23) S.1 S.2.1 dX5_sings_10 rfl (fun h1 => ?_) (fun h1 => ?_)
  · skip
    refine lv_iconst (v := (nI 0)) S.1 S.2.1 dX5_sings_23 (by decide) ?_
    subst hQ
    exact x_retR S hr hlk (by first | rfl | decide | exact bI_nar _) (bI_f (fun z => by first | exact z.2 h2 | exact z.1 (by rw [h1]; decide))) dX5_sings_24
  · skip
    refine lv_iload_n S.1 S.2.1 dX5_sings_13 rfl (lv_at hl 0 rfl) ?_
    refine lv_bipush (v := (nI 6)) S.1 S.2.1 dX5_sings_14 (by decide) ?_
    refine lv_icmp_eq (tgt := 23) S.1 S.2.1 dX5_sings_16 rfl (fun h2 => ?_) (fun h2 => ?_)
    · skip
      refine lv_iconst (v := (nI 0)) S.1 S.2.1 dX5_sings_23 (by decide) ?_
      subst hQ
      exact x_retR S hr hlk (by first | rfl | decide | exact bI_nar _) (bI_f (fun z => by first | exact z.2 h2 | exact z.1 (by rw [h1]; decide))) dX5_sings_24
    · skip
      refine lv_iconst (v := (nI 1)) S.1 S.2.1 dX5_sings_19 (by decide) ?_
      refine lv_goto (tgt := 24) S.1 S.2.1 dX5_sings_20 rfl ?_
      subst hQ
      exact x_retR S hr hlk (by first | rfl | decide | exact bI_nar _) (bI_t ⟨fun z => h1 (by rw [z]; decide), h2⟩) dX5_sings_24
abbrev rm_X5_is : Room := ({ frames := 1, cells := 0, slots := 0, locals := 21 } : Room)
set_option maxRecDepth 100000 in
set_option maxHeartbeats 600000 in
theorem c_X5_is (l : Launch) (E : XE) (a : Nat) (T : Nat → Nat → Int32) (n : Int32) (i p0 q0 : Int32) (H : Heap) (hP : NotP E a T n H) : Rd l E yX5_is cX5_is 4 (some .boolean) rm_X5_is [.ref a, .int i, .int p0, .int q0] H (bI (ntIs T i p0 q0)) := by
  refine met_of (by decide) (Nat.le_of_ble_eq_true rfl) (fun p e s m args below meth c hBD Q hQ ls hl => ?_)
  obtain ⟨S, hr, hlk, hnm, hE, hH⟩ := hBD
  subst hH
  have hl : lv_has ls 4 [(0, .ref a), (1, .int i), (2, .int p0), (3, .int q0)] := hl
  have hS : va_S (fun _ => False) s.heap s.heap [] := va_S.rf
  refine lv_aload_n S.1 S.2.1 dX5_is_0 rfl (lv_at hl 0 rfl) ?_
  refine x_get S hE (hP.1) (C := RX5) (T := TX5) (N := 8) rfl inlX5 0 (by decide) (v := .ref (a + 1)) rfl kw3_5 rfl dX5_is_1 ?_
  refine lv_iload_n S.1 S.2.1 dX5_is_4 rfl (lv_at hl 1 rfl) ?_
  refine xk_R (v := (ntG T 0 i)) (x_runSN (As := [.ref (a + 1), .int i]) (rest := []) S hE hS (fun _ h => h.elim) (c_X7_at l E (a + (0 + 1)) 200 (T 0) i _ (xr_i (hP.2 0 (by decide))) (by decide)) kv_X7_at nw45 kw8_2 ⟨Nat.le_of_ble_eq_true rfl, Nat.le_of_ble_eq_true rfl⟩ rfl rfl rfl hl.1 rfl (Nat.le_of_ble_eq_true rfl) dX5_is_5 ⟨Nat.zero_le _, Nat.zero_le _⟩) ?_
  refine lv_iload_n S.1 S.2.1 dX5_is_8 rfl (lv_at hl 2 rfl) ?_
  refine lv_icmp_ne (tgt := 28) S.1 S.2.1 dX5_is_9 rfl (fun h1 => ?_) (fun h1 => ?_)
  · skip
    refine lv_iconst (v := (nI 0)) S.1 S.2.1 dX5_is_28 (by decide) ?_
    subst hQ
    exact x_retR S hr hlk (by first | rfl | decide | exact bI_nar _) (bI_f (fun z => by first | exact h2 z.2 | exact h1 z.1)) dX5_is_29
  · skip
    refine lv_aload_n S.1 S.2.1 dX5_is_12 rfl (lv_at hl 0 rfl) ?_
    refine x_get S hE (hP.1) (C := RX5) (T := TX5) (N := 8) rfl inlX5 1 (by decide) (v := .ref (a + 2)) rfl kw3_6 rfl dX5_is_13 ?_
    refine lv_iload_n S.1 S.2.1 dX5_is_16 rfl (lv_at hl 1 rfl) ?_
    refine xk_R (v := (ntG T 1 i)) (x_runSN (As := [.ref (a + 2), .int i]) (rest := []) S hE hS (fun _ h => h.elim) (c_X7_at l E (a + (1 + 1)) 200 (T 1) i _ (xr_i (hP.2 1 (by decide))) (by decide)) kv_X7_at nw45 kw8_2 ⟨Nat.le_of_ble_eq_true rfl, Nat.le_of_ble_eq_true rfl⟩ rfl rfl rfl hl.1 rfl (Nat.le_of_ble_eq_true rfl) dX5_is_17 ⟨Nat.zero_le _, Nat.zero_le _⟩) ?_
    refine lv_iload_n S.1 S.2.1 dX5_is_20 rfl (lv_at hl 3 rfl) ?_
    refine lv_icmp_ne (tgt := 28) S.1 S.2.1 dX5_is_21 rfl (fun h2 => ?_) (fun h2 => ?_)
    · skip
      refine lv_iconst (v := (nI 0)) S.1 S.2.1 dX5_is_28 (by decide) ?_
      subst hQ
      exact x_retR S hr hlk (by first | rfl | decide | exact bI_nar _) (bI_f (fun z => by first | exact h2 z.2 | exact h1 z.1)) dX5_is_29
    · skip
      refine lv_iconst (v := (nI 1)) S.1 S.2.1 dX5_is_24 (by decide) ?_
      refine lv_goto (tgt := 29) S.1 S.2.1 dX5_is_25 rfl ?_
      subst hQ
      exact x_retR S hr hlk (by first | rfl | decide | exact bI_nar _) (bI_t ⟨h1, h2⟩) dX5_is_29
abbrev rm_X5_top : Room := ({ frames := 1, cells := 0, slots := 0, locals := 21 } : Room)
set_option maxRecDepth 100000 in
set_option maxHeartbeats 600000 in
theorem c_X5_top (l : Launch) (E : XE) (a : Nat) (T : Nat → Nat → Int32) (n : Int32) (i : Int32) (H : Heap) (hP : NotP E a T n H) : Rd l E yX5_top cX5_top 2 (some .int) rm_X5_top [.ref a, .int i] H (ntTop T i) := by
  refine met_of (by decide) (Nat.le_of_ble_eq_true rfl) (fun p e s m args below meth c hBD Q hQ ls hl => ?_)
  obtain ⟨S, hr, hlk, hnm, hE, hH⟩ := hBD
  subst hH
  have hl : lv_has ls 2 [(0, .ref a), (1, .int i)] := hl
  have hS : va_S (fun _ => False) s.heap s.heap [] := va_S.rf
  refine lv_bipush (v := (nI 8)) S.1 S.2.1 dX5_top_0 (by decide) ?_
  refine lv_aload_n S.1 S.2.1 dX5_top_2 rfl (lv_at hl 0 rfl) ?_
  refine x_get S hE (hP.1) (C := RX5) (T := TX5) (N := 8) rfl inlX5 2 (by decide) (v := .ref (a + 3)) rfl kw3_7 rfl dX5_top_3 ?_
  refine lv_iload_n S.1 S.2.1 dX5_top_6 rfl (lv_at hl 1 rfl) ?_
  refine xk_R (v := (ntG T 2 i)) (x_runSN (As := [.ref (a + 3), .int i]) (rest := [.int (nI 8)]) S hE hS (fun _ h => h.elim) (c_X7_at l E (a + (2 + 1)) 200 (T 2) i _ (xr_i (hP.2 2 (by decide))) (by decide)) kv_X7_at nw45 kw8_2 ⟨Nat.le_of_ble_eq_true rfl, Nat.le_of_ble_eq_true rfl⟩ rfl rfl rfl hl.1 rfl (Nat.le_of_ble_eq_true rfl) dX5_top_7 ⟨Nat.zero_le _, Nat.zero_le _⟩) ?_
  refine lv_imul S.1 S.2.1 dX5_top_10 ?_
  subst hQ
  exact x_retR S hr hlk (rfl) (rfl) dX5_top_11
abbrev rm_X5_rest : Room := ({ frames := 1, cells := 0, slots := 0, locals := 21 } : Room)
set_option maxRecDepth 100000 in
set_option maxHeartbeats 600000 in
theorem c_X5_rest (l : Launch) (E : XE) (a : Nat) (T : Nat → Nat → Int32) (n : Int32) (i t : Int32) (H : Heap) (hP : NotP E a T n H) : Rd l E yX5_rest cX5_rest 3 (some .int) rm_X5_rest [.ref a, .int i, .int t] H (ntRestT T i t) := by
  refine met_of (by decide) (Nat.le_of_ble_eq_true rfl) (fun p e s m args below meth c hBD Q hQ ls hl => ?_)
  obtain ⟨S, hr, hlk, hnm, hE, hH⟩ := hBD
  subst hH
  have hl : lv_has ls 3 [(0, .ref a), (1, .int i), (2, .int t)] := hl
  have hS : va_S (fun _ => False) s.heap s.heap [] := va_S.rf
  refine lv_iload_n S.1 S.2.1 dX5_rest_0 rfl (lv_at hl 2 rfl) ?_
  refine x_getsN S hE hS 1 (by decide) nw31 dX5_rest_1 ?_
  refine lv_aload_n S.1 S.2.1 dX5_rest_4 rfl (lv_at hl 0 rfl) ?_
  refine x_get S hE (hP.1) (C := RX5) (T := TX5) (N := 8) rfl inlX5 0 (by decide) (v := .ref (a + 1)) rfl kw3_5 rfl dX5_rest_5 ?_
  refine lv_iload_n S.1 S.2.1 dX5_rest_8 rfl (lv_at hl 1 rfl) ?_
  refine xk_R (v := (ntG T 0 i)) (x_runSN (As := [.ref (a + 1), .int i]) (rest := [.ref (E.2.2.2 1), .int t]) S hE hS (fun _ h => h.elim) (c_X7_at l E (a + (0 + 1)) 200 (T 0) i _ (xr_i (hP.2 0 (by decide))) (by decide)) kv_X7_at nw45 kw8_2 ⟨Nat.le_of_ble_eq_true rfl, Nat.le_of_ble_eq_true rfl⟩ rfl rfl rfl hl.1 rfl (Nat.le_of_ble_eq_true rfl) dX5_rest_9 ⟨Nat.zero_le _, Nat.zero_le _⟩) ?_
  refine xk_R (v := (xat (st_val 1) 4 (ntG T 0 i))) (x_runSN (As := [.ref (E.2.2.2 1), .int (ntG T 0 i)]) (rest := [.int t]) S hE hS (fun _ h => h.elim) (c_X7_at l E _ (st_len 1) (st_val 1) (ntG T 0 i) _ (xr_s 1 (by decide)) (by decide)) kv_X7_at nw45 kw8_2 ⟨Nat.le_of_ble_eq_true rfl, Nat.le_of_ble_eq_true rfl⟩ rfl rfl rfl hl.1 rfl (Nat.le_of_ble_eq_true rfl) dX5_rest_12 ⟨Nat.zero_le _, Nat.zero_le _⟩) ?_
  refine lv_imul S.1 S.2.1 dX5_rest_15 ?_
  refine lv_sipush (v := (nI 1000)) S.1 S.2.1 dX5_rest_16 (by decide) ?_
  refine lv_idiv S.1 S.2.1 dX5_rest_19 (by decide) ?_
  subst hQ
  exact x_retR S hr hlk (rfl) (rfl) dX5_rest_20
abbrev rm_X5_end : Room := ({ frames := 1, cells := 0, slots := 0, locals := 22 } : Room)
set_option maxRecDepth 100000 in
set_option maxHeartbeats 600000 in
theorem c_X5_end (l : Launch) (E : XE) (a : Nat) (T : Nat → Nat → Int32) (n : Int32) (i : Int32) (H : Heap) (hP : NotP E a T n H) : Wv l E yX5_end cX5_end 2 rm_X5_end [.ref a, .int i] H (bk a 8) (NotP E a (ntEnd T i) n) := by
  refine met_of (by decide) (Nat.le_of_ble_eq_true rfl) (fun p e s m args below meth c hBD Q hQ ls hl => ?_)
  obtain ⟨S, hr, hlk, hnm, hE, hH⟩ := hBD
  subst hH
  have hl : lv_has ls 2 [(0, .ref a), (1, .int i)] := hl
  have hO : Out (bk a 8) s.heap s.heap := Out.rf
  have hS : va_S (bk a 8) s.heap s.heap [] := va_S.rf
  refine lv_aload_n S.1 S.2.1 dX5_end_0 rfl (lv_at hl 0 rfl) ?_
  refine x_get S hE (hP.1) (C := RX5) (T := TX5) (N := 8) rfl inlX5 3 (by decide) (v := .ref (a + 4)) rfl kw3_8 rfl dX5_end_1 ?_
  refine lv_iload_n S.1 S.2.1 dX5_end_4 rfl (lv_at hl 1 rfl) ?_
  refine lv_bipush (v := (nI 6)) S.1 S.2.1 dX5_end_5 (by decide) ?_
  refine xk_V (x_runSN (As := [.ref (a + 4), .int i, .int (nI 6)]) (rest := []) S hE hS (fun q h => by rw [h]; exact ⟨by omega, by omega⟩) (c_X7_put l E (a + (3 + 1)) 200 (T 3) i (nI 6) _ (hP.2 3 (by decide)) (by decide)) kv_X7_put nw70 kw12_9 ⟨Nat.le_of_ble_eq_true rfl, Nat.le_of_ble_eq_true rfl⟩ rfl rfl rfl hl.1 rfl (Nat.le_of_ble_eq_true rfl) dX5_end_7 ⟨Nat.zero_le _, Nat.zero_le _⟩) hS (fun q h => by rw [h]; exact ⟨by omega, by omega⟩) (fun H locs hX hO1 hS => ?_)
  have hO := hO.tr hO1 (fun q h => by rw [h]; exact ⟨by omega, by omega⟩)
  have hP : NotP E a (ntPut T 3 i (nI 6)) n H := hP.put (k := 3) (by decide) hX hO1
  subst hQ
  refine x_retV S hr hlk hS hO ?_ dX5_end_10
  exact hP
abbrev rm_X5_startDown : Room := ({ frames := 1, cells := 0, slots := 0, locals := 22 } : Room)
set_option maxRecDepth 100000 in
set_option maxHeartbeats 600000 in
theorem c_X5_startDown (l : Launch) (E : XE) (a : Nat) (T : Nat → Nat → Int32) (n : Int32) (i : Int32) (z : Int32) (H : Heap) (hP : NotP E a T n H) : Wv l E yX5_startDown cX5_startDown 3 rm_X5_startDown [.ref a, .int i, .int z] H (bk a 8) (NotP E a (ntDown T i z) n) := by
  refine met_of (by decide) (Nat.le_of_ble_eq_true rfl) (fun p e s m args below meth c hBD Q hQ ls hl => ?_)
  obtain ⟨S, hr, hlk, hnm, hE, hH⟩ := hBD
  subst hH
  have hl : lv_has ls 3 [(0, .ref a), (1, .int i), (2, .int z)] := hl
  have hO : Out (bk a 8) s.heap s.heap := Out.rf
  have hS : va_S (bk a 8) s.heap s.heap [] := va_S.rf
  refine lv_aload_n S.1 S.2.1 dX5_startDown_0 rfl (lv_at hl 0 rfl) ?_
  refine x_get S hE (hP.1) (C := RX5) (T := TX5) (N := 8) rfl inlX5 3 (by decide) (v := .ref (a + 4)) rfl kw3_8 rfl dX5_startDown_1 ?_
  refine lv_iload_n S.1 S.2.1 dX5_startDown_4 rfl (lv_at hl 1 rfl) ?_
  refine lv_iload_n S.1 S.2.1 dX5_startDown_5 rfl (lv_at hl 2 rfl) ?_
  refine xk_V (x_runSN (As := [.ref (a + 4), .int i, .int z]) (rest := []) S hE hS (fun q h => by rw [h]; exact ⟨by omega, by omega⟩) (c_X7_put l E (a + (3 + 1)) 200 (T 3) i z _ (hP.2 3 (by decide)) (by decide)) kv_X7_put nw70 kw12_9 ⟨Nat.le_of_ble_eq_true rfl, Nat.le_of_ble_eq_true rfl⟩ rfl rfl rfl hl.1 rfl (Nat.le_of_ble_eq_true rfl) dX5_startDown_6 ⟨Nat.zero_le _, Nat.zero_le _⟩) hS (fun q h => by rw [h]; exact ⟨by omega, by omega⟩) (fun H locs hX hO1 hS => ?_)
  have hO := hO.tr hO1 (fun q h => by rw [h]; exact ⟨by omega, by omega⟩)
  have hP : NotP E a (ntPut T 3 i z) n H := hP.put (k := 3) (by decide) hX hO1
  refine lv_aload_n S.1 S.2.1 dX5_startDown_9 rfl (lv_at hl 0 rfl) ?_
  refine x_get S hE (hP.1) (C := RX5) (T := TX5) (N := 8) rfl inlX5 5 (by decide) (v := .ref (a + 6)) rfl kw3_10 rfl dX5_startDown_10 ?_
  refine lv_iload_n S.1 S.2.1 dX5_startDown_13 rfl (lv_at hl 1 rfl) ?_
  refine lv_aload_n S.1 S.2.1 dX5_startDown_14 rfl (lv_at hl 0 rfl) ?_
  refine x_get S hE (hP.1) (C := RX5) (T := TX5) (N := 8) rfl inlX5 4 (by decide) (v := .ref (a + 5)) rfl kw3_9 rfl dX5_startDown_15 ?_
  refine lv_iload_n S.1 S.2.1 dX5_startDown_18 rfl (lv_at hl 1 rfl) ?_
  refine xk_R (v := (ntG (ntPut T 3 i z) 4 i)) (x_runSN (As := [.ref (a + 5), .int i]) (rest := [.int i, .ref (a + 6)]) S hE hS (fun _ h => h.elim) (c_X7_at l E (a + (4 + 1)) 200 ((ntPut T 3 i z) 4) i _ (xr_i (hP.2 4 (by decide))) (by decide)) kv_X7_at nw45 kw8_2 ⟨Nat.le_of_ble_eq_true rfl, Nat.le_of_ble_eq_true rfl⟩ rfl rfl rfl hl.1 rfl (Nat.le_of_ble_eq_true rfl) dX5_startDown_19 ⟨Nat.zero_le _, Nat.zero_le _⟩) ?_
  refine xk_V (x_runSN (As := [.ref (a + 6), .int i, .int (ntG (ntPut T 3 i z) 4 i)]) (rest := []) S hE hS (fun q h => by rw [h]; exact ⟨by omega, by omega⟩) (c_X7_put l E (a + (5 + 1)) 200 ((ntPut T 3 i z) 5) i (ntG (ntPut T 3 i z) 4 i) _ (hP.2 5 (by decide)) (by decide)) kv_X7_put nw70 kw12_9 ⟨Nat.le_of_ble_eq_true rfl, Nat.le_of_ble_eq_true rfl⟩ rfl rfl rfl hl.1 rfl (Nat.le_of_ble_eq_true rfl) dX5_startDown_22 ⟨Nat.zero_le _, Nat.zero_le _⟩) hS (fun q h => by rw [h]; exact ⟨by omega, by omega⟩) (fun H locs hX hO1 hS => ?_)
  have hO := hO.tr hO1 (fun q h => by rw [h]; exact ⟨by omega, by omega⟩)
  have hP : NotP E a (ntPut (ntPut T 3 i z) 5 i (ntG (ntPut T 3 i z) 4 i)) n H := hP.put (k := 5) (by decide) hX hO1
  refine lv_aload_n S.1 S.2.1 dX5_startDown_25 rfl (lv_at hl 0 rfl) ?_
  refine x_get S hE (hP.1) (C := RX5) (T := TX5) (N := 8) rfl inlX5 6 (by decide) (v := .ref (a + 7)) rfl kw3_11 rfl dX5_startDown_26 ?_
  refine lv_iload_n S.1 S.2.1 dX5_startDown_29 rfl (lv_at hl 1 rfl) ?_
  refine lv_iconst (v := (nI 0)) S.1 S.2.1 dX5_startDown_30 (by decide) ?_
  refine xk_V (x_runSN (As := [.ref (a + 7), .int i, .int (nI 0)]) (rest := []) S hE hS (fun q h => by rw [h]; exact ⟨by omega, by omega⟩) (c_X7_put l E (a + (6 + 1)) 200 ((ntPut (ntPut T 3 i z) 5 i (ntG (ntPut T 3 i z) 4 i)) 6) i (nI 0) _ (hP.2 6 (by decide)) (by decide)) kv_X7_put nw70 kw12_9 ⟨Nat.le_of_ble_eq_true rfl, Nat.le_of_ble_eq_true rfl⟩ rfl rfl rfl hl.1 rfl (Nat.le_of_ble_eq_true rfl) dX5_startDown_31 ⟨Nat.zero_le _, Nat.zero_le _⟩) hS (fun q h => by rw [h]; exact ⟨by omega, by omega⟩) (fun H locs hX hO1 hS => ?_)
  have hO := hO.tr hO1 (fun q h => by rw [h]; exact ⟨by omega, by omega⟩)
  have hP : NotP E a (ntPut (ntPut (ntPut T 3 i z) 5 i (ntG (ntPut T 3 i z) 4 i)) 6 i (nI 0)) n H := hP.put (k := 6) (by decide) hX hO1
  subst hQ
  refine x_retV S hr hlk hS hO ?_ dX5_startDown_34
  exact hP
abbrev rm_X5_startOver : Room := ({ frames := 2, cells := 0, slots := 0, locals := 42 } : Room)
set_option maxRecDepth 100000 in
set_option maxHeartbeats 600000 in
theorem c_X5_startOver (l : Launch) (E : XE) (a : Nat) (T : Nat → Nat → Int32) (n : Int32) (i : Int32) (z : Int32) (H : Heap) (hP : NotP E a T n H) : Wv l E yX5_startOver cX5_startOver 3 rm_X5_startOver [.ref a, .int i, .int z] H (bk a 8) (NotP E a (ntOver T i z) n) := by
  refine met_of (by decide) (Nat.le_of_ble_eq_true rfl) (fun p e s m args below meth c hBD Q hQ ls hl => ?_)
  obtain ⟨S, hr, hlk, hnm, hE, hH⟩ := hBD
  subst hH
  have hl : lv_has ls 3 [(0, .ref a), (1, .int i), (2, .int z)] := hl
  have hO : Out (bk a 8) s.heap s.heap := Out.rf
  have hS : va_S (bk a 8) s.heap s.heap [] := va_S.rf
  refine lv_aload_n S.1 S.2.1 dX5_startOver_0 rfl (lv_at hl 0 rfl) ?_
  refine x_get S hE (hP.1) (C := RX5) (T := TX5) (N := 8) rfl inlX5 2 (by decide) (v := .ref (a + 3)) rfl kw3_7 rfl dX5_startOver_1 ?_
  refine lv_iload_n S.1 S.2.1 dX5_startOver_4 rfl (lv_at hl 1 rfl) ?_
  refine lv_iload_n S.1 S.2.1 dX5_startOver_5 rfl (lv_at hl 2 rfl) ?_
  refine xk_V (x_runSN (As := [.ref (a + 3), .int i, .int z]) (rest := []) S hE hS (fun q h => by rw [h]; exact ⟨by omega, by omega⟩) (c_X7_put l E (a + (2 + 1)) 200 (T 2) i z _ (hP.2 2 (by decide)) (by decide)) kv_X7_put nw70 kw12_9 ⟨Nat.le_of_ble_eq_true rfl, Nat.le_of_ble_eq_true rfl⟩ rfl rfl rfl hl.1 rfl (Nat.le_of_ble_eq_true rfl) dX5_startOver_6 ⟨Nat.zero_le _, Nat.zero_le _⟩) hS (fun q h => by rw [h]; exact ⟨by omega, by omega⟩) (fun H locs hX hO1 hS => ?_)
  have hO := hO.tr hO1 (fun q h => by rw [h]; exact ⟨by omega, by omega⟩)
  have hP : NotP E a (ntPut T 2 i z) n H := hP.put (k := 2) (by decide) hX hO1
  refine lv_aload_n S.1 S.2.1 dX5_startOver_9 rfl (lv_at hl 0 rfl) ?_
  refine x_get S hE (hP.1) (C := RX5) (T := TX5) (N := 8) rfl inlX5 6 (by decide) (v := .ref (a + 7)) rfl kw3_11 rfl dX5_startOver_10 ?_
  refine lv_iload_n S.1 S.2.1 dX5_startOver_13 rfl (lv_at hl 1 rfl) ?_
  refine lv_iconst (v := (nI 0)) S.1 S.2.1 dX5_startOver_14 (by decide) ?_
  refine xk_V (x_runSN (As := [.ref (a + 7), .int i, .int (nI 0)]) (rest := []) S hE hS (fun q h => by rw [h]; exact ⟨by omega, by omega⟩) (c_X7_put l E (a + (6 + 1)) 200 ((ntPut T 2 i z) 6) i (nI 0) _ (hP.2 6 (by decide)) (by decide)) kv_X7_put nw70 kw12_9 ⟨Nat.le_of_ble_eq_true rfl, Nat.le_of_ble_eq_true rfl⟩ rfl rfl rfl hl.1 rfl (Nat.le_of_ble_eq_true rfl) dX5_startOver_15 ⟨Nat.zero_le _, Nat.zero_le _⟩) hS (fun q h => by rw [h]; exact ⟨by omega, by omega⟩) (fun H locs hX hO1 hS => ?_)
  have hO := hO.tr hO1 (fun q h => by rw [h]; exact ⟨by omega, by omega⟩)
  have hP : NotP E a (ntPut (ntPut T 2 i z) 6 i (nI 0)) n H := hP.put (k := 6) (by decide) hX hO1
  refine lv_aload_n S.1 S.2.1 dX5_startOver_18 rfl (lv_at hl 0 rfl) ?_
  refine x_get S hE (hP.1) (C := RX5) (T := TX5) (N := 8) rfl inlX5 3 (by decide) (v := .ref (a + 4)) rfl kw3_8 rfl dX5_startOver_19 ?_
  refine lv_iload_n S.1 S.2.1 dX5_startOver_22 rfl (lv_at hl 1 rfl) ?_
  refine lv_aload_n S.1 S.2.1 dX5_startOver_23 rfl (lv_at hl 0 rfl) ?_
  refine x_get S hE (hP.1) (C := RX5) (T := TX5) (N := 8) rfl inlX5 4 (by decide) (v := .ref (a + 5)) rfl kw3_9 rfl dX5_startOver_24 ?_
  refine lv_iload_n S.1 S.2.1 dX5_startOver_27 rfl (lv_at hl 1 rfl) ?_
  refine xk_R (v := (ntG (ntPut (ntPut T 2 i z) 6 i (nI 0)) 4 i)) (x_runSN (As := [.ref (a + 5), .int i]) (rest := [.int i, .ref (a + 4)]) S hE hS (fun _ h => h.elim) (c_X7_at l E (a + (4 + 1)) 200 ((ntPut (ntPut T 2 i z) 6 i (nI 0)) 4) i _ (xr_i (hP.2 4 (by decide))) (by decide)) kv_X7_at nw45 kw8_2 ⟨Nat.le_of_ble_eq_true rfl, Nat.le_of_ble_eq_true rfl⟩ rfl rfl rfl hl.1 rfl (Nat.le_of_ble_eq_true rfl) dX5_startOver_28 ⟨Nat.zero_le _, Nat.zero_le _⟩) ?_
  refine lv_aload_n S.1 S.2.1 dX5_startOver_31 rfl (lv_at hl 0 rfl) ?_
  refine lv_iload_n S.1 S.2.1 dX5_startOver_32 rfl (lv_at hl 1 rfl) ?_
  refine xk_R (v := (ntTop (ntPut (ntPut T 2 i z) 6 i (nI 0)) i)) (x_runV (As := [.int i]) (rest := [.int (ntG (ntPut (ntPut T 2 i z) 6 i (nI 0)) 4 i), .int i, .ref (a + 4)]) S hE hS (fun _ h => h.elim) (c_X5_top l E a (ntPut (ntPut T 2 i z) 6 i (nI 0)) n i _ hP) kv_X5_top kw19_17 kw19_18 kw19_19 (x_recv hE (hP.1) (ci := 5) rfl) ⟨Nat.le_of_ble_eq_true rfl, Nat.le_of_ble_eq_true rfl⟩ rfl rfl rfl hl.1 rfl (Nat.le_of_ble_eq_true rfl) dX5_startOver_33 ⟨Nat.zero_le _, Nat.zero_le _⟩) ?_
  refine lv_icmp_lt (tgt := 43) S.1 S.2.1 dX5_startOver_36 rfl (fun h1 => ?_) (fun h1 => ?_)
  · skip
    refine lv_iconst (v := (nI 1)) S.1 S.2.1 dX5_startOver_43 (by decide) ?_
    refine xk_V (x_runSN (As := [.ref (a + 4), .int i, .int (nI 1)]) (rest := []) S hE hS (fun q h => by rw [h]; exact ⟨by omega, by omega⟩) (c_X7_put l E (a + (3 + 1)) 200 ((ntPut (ntPut T 2 i z) 6 i (nI 0)) 3) i (nI 1) _ (hP.2 3 (by decide)) (by decide)) kv_X7_put nw70 kw12_9 ⟨Nat.le_of_ble_eq_true rfl, Nat.le_of_ble_eq_true rfl⟩ rfl rfl rfl hl.1 rfl (Nat.le_of_ble_eq_true rfl) dX5_startOver_44 ⟨Nat.zero_le _, Nat.zero_le _⟩) hS (fun q h => by rw [h]; exact ⟨by omega, by omega⟩) (fun H locs hX hO1 hS => ?_)
    have hO := hO.tr hO1 (fun q h => by rw [h]; exact ⟨by omega, by omega⟩)
    have hP : NotP E a (ntPut (ntPut (ntPut T 2 i z) 6 i (nI 0)) 3 i (nI 1)) n H := hP.put (k := 3) (by decide) hX hO1
    subst hQ
    refine x_retV S hr hlk hS hO ?_ dX5_startOver_47
    exact by rw [ntOver, if_pos h1]; exact hP
  · skip
    refine lv_iconst (v := (nI 2)) S.1 S.2.1 dX5_startOver_39 (by decide) ?_
    refine lv_goto (tgt := 44) S.1 S.2.1 dX5_startOver_40 rfl ?_
    refine xk_V (x_runSN (As := [.ref (a + 4), .int i, .int (nI 2)]) (rest := []) S hE hS (fun q h => by rw [h]; exact ⟨by omega, by omega⟩) (c_X7_put l E (a + (3 + 1)) 200 ((ntPut (ntPut T 2 i z) 6 i (nI 0)) 3) i (nI 2) _ (hP.2 3 (by decide)) (by decide)) kv_X7_put nw70 kw12_9 ⟨Nat.le_of_ble_eq_true rfl, Nat.le_of_ble_eq_true rfl⟩ rfl rfl rfl hl.1 rfl (Nat.le_of_ble_eq_true rfl) dX5_startOver_44 ⟨Nat.zero_le _, Nat.zero_le _⟩) hS (fun q h => by rw [h]; exact ⟨by omega, by omega⟩) (fun H locs hX hO1 hS => ?_)
    have hO := hO.tr hO1 (fun q h => by rw [h]; exact ⟨by omega, by omega⟩)
    have hP : NotP E a (ntPut (ntPut (ntPut T 2 i z) 6 i (nI 0)) 3 i (nI 2)) n H := hP.put (k := 3) (by decide) hX hO1
    subst hQ
    refine x_retV S hr hlk hS hO ?_ dX5_startOver_47
    exact by rw [ntOver, if_neg h1]; exact hP
abbrev rm_X5_rise : Room := ({ frames := 2, cells := 0, slots := 0, locals := 42 } : Room)
set_option maxRecDepth 100000 in
set_option maxHeartbeats 600000 in
theorem c_X5_rise (l : Launch) (E : XE) (a : Nat) (T : Nat → Nat → Int32) (n : Int32) (i : Int32) (H : Heap) (hP : NotP E a T n H) : Wv l E yX5_rise cX5_rise 4 rm_X5_rise [.ref a, .int i] H (bk a 8) (NotP E a (ntRise T i) n) := by
  refine met_of (by decide) (Nat.le_of_ble_eq_true rfl) (fun p e s m args below meth c hBD Q hQ ls hl => ?_)
  obtain ⟨S, hr, hlk, hnm, hE, hH⟩ := hBD
  subst hH
  have hl : lv_has ls 4 [(0, .ref a), (1, .int i)] := hl
  have hO : Out (bk a 8) s.heap s.heap := Out.rf
  have hS : va_S (bk a 8) s.heap s.heap [] := va_S.rf
  refine lv_aload_n S.1 S.2.1 dX5_rise_0 rfl (lv_at hl 0 rfl) ?_
  refine lv_iload_n S.1 S.2.1 dX5_rise_1 rfl (lv_at hl 1 rfl) ?_
  refine xk_R (v := (ntTop T i)) (x_runV (As := [.int i]) (rest := []) S hE hS (fun _ h => h.elim) (c_X5_top l E a T n i _ hP) kv_X5_top kw19_17 kw19_18 kw19_19 (x_recv hE (hP.1) (ci := 5) rfl) ⟨Nat.le_of_ble_eq_true rfl, Nat.le_of_ble_eq_true rfl⟩ rfl rfl rfl hl.1 rfl (Nat.le_of_ble_eq_true rfl) dX5_rise_2 ⟨Nat.zero_le _, Nat.zero_le _⟩) ?_
  refine lv_istore_n S.1 S.2.1 dX5_rise_5 rfl hl (by decide) rfl (fun ls hl => ?_)
  have hl : lv_has ls 4 [(2, .int (ntTop T i)), (0, .ref a), (1, .int i)] := hl
  refine lv_iload_n S.1 S.2.1 dX5_rise_6 rfl (lv_at hl 0 rfl) ?_
  refine lv_aload_n S.1 S.2.1 dX5_rise_7 rfl (lv_at hl 1 rfl) ?_
  refine x_get S hE (hP.1) (C := RX5) (T := TX5) (N := 8) rfl inlX5 4 (by decide) (v := .ref (a + 5)) rfl kw3_9 rfl dX5_rise_8 ?_
  refine lv_iload_n S.1 S.2.1 dX5_rise_11 rfl (lv_at hl 2 rfl) ?_
  refine xk_R (v := (ntG T 4 i)) (x_runSN (As := [.ref (a + 5), .int i]) (rest := [.int (ntTop T i)]) S hE hS (fun _ h => h.elim) (c_X7_at l E (a + (4 + 1)) 200 (T 4) i _ (xr_i (hP.2 4 (by decide))) (by decide)) kv_X7_at nw45 kw8_2 ⟨Nat.le_of_ble_eq_true rfl, Nat.le_of_ble_eq_true rfl⟩ rfl rfl rfl hl.1 rfl (Nat.le_of_ble_eq_true rfl) dX5_rise_12 ⟨Nat.zero_le _, Nat.zero_le _⟩) ?_
  refine lv_iload_n S.1 S.2.1 dX5_rise_15 rfl (lv_at hl 0 rfl) ?_
  refine x_getsN S hE hS 2 (by decide) nw30 dX5_rise_16 ?_
  refine lv_aload_n S.1 S.2.1 dX5_rise_19 rfl (lv_at hl 1 rfl) ?_
  refine x_get S hE (hP.1) (C := RX5) (T := TX5) (N := 8) rfl inlX5 0 (by decide) (v := .ref (a + 1)) rfl kw3_5 rfl dX5_rise_20 ?_
  refine lv_iload_n S.1 S.2.1 dX5_rise_23 rfl (lv_at hl 2 rfl) ?_
  refine xk_R (v := (ntG T 0 i)) (x_runSN (As := [.ref (a + 1), .int i]) (rest := [.ref (E.2.2.2 2), .int (ntTop T i), .int (ntG T 4 i), .int (ntTop T i)]) S hE hS (fun _ h => h.elim) (c_X7_at l E (a + (0 + 1)) 200 (T 0) i _ (xr_i (hP.2 0 (by decide))) (by decide)) kv_X7_at nw45 kw8_2 ⟨Nat.le_of_ble_eq_true rfl, Nat.le_of_ble_eq_true rfl⟩ rfl rfl rfl hl.1 rfl (Nat.le_of_ble_eq_true rfl) dX5_rise_24 ⟨Nat.zero_le _, Nat.zero_le _⟩) ?_
  refine xk_R (v := (xat (st_val 2) 4 (ntG T 0 i))) (x_runSN (As := [.ref (E.2.2.2 2), .int (ntG T 0 i)]) (rest := [.int (ntTop T i), .int (ntG T 4 i), .int (ntTop T i)]) S hE hS (fun _ h => h.elim) (c_X7_at l E _ (st_len 2) (st_val 2) (ntG T 0 i) _ (xr_s 2 (by decide)) (by decide)) kv_X7_at nw45 kw8_2 ⟨Nat.le_of_ble_eq_true rfl, Nat.le_of_ble_eq_true rfl⟩ rfl rfl rfl hl.1 rfl (Nat.le_of_ble_eq_true rfl) dX5_rise_27 ⟨Nat.zero_le _, Nat.zero_le _⟩) ?_
  refine xk_R (v := (xdiv (ntTop T i) (xat (st_val 2) 4 (ntG T 0 i)))) (x_runSN (As := [.int (ntTop T i), .int (xat (st_val 2) 4 (ntG T 0 i))]) (rest := [.int (ntG T 4 i), .int (ntTop T i)]) S hE hS (fun _ h => h.elim) (c_X7_divideUp l E (ntTop T i) (xat (st_val 2) 4 (ntG T 0 i)) _) kv_X7_divideUp nw85 kw22_17 ⟨Nat.le_of_ble_eq_true rfl, Nat.le_of_ble_eq_true rfl⟩ rfl rfl rfl hl.1 rfl (Nat.le_of_ble_eq_true rfl) dX5_rise_30 ⟨Nat.zero_le _, Nat.zero_le _⟩) ?_
  refine lv_iadd S.1 S.2.1 dX5_rise_33 ?_
  refine va_mmin S.1 S.2.1 (S.2.2.1.trans hl.1.symm) S.2.2.2.1 (S.2.2.2.2 _ kw22_16) (S.2.2.2.2 _ kw4_2) (S.2.2.2.2 _ kw3_17) (S.2.2.2.2 _ kw4_3) (Nat.le_of_ble_eq_true rfl) (Nat.le_of_ble_eq_true rfl) (Nat.zero_le _) (Nat.zero_le _) dX5_rise_34 ?_
  refine x_top (y := (xmin (ntTop T i) ((ntG T 4 i) + (xdiv (ntTop T i) (xat (st_val 2) 4 (ntG T 0 i)))))) rfl ?_
  refine x_top (y := (ntRisen T i)) (rfl) ?_
  refine lv_istore_n S.1 S.2.1 dX5_rise_37 rfl hl (by decide) rfl (fun ls hl => ?_)
  have hl : lv_has ls 4 [(3, .int (ntRisen T i)), (2, .int (ntTop T i)), (0, .ref a), (1, .int i)] := hl
  refine lv_aload_n S.1 S.2.1 dX5_rise_38 rfl (lv_at hl 2 rfl) ?_
  refine x_get S hE (hP.1) (C := RX5) (T := TX5) (N := 8) rfl inlX5 4 (by decide) (v := .ref (a + 5)) rfl kw3_9 rfl dX5_rise_39 ?_
  refine lv_iload_n S.1 S.2.1 dX5_rise_42 rfl (lv_at hl 3 rfl) ?_
  refine lv_iload_n S.1 S.2.1 dX5_rise_43 rfl (lv_at hl 0 rfl) ?_
  refine xk_V (x_runSN (As := [.ref (a + 5), .int i, .int (ntRisen T i)]) (rest := []) S hE hS (fun q h => by rw [h]; exact ⟨by omega, by omega⟩) (c_X7_put l E (a + (4 + 1)) 200 (T 4) i (ntRisen T i) _ (hP.2 4 (by decide)) (by decide)) kv_X7_put nw70 kw12_9 ⟨Nat.le_of_ble_eq_true rfl, Nat.le_of_ble_eq_true rfl⟩ rfl rfl rfl hl.1 rfl (Nat.le_of_ble_eq_true rfl) dX5_rise_44 ⟨Nat.zero_le _, Nat.zero_le _⟩) hS (fun q h => by rw [h]; exact ⟨by omega, by omega⟩) (fun H locs hX hO1 hS => ?_)
  have hO := hO.tr hO1 (fun q h => by rw [h]; exact ⟨by omega, by omega⟩)
  have hP : NotP E a (ntPut T 4 i (ntRisen T i)) n H := hP.put (k := 4) (by decide) hX hO1
  refine lv_iload_n S.1 S.2.1 dX5_rise_47 rfl (lv_at hl 0 rfl) ?_
  refine lv_iload_n S.1 S.2.1 dX5_rise_48 rfl (lv_at hl 1 rfl) ?_
  refine lv_icmp_ne (tgt := 61) S.1 S.2.1 dX5_rise_49 rfl (fun h1 => ?_) (fun h1 => ?_)
  · skip
    subst hQ
    refine x_retV S hr hlk hS hO ?_ dX5_rise_61
    exact by rw [ntRise, if_neg h1]; exact hP
  · skip
    refine lv_aload_n S.1 S.2.1 dX5_rise_52 rfl (lv_at hl 2 rfl) ?_
    refine x_get S hE (hP.1) (C := RX5) (T := TX5) (N := 8) rfl inlX5 3 (by decide) (v := .ref (a + 4)) rfl kw3_8 rfl dX5_rise_53 ?_
    refine lv_iload_n S.1 S.2.1 dX5_rise_56 rfl (lv_at hl 3 rfl) ?_
    refine lv_iconst (v := (nI 2)) S.1 S.2.1 dX5_rise_57 (by decide) ?_
    refine xk_V (x_runSN (As := [.ref (a + 4), .int i, .int (nI 2)]) (rest := []) S hE hS (fun q h => by rw [h]; exact ⟨by omega, by omega⟩) (c_X7_put l E (a + (3 + 1)) 200 ((ntPut T 4 i (ntRisen T i)) 3) i (nI 2) _ (hP.2 3 (by decide)) (by decide)) kv_X7_put nw70 kw12_9 ⟨Nat.le_of_ble_eq_true rfl, Nat.le_of_ble_eq_true rfl⟩ rfl rfl rfl hl.1 rfl (Nat.le_of_ble_eq_true rfl) dX5_rise_58 ⟨Nat.zero_le _, Nat.zero_le _⟩) hS (fun q h => by rw [h]; exact ⟨by omega, by omega⟩) (fun H locs hX hO1 hS => ?_)
    have hO := hO.tr hO1 (fun q h => by rw [h]; exact ⟨by omega, by omega⟩)
    have hP : NotP E a (ntPut (ntPut T 4 i (ntRisen T i)) 3 i (nI 2)) n H := hP.put (k := 3) (by decide) hX hO1
    subst hQ
    refine x_retV S hr hlk hS hO ?_ dX5_rise_61
    exact by rw [ntRise, if_pos h1]; exact hP
abbrev rm_X5_sink : Room := ({ frames := 2, cells := 0, slots := 0, locals := 43 } : Room)
set_option maxRecDepth 100000 in
set_option maxHeartbeats 600000 in
theorem c_X5_sink (l : Launch) (E : XE) (a : Nat) (T : Nat → Nat → Int32) (n : Int32) (i : Int32) (H : Heap) (hP : NotP E a T n H) : Wv l E yX5_sink cX5_sink 5 rm_X5_sink [.ref a, .int i] H (bk a 8) (NotP E a (ntSink T i) n) := by
  refine met_of (by decide) (Nat.le_of_ble_eq_true rfl) (fun p e s m args below meth c hBD Q hQ ls hl => ?_)
  obtain ⟨S, hr, hlk, hnm, hE, hH⟩ := hBD
  subst hH
  have hl : lv_has ls 5 [(0, .ref a), (1, .int i)] := hl
  have hO : Out (bk a 8) s.heap s.heap := Out.rf
  have hS : va_S (bk a 8) s.heap s.heap [] := va_S.rf
  refine lv_aload_n S.1 S.2.1 dX5_sink_0 rfl (lv_at hl 0 rfl) ?_
  refine lv_iload_n S.1 S.2.1 dX5_sink_1 rfl (lv_at hl 1 rfl) ?_
  refine xk_R (v := (ntTop T i)) (x_runV (As := [.int i]) (rest := []) S hE hS (fun _ h => h.elim) (c_X5_top l E a T n i _ hP) kv_X5_top kw19_17 kw19_18 kw19_19 (x_recv hE (hP.1) (ci := 5) rfl) ⟨Nat.le_of_ble_eq_true rfl, Nat.le_of_ble_eq_true rfl⟩ rfl rfl rfl hl.1 rfl (Nat.le_of_ble_eq_true rfl) dX5_sink_2 ⟨Nat.zero_le _, Nat.zero_le _⟩) ?_
  refine lv_istore_n S.1 S.2.1 dX5_sink_5 rfl hl (by decide) rfl (fun ls hl => ?_)
  have hl : lv_has ls 5 [(2, .int (ntTop T i)), (0, .ref a), (1, .int i)] := hl
  refine lv_aload_n S.1 S.2.1 dX5_sink_6 rfl (lv_at hl 1 rfl) ?_
  refine lv_iload_n S.1 S.2.1 dX5_sink_7 rfl (lv_at hl 2 rfl) ?_
  refine lv_iload_n S.1 S.2.1 dX5_sink_8 rfl (lv_at hl 0 rfl) ?_
  refine xk_R (v := (ntRestT T i (ntTop T i))) (x_runV (As := [.int i, .int (ntTop T i)]) (rest := []) S hE hS (fun _ h => h.elim) (c_X5_rest l E a T n i (ntTop T i) _ hP) kv_X5_rest kw23_0 kw23_1 kw23_2 (x_recv hE (hP.1) (ci := 5) rfl) ⟨Nat.le_of_ble_eq_true rfl, Nat.le_of_ble_eq_true rfl⟩ rfl rfl rfl hl.1 rfl (Nat.le_of_ble_eq_true rfl) dX5_sink_9 ⟨Nat.zero_le _, Nat.zero_le _⟩) ?_
  refine x_top (y := (ntRest T i)) (rfl) ?_
  refine lv_istore_n S.1 S.2.1 dX5_sink_12 rfl hl (by decide) rfl (fun ls hl => ?_)
  have hl : lv_has ls 5 [(3, .int (ntRest T i)), (2, .int (ntTop T i)), (0, .ref a), (1, .int i)] := hl
  refine lv_iload_n S.1 S.2.1 dX5_sink_13 rfl (lv_at hl 0 rfl) ?_
  refine lv_aload_n S.1 S.2.1 dX5_sink_14 rfl (lv_at hl 2 rfl) ?_
  refine x_get S hE (hP.1) (C := RX5) (T := TX5) (N := 8) rfl inlX5 4 (by decide) (v := .ref (a + 5)) rfl kw3_9 rfl dX5_sink_15 ?_
  refine lv_iload_n S.1 S.2.1 dX5_sink_18 rfl (lv_at hl 3 rfl) ?_
  refine xk_R (v := (ntG T 4 i)) (x_runSN (As := [.ref (a + 5), .int i]) (rest := [.int (ntRest T i)]) S hE hS (fun _ h => h.elim) (c_X7_at l E (a + (4 + 1)) 200 (T 4) i _ (xr_i (hP.2 4 (by decide))) (by decide)) kv_X7_at nw45 kw8_2 ⟨Nat.le_of_ble_eq_true rfl, Nat.le_of_ble_eq_true rfl⟩ rfl rfl rfl hl.1 rfl (Nat.le_of_ble_eq_true rfl) dX5_sink_19 ⟨Nat.zero_le _, Nat.zero_le _⟩) ?_
  refine lv_iload_n S.1 S.2.1 dX5_sink_22 rfl (lv_at hl 1 rfl) ?_
  refine lv_iload_n S.1 S.2.1 dX5_sink_23 rfl (lv_at hl 0 rfl) ?_
  refine lv_isub S.1 S.2.1 dX5_sink_24 ?_
  refine x_getsN S hE hS 3 (by decide) nw32 dX5_sink_25 ?_
  refine lv_aload_n S.1 S.2.1 dX5_sink_28 rfl (lv_at hl 2 rfl) ?_
  refine x_get S hE (hP.1) (C := RX5) (T := TX5) (N := 8) rfl inlX5 0 (by decide) (v := .ref (a + 1)) rfl kw3_5 rfl dX5_sink_29 ?_
  refine lv_iload_n S.1 S.2.1 dX5_sink_32 rfl (lv_at hl 3 rfl) ?_
  refine xk_R (v := (ntG T 0 i)) (x_runSN (As := [.ref (a + 1), .int i]) (rest := [.ref (E.2.2.2 3), .int ((ntTop T i) - (ntRest T i)), .int (ntG T 4 i), .int (ntRest T i)]) S hE hS (fun _ h => h.elim) (c_X7_at l E (a + (0 + 1)) 200 (T 0) i _ (xr_i (hP.2 0 (by decide))) (by decide)) kv_X7_at nw45 kw8_2 ⟨Nat.le_of_ble_eq_true rfl, Nat.le_of_ble_eq_true rfl⟩ rfl rfl rfl hl.1 rfl (Nat.le_of_ble_eq_true rfl) dX5_sink_33 ⟨Nat.zero_le _, Nat.zero_le _⟩) ?_
  refine xk_R (v := (xat (st_val 3) 4 (ntG T 0 i))) (x_runSN (As := [.ref (E.2.2.2 3), .int (ntG T 0 i)]) (rest := [.int ((ntTop T i) - (ntRest T i)), .int (ntG T 4 i), .int (ntRest T i)]) S hE hS (fun _ h => h.elim) (c_X7_at l E _ (st_len 3) (st_val 3) (ntG T 0 i) _ (xr_s 3 (by decide)) (by decide)) kv_X7_at nw45 kw8_2 ⟨Nat.le_of_ble_eq_true rfl, Nat.le_of_ble_eq_true rfl⟩ rfl rfl rfl hl.1 rfl (Nat.le_of_ble_eq_true rfl) dX5_sink_36 ⟨Nat.zero_le _, Nat.zero_le _⟩) ?_
  refine xk_R (v := (xdiv ((ntTop T i) - (ntRest T i)) (xat (st_val 3) 4 (ntG T 0 i)))) (x_runSN (As := [.int ((ntTop T i) - (ntRest T i)), .int (xat (st_val 3) 4 (ntG T 0 i))]) (rest := [.int (ntG T 4 i), .int (ntRest T i)]) S hE hS (fun _ h => h.elim) (c_X7_divideUp l E ((ntTop T i) - (ntRest T i)) (xat (st_val 3) 4 (ntG T 0 i)) _) kv_X7_divideUp nw85 kw22_17 ⟨Nat.le_of_ble_eq_true rfl, Nat.le_of_ble_eq_true rfl⟩ rfl rfl rfl hl.1 rfl (Nat.le_of_ble_eq_true rfl) dX5_sink_39 ⟨Nat.zero_le _, Nat.zero_le _⟩) ?_
  refine lv_isub S.1 S.2.1 dX5_sink_42 ?_
  refine va_mmax S.1 S.2.1 (S.2.2.1.trans hl.1.symm) S.2.2.2.1 (S.2.2.2.2 _ kw22_23) (S.2.2.2.2 _ kw3_16) (S.2.2.2.2 _ kw3_17) (S.2.2.2.2 _ kw3_18) (Nat.le_of_ble_eq_true rfl) (Nat.le_of_ble_eq_true rfl) (Nat.zero_le _) (Nat.zero_le _) dX5_sink_43 ?_
  refine x_top (y := (xmax (ntRest T i) ((ntG T 4 i) - (xdiv ((ntTop T i) - (ntRest T i)) (xat (st_val 3) 4 (ntG T 0 i)))))) rfl ?_
  refine x_top (y := (ntSunk T i)) (rfl) ?_
  refine lv_istore S.1 S.2.1 dX5_sink_46 hl (by decide) rfl (fun ls hl => ?_)
  have hl : lv_has ls 5 [(4, .int (ntSunk T i)), (3, .int (ntRest T i)), (2, .int (ntTop T i)), (0, .ref a), (1, .int i)] := hl
  refine lv_aload_n S.1 S.2.1 dX5_sink_48 rfl (lv_at hl 3 rfl) ?_
  refine x_get S hE (hP.1) (C := RX5) (T := TX5) (N := 8) rfl inlX5 4 (by decide) (v := .ref (a + 5)) rfl kw3_9 rfl dX5_sink_49 ?_
  refine lv_iload_n S.1 S.2.1 dX5_sink_52 rfl (lv_at hl 4 rfl) ?_
  refine lv_iload S.1 S.2.1 dX5_sink_53 (lv_at hl 0 rfl) ?_
  refine xk_V (x_runSN (As := [.ref (a + 5), .int i, .int (ntSunk T i)]) (rest := []) S hE hS (fun q h => by rw [h]; exact ⟨by omega, by omega⟩) (c_X7_put l E (a + (4 + 1)) 200 (T 4) i (ntSunk T i) _ (hP.2 4 (by decide)) (by decide)) kv_X7_put nw70 kw12_9 ⟨Nat.le_of_ble_eq_true rfl, Nat.le_of_ble_eq_true rfl⟩ rfl rfl rfl hl.1 rfl (Nat.le_of_ble_eq_true rfl) dX5_sink_55 ⟨Nat.zero_le _, Nat.zero_le _⟩) hS (fun q h => by rw [h]; exact ⟨by omega, by omega⟩) (fun H locs hX hO1 hS => ?_)
  have hO := hO.tr hO1 (fun q h => by rw [h]; exact ⟨by omega, by omega⟩)
  have hP : NotP E a (ntPut T 4 i (ntSunk T i)) n H := hP.put (k := 4) (by decide) hX hO1
  refine lv_iload S.1 S.2.1 dX5_sink_58 (lv_at hl 0 rfl) ?_
  refine lv_iload_n S.1 S.2.1 dX5_sink_60 rfl (lv_at hl 1 rfl) ?_
  refine lv_icmp_ne (tgt := 73) S.1 S.2.1 dX5_sink_61 rfl (fun h1 => ?_) (fun h1 => ?_)
  · skip
    subst hQ
    refine x_retV S hr hlk hS hO ?_ dX5_sink_73
    exact by rw [ntSink, if_neg h1]; exact hP
  · skip
    refine lv_aload_n S.1 S.2.1 dX5_sink_64 rfl (lv_at hl 3 rfl) ?_
    refine x_get S hE (hP.1) (C := RX5) (T := TX5) (N := 8) rfl inlX5 3 (by decide) (v := .ref (a + 4)) rfl kw3_8 rfl dX5_sink_65 ?_
    refine lv_iload_n S.1 S.2.1 dX5_sink_68 rfl (lv_at hl 4 rfl) ?_
    refine lv_iconst (v := (nI 3)) S.1 S.2.1 dX5_sink_69 (by decide) ?_
    refine xk_V (x_runSN (As := [.ref (a + 4), .int i, .int (nI 3)]) (rest := []) S hE hS (fun q h => by rw [h]; exact ⟨by omega, by omega⟩) (c_X7_put l E (a + (3 + 1)) 200 ((ntPut T 4 i (ntSunk T i)) 3) i (nI 3) _ (hP.2 3 (by decide)) (by decide)) kv_X7_put nw70 kw12_9 ⟨Nat.le_of_ble_eq_true rfl, Nat.le_of_ble_eq_true rfl⟩ rfl rfl rfl hl.1 rfl (Nat.le_of_ble_eq_true rfl) dX5_sink_70 ⟨Nat.zero_le _, Nat.zero_le _⟩) hS (fun q h => by rw [h]; exact ⟨by omega, by omega⟩) (fun H locs hX hO1 hS => ?_)
    have hO := hO.tr hO1 (fun q h => by rw [h]; exact ⟨by omega, by omega⟩)
    have hP : NotP E a (ntPut (ntPut T 4 i (ntSunk T i)) 3 i (nI 3)) n H := hP.put (k := 3) (by decide) hX hO1
    subst hQ
    refine x_retV S hr hlk hS hO ?_ dX5_sink_73
    exact by rw [ntSink, if_pos h1]; exact hP
abbrev rm_X5_goDown : Room := ({ frames := 2, cells := 0, slots := 0, locals := 43 } : Room)
set_option maxRecDepth 100000 in
set_option maxHeartbeats 600000 in
theorem c_X5_goDown (l : Launch) (E : XE) (a : Nat) (T : Nat → Nat → Int32) (n : Int32) (i : Int32) (z : Int32) (H : Heap) (hP : NotP E a T n H) : Wv l E yX5_goDown cX5_goDown 4 rm_X5_goDown [.ref a, .int i, .int z] H (bk a 8) (NotP E a (ntGo T i z) n) := by
  refine met_of (by decide) (Nat.le_of_ble_eq_true rfl) (fun p e s m args below meth c hBD Q hQ ls hl => ?_)
  obtain ⟨S, hr, hlk, hnm, hE, hH⟩ := hBD
  subst hH
  have hl : lv_has ls 4 [(0, .ref a), (1, .int i), (2, .int z)] := hl
  have hO : Out (bk a 8) s.heap s.heap := Out.rf
  have hS : va_S (bk a 8) s.heap s.heap [] := va_S.rf
  refine lv_iconst (v := (nI 0)) S.1 S.2.1 dX5_goDown_0 (by decide) ?_
  refine lv_aload_n S.1 S.2.1 dX5_goDown_1 rfl (lv_at hl 0 rfl) ?_
  refine x_get S hE (hP.1) (C := RX5) (T := TX5) (N := 8) rfl inlX5 4 (by decide) (v := .ref (a + 5)) rfl kw3_9 rfl dX5_goDown_2 ?_
  refine lv_iload_n S.1 S.2.1 dX5_goDown_5 rfl (lv_at hl 1 rfl) ?_
  refine xk_R (v := (ntG T 4 i)) (x_runSN (As := [.ref (a + 5), .int i]) (rest := [.int (nI 0)]) S hE hS (fun _ h => h.elim) (c_X7_at l E (a + (4 + 1)) 200 (T 4) i _ (xr_i (hP.2 4 (by decide))) (by decide)) kv_X7_at nw45 kw8_2 ⟨Nat.le_of_ble_eq_true rfl, Nat.le_of_ble_eq_true rfl⟩ rfl rfl rfl hl.1 rfl (Nat.le_of_ble_eq_true rfl) dX5_goDown_6 ⟨Nat.zero_le _, Nat.zero_le _⟩) ?_
  refine lv_aload_n S.1 S.2.1 dX5_goDown_9 rfl (lv_at hl 0 rfl) ?_
  refine x_get S hE (hP.1) (C := RX5) (T := TX5) (N := 8) rfl inlX5 5 (by decide) (v := .ref (a + 6)) rfl kw3_10 rfl dX5_goDown_10 ?_
  refine lv_iload_n S.1 S.2.1 dX5_goDown_13 rfl (lv_at hl 1 rfl) ?_
  refine xk_R (v := (ntG T 5 i)) (x_runSN (As := [.ref (a + 6), .int i]) (rest := [.int (ntG T 4 i), .int (nI 0)]) S hE hS (fun _ h => h.elim) (c_X7_at l E (a + (5 + 1)) 200 (T 5) i _ (xr_i (hP.2 5 (by decide))) (by decide)) kv_X7_at nw45 kw8_2 ⟨Nat.le_of_ble_eq_true rfl, Nat.le_of_ble_eq_true rfl⟩ rfl rfl rfl hl.1 rfl (Nat.le_of_ble_eq_true rfl) dX5_goDown_14 ⟨Nat.zero_le _, Nat.zero_le _⟩) ?_
  refine lv_iload_n S.1 S.2.1 dX5_goDown_17 rfl (lv_at hl 2 rfl) ?_
  refine xk_R (v := (xdiv (ntG T 5 i) z)) (x_runSN (As := [.int (ntG T 5 i), .int z]) (rest := [.int (ntG T 4 i), .int (nI 0)]) S hE hS (fun _ h => h.elim) (c_X7_divideUp l E (ntG T 5 i) z _) kv_X7_divideUp nw85 kw22_17 ⟨Nat.le_of_ble_eq_true rfl, Nat.le_of_ble_eq_true rfl⟩ rfl rfl rfl hl.1 rfl (Nat.le_of_ble_eq_true rfl) dX5_goDown_18 ⟨Nat.zero_le _, Nat.zero_le _⟩) ?_
  refine lv_isub S.1 S.2.1 dX5_goDown_21 ?_
  refine va_mmax S.1 S.2.1 (S.2.2.1.trans hl.1.symm) S.2.2.2.1 (S.2.2.2.2 _ kw22_23) (S.2.2.2.2 _ kw3_16) (S.2.2.2.2 _ kw3_17) (S.2.2.2.2 _ kw3_18) (Nat.le_of_ble_eq_true rfl) (Nat.le_of_ble_eq_true rfl) (Nat.zero_le _) (Nat.zero_le _) dX5_goDown_22 ?_
  refine x_top (y := (xmax (nI 0) ((ntG T 4 i) - (xdiv (ntG T 5 i) z)))) rfl ?_
  refine x_top (y := (ntLeft T i z)) (rfl) ?_
  refine lv_istore_n S.1 S.2.1 dX5_goDown_25 rfl hl (by decide) rfl (fun ls hl => ?_)
  have hl : lv_has ls 4 [(3, .int (ntLeft T i z)), (0, .ref a), (1, .int i), (2, .int z)] := hl
  refine lv_aload_n S.1 S.2.1 dX5_goDown_26 rfl (lv_at hl 1 rfl) ?_
  refine x_get S hE (hP.1) (C := RX5) (T := TX5) (N := 8) rfl inlX5 4 (by decide) (v := .ref (a + 5)) rfl kw3_9 rfl dX5_goDown_27 ?_
  refine lv_iload_n S.1 S.2.1 dX5_goDown_30 rfl (lv_at hl 2 rfl) ?_
  refine lv_iload_n S.1 S.2.1 dX5_goDown_31 rfl (lv_at hl 0 rfl) ?_
  refine xk_V (x_runSN (As := [.ref (a + 5), .int i, .int (ntLeft T i z)]) (rest := []) S hE hS (fun q h => by rw [h]; exact ⟨by omega, by omega⟩) (c_X7_put l E (a + (4 + 1)) 200 (T 4) i (ntLeft T i z) _ (hP.2 4 (by decide)) (by decide)) kv_X7_put nw70 kw12_9 ⟨Nat.le_of_ble_eq_true rfl, Nat.le_of_ble_eq_true rfl⟩ rfl rfl rfl hl.1 rfl (Nat.le_of_ble_eq_true rfl) dX5_goDown_32 ⟨Nat.zero_le _, Nat.zero_le _⟩) hS (fun q h => by rw [h]; exact ⟨by omega, by omega⟩) (fun H locs hX hO1 hS => ?_)
  have hO := hO.tr hO1 (fun q h => by rw [h]; exact ⟨by omega, by omega⟩)
  have hP : NotP E a (ntPut T 4 i (ntLeft T i z)) n H := hP.put (k := 4) (by decide) hX hO1
  refine lv_iload_n S.1 S.2.1 dX5_goDown_35 rfl (lv_at hl 0 rfl) ?_
  refine lv_if_ne (tgt := 44) S.1 S.2.1 dX5_goDown_36 rfl (fun h1 => ?_) (fun h1 => ?_)
  · skip
    subst hQ
    refine x_retV S hr hlk hS hO ?_ dX5_goDown_44
    exact by rw [ntGo, if_neg h1]; exact hP
  · skip
    refine lv_aload_n S.1 S.2.1 dX5_goDown_39 rfl (lv_at hl 1 rfl) ?_
    refine lv_iload_n S.1 S.2.1 dX5_goDown_40 rfl (lv_at hl 2 rfl) ?_
    refine xk_V (x_runV (As := [.int i]) (rest := []) S hE hS (fun q h => h) (c_X5_end l E a (ntPut T 4 i (ntLeft T i z)) n i _ hP) kv_X5_end kw23_8 kw20_17 kw20_18 (x_recv hE (hP.1) (ci := 5) rfl) ⟨Nat.le_of_ble_eq_true rfl, Nat.le_of_ble_eq_true rfl⟩ rfl rfl rfl hl.1 rfl (Nat.le_of_ble_eq_true rfl) dX5_goDown_41 ⟨Nat.zero_le _, Nat.zero_le _⟩) hS (fun q h => h) (fun H locs hX hO1 hS => ?_)
    have hO := hO.tr hO1 (fun q h => h)
    have hP := hX
    subst hQ
    refine x_retV S hr hlk hS hO ?_ dX5_goDown_44
    exact by rw [ntGo, if_pos h1]; exact hP
abbrev rm_X5_move : Room := ({ frames := 3, cells := 0, slots := 0, locals := 67 } : Room)
set_option maxRecDepth 100000 in
set_option maxHeartbeats 600000 in
theorem c_X5_move (l : Launch) (E : XE) (a : Nat) (T : Nat → Nat → Int32) (n : Int32) (i : Int32) (H : Heap) (hP : NotP E a T n H) : Wv l E yX5_move cX5_move 2 rm_X5_move [.ref a, .int i] H (bk a 8) (NotP E a (ntMove T i) n) := by
  refine met_of (by decide) (Nat.le_of_ble_eq_true rfl) (fun p e s m args below meth c hBD Q hQ ls hl => ?_)
  obtain ⟨S, hr, hlk, hnm, hE, hH⟩ := hBD
  subst hH
  have hl : lv_has ls 2 [(0, .ref a), (1, .int i)] := hl
  have hO : Out (bk a 8) s.heap s.heap := Out.rf
  have hS : va_S (bk a 8) s.heap s.heap [] := va_S.rf
  refine lv_aload_n S.1 S.2.1 dX5_move_0 rfl (lv_at hl 0 rfl) ?_
  refine x_get S hE (hP.1) (C := RX5) (T := TX5) (N := 8) rfl inlX5 3 (by decide) (v := .ref (a + 4)) rfl kw3_8 rfl dX5_move_1 ?_
  refine lv_iload_n S.1 S.2.1 dX5_move_4 rfl (lv_at hl 1 rfl) ?_
  refine xk_R (v := (ntG T 3 i)) (x_runSN (As := [.ref (a + 4), .int i]) (rest := []) S hE hS (fun _ h => h.elim) (c_X7_at l E (a + (3 + 1)) 200 (T 3) i _ (xr_i (hP.2 3 (by decide))) (by decide)) kv_X7_at nw45 kw8_2 ⟨Nat.le_of_ble_eq_true rfl, Nat.le_of_ble_eq_true rfl⟩ rfl rfl rfl hl.1 rfl (Nat.le_of_ble_eq_true rfl) dX5_move_5 ⟨Nat.zero_le _, Nat.zero_le _⟩) ?_
  by_cases h1_1 : (ntG T 3 i) = (nI 1)
  · refine x_top h1_1 ?_
    refine lv_tableIn (tgt := 44) S.1 S.2.1 dX5_move_8 (by decide) (by decide) (show _ = some (36) from rfl) rfl ?_
    refine lv_aload_n S.1 S.2.1 dX5_move_44 rfl (lv_at hl 0 rfl) ?_
    refine lv_iload_n S.1 S.2.1 dX5_move_45 rfl (lv_at hl 1 rfl) ?_
    refine xk_V (x_runV (As := [.int i]) (rest := []) S hE hS (fun q h => h) (c_X5_rise l E a T n i _ hP) kv_X5_rise kw22_12 kw22_13 kw22_14 (x_recv hE (hP.1) (ci := 5) rfl) ⟨Nat.le_of_ble_eq_true rfl, Nat.le_of_ble_eq_true rfl⟩ rfl rfl rfl hl.1 rfl (Nat.le_of_ble_eq_true rfl) dX5_move_46 ⟨Nat.zero_le _, Nat.zero_le _⟩) hS (fun q h => h) (fun H locs hX hO1 hS => ?_)
    have hO := hO.tr hO1 (fun q h => h)
    have hP := hX
    refine lv_goto (tgt := 91) S.1 S.2.1 dX5_move_49 rfl ?_
    subst hQ
    refine x_retV S hr hlk hS hO ?_ dX5_move_91
    exact by rw [ntMove, if_pos h1_1]; exact hP
  by_cases h1_2 : (ntG T 3 i) = (nI 2)
  · refine x_top h1_2 ?_
    refine lv_tableIn (tgt := 52) S.1 S.2.1 dX5_move_8 (by decide) (by decide) (show _ = some (44) from rfl) rfl ?_
    refine lv_aload_n S.1 S.2.1 dX5_move_52 rfl (lv_at hl 0 rfl) ?_
    refine lv_iload_n S.1 S.2.1 dX5_move_53 rfl (lv_at hl 1 rfl) ?_
    refine xk_V (x_runV (As := [.int i]) (rest := []) S hE hS (fun q h => h) (c_X5_sink l E a T n i _ hP) kv_X5_sink kw22_19 kw22_20 kw22_21 (x_recv hE (hP.1) (ci := 5) rfl) ⟨Nat.le_of_ble_eq_true rfl, Nat.le_of_ble_eq_true rfl⟩ rfl rfl rfl hl.1 rfl (Nat.le_of_ble_eq_true rfl) dX5_move_54 ⟨Nat.zero_le _, Nat.zero_le _⟩) hS (fun q h => h) (fun H locs hX hO1 hS => ?_)
    have hO := hO.tr hO1 (fun q h => h)
    have hP := hX
    refine lv_goto (tgt := 91) S.1 S.2.1 dX5_move_57 rfl ?_
    subst hQ
    refine x_retV S hr hlk hS hO ?_ dX5_move_91
    exact by rw [ntMove, if_neg h1_1, if_pos h1_2]; exact hP
  by_cases h1_3 : (ntG T 3 i) = (nI 3)
  · refine x_top h1_3 ?_
    refine lv_tableIn (tgt := 91) S.1 S.2.1 dX5_move_8 (by decide) (by decide) (show _ = some (83) from rfl) rfl ?_
    subst hQ
    refine x_retV S hr hlk hS hO ?_ dX5_move_91
    exact by rw [ntMove, if_neg h1_1, if_neg h1_2, if_neg (fun z => absurd (h1_3.symm.trans z) (by decide)), if_neg (fun z => absurd (h1_3.symm.trans z) (by decide))]; exact hP
  by_cases h1_4 : (ntG T 3 i) = (nI 4)
  · refine x_top h1_4 ?_
    refine lv_tableIn (tgt := 60) S.1 S.2.1 dX5_move_8 (by decide) (by decide) (show _ = some (52) from rfl) rfl ?_
    refine lv_aload_n S.1 S.2.1 dX5_move_60 rfl (lv_at hl 0 rfl) ?_
    refine lv_iload_n S.1 S.2.1 dX5_move_61 rfl (lv_at hl 1 rfl) ?_
    refine x_getsN S hE hS 0 (by decide) nw33 dX5_move_62 ?_
    refine lv_aload_n S.1 S.2.1 dX5_move_65 rfl (lv_at hl 0 rfl) ?_
    refine x_get S hE (hP.1) (C := RX5) (T := TX5) (N := 8) rfl inlX5 0 (by decide) (v := .ref (a + 1)) rfl kw3_5 rfl dX5_move_66 ?_
    refine lv_iload_n S.1 S.2.1 dX5_move_69 rfl (lv_at hl 1 rfl) ?_
    refine xk_R (v := (ntG T 0 i)) (x_runSN (As := [.ref (a + 1), .int i]) (rest := [.ref (E.2.2.2 0), .int i, .ref a]) S hE hS (fun _ h => h.elim) (c_X7_at l E (a + (0 + 1)) 200 (T 0) i _ (xr_i (hP.2 0 (by decide))) (by decide)) kv_X7_at nw45 kw8_2 ⟨Nat.le_of_ble_eq_true rfl, Nat.le_of_ble_eq_true rfl⟩ rfl rfl rfl hl.1 rfl (Nat.le_of_ble_eq_true rfl) dX5_move_70 ⟨Nat.zero_le _, Nat.zero_le _⟩) ?_
    refine xk_R (v := (xat (st_val 0) 4 (ntG T 0 i))) (x_runSN (As := [.ref (E.2.2.2 0), .int (ntG T 0 i)]) (rest := [.int i, .ref a]) S hE hS (fun _ h => h.elim) (c_X7_at l E _ (st_len 0) (st_val 0) (ntG T 0 i) _ (xr_s 0 (by decide)) (by decide)) kv_X7_at nw45 kw8_2 ⟨Nat.le_of_ble_eq_true rfl, Nat.le_of_ble_eq_true rfl⟩ rfl rfl rfl hl.1 rfl (Nat.le_of_ble_eq_true rfl) dX5_move_73 ⟨Nat.zero_le _, Nat.zero_le _⟩) ?_
    refine xk_V (x_runV (As := [.int i, .int (xat (st_val 0) 4 (ntG T 0 i))]) (rest := []) S hE hS (fun q h => h) (c_X5_goDown l E a T n i (xat (st_val 0) 4 (ntG T 0 i)) _ hP) kv_X5_goDown kw23_4 kw23_5 kw23_6 (x_recv hE (hP.1) (ci := 5) rfl) ⟨Nat.le_of_ble_eq_true rfl, Nat.le_of_ble_eq_true rfl⟩ rfl rfl rfl hl.1 rfl (Nat.le_of_ble_eq_true rfl) dX5_move_76 ⟨Nat.zero_le _, Nat.zero_le _⟩) hS (fun q h => h) (fun H locs hX hO1 hS => ?_)
    have hO := hO.tr hO1 (fun q h => h)
    have hP := hX
    refine lv_goto (tgt := 91) S.1 S.2.1 dX5_move_79 rfl ?_
    subst hQ
    refine x_retV S hr hlk hS hO ?_ dX5_move_91
    exact by rw [ntMove, if_neg h1_1, if_neg h1_2, if_pos h1_4]; exact hP
  by_cases h1_5 : (ntG T 3 i) = (nI 5)
  · refine x_top h1_5 ?_
    refine lv_tableIn (tgt := 82) S.1 S.2.1 dX5_move_8 (by decide) (by decide) (show _ = some (74) from rfl) rfl ?_
    refine lv_aload_n S.1 S.2.1 dX5_move_82 rfl (lv_at hl 0 rfl) ?_
    refine lv_iload_n S.1 S.2.1 dX5_move_83 rfl (lv_at hl 1 rfl) ?_
    refine lv_iconst (v := (nI 3)) S.1 S.2.1 dX5_move_84 (by decide) ?_
    refine xk_V (x_runV (As := [.int i, .int (nI 3)]) (rest := []) S hE hS (fun q h => h) (c_X5_goDown l E a T n i (nI 3) _ hP) kv_X5_goDown kw23_4 kw23_5 kw23_6 (x_recv hE (hP.1) (ci := 5) rfl) ⟨Nat.le_of_ble_eq_true rfl, Nat.le_of_ble_eq_true rfl⟩ rfl rfl rfl hl.1 rfl (Nat.le_of_ble_eq_true rfl) dX5_move_85 ⟨Nat.zero_le _, Nat.zero_le _⟩) hS (fun q h => h) (fun H locs hX hO1 hS => ?_)
    have hO := hO.tr hO1 (fun q h => h)
    have hP := hX
    refine lv_goto (tgt := 91) S.1 S.2.1 dX5_move_88 rfl ?_
    subst hQ
    refine x_retV S hr hlk hS hO ?_ dX5_move_91
    exact by rw [ntMove, if_neg h1_1, if_neg h1_2, if_neg h1_4, if_pos h1_5]; exact hP
  refine lv_tableOut (tgt := 91) S.1 S.2.1 dX5_move_8 (tsw1_5 h1_1 h1_2 h1_3 h1_4 h1_5) rfl ?_
  subst hQ
  refine x_retV S hr hlk hS hO ?_ dX5_move_91
  exact by rw [ntMove, if_neg h1_1, if_neg h1_2, if_neg h1_4, if_neg h1_5]; exact hP
abbrev rm_X5_append : Room := ({ frames := 1, cells := 0, slots := 0, locals := 22 } : Room)
set_option maxRecDepth 100000 in
set_option maxHeartbeats 600000 in
theorem c_X5_append (l : Launch) (E : XE) (a : Nat) (T : Nat → Nat → Int32) (n : Int32) (p0 q0 z : Int32) (H : Heap) (hP : NotP E a T n H) : Wr l E yX5_append cX5_append 5 (some .int) rm_X5_append [.ref a, .int p0, .int q0, .int z] H (bk a 8) (fun v H1 => v = n ∧ NotP E a (ntApp T n p0 q0 z) (n + nI 1) H1) := by
  refine met_of (by decide) (Nat.le_of_ble_eq_true rfl) (fun p e s m args below meth c hBD Q hQ ls hl => ?_)
  obtain ⟨S, hr, hlk, hnm, hE, hH⟩ := hBD
  subst hH
  have hl : lv_has ls 5 [(0, .ref a), (1, .int p0), (2, .int q0), (3, .int z)] := hl
  have hO : Out (bk a 8) s.heap s.heap := Out.rf
  have hS : va_S (bk a 8) s.heap s.heap [] := va_S.rf
  refine lv_aload_n S.1 S.2.1 dX5_append_0 rfl (lv_at hl 0 rfl) ?_
  refine x_get S hE (hP.1) (C := RX5) (T := TX5) (N := 8) rfl inlX5 7 (by decide) (v := .int n) rfl kw18_4 rfl dX5_append_1 ?_
  refine lv_istore S.1 S.2.1 dX5_append_4 hl (by decide) rfl (fun ls hl => ?_)
  have hl : lv_has ls 5 [(4, .int n), (0, .ref a), (1, .int p0), (2, .int q0), (3, .int z)] := hl
  refine lv_aload_n S.1 S.2.1 dX5_append_6 rfl (lv_at hl 1 rfl) ?_
  refine x_get S hE (hP.1) (C := RX5) (T := TX5) (N := 8) rfl inlX5 0 (by decide) (v := .ref (a + 1)) rfl kw3_5 rfl dX5_append_7 ?_
  refine lv_iload S.1 S.2.1 dX5_append_10 (lv_at hl 0 rfl) ?_
  refine lv_iload_n S.1 S.2.1 dX5_append_12 rfl (lv_at hl 2 rfl) ?_
  refine xk_V (x_runSN (As := [.ref (a + 1), .int n, .int p0]) (rest := []) S hE hS (fun q h => by rw [h]; exact ⟨by omega, by omega⟩) (c_X7_put l E (a + (0 + 1)) 200 (T 0) n p0 _ (hP.2 0 (by decide)) (by decide)) kv_X7_put nw70 kw12_9 ⟨Nat.le_of_ble_eq_true rfl, Nat.le_of_ble_eq_true rfl⟩ rfl rfl rfl hl.1 rfl (Nat.le_of_ble_eq_true rfl) dX5_append_13 ⟨Nat.zero_le _, Nat.zero_le _⟩) hS (fun q h => by rw [h]; exact ⟨by omega, by omega⟩) (fun H locs hX hO1 hS => ?_)
  have hO := hO.tr hO1 (fun q h => by rw [h]; exact ⟨by omega, by omega⟩)
  have hP : NotP E a (ntPut T 0 n p0) n H := hP.put (k := 0) (by decide) hX hO1
  refine lv_aload_n S.1 S.2.1 dX5_append_16 rfl (lv_at hl 1 rfl) ?_
  refine x_get S hE (hP.1) (C := RX5) (T := TX5) (N := 8) rfl inlX5 1 (by decide) (v := .ref (a + 2)) rfl kw3_6 rfl dX5_append_17 ?_
  refine lv_iload S.1 S.2.1 dX5_append_20 (lv_at hl 0 rfl) ?_
  refine lv_iload_n S.1 S.2.1 dX5_append_22 rfl (lv_at hl 3 rfl) ?_
  refine xk_V (x_runSN (As := [.ref (a + 2), .int n, .int q0]) (rest := []) S hE hS (fun q h => by rw [h]; exact ⟨by omega, by omega⟩) (c_X7_put l E (a + (1 + 1)) 200 ((ntPut T 0 n p0) 1) n q0 _ (hP.2 1 (by decide)) (by decide)) kv_X7_put nw70 kw12_9 ⟨Nat.le_of_ble_eq_true rfl, Nat.le_of_ble_eq_true rfl⟩ rfl rfl rfl hl.1 rfl (Nat.le_of_ble_eq_true rfl) dX5_append_23 ⟨Nat.zero_le _, Nat.zero_le _⟩) hS (fun q h => by rw [h]; exact ⟨by omega, by omega⟩) (fun H locs hX hO1 hS => ?_)
  have hO := hO.tr hO1 (fun q h => by rw [h]; exact ⟨by omega, by omega⟩)
  have hP : NotP E a (ntPut (ntPut T 0 n p0) 1 n q0) n H := hP.put (k := 1) (by decide) hX hO1
  refine lv_aload_n S.1 S.2.1 dX5_append_26 rfl (lv_at hl 1 rfl) ?_
  refine x_get S hE (hP.1) (C := RX5) (T := TX5) (N := 8) rfl inlX5 2 (by decide) (v := .ref (a + 3)) rfl kw3_7 rfl dX5_append_27 ?_
  refine lv_iload S.1 S.2.1 dX5_append_30 (lv_at hl 0 rfl) ?_
  refine lv_iload_n S.1 S.2.1 dX5_append_32 rfl (lv_at hl 4 rfl) ?_
  refine xk_V (x_runSN (As := [.ref (a + 3), .int n, .int z]) (rest := []) S hE hS (fun q h => by rw [h]; exact ⟨by omega, by omega⟩) (c_X7_put l E (a + (2 + 1)) 200 ((ntPut (ntPut T 0 n p0) 1 n q0) 2) n z _ (hP.2 2 (by decide)) (by decide)) kv_X7_put nw70 kw12_9 ⟨Nat.le_of_ble_eq_true rfl, Nat.le_of_ble_eq_true rfl⟩ rfl rfl rfl hl.1 rfl (Nat.le_of_ble_eq_true rfl) dX5_append_33 ⟨Nat.zero_le _, Nat.zero_le _⟩) hS (fun q h => by rw [h]; exact ⟨by omega, by omega⟩) (fun H locs hX hO1 hS => ?_)
  have hO := hO.tr hO1 (fun q h => by rw [h]; exact ⟨by omega, by omega⟩)
  have hP : NotP E a (ntPut (ntPut (ntPut T 0 n p0) 1 n q0) 2 n z) n H := hP.put (k := 2) (by decide) hX hO1
  refine lv_aload_n S.1 S.2.1 dX5_append_36 rfl (lv_at hl 1 rfl) ?_
  refine x_get S hE (hP.1) (C := RX5) (T := TX5) (N := 8) rfl inlX5 3 (by decide) (v := .ref (a + 4)) rfl kw3_8 rfl dX5_append_37 ?_
  refine lv_iload S.1 S.2.1 dX5_append_40 (lv_at hl 0 rfl) ?_
  refine lv_iconst (v := (nI 0)) S.1 S.2.1 dX5_append_42 (by decide) ?_
  refine xk_V (x_runSN (As := [.ref (a + 4), .int n, .int (nI 0)]) (rest := []) S hE hS (fun q h => by rw [h]; exact ⟨by omega, by omega⟩) (c_X7_put l E (a + (3 + 1)) 200 ((ntPut (ntPut (ntPut T 0 n p0) 1 n q0) 2 n z) 3) n (nI 0) _ (hP.2 3 (by decide)) (by decide)) kv_X7_put nw70 kw12_9 ⟨Nat.le_of_ble_eq_true rfl, Nat.le_of_ble_eq_true rfl⟩ rfl rfl rfl hl.1 rfl (Nat.le_of_ble_eq_true rfl) dX5_append_43 ⟨Nat.zero_le _, Nat.zero_le _⟩) hS (fun q h => by rw [h]; exact ⟨by omega, by omega⟩) (fun H locs hX hO1 hS => ?_)
  have hO := hO.tr hO1 (fun q h => by rw [h]; exact ⟨by omega, by omega⟩)
  have hP : NotP E a (ntPut (ntPut (ntPut (ntPut T 0 n p0) 1 n q0) 2 n z) 3 n (nI 0)) n H := hP.put (k := 3) (by decide) hX hO1
  refine lv_aload_n S.1 S.2.1 dX5_append_46 rfl (lv_at hl 1 rfl) ?_
  refine x_get S hE (hP.1) (C := RX5) (T := TX5) (N := 8) rfl inlX5 4 (by decide) (v := .ref (a + 5)) rfl kw3_9 rfl dX5_append_47 ?_
  refine lv_iload S.1 S.2.1 dX5_append_50 (lv_at hl 0 rfl) ?_
  refine lv_iconst (v := (nI 0)) S.1 S.2.1 dX5_append_52 (by decide) ?_
  refine xk_V (x_runSN (As := [.ref (a + 5), .int n, .int (nI 0)]) (rest := []) S hE hS (fun q h => by rw [h]; exact ⟨by omega, by omega⟩) (c_X7_put l E (a + (4 + 1)) 200 ((ntPut (ntPut (ntPut (ntPut T 0 n p0) 1 n q0) 2 n z) 3 n (nI 0)) 4) n (nI 0) _ (hP.2 4 (by decide)) (by decide)) kv_X7_put nw70 kw12_9 ⟨Nat.le_of_ble_eq_true rfl, Nat.le_of_ble_eq_true rfl⟩ rfl rfl rfl hl.1 rfl (Nat.le_of_ble_eq_true rfl) dX5_append_53 ⟨Nat.zero_le _, Nat.zero_le _⟩) hS (fun q h => by rw [h]; exact ⟨by omega, by omega⟩) (fun H locs hX hO1 hS => ?_)
  have hO := hO.tr hO1 (fun q h => by rw [h]; exact ⟨by omega, by omega⟩)
  have hP : NotP E a (ntPut (ntPut (ntPut (ntPut (ntPut T 0 n p0) 1 n q0) 2 n z) 3 n (nI 0)) 4 n (nI 0)) n H := hP.put (k := 4) (by decide) hX hO1
  refine lv_aload_n S.1 S.2.1 dX5_append_56 rfl (lv_at hl 1 rfl) ?_
  refine x_get S hE (hP.1) (C := RX5) (T := TX5) (N := 8) rfl inlX5 5 (by decide) (v := .ref (a + 6)) rfl kw3_10 rfl dX5_append_57 ?_
  refine lv_iload S.1 S.2.1 dX5_append_60 (lv_at hl 0 rfl) ?_
  refine lv_iconst (v := (nI 0)) S.1 S.2.1 dX5_append_62 (by decide) ?_
  refine xk_V (x_runSN (As := [.ref (a + 6), .int n, .int (nI 0)]) (rest := []) S hE hS (fun q h => by rw [h]; exact ⟨by omega, by omega⟩) (c_X7_put l E (a + (5 + 1)) 200 ((ntPut (ntPut (ntPut (ntPut (ntPut T 0 n p0) 1 n q0) 2 n z) 3 n (nI 0)) 4 n (nI 0)) 5) n (nI 0) _ (hP.2 5 (by decide)) (by decide)) kv_X7_put nw70 kw12_9 ⟨Nat.le_of_ble_eq_true rfl, Nat.le_of_ble_eq_true rfl⟩ rfl rfl rfl hl.1 rfl (Nat.le_of_ble_eq_true rfl) dX5_append_63 ⟨Nat.zero_le _, Nat.zero_le _⟩) hS (fun q h => by rw [h]; exact ⟨by omega, by omega⟩) (fun H locs hX hO1 hS => ?_)
  have hO := hO.tr hO1 (fun q h => by rw [h]; exact ⟨by omega, by omega⟩)
  have hP : NotP E a (ntPut (ntPut (ntPut (ntPut (ntPut (ntPut T 0 n p0) 1 n q0) 2 n z) 3 n (nI 0)) 4 n (nI 0)) 5 n (nI 0)) n H := hP.put (k := 5) (by decide) hX hO1
  refine lv_aload_n S.1 S.2.1 dX5_append_66 rfl (lv_at hl 1 rfl) ?_
  refine x_get S hE (hP.1) (C := RX5) (T := TX5) (N := 8) rfl inlX5 6 (by decide) (v := .ref (a + 7)) rfl kw3_11 rfl dX5_append_67 ?_
  refine lv_iload S.1 S.2.1 dX5_append_70 (lv_at hl 0 rfl) ?_
  refine lv_iconst (v := (nI 0)) S.1 S.2.1 dX5_append_72 (by decide) ?_
  refine xk_V (x_runSN (As := [.ref (a + 7), .int n, .int (nI 0)]) (rest := []) S hE hS (fun q h => by rw [h]; exact ⟨by omega, by omega⟩) (c_X7_put l E (a + (6 + 1)) 200 ((ntPut (ntPut (ntPut (ntPut (ntPut (ntPut T 0 n p0) 1 n q0) 2 n z) 3 n (nI 0)) 4 n (nI 0)) 5 n (nI 0)) 6) n (nI 0) _ (hP.2 6 (by decide)) (by decide)) kv_X7_put nw70 kw12_9 ⟨Nat.le_of_ble_eq_true rfl, Nat.le_of_ble_eq_true rfl⟩ rfl rfl rfl hl.1 rfl (Nat.le_of_ble_eq_true rfl) dX5_append_73 ⟨Nat.zero_le _, Nat.zero_le _⟩) hS (fun q h => by rw [h]; exact ⟨by omega, by omega⟩) (fun H locs hX hO1 hS => ?_)
  have hO := hO.tr hO1 (fun q h => by rw [h]; exact ⟨by omega, by omega⟩)
  have hP : NotP E a (ntPut (ntPut (ntPut (ntPut (ntPut (ntPut (ntPut T 0 n p0) 1 n q0) 2 n z) 3 n (nI 0)) 4 n (nI 0)) 5 n (nI 0)) 6 n (nI 0)) n H := hP.put (k := 6) (by decide) hX hO1
  refine lv_aload_n S.1 S.2.1 dX5_append_76 rfl (lv_at hl 1 rfl) ?_
  refine lv_dup S.1 S.2.1 dX5_append_77 rfl ?_
  refine x_get S hE (hP.1) (C := RX5) (T := TX5) (N := 8) rfl inlX5 7 (by decide) (v := .int n) rfl kw18_4 rfl dX5_append_78 ?_
  refine lv_iconst (v := (nI 1)) S.1 S.2.1 dX5_append_81 (by decide) ?_
  refine lv_iadd S.1 S.2.1 dX5_append_82 ?_
  refine x_put S hE hS (bk1 (by omega)) (hP.1) (C := RX5) (T := TX5) (N := 8) rfl inlX5 tyX5 tyX5_ok nmX5 7 (by decide) (Nat.le_of_ble_eq_true rfl) kw18_4 rfl rfl (v := .int (n + (nI 1))) rfl rfl dX5_append_83 (fun H locs hX hO1 hS => ?_)
  have hO := hO.tr hO1 (fun q h => by rw [h]; exact bk1 (by omega))
  have hP := hP.sz hX hO1
  refine lv_iload S.1 S.2.1 dX5_append_86 (lv_at hl 0 rfl) ?_
  subst hQ
  refine x_retW S hr hlk (rfl) hS hO ?_ dX5_append_88
  exact ⟨rfl, hP⟩
abbrev rm_X5_copyFrom : Room := ({ frames := 2, cells := 0, slots := 0, locals := 43 } : Room)
set_option maxRecDepth 100000 in
set_option maxHeartbeats 600000 in
theorem c_X5_copyFrom (l : Launch) (E : XE) (a b : Nat) (T To : Nat → Nat → Int32) (n k0 : Int32) (H : Heap) (hP : NotP E a T n H) (hP2 : NotP E b To k0 H) (hd : a + 8 ≤ b ∨ b + 8 ≤ a) : Wv l E yX5_copyFrom cX5_copyFrom 2 rm_X5_copyFrom [.ref a, .ref b] H (bk a 8) (NotP E a (ntCopy To T k0) k0) := by
  refine met_of (by decide) (Nat.le_of_ble_eq_true rfl) (fun p e s m args below meth c hBD Q hQ ls hl => ?_)
  obtain ⟨S, hr, hlk, hnm, hE, hH⟩ := hBD
  subst hH
  have hl : lv_has ls 2 [(0, .ref a), (1, .ref b)] := hl
  have hO : Out (bk a 8) s.heap s.heap := Out.rf
  have hS : va_S (bk a 8) s.heap s.heap [] := va_S.rf
  refine lv_aload_n S.1 S.2.1 dX5_copyFrom_0 rfl (lv_at hl 0 rfl) ?_
  refine lv_aload_n S.1 S.2.1 dX5_copyFrom_1 rfl (lv_at hl 1 rfl) ?_
  refine x_get S hE (hP2.1) (C := RX5) (T := TX5) (N := 8) rfl inlX5 7 (by decide) (v := .int k0) rfl kw18_4 rfl dX5_copyFrom_2 ?_
  refine x_put S hE hS (bk1 (by omega)) (hP.1) (C := RX5) (T := TX5) (N := 8) rfl inlX5 tyX5 tyX5_ok nmX5 7 (by decide) (Nat.le_of_ble_eq_true rfl) kw18_4 rfl rfl (v := .int k0) rfl rfl dX5_copyFrom_5 (fun H locs hX hO1 hS => ?_)
  have hO := hO.tr hO1 (fun q h => by rw [h]; exact bk1 (by omega))
  have hP := hP.sz hX hO1
  have hP2 := hP2.fr (fun q h => hO1.2 q (fun z => by have z : q = a := z; rcases h with ⟨u, v⟩; omega))
  refine lv_aload_n S.1 S.2.1 dX5_copyFrom_8 rfl (lv_at hl 1 rfl) ?_
  refine x_get S hE (hP2.1) (C := RX5) (T := TX5) (N := 8) rfl inlX5 0 (by decide) (v := .ref (b + 1)) rfl kw3_5 rfl dX5_copyFrom_9 ?_
  refine lv_aload_n S.1 S.2.1 dX5_copyFrom_12 rfl (lv_at hl 0 rfl) ?_
  refine x_get S hE (hP.1) (C := RX5) (T := TX5) (N := 8) rfl inlX5 0 (by decide) (v := .ref (a + 1)) rfl kw3_5 rfl dX5_copyFrom_13 ?_
  refine lv_aload_n S.1 S.2.1 dX5_copyFrom_16 rfl (lv_at hl 0 rfl) ?_
  refine x_get S hE (hP.1) (C := RX5) (T := TX5) (N := 8) rfl inlX5 7 (by decide) (v := .int k0) rfl kw18_4 rfl dX5_copyFrom_17 ?_
  refine xk_V (x_runSN (As := [.ref (b + 1), .ref (a + 1), .int k0]) (rest := []) S hE hS (fun q h => by rw [h]; exact ⟨by omega, by omega⟩) (c_X7_copyRow l E (b + (0 + 1)) (a + (0 + 1)) 200 200 (To 0) (T 0) k0 _ (xr_i (hP2.2 0 (by decide))) (hP.2 0 (by decide)) (by decide) (by decide)) kv_X7_copyRow nw64 kw6_6 ⟨Nat.le_of_ble_eq_true rfl, Nat.le_of_ble_eq_true rfl⟩ rfl rfl rfl hl.1 rfl (Nat.le_of_ble_eq_true rfl) dX5_copyFrom_20 ⟨Nat.zero_le _, Nat.zero_le _⟩) hS (fun q h => by rw [h]; exact ⟨by omega, by omega⟩) (fun H locs hX hO1 hS => ?_)
  have hO := hO.tr hO1 (fun q h => by rw [h]; exact ⟨by omega, by omega⟩)
  have hP : NotP E a (updF T 0 (xcpy (To 0) 200 (T 0) 200 k0)) k0 H := hP.put (k := 0) (by decide) hX hO1
  have hP2 := hP2.fr (fun q h => hO1.2 q (fun z => by have z : q = a + (0 + 1) := z; rcases h with ⟨u, v⟩; omega))
  refine lv_aload_n S.1 S.2.1 dX5_copyFrom_23 rfl (lv_at hl 1 rfl) ?_
  refine x_get S hE (hP2.1) (C := RX5) (T := TX5) (N := 8) rfl inlX5 1 (by decide) (v := .ref (b + 2)) rfl kw3_6 rfl dX5_copyFrom_24 ?_
  refine lv_aload_n S.1 S.2.1 dX5_copyFrom_27 rfl (lv_at hl 0 rfl) ?_
  refine x_get S hE (hP.1) (C := RX5) (T := TX5) (N := 8) rfl inlX5 1 (by decide) (v := .ref (a + 2)) rfl kw3_6 rfl dX5_copyFrom_28 ?_
  refine lv_aload_n S.1 S.2.1 dX5_copyFrom_31 rfl (lv_at hl 0 rfl) ?_
  refine x_get S hE (hP.1) (C := RX5) (T := TX5) (N := 8) rfl inlX5 7 (by decide) (v := .int k0) rfl kw18_4 rfl dX5_copyFrom_32 ?_
  refine xk_V (x_runSN (As := [.ref (b + 2), .ref (a + 2), .int k0]) (rest := []) S hE hS (fun q h => by rw [h]; exact ⟨by omega, by omega⟩) (c_X7_copyRow l E (b + (1 + 1)) (a + (1 + 1)) 200 200 (To 1) (T 1) k0 _ (xr_i (hP2.2 1 (by decide))) (hP.2 1 (by decide)) (by decide) (by decide)) kv_X7_copyRow nw64 kw6_6 ⟨Nat.le_of_ble_eq_true rfl, Nat.le_of_ble_eq_true rfl⟩ rfl rfl rfl hl.1 rfl (Nat.le_of_ble_eq_true rfl) dX5_copyFrom_35 ⟨Nat.zero_le _, Nat.zero_le _⟩) hS (fun q h => by rw [h]; exact ⟨by omega, by omega⟩) (fun H locs hX hO1 hS => ?_)
  have hO := hO.tr hO1 (fun q h => by rw [h]; exact ⟨by omega, by omega⟩)
  have hP : NotP E a (updF (updF T 0 (xcpy (To 0) 200 (T 0) 200 k0)) 1 (xcpy (To 1) 200 (T 1) 200 k0)) k0 H := hP.put (k := 1) (by decide) hX hO1
  have hP2 := hP2.fr (fun q h => hO1.2 q (fun z => by have z : q = a + (1 + 1) := z; rcases h with ⟨u, v⟩; omega))
  refine lv_aload_n S.1 S.2.1 dX5_copyFrom_38 rfl (lv_at hl 1 rfl) ?_
  refine x_get S hE (hP2.1) (C := RX5) (T := TX5) (N := 8) rfl inlX5 2 (by decide) (v := .ref (b + 3)) rfl kw3_7 rfl dX5_copyFrom_39 ?_
  refine lv_aload_n S.1 S.2.1 dX5_copyFrom_42 rfl (lv_at hl 0 rfl) ?_
  refine x_get S hE (hP.1) (C := RX5) (T := TX5) (N := 8) rfl inlX5 2 (by decide) (v := .ref (a + 3)) rfl kw3_7 rfl dX5_copyFrom_43 ?_
  refine lv_aload_n S.1 S.2.1 dX5_copyFrom_46 rfl (lv_at hl 0 rfl) ?_
  refine x_get S hE (hP.1) (C := RX5) (T := TX5) (N := 8) rfl inlX5 7 (by decide) (v := .int k0) rfl kw18_4 rfl dX5_copyFrom_47 ?_
  refine xk_V (x_runSN (As := [.ref (b + 3), .ref (a + 3), .int k0]) (rest := []) S hE hS (fun q h => by rw [h]; exact ⟨by omega, by omega⟩) (c_X7_copyRow l E (b + (2 + 1)) (a + (2 + 1)) 200 200 (To 2) (T 2) k0 _ (xr_i (hP2.2 2 (by decide))) (hP.2 2 (by decide)) (by decide) (by decide)) kv_X7_copyRow nw64 kw6_6 ⟨Nat.le_of_ble_eq_true rfl, Nat.le_of_ble_eq_true rfl⟩ rfl rfl rfl hl.1 rfl (Nat.le_of_ble_eq_true rfl) dX5_copyFrom_50 ⟨Nat.zero_le _, Nat.zero_le _⟩) hS (fun q h => by rw [h]; exact ⟨by omega, by omega⟩) (fun H locs hX hO1 hS => ?_)
  have hO := hO.tr hO1 (fun q h => by rw [h]; exact ⟨by omega, by omega⟩)
  have hP : NotP E a (updF (updF (updF T 0 (xcpy (To 0) 200 (T 0) 200 k0)) 1 (xcpy (To 1) 200 (T 1) 200 k0)) 2 (xcpy (To 2) 200 (T 2) 200 k0)) k0 H := hP.put (k := 2) (by decide) hX hO1
  have hP2 := hP2.fr (fun q h => hO1.2 q (fun z => by have z : q = a + (2 + 1) := z; rcases h with ⟨u, v⟩; omega))
  refine lv_aload_n S.1 S.2.1 dX5_copyFrom_53 rfl (lv_at hl 1 rfl) ?_
  refine x_get S hE (hP2.1) (C := RX5) (T := TX5) (N := 8) rfl inlX5 3 (by decide) (v := .ref (b + 4)) rfl kw3_8 rfl dX5_copyFrom_54 ?_
  refine lv_aload_n S.1 S.2.1 dX5_copyFrom_57 rfl (lv_at hl 0 rfl) ?_
  refine x_get S hE (hP.1) (C := RX5) (T := TX5) (N := 8) rfl inlX5 3 (by decide) (v := .ref (a + 4)) rfl kw3_8 rfl dX5_copyFrom_58 ?_
  refine lv_aload_n S.1 S.2.1 dX5_copyFrom_61 rfl (lv_at hl 0 rfl) ?_
  refine x_get S hE (hP.1) (C := RX5) (T := TX5) (N := 8) rfl inlX5 7 (by decide) (v := .int k0) rfl kw18_4 rfl dX5_copyFrom_62 ?_
  refine xk_V (x_runSN (As := [.ref (b + 4), .ref (a + 4), .int k0]) (rest := []) S hE hS (fun q h => by rw [h]; exact ⟨by omega, by omega⟩) (c_X7_copyRow l E (b + (3 + 1)) (a + (3 + 1)) 200 200 (To 3) (T 3) k0 _ (xr_i (hP2.2 3 (by decide))) (hP.2 3 (by decide)) (by decide) (by decide)) kv_X7_copyRow nw64 kw6_6 ⟨Nat.le_of_ble_eq_true rfl, Nat.le_of_ble_eq_true rfl⟩ rfl rfl rfl hl.1 rfl (Nat.le_of_ble_eq_true rfl) dX5_copyFrom_65 ⟨Nat.zero_le _, Nat.zero_le _⟩) hS (fun q h => by rw [h]; exact ⟨by omega, by omega⟩) (fun H locs hX hO1 hS => ?_)
  have hO := hO.tr hO1 (fun q h => by rw [h]; exact ⟨by omega, by omega⟩)
  have hP : NotP E a (updF (updF (updF (updF T 0 (xcpy (To 0) 200 (T 0) 200 k0)) 1 (xcpy (To 1) 200 (T 1) 200 k0)) 2 (xcpy (To 2) 200 (T 2) 200 k0)) 3 (xcpy (To 3) 200 (T 3) 200 k0)) k0 H := hP.put (k := 3) (by decide) hX hO1
  have hP2 := hP2.fr (fun q h => hO1.2 q (fun z => by have z : q = a + (3 + 1) := z; rcases h with ⟨u, v⟩; omega))
  refine lv_aload_n S.1 S.2.1 dX5_copyFrom_68 rfl (lv_at hl 1 rfl) ?_
  refine x_get S hE (hP2.1) (C := RX5) (T := TX5) (N := 8) rfl inlX5 4 (by decide) (v := .ref (b + 5)) rfl kw3_9 rfl dX5_copyFrom_69 ?_
  refine lv_aload_n S.1 S.2.1 dX5_copyFrom_72 rfl (lv_at hl 0 rfl) ?_
  refine x_get S hE (hP.1) (C := RX5) (T := TX5) (N := 8) rfl inlX5 4 (by decide) (v := .ref (a + 5)) rfl kw3_9 rfl dX5_copyFrom_73 ?_
  refine lv_aload_n S.1 S.2.1 dX5_copyFrom_76 rfl (lv_at hl 0 rfl) ?_
  refine x_get S hE (hP.1) (C := RX5) (T := TX5) (N := 8) rfl inlX5 7 (by decide) (v := .int k0) rfl kw18_4 rfl dX5_copyFrom_77 ?_
  refine xk_V (x_runSN (As := [.ref (b + 5), .ref (a + 5), .int k0]) (rest := []) S hE hS (fun q h => by rw [h]; exact ⟨by omega, by omega⟩) (c_X7_copyRow l E (b + (4 + 1)) (a + (4 + 1)) 200 200 (To 4) (T 4) k0 _ (xr_i (hP2.2 4 (by decide))) (hP.2 4 (by decide)) (by decide) (by decide)) kv_X7_copyRow nw64 kw6_6 ⟨Nat.le_of_ble_eq_true rfl, Nat.le_of_ble_eq_true rfl⟩ rfl rfl rfl hl.1 rfl (Nat.le_of_ble_eq_true rfl) dX5_copyFrom_80 ⟨Nat.zero_le _, Nat.zero_le _⟩) hS (fun q h => by rw [h]; exact ⟨by omega, by omega⟩) (fun H locs hX hO1 hS => ?_)
  have hO := hO.tr hO1 (fun q h => by rw [h]; exact ⟨by omega, by omega⟩)
  have hP : NotP E a (updF (updF (updF (updF (updF T 0 (xcpy (To 0) 200 (T 0) 200 k0)) 1 (xcpy (To 1) 200 (T 1) 200 k0)) 2 (xcpy (To 2) 200 (T 2) 200 k0)) 3 (xcpy (To 3) 200 (T 3) 200 k0)) 4 (xcpy (To 4) 200 (T 4) 200 k0)) k0 H := hP.put (k := 4) (by decide) hX hO1
  have hP2 := hP2.fr (fun q h => hO1.2 q (fun z => by have z : q = a + (4 + 1) := z; rcases h with ⟨u, v⟩; omega))
  refine lv_aload_n S.1 S.2.1 dX5_copyFrom_83 rfl (lv_at hl 1 rfl) ?_
  refine x_get S hE (hP2.1) (C := RX5) (T := TX5) (N := 8) rfl inlX5 5 (by decide) (v := .ref (b + 6)) rfl kw3_10 rfl dX5_copyFrom_84 ?_
  refine lv_aload_n S.1 S.2.1 dX5_copyFrom_87 rfl (lv_at hl 0 rfl) ?_
  refine x_get S hE (hP.1) (C := RX5) (T := TX5) (N := 8) rfl inlX5 5 (by decide) (v := .ref (a + 6)) rfl kw3_10 rfl dX5_copyFrom_88 ?_
  refine lv_aload_n S.1 S.2.1 dX5_copyFrom_91 rfl (lv_at hl 0 rfl) ?_
  refine x_get S hE (hP.1) (C := RX5) (T := TX5) (N := 8) rfl inlX5 7 (by decide) (v := .int k0) rfl kw18_4 rfl dX5_copyFrom_92 ?_
  refine xk_V (x_runSN (As := [.ref (b + 6), .ref (a + 6), .int k0]) (rest := []) S hE hS (fun q h => by rw [h]; exact ⟨by omega, by omega⟩) (c_X7_copyRow l E (b + (5 + 1)) (a + (5 + 1)) 200 200 (To 5) (T 5) k0 _ (xr_i (hP2.2 5 (by decide))) (hP.2 5 (by decide)) (by decide) (by decide)) kv_X7_copyRow nw64 kw6_6 ⟨Nat.le_of_ble_eq_true rfl, Nat.le_of_ble_eq_true rfl⟩ rfl rfl rfl hl.1 rfl (Nat.le_of_ble_eq_true rfl) dX5_copyFrom_95 ⟨Nat.zero_le _, Nat.zero_le _⟩) hS (fun q h => by rw [h]; exact ⟨by omega, by omega⟩) (fun H locs hX hO1 hS => ?_)
  have hO := hO.tr hO1 (fun q h => by rw [h]; exact ⟨by omega, by omega⟩)
  have hP : NotP E a (updF (updF (updF (updF (updF (updF T 0 (xcpy (To 0) 200 (T 0) 200 k0)) 1 (xcpy (To 1) 200 (T 1) 200 k0)) 2 (xcpy (To 2) 200 (T 2) 200 k0)) 3 (xcpy (To 3) 200 (T 3) 200 k0)) 4 (xcpy (To 4) 200 (T 4) 200 k0)) 5 (xcpy (To 5) 200 (T 5) 200 k0)) k0 H := hP.put (k := 5) (by decide) hX hO1
  have hP2 := hP2.fr (fun q h => hO1.2 q (fun z => by have z : q = a + (5 + 1) := z; rcases h with ⟨u, v⟩; omega))
  refine lv_aload_n S.1 S.2.1 dX5_copyFrom_98 rfl (lv_at hl 1 rfl) ?_
  refine x_get S hE (hP2.1) (C := RX5) (T := TX5) (N := 8) rfl inlX5 6 (by decide) (v := .ref (b + 7)) rfl kw3_11 rfl dX5_copyFrom_99 ?_
  refine lv_aload_n S.1 S.2.1 dX5_copyFrom_102 rfl (lv_at hl 0 rfl) ?_
  refine x_get S hE (hP.1) (C := RX5) (T := TX5) (N := 8) rfl inlX5 6 (by decide) (v := .ref (a + 7)) rfl kw3_11 rfl dX5_copyFrom_103 ?_
  refine lv_aload_n S.1 S.2.1 dX5_copyFrom_106 rfl (lv_at hl 0 rfl) ?_
  refine x_get S hE (hP.1) (C := RX5) (T := TX5) (N := 8) rfl inlX5 7 (by decide) (v := .int k0) rfl kw18_4 rfl dX5_copyFrom_107 ?_
  refine xk_V (x_runSN (As := [.ref (b + 7), .ref (a + 7), .int k0]) (rest := []) S hE hS (fun q h => by rw [h]; exact ⟨by omega, by omega⟩) (c_X7_copyRow l E (b + (6 + 1)) (a + (6 + 1)) 200 200 (To 6) (T 6) k0 _ (xr_i (hP2.2 6 (by decide))) (hP.2 6 (by decide)) (by decide) (by decide)) kv_X7_copyRow nw64 kw6_6 ⟨Nat.le_of_ble_eq_true rfl, Nat.le_of_ble_eq_true rfl⟩ rfl rfl rfl hl.1 rfl (Nat.le_of_ble_eq_true rfl) dX5_copyFrom_110 ⟨Nat.zero_le _, Nat.zero_le _⟩) hS (fun q h => by rw [h]; exact ⟨by omega, by omega⟩) (fun H locs hX hO1 hS => ?_)
  have hO := hO.tr hO1 (fun q h => by rw [h]; exact ⟨by omega, by omega⟩)
  have hP : NotP E a (updF (updF (updF (updF (updF (updF (updF T 0 (xcpy (To 0) 200 (T 0) 200 k0)) 1 (xcpy (To 1) 200 (T 1) 200 k0)) 2 (xcpy (To 2) 200 (T 2) 200 k0)) 3 (xcpy (To 3) 200 (T 3) 200 k0)) 4 (xcpy (To 4) 200 (T 4) 200 k0)) 5 (xcpy (To 5) 200 (T 5) 200 k0)) 6 (xcpy (To 6) 200 (T 6) 200 k0)) k0 H := hP.put (k := 6) (by decide) hX hO1
  have hP2 := hP2.fr (fun q h => hO1.2 q (fun z => by have z : q = a + (6 + 1) := z; rcases h with ⟨u, v⟩; omega))
  subst hQ
  refine x_retV S hr hlk hS hO ?_ dX5_copyFrom_113
  exact NotP.cp hP
