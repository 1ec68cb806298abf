/-! 51.rb: constructors of lines, notes, formulas, and charAt: walks, by program -/
def fs0 : List Int32 := [nI 115, nI 43, nI 97, nI 43, nI 116, nI 43, nI 98]
theorem fs0_ch : ∀ x, x ∈ fs0 → isCh x := by
  intro x hx
  simp only [fs0, List.mem_cons, List.not_mem_nil, or_false] at hx
  rcases hx with rfl | rfl | rfl | rfl | rfl | rfl | rfl
  · exact ⟨115, by decide, rfl⟩
  · exact ⟨43, by decide, rfl⟩
  · exact ⟨97, by decide, rfl⟩
  · exact ⟨43, by decide, rfl⟩
  · exact ⟨116, by decide, rfl⟩
  · exact ⟨43, by decide, rfl⟩
  · exact ⟨98, by decide, rfl⟩
theorem fs0_lt {j : Nat} (h : j < fs0.length) : j = 0 ∨ j = 1 ∨ j = 2 ∨ j = 3 ∨ j = 4 ∨ j = 5 ∨ j = 6 := by
  have h : j < 7 := h
  omega
def χ0 : CS := ((fun _ _ => 0), (fun k => if k = 3 then fs0 else []), xcpy (st_val 6) 3 (fun _ => 0) 3 (nI 3), fun _ => nI 0)
def σ0 : Nat → Int32 := (upd (upd (upd (upd (upd (upd (upd (upd (upd (upd (fun _ => 0) 6 (nI 4)) 8 (nI 2500)) 9 (nI 7)) 10 (nI 115)) 11 (nI 43)) 12 (nI 97)) 13 (nI 43)) 14 (nI 116)) 15 (nI 43)) 16 (nI 98))
abbrev rm_J3_checkIndex_8e157 : Room := ({ frames := 0, cells := 0, slots := 0, locals := 0 } : Room)
set_option maxRecDepth 100000 in
set_option maxHeartbeats 600000 in
theorem c_J3_checkIndex_8e157_0 (l : Launch) (E : XE) (k n : Nat) (hk : k < n) (hn : n < 2 ^ 31) (H : Heap) : Rd l E yJ3_checkIndex_8e157 cJ3_checkIndex_8e157 3 (some .int) rm_J3_checkIndex_8e157 [.int (nI k), .int (nI n), .null] H (nI k) := by
  refine met_of (by decide) (Nat.le_of_ble_eq_true rfl) (fun p e s m args below meth c hBD Q hQ ls hl => ?_)
  obtain ⟨S, hr, hlk, hnm, hE, hH⟩ := hBD
  subst hH
  have hl : lv_has ls 3 [(0, .int (nI k)), (1, .int (nI n)), (2, .null)] := hl
  have hS : va_S (fun _ => False) s.heap s.heap [] := va_S.rf
  refine lv_iload_n S.1 S.2.1 dJ3_checkIndex_8e157_0 rfl (lv_at hl 0 rfl) ?_
  refine lv_if_lt (tgt := 9) S.1 S.2.1 dJ3_checkIndex_8e157_1 rfl (fun h1 => ?_) (fun h1 => ?_)
  · exact absurd h1 (nI_pos (by omega))
  · skip
    refine lv_iload_n S.1 S.2.1 dJ3_checkIndex_8e157_4 rfl (lv_at hl 0 rfl) ?_
    refine lv_iload_n S.1 S.2.1 dJ3_checkIndex_8e157_5 rfl (lv_at hl 1 rfl) ?_
    refine lv_icmp_lt (tgt := 16) S.1 S.2.1 dJ3_checkIndex_8e157_6 rfl (fun h2 => ?_) (fun h2 => ?_)
    · skip
      refine lv_iload_n S.1 S.2.1 dJ3_checkIndex_8e157_16 rfl (lv_at hl 0 rfl) ?_
      subst hQ
      exact x_retR S hr hlk (rfl) (rfl) dJ3_checkIndex_8e157_17
    · exact absurd (nI_lt hk hn) h2
set_option maxRecDepth 100000 in
set_option maxHeartbeats 600000 in
theorem c_J3_checkIndex_8e157_1 (l : Launch) (E : XE) (k n t : Nat) (hk : k < n) (hn : n < 2 ^ 31) (H : Heap) : Rd l E yJ3_checkIndex_8e157 cJ3_checkIndex_8e157 3 (some .int) rm_J3_checkIndex_8e157 [.int (nI k), .int (nI n), .ref t] H (nI k) := by
  refine met_of (by decide) (Nat.le_of_ble_eq_true rfl) (fun p e s m args below meth c hBD Q hQ ls hl => ?_)
  obtain ⟨S, hr, hlk, hnm, hE, hH⟩ := hBD
  subst hH
  have hl : lv_has ls 3 [(0, .int (nI k)), (1, .int (nI n)), (2, .ref t)] := hl
  have hS : va_S (fun _ => False) s.heap s.heap [] := va_S.rf
  refine lv_iload_n S.1 S.2.1 dJ3_checkIndex_8e157_0 rfl (lv_at hl 0 rfl) ?_
  refine lv_if_lt (tgt := 9) S.1 S.2.1 dJ3_checkIndex_8e157_1 rfl (fun h1 => ?_) (fun h1 => ?_)
  · exact absurd h1 (nI_pos (by omega))
  · skip
    refine lv_iload_n S.1 S.2.1 dJ3_checkIndex_8e157_4 rfl (lv_at hl 0 rfl) ?_
    refine lv_iload_n S.1 S.2.1 dJ3_checkIndex_8e157_5 rfl (lv_at hl 1 rfl) ?_
    refine lv_icmp_lt (tgt := 16) S.1 S.2.1 dJ3_checkIndex_8e157_6 rfl (fun h2 => ?_) (fun h2 => ?_)
    · skip
      refine lv_iload_n S.1 S.2.1 dJ3_checkIndex_8e157_16 rfl (lv_at hl 0 rfl) ?_
      subst hQ
      exact x_retR S hr hlk (rfl) (rfl) dJ3_checkIndex_8e157_17
    · exact absurd (nI_lt hk hn) h2
abbrev rm_J0_checkIndex_df160 : Room := ({ frames := 1, cells := 0, slots := 0, locals := 22 } : Room)
theorem c_J0_checkIndex_df160 (l : Launch) (E : XE) (k n : Nat) (hk : k < n) (hn : n < 2 ^ 31) (H : Heap) : Rv l E yJ0_checkIndex_df160 cJ0_checkIndex_df160 2 rm_J0_checkIndex_df160 [.int (nI k), .int (nI n)] H := by
  refine met_of (by decide) (Nat.le_of_ble_eq_true rfl) (fun p e s m args below meth c hBD Q hQ ls hl => ?_)
  obtain ⟨S, hr, hlk, hnm, hE, hH⟩ := hBD
  subst hH
  have hl : lv_has ls 2 [(0, .int (nI k)), (1, .int (nI n))] := hl
  have hS : va_S (fun _ => False) s.heap s.heap [] := va_S.rf
  refine lv_iload_n S.1 S.2.1 dJ0_checkIndex_df160_0 rfl (lv_at hl 0 rfl) ?_
  refine lv_iload_n S.1 S.2.1 dJ0_checkIndex_df160_1 rfl (lv_at hl 1 rfl) ?_
  rcases hE.2.2.2.2.2 with hz | ⟨t, hz⟩
  · refine va_gets S.1 S.2.1 hz hS S.2.2.2.1 (S.2.2.2.2 _ kw5_8) (fun _ h => h) dJ0_checkIndex_df160_2 ?_
    refine xk_R (v := nI k) (x_runS (As := [.int (nI k), .int (nI n), .null]) (rest := []) S hE hS (fun _ h => h.elim) (c_J3_checkIndex_8e157_0 l E k n hk hn _) kv_J3_checkIndex_8e157 kw5_9 kw5_10 ⟨Nat.le_of_ble_eq_true rfl, Nat.le_of_ble_eq_true rfl⟩ rfl rfl rfl hl.1 rfl (Nat.le_of_ble_eq_true rfl) dJ0_checkIndex_df160_5 ⟨Nat.zero_le _, Nat.zero_le _⟩) ?_
    refine lv_pop S.1 S.2.1 dJ0_checkIndex_df160_8 rfl ?_
    subst hQ
    exact x_retRv S hr hlk dJ0_checkIndex_df160_9
  · refine va_gets S.1 S.2.1 hz hS S.2.2.2.1 (S.2.2.2.2 _ kw5_8) (fun _ h => h) dJ0_checkIndex_df160_2 ?_
    refine xk_R (v := nI k) (x_runS (As := [.int (nI k), .int (nI n), .ref t]) (rest := []) S hE hS (fun _ h => h.elim) (c_J3_checkIndex_8e157_1 l E k n t hk hn _) kv_J3_checkIndex_8e157 kw5_9 kw5_10 ⟨Nat.le_of_ble_eq_true rfl, Nat.le_of_ble_eq_true rfl⟩ rfl rfl rfl hl.1 rfl (Nat.le_of_ble_eq_true rfl) dJ0_checkIndex_df160_5 ⟨Nat.zero_le _, Nat.zero_le _⟩) ?_
    refine lv_pop S.1 S.2.1 dJ0_checkIndex_df160_8 rfl ?_
    subst hQ
    exact x_retRv S hr hlk dJ0_checkIndex_df160_9
abbrev rm_J1_charAt_3b067 : Room := ({ frames := 2, cells := 0, slots := 0, locals := 43 } : Room)
set_option maxRecDepth 100000 in
set_option maxHeartbeats 600000 in
theorem c_J1_charAt_3b067_0 (l : Launch) (E : XE) (H : Heap) : Rd l E yJ1_charAt_3b067 cJ1_charAt_3b067 2 (some .char) rm_J1_charAt_3b067 [.ref (E.2.2.2 20), .int (nI 0)] H (nI 115) := by
  refine met_of (by decide) (Nat.le_of_ble_eq_true rfl) (fun p e s m args below meth c hBD Q hQ ls hl => ?_)
  obtain ⟨S, hr, hlk, hnm, hE, hH⟩ := hBD
  subst hH
  have hl : lv_has ls 2 [(0, .ref (E.2.2.2 20)), (1, .int (nI 0))] := hl
  have hS : va_S (fun _ => False) s.heap s.heap [] := va_S.rf
  refine lv_iload_n S.1 S.2.1 dJ1_charAt_3b067_0 rfl (lv_at hl 1 rfl) ?_
  refine lv_aload_n S.1 S.2.1 dJ1_charAt_3b067_1 rfl (lv_at hl 0 rfl) ?_
  refine va_tlen S.1 S.2.1 (hE.2.2.2.1.1 0 (by decide)).2.2.2 hS (v := nI 7) (by decide) dJ1_charAt_3b067_2 ?_
  refine xk_Rv (x_runS (As := [.int (nI 0), .int (nI 7)]) (rest := []) S hE hS (fun _ h => h.elim) (c_J0_checkIndex_df160 l E 0 7 (by decide) (by decide) _) kv_J0_checkIndex_df160 kw5_5 kw5_6 ⟨Nat.le_of_ble_eq_true rfl, Nat.le_of_ble_eq_true rfl⟩ rfl rfl rfl hl.1 rfl (Nat.le_of_ble_eq_true rfl) dJ1_charAt_3b067_3 ⟨Nat.zero_le _, Nat.zero_le _⟩) ?_
  refine lv_aload_n S.1 S.2.1 dJ1_charAt_3b067_6 rfl (lv_at hl 0 rfl) ?_
  refine lv_iload_n S.1 S.2.1 dJ1_charAt_3b067_7 rfl (lv_at hl 1 rfl) ?_
  refine va_tb S.1 S.2.1 (hE.2.2.2.1.1 0 (by decide)).2.2.2 hS (v := .int (nI 115)) (vp_in_nI (by decide) (by decide)) (congrArg Value.int (by decide)) dJ1_charAt_3b067_8 ?_
  refine lv_sipush (v := (nI 255)) S.1 S.2.1 dJ1_charAt_3b067_9 (by decide) ?_
  refine lv_iand S.1 S.2.1 dJ1_charAt_3b067_12 ?_
  refine x_top (y := (nI 115)) (by decide) ?_
  refine lv_i2c (v := (nI 115)) S.1 S.2.1 dJ1_charAt_3b067_13 (by decide) ?_
  subst hQ
  exact x_retR S hr hlk (by decide) (rfl) dJ1_charAt_3b067_14
set_option maxRecDepth 100000 in
set_option maxHeartbeats 600000 in
theorem c_J1_charAt_3b067_1 (l : Launch) (E : XE) (H : Heap) : Rd l E yJ1_charAt_3b067 cJ1_charAt_3b067 2 (some .char) rm_J1_charAt_3b067 [.ref (E.2.2.2 20), .int (nI 1)] H (nI 43) := by
  refine met_of (by decide) (Nat.le_of_ble_eq_true rfl) (fun p e s m args below meth c hBD Q hQ ls hl => ?_)
  obtain ⟨S, hr, hlk, hnm, hE, hH⟩ := hBD
  subst hH
  have hl : lv_has ls 2 [(0, .ref (E.2.2.2 20)), (1, .int (nI 1))] := hl
  have hS : va_S (fun _ => False) s.heap s.heap [] := va_S.rf
  refine lv_iload_n S.1 S.2.1 dJ1_charAt_3b067_0 rfl (lv_at hl 1 rfl) ?_
  refine lv_aload_n S.1 S.2.1 dJ1_charAt_3b067_1 rfl (lv_at hl 0 rfl) ?_
  refine va_tlen S.1 S.2.1 (hE.2.2.2.1.1 0 (by decide)).2.2.2 hS (v := nI 7) (by decide) dJ1_charAt_3b067_2 ?_
  refine xk_Rv (x_runS (As := [.int (nI 1), .int (nI 7)]) (rest := []) S hE hS (fun _ h => h.elim) (c_J0_checkIndex_df160 l E 1 7 (by decide) (by decide) _) kv_J0_checkIndex_df160 kw5_5 kw5_6 ⟨Nat.le_of_ble_eq_true rfl, Nat.le_of_ble_eq_true rfl⟩ rfl rfl rfl hl.1 rfl (Nat.le_of_ble_eq_true rfl) dJ1_charAt_3b067_3 ⟨Nat.zero_le _, Nat.zero_le _⟩) ?_
  refine lv_aload_n S.1 S.2.1 dJ1_charAt_3b067_6 rfl (lv_at hl 0 rfl) ?_
  refine lv_iload_n S.1 S.2.1 dJ1_charAt_3b067_7 rfl (lv_at hl 1 rfl) ?_
  refine va_tb S.1 S.2.1 (hE.2.2.2.1.1 0 (by decide)).2.2.2 hS (v := .int (nI 43)) (vp_in_nI (by decide) (by decide)) (congrArg Value.int (by decide)) dJ1_charAt_3b067_8 ?_
  refine lv_sipush (v := (nI 255)) S.1 S.2.1 dJ1_charAt_3b067_9 (by decide) ?_
  refine lv_iand S.1 S.2.1 dJ1_charAt_3b067_12 ?_
  refine x_top (y := (nI 43)) (by decide) ?_
  refine lv_i2c (v := (nI 43)) S.1 S.2.1 dJ1_charAt_3b067_13 (by decide) ?_
  subst hQ
  exact x_retR S hr hlk (by decide) (rfl) dJ1_charAt_3b067_14
set_option maxRecDepth 100000 in
set_option maxHeartbeats 600000 in
theorem c_J1_charAt_3b067_2 (l : Launch) (E : XE) (H : Heap) : Rd l E yJ1_charAt_3b067 cJ1_charAt_3b067 2 (some .char) rm_J1_charAt_3b067 [.ref (E.2.2.2 20), .int (nI 2)] H (nI 97) := by
  refine met_of (by decide) (Nat.le_of_ble_eq_true rfl) (fun p e s m args below meth c hBD Q hQ ls hl => ?_)
  obtain ⟨S, hr, hlk, hnm, hE, hH⟩ := hBD
  subst hH
  have hl : lv_has ls 2 [(0, .ref (E.2.2.2 20)), (1, .int (nI 2))] := hl
  have hS : va_S (fun _ => False) s.heap s.heap [] := va_S.rf
  refine lv_iload_n S.1 S.2.1 dJ1_charAt_3b067_0 rfl (lv_at hl 1 rfl) ?_
  refine lv_aload_n S.1 S.2.1 dJ1_charAt_3b067_1 rfl (lv_at hl 0 rfl) ?_
  refine va_tlen S.1 S.2.1 (hE.2.2.2.1.1 0 (by decide)).2.2.2 hS (v := nI 7) (by decide) dJ1_charAt_3b067_2 ?_
  refine xk_Rv (x_runS (As := [.int (nI 2), .int (nI 7)]) (rest := []) S hE hS (fun _ h => h.elim) (c_J0_checkIndex_df160 l E 2 7 (by decide) (by decide) _) kv_J0_checkIndex_df160 kw5_5 kw5_6 ⟨Nat.le_of_ble_eq_true rfl, Nat.le_of_ble_eq_true rfl⟩ rfl rfl rfl hl.1 rfl (Nat.le_of_ble_eq_true rfl) dJ1_charAt_3b067_3 ⟨Nat.zero_le _, Nat.zero_le _⟩) ?_
  refine lv_aload_n S.1 S.2.1 dJ1_charAt_3b067_6 rfl (lv_at hl 0 rfl) ?_
  refine lv_iload_n S.1 S.2.1 dJ1_charAt_3b067_7 rfl (lv_at hl 1 rfl) ?_
  refine va_tb S.1 S.2.1 (hE.2.2.2.1.1 0 (by decide)).2.2.2 hS (v := .int (nI 97)) (vp_in_nI (by decide) (by decide)) (congrArg Value.int (by decide)) dJ1_charAt_3b067_8 ?_
  refine lv_sipush (v := (nI 255)) S.1 S.2.1 dJ1_charAt_3b067_9 (by decide) ?_
  refine lv_iand S.1 S.2.1 dJ1_charAt_3b067_12 ?_
  refine x_top (y := (nI 97)) (by decide) ?_
  refine lv_i2c (v := (nI 97)) S.1 S.2.1 dJ1_charAt_3b067_13 (by decide) ?_
  subst hQ
  exact x_retR S hr hlk (by decide) (rfl) dJ1_charAt_3b067_14
set_option maxRecDepth 100000 in
set_option maxHeartbeats 600000 in
theorem c_J1_charAt_3b067_3 (l : Launch) (E : XE) (H : Heap) : Rd l E yJ1_charAt_3b067 cJ1_charAt_3b067 2 (some .char) rm_J1_charAt_3b067 [.ref (E.2.2.2 20), .int (nI 3)] H (nI 43) := by
  refine met_of (by decide) (Nat.le_of_ble_eq_true rfl) (fun p e s m args below meth c hBD Q hQ ls hl => ?_)
  obtain ⟨S, hr, hlk, hnm, hE, hH⟩ := hBD
  subst hH
  have hl : lv_has ls 2 [(0, .ref (E.2.2.2 20)), (1, .int (nI 3))] := hl
  have hS : va_S (fun _ => False) s.heap s.heap [] := va_S.rf
  refine lv_iload_n S.1 S.2.1 dJ1_charAt_3b067_0 rfl (lv_at hl 1 rfl) ?_
  refine lv_aload_n S.1 S.2.1 dJ1_charAt_3b067_1 rfl (lv_at hl 0 rfl) ?_
  refine va_tlen S.1 S.2.1 (hE.2.2.2.1.1 0 (by decide)).2.2.2 hS (v := nI 7) (by decide) dJ1_charAt_3b067_2 ?_
  refine xk_Rv (x_runS (As := [.int (nI 3), .int (nI 7)]) (rest := []) S hE hS (fun _ h => h.elim) (c_J0_checkIndex_df160 l E 3 7 (by decide) (by decide) _) kv_J0_checkIndex_df160 kw5_5 kw5_6 ⟨Nat.le_of_ble_eq_true rfl, Nat.le_of_ble_eq_true rfl⟩ rfl rfl rfl hl.1 rfl (Nat.le_of_ble_eq_true rfl) dJ1_charAt_3b067_3 ⟨Nat.zero_le _, Nat.zero_le _⟩) ?_
  refine lv_aload_n S.1 S.2.1 dJ1_charAt_3b067_6 rfl (lv_at hl 0 rfl) ?_
  refine lv_iload_n S.1 S.2.1 dJ1_charAt_3b067_7 rfl (lv_at hl 1 rfl) ?_
  refine va_tb S.1 S.2.1 (hE.2.2.2.1.1 0 (by decide)).2.2.2 hS (v := .int (nI 43)) (vp_in_nI (by decide) (by decide)) (congrArg Value.int (by decide)) dJ1_charAt_3b067_8 ?_
  refine lv_sipush (v := (nI 255)) S.1 S.2.1 dJ1_charAt_3b067_9 (by decide) ?_
  refine lv_iand S.1 S.2.1 dJ1_charAt_3b067_12 ?_
  refine x_top (y := (nI 43)) (by decide) ?_
  refine lv_i2c (v := (nI 43)) S.1 S.2.1 dJ1_charAt_3b067_13 (by decide) ?_
  subst hQ
  exact x_retR S hr hlk (by decide) (rfl) dJ1_charAt_3b067_14
set_option maxRecDepth 100000 in
set_option maxHeartbeats 600000 in
theorem c_J1_charAt_3b067_4 (l : Launch) (E : XE) (H : Heap) : Rd l E yJ1_charAt_3b067 cJ1_charAt_3b067 2 (some .char) rm_J1_charAt_3b067 [.ref (E.2.2.2 20), .int (nI 4)] H (nI 116) := by
  refine met_of (by decide) (Nat.le_of_ble_eq_true rfl) (fun p e s m args below meth c hBD Q hQ ls hl => ?_)
  obtain ⟨S, hr, hlk, hnm, hE, hH⟩ := hBD
  subst hH
  have hl : lv_has ls 2 [(0, .ref (E.2.2.2 20)), (1, .int (nI 4))] := hl
  have hS : va_S (fun _ => False) s.heap s.heap [] := va_S.rf
  refine lv_iload_n S.1 S.2.1 dJ1_charAt_3b067_0 rfl (lv_at hl 1 rfl) ?_
  refine lv_aload_n S.1 S.2.1 dJ1_charAt_3b067_1 rfl (lv_at hl 0 rfl) ?_
  refine va_tlen S.1 S.2.1 (hE.2.2.2.1.1 0 (by decide)).2.2.2 hS (v := nI 7) (by decide) dJ1_charAt_3b067_2 ?_
  refine xk_Rv (x_runS (As := [.int (nI 4), .int (nI 7)]) (rest := []) S hE hS (fun _ h => h.elim) (c_J0_checkIndex_df160 l E 4 7 (by decide) (by decide) _) kv_J0_checkIndex_df160 kw5_5 kw5_6 ⟨Nat.le_of_ble_eq_true rfl, Nat.le_of_ble_eq_true rfl⟩ rfl rfl rfl hl.1 rfl (Nat.le_of_ble_eq_true rfl) dJ1_charAt_3b067_3 ⟨Nat.zero_le _, Nat.zero_le _⟩) ?_
  refine lv_aload_n S.1 S.2.1 dJ1_charAt_3b067_6 rfl (lv_at hl 0 rfl) ?_
  refine lv_iload_n S.1 S.2.1 dJ1_charAt_3b067_7 rfl (lv_at hl 1 rfl) ?_
  refine va_tb S.1 S.2.1 (hE.2.2.2.1.1 0 (by decide)).2.2.2 hS (v := .int (nI 116)) (vp_in_nI (by decide) (by decide)) (congrArg Value.int (by decide)) dJ1_charAt_3b067_8 ?_
  refine lv_sipush (v := (nI 255)) S.1 S.2.1 dJ1_charAt_3b067_9 (by decide) ?_
  refine lv_iand S.1 S.2.1 dJ1_charAt_3b067_12 ?_
  refine x_top (y := (nI 116)) (by decide) ?_
  refine lv_i2c (v := (nI 116)) S.1 S.2.1 dJ1_charAt_3b067_13 (by decide) ?_
  subst hQ
  exact x_retR S hr hlk (by decide) (rfl) dJ1_charAt_3b067_14
set_option maxRecDepth 100000 in
set_option maxHeartbeats 600000 in
theorem c_J1_charAt_3b067_5 (l : Launch) (E : XE) (H : Heap) : Rd l E yJ1_charAt_3b067 cJ1_charAt_3b067 2 (some .char) rm_J1_charAt_3b067 [.ref (E.2.2.2 20), .int (nI 5)] H (nI 43) := by
  refine met_of (by decide) (Nat.le_of_ble_eq_true rfl) (fun p e s m args below meth c hBD Q hQ ls hl => ?_)
  obtain ⟨S, hr, hlk, hnm, hE, hH⟩ := hBD
  subst hH
  have hl : lv_has ls 2 [(0, .ref (E.2.2.2 20)), (1, .int (nI 5))] := hl
  have hS : va_S (fun _ => False) s.heap s.heap [] := va_S.rf
  refine lv_iload_n S.1 S.2.1 dJ1_charAt_3b067_0 rfl (lv_at hl 1 rfl) ?_
  refine lv_aload_n S.1 S.2.1 dJ1_charAt_3b067_1 rfl (lv_at hl 0 rfl) ?_
  refine va_tlen S.1 S.2.1 (hE.2.2.2.1.1 0 (by decide)).2.2.2 hS (v := nI 7) (by decide) dJ1_charAt_3b067_2 ?_
  refine xk_Rv (x_runS (As := [.int (nI 5), .int (nI 7)]) (rest := []) S hE hS (fun _ h => h.elim) (c_J0_checkIndex_df160 l E 5 7 (by decide) (by decide) _) kv_J0_checkIndex_df160 kw5_5 kw5_6 ⟨Nat.le_of_ble_eq_true rfl, Nat.le_of_ble_eq_true rfl⟩ rfl rfl rfl hl.1 rfl (Nat.le_of_ble_eq_true rfl) dJ1_charAt_3b067_3 ⟨Nat.zero_le _, Nat.zero_le _⟩) ?_
  refine lv_aload_n S.1 S.2.1 dJ1_charAt_3b067_6 rfl (lv_at hl 0 rfl) ?_
  refine lv_iload_n S.1 S.2.1 dJ1_charAt_3b067_7 rfl (lv_at hl 1 rfl) ?_
  refine va_tb S.1 S.2.1 (hE.2.2.2.1.1 0 (by decide)).2.2.2 hS (v := .int (nI 43)) (vp_in_nI (by decide) (by decide)) (congrArg Value.int (by decide)) dJ1_charAt_3b067_8 ?_
  refine lv_sipush (v := (nI 255)) S.1 S.2.1 dJ1_charAt_3b067_9 (by decide) ?_
  refine lv_iand S.1 S.2.1 dJ1_charAt_3b067_12 ?_
  refine x_top (y := (nI 43)) (by decide) ?_
  refine lv_i2c (v := (nI 43)) S.1 S.2.1 dJ1_charAt_3b067_13 (by decide) ?_
  subst hQ
  exact x_retR S hr hlk (by decide) (rfl) dJ1_charAt_3b067_14
set_option maxRecDepth 100000 in
set_option maxHeartbeats 600000 in
theorem c_J1_charAt_3b067_6 (l : Launch) (E : XE) (H : Heap) : Rd l E yJ1_charAt_3b067 cJ1_charAt_3b067 2 (some .char) rm_J1_charAt_3b067 [.ref (E.2.2.2 20), .int (nI 6)] H (nI 98) := by
  refine met_of (by decide) (Nat.le_of_ble_eq_true rfl) (fun p e s m args below meth c hBD Q hQ ls hl => ?_)
  obtain ⟨S, hr, hlk, hnm, hE, hH⟩ := hBD
  subst hH
  have hl : lv_has ls 2 [(0, .ref (E.2.2.2 20)), (1, .int (nI 6))] := hl
  have hS : va_S (fun _ => False) s.heap s.heap [] := va_S.rf
  refine lv_iload_n S.1 S.2.1 dJ1_charAt_3b067_0 rfl (lv_at hl 1 rfl) ?_
  refine lv_aload_n S.1 S.2.1 dJ1_charAt_3b067_1 rfl (lv_at hl 0 rfl) ?_
  refine va_tlen S.1 S.2.1 (hE.2.2.2.1.1 0 (by decide)).2.2.2 hS (v := nI 7) (by decide) dJ1_charAt_3b067_2 ?_
  refine xk_Rv (x_runS (As := [.int (nI 6), .int (nI 7)]) (rest := []) S hE hS (fun _ h => h.elim) (c_J0_checkIndex_df160 l E 6 7 (by decide) (by decide) _) kv_J0_checkIndex_df160 kw5_5 kw5_6 ⟨Nat.le_of_ble_eq_true rfl, Nat.le_of_ble_eq_true rfl⟩ rfl rfl rfl hl.1 rfl (Nat.le_of_ble_eq_true rfl) dJ1_charAt_3b067_3 ⟨Nat.zero_le _, Nat.zero_le _⟩) ?_
  refine lv_aload_n S.1 S.2.1 dJ1_charAt_3b067_6 rfl (lv_at hl 0 rfl) ?_
  refine lv_iload_n S.1 S.2.1 dJ1_charAt_3b067_7 rfl (lv_at hl 1 rfl) ?_
  refine va_tb S.1 S.2.1 (hE.2.2.2.1.1 0 (by decide)).2.2.2 hS (v := .int (nI 98)) (vp_in_nI (by decide) (by decide)) (congrArg Value.int (by decide)) dJ1_charAt_3b067_8 ?_
  refine lv_sipush (v := (nI 255)) S.1 S.2.1 dJ1_charAt_3b067_9 (by decide) ?_
  refine lv_iand S.1 S.2.1 dJ1_charAt_3b067_12 ?_
  refine x_top (y := (nI 98)) (by decide) ?_
  refine lv_i2c (v := (nI 98)) S.1 S.2.1 dJ1_charAt_3b067_13 (by decide) ?_
  subst hQ
  exact x_retR S hr hlk (by decide) (rfl) dJ1_charAt_3b067_14
abbrev rm_J0_charAt_5068e : Room := ({ frames := 3, cells := 0, slots := 0, locals := 64 } : Room)
set_option maxRecDepth 100000 in
set_option maxHeartbeats 600000 in
theorem c_J0_charAt_5068e_0 (l : Launch) (E : XE) (H : Heap) : Rd l E yJ0_charAt_5068e cJ0_charAt_5068e 2 (some .char) rm_J0_charAt_5068e [.ref (E.2.2.2 10), .int (nI 0)] H (nI 115) := by
  refine met_of (by decide) (Nat.le_of_ble_eq_true rfl) (fun p e s m args below meth c hBD Q hQ ls hl => ?_)
  obtain ⟨S, hr, hlk, hnm, hE, hH⟩ := hBD
  subst hH
  have hl : lv_has ls 2 [(0, .ref (E.2.2.2 10)), (1, .int (nI 0))] := hl
  have hS : va_S (fun _ => False) s.heap s.heap [] := va_S.rf
  refine lv_aload_n S.1 S.2.1 dJ0_charAt_5068e_0 rfl (lv_at hl 0 rfl) ?_
  refine xk_R (v := (nI 1)) (x_runV (As := []) (rest := []) S hE hS (fun _ h => h.elim) (c_J0_isLatin1_aae02_0 l E _) kv_J0_isLatin1_aae02 kw4_21 kw4_22 kw4_23 (vk_recv hE.2.2.2.1 (i := 0) (by decide) hS) ⟨Nat.le_of_ble_eq_true rfl, Nat.le_of_ble_eq_true rfl⟩ rfl rfl rfl hl.1 rfl (Nat.le_of_ble_eq_true rfl) dJ0_charAt_5068e_1 ⟨Nat.zero_le _, Nat.zero_le _⟩) ?_
  refine lv_if_eq (tgt := 16) S.1 S.2.1 dJ0_charAt_5068e_4 rfl (fun h1 => ?_) (fun h1 => ?_)
  · exact absurd h1 (by decide)
  · skip
    refine lv_aload_n S.1 S.2.1 dJ0_charAt_5068e_7 rfl (lv_at hl 0 rfl) ?_
    refine vk_getf S.1 S.2.1 (hE.2.2.2.1.1 0 (by decide)).2.2.1 hS S.2.2.2.1 (S.2.2.2.2 _ kw4_10) (fun _ h => h) dJ0_charAt_5068e_8 ?_
    refine lv_iload_n S.1 S.2.1 dJ0_charAt_5068e_11 rfl (lv_at hl 1 rfl) ?_
    refine xk_R (v := (nI 115)) (x_runS (As := [.ref (E.2.2.2 20), .int (nI 0)]) (rest := []) S hE hS (fun _ h => h.elim) (c_J1_charAt_3b067_0 l E _) kv_J1_charAt_3b067 kw5_1 kw5_2 ⟨Nat.le_of_ble_eq_true rfl, Nat.le_of_ble_eq_true rfl⟩ rfl rfl rfl hl.1 rfl (Nat.le_of_ble_eq_true rfl) dJ0_charAt_5068e_12 ⟨Nat.zero_le _, Nat.zero_le _⟩) ?_
    subst hQ
    exact x_retR S hr hlk (by decide) (rfl) dJ0_charAt_5068e_15
set_option maxRecDepth 100000 in
set_option maxHeartbeats 600000 in
theorem c_J0_charAt_5068e_1 (l : Launch) (E : XE) (H : Heap) : Rd l E yJ0_charAt_5068e cJ0_charAt_5068e 2 (some .char) rm_J0_charAt_5068e [.ref (E.2.2.2 10), .int (nI 1)] H (nI 43) := by
  refine met_of (by decide) (Nat.le_of_ble_eq_true rfl) (fun p e s m args below meth c hBD Q hQ ls hl => ?_)
  obtain ⟨S, hr, hlk, hnm, hE, hH⟩ := hBD
  subst hH
  have hl : lv_has ls 2 [(0, .ref (E.2.2.2 10)), (1, .int (nI 1))] := hl
  have hS : va_S (fun _ => False) s.heap s.heap [] := va_S.rf
  refine lv_aload_n S.1 S.2.1 dJ0_charAt_5068e_0 rfl (lv_at hl 0 rfl) ?_
  refine xk_R (v := (nI 1)) (x_runV (As := []) (rest := []) S hE hS (fun _ h => h.elim) (c_J0_isLatin1_aae02_0 l E _) kv_J0_isLatin1_aae02 kw4_21 kw4_22 kw4_23 (vk_recv hE.2.2.2.1 (i := 0) (by decide) hS) ⟨Nat.le_of_ble_eq_true rfl, Nat.le_of_ble_eq_true rfl⟩ rfl rfl rfl hl.1 rfl (Nat.le_of_ble_eq_true rfl) dJ0_charAt_5068e_1 ⟨Nat.zero_le _, Nat.zero_le _⟩) ?_
  refine lv_if_eq (tgt := 16) S.1 S.2.1 dJ0_charAt_5068e_4 rfl (fun h1 => ?_) (fun h1 => ?_)
  · exact absurd h1 (by decide)
  · skip
    refine lv_aload_n S.1 S.2.1 dJ0_charAt_5068e_7 rfl (lv_at hl 0 rfl) ?_
    refine vk_getf S.1 S.2.1 (hE.2.2.2.1.1 0 (by decide)).2.2.1 hS S.2.2.2.1 (S.2.2.2.2 _ kw4_10) (fun _ h => h) dJ0_charAt_5068e_8 ?_
    refine lv_iload_n S.1 S.2.1 dJ0_charAt_5068e_11 rfl (lv_at hl 1 rfl) ?_
    refine xk_R (v := (nI 43)) (x_runS (As := [.ref (E.2.2.2 20), .int (nI 1)]) (rest := []) S hE hS (fun _ h => h.elim) (c_J1_charAt_3b067_1 l E _) kv_J1_charAt_3b067 kw5_1 kw5_2 ⟨Nat.le_of_ble_eq_true rfl, Nat.le_of_ble_eq_true rfl⟩ rfl rfl rfl hl.1 rfl (Nat.le_of_ble_eq_true rfl) dJ0_charAt_5068e_12 ⟨Nat.zero_le _, Nat.zero_le _⟩) ?_
    subst hQ
    exact x_retR S hr hlk (by decide) (rfl) dJ0_charAt_5068e_15
set_option maxRecDepth 100000 in
set_option maxHeartbeats 600000 in
theorem c_J0_charAt_5068e_2 (l : Launch) (E : XE) (H : Heap) : Rd l E yJ0_charAt_5068e cJ0_charAt_5068e 2 (some .char) rm_J0_charAt_5068e [.ref (E.2.2.2 10), .int (nI 2)] H (nI 97) := by
  refine met_of (by decide) (Nat.le_of_ble_eq_true rfl) (fun p e s m args below meth c hBD Q hQ ls hl => ?_)
  obtain ⟨S, hr, hlk, hnm, hE, hH⟩ := hBD
  subst hH
  have hl : lv_has ls 2 [(0, .ref (E.2.2.2 10)), (1, .int (nI 2))] := hl
  have hS : va_S (fun _ => False) s.heap s.heap [] := va_S.rf
  refine lv_aload_n S.1 S.2.1 dJ0_charAt_5068e_0 rfl (lv_at hl 0 rfl) ?_
  refine xk_R (v := (nI 1)) (x_runV (As := []) (rest := []) S hE hS (fun _ h => h.elim) (c_J0_isLatin1_aae02_0 l E _) kv_J0_isLatin1_aae02 kw4_21 kw4_22 kw4_23 (vk_recv hE.2.2.2.1 (i := 0) (by decide) hS) ⟨Nat.le_of_ble_eq_true rfl, Nat.le_of_ble_eq_true rfl⟩ rfl rfl rfl hl.1 rfl (Nat.le_of_ble_eq_true rfl) dJ0_charAt_5068e_1 ⟨Nat.zero_le _, Nat.zero_le _⟩) ?_
  refine lv_if_eq (tgt := 16) S.1 S.2.1 dJ0_charAt_5068e_4 rfl (fun h1 => ?_) (fun h1 => ?_)
  · exact absurd h1 (by decide)
  · skip
    refine lv_aload_n S.1 S.2.1 dJ0_charAt_5068e_7 rfl (lv_at hl 0 rfl) ?_
    refine vk_getf S.1 S.2.1 (hE.2.2.2.1.1 0 (by decide)).2.2.1 hS S.2.2.2.1 (S.2.2.2.2 _ kw4_10) (fun _ h => h) dJ0_charAt_5068e_8 ?_
    refine lv_iload_n S.1 S.2.1 dJ0_charAt_5068e_11 rfl (lv_at hl 1 rfl) ?_
    refine xk_R (v := (nI 97)) (x_runS (As := [.ref (E.2.2.2 20), .int (nI 2)]) (rest := []) S hE hS (fun _ h => h.elim) (c_J1_charAt_3b067_2 l E _) kv_J1_charAt_3b067 kw5_1 kw5_2 ⟨Nat.le_of_ble_eq_true rfl, Nat.le_of_ble_eq_true rfl⟩ rfl rfl rfl hl.1 rfl (Nat.le_of_ble_eq_true rfl) dJ0_charAt_5068e_12 ⟨Nat.zero_le _, Nat.zero_le _⟩) ?_
    subst hQ
    exact x_retR S hr hlk (by decide) (rfl) dJ0_charAt_5068e_15
set_option maxRecDepth 100000 in
set_option maxHeartbeats 600000 in
theorem c_J0_charAt_5068e_3 (l : Launch) (E : XE) (H : Heap) : Rd l E yJ0_charAt_5068e cJ0_charAt_5068e 2 (some .char) rm_J0_charAt_5068e [.ref (E.2.2.2 10), .int (nI 3)] H (nI 43) := by
  refine met_of (by decide) (Nat.le_of_ble_eq_true rfl) (fun p e s m args below meth c hBD Q hQ ls hl => ?_)
  obtain ⟨S, hr, hlk, hnm, hE, hH⟩ := hBD
  subst hH
  have hl : lv_has ls 2 [(0, .ref (E.2.2.2 10)), (1, .int (nI 3))] := hl
  have hS : va_S (fun _ => False) s.heap s.heap [] := va_S.rf
  refine lv_aload_n S.1 S.2.1 dJ0_charAt_5068e_0 rfl (lv_at hl 0 rfl) ?_
  refine xk_R (v := (nI 1)) (x_runV (As := []) (rest := []) S hE hS (fun _ h => h.elim) (c_J0_isLatin1_aae02_0 l E _) kv_J0_isLatin1_aae02 kw4_21 kw4_22 kw4_23 (vk_recv hE.2.2.2.1 (i := 0) (by decide) hS) ⟨Nat.le_of_ble_eq_true rfl, Nat.le_of_ble_eq_true rfl⟩ rfl rfl rfl hl.1 rfl (Nat.le_of_ble_eq_true rfl) dJ0_charAt_5068e_1 ⟨Nat.zero_le _, Nat.zero_le _⟩) ?_
  refine lv_if_eq (tgt := 16) S.1 S.2.1 dJ0_charAt_5068e_4 rfl (fun h1 => ?_) (fun h1 => ?_)
  · exact absurd h1 (by decide)
  · skip
    refine lv_aload_n S.1 S.2.1 dJ0_charAt_5068e_7 rfl (lv_at hl 0 rfl) ?_
    refine vk_getf S.1 S.2.1 (hE.2.2.2.1.1 0 (by decide)).2.2.1 hS S.2.2.2.1 (S.2.2.2.2 _ kw4_10) (fun _ h => h) dJ0_charAt_5068e_8 ?_
    refine lv_iload_n S.1 S.2.1 dJ0_charAt_5068e_11 rfl (lv_at hl 1 rfl) ?_
    refine xk_R (v := (nI 43)) (x_runS (As := [.ref (E.2.2.2 20), .int (nI 3)]) (rest := []) S hE hS (fun _ h => h.elim) (c_J1_charAt_3b067_3 l E _) kv_J1_charAt_3b067 kw5_1 kw5_2 ⟨Nat.le_of_ble_eq_true rfl, Nat.le_of_ble_eq_true rfl⟩ rfl rfl rfl hl.1 rfl (Nat.le_of_ble_eq_true rfl) dJ0_charAt_5068e_12 ⟨Nat.zero_le _, Nat.zero_le _⟩) ?_
    subst hQ
    exact x_retR S hr hlk (by decide) (rfl) dJ0_charAt_5068e_15
set_option maxRecDepth 100000 in
set_option maxHeartbeats 600000 in
theorem c_J0_charAt_5068e_4 (l : Launch) (E : XE) (H : Heap) : Rd l E yJ0_charAt_5068e cJ0_charAt_5068e 2 (some .char) rm_J0_charAt_5068e [.ref (E.2.2.2 10), .int (nI 4)] H (nI 116) := by
  refine met_of (by decide) (Nat.le_of_ble_eq_true rfl) (fun p e s m args below meth c hBD Q hQ ls hl => ?_)
  obtain ⟨S, hr, hlk, hnm, hE, hH⟩ := hBD
  subst hH
  have hl : lv_has ls 2 [(0, .ref (E.2.2.2 10)), (1, .int (nI 4))] := hl
  have hS : va_S (fun _ => False) s.heap s.heap [] := va_S.rf
  refine lv_aload_n S.1 S.2.1 dJ0_charAt_5068e_0 rfl (lv_at hl 0 rfl) ?_
  refine xk_R (v := (nI 1)) (x_runV (As := []) (rest := []) S hE hS (fun _ h => h.elim) (c_J0_isLatin1_aae02_0 l E _) kv_J0_isLatin1_aae02 kw4_21 kw4_22 kw4_23 (vk_recv hE.2.2.2.1 (i := 0) (by decide) hS) ⟨Nat.le_of_ble_eq_true rfl, Nat.le_of_ble_eq_true rfl⟩ rfl rfl rfl hl.1 rfl (Nat.le_of_ble_eq_true rfl) dJ0_charAt_5068e_1 ⟨Nat.zero_le _, Nat.zero_le _⟩) ?_
  refine lv_if_eq (tgt := 16) S.1 S.2.1 dJ0_charAt_5068e_4 rfl (fun h1 => ?_) (fun h1 => ?_)
  · exact absurd h1 (by decide)
  · skip
    refine lv_aload_n S.1 S.2.1 dJ0_charAt_5068e_7 rfl (lv_at hl 0 rfl) ?_
    refine vk_getf S.1 S.2.1 (hE.2.2.2.1.1 0 (by decide)).2.2.1 hS S.2.2.2.1 (S.2.2.2.2 _ kw4_10) (fun _ h => h) dJ0_charAt_5068e_8 ?_
    refine lv_iload_n S.1 S.2.1 dJ0_charAt_5068e_11 rfl (lv_at hl 1 rfl) ?_
    refine xk_R (v := (nI 116)) (x_runS (As := [.ref (E.2.2.2 20), .int (nI 4)]) (rest := []) S hE hS (fun _ h => h.elim) (c_J1_charAt_3b067_4 l E _) kv_J1_charAt_3b067 kw5_1 kw5_2 ⟨Nat.le_of_ble_eq_true rfl, Nat.le_of_ble_eq_true rfl⟩ rfl rfl rfl hl.1 rfl (Nat.le_of_ble_eq_true rfl) dJ0_charAt_5068e_12 ⟨Nat.zero_le _, Nat.zero_le _⟩) ?_
    subst hQ
    exact x_retR S hr hlk (by decide) (rfl) dJ0_charAt_5068e_15
set_option maxRecDepth 100000 in
set_option maxHeartbeats 600000 in
theorem c_J0_charAt_5068e_5 (l : Launch) (E : XE) (H : Heap) : Rd l E yJ0_charAt_5068e cJ0_charAt_5068e 2 (some .char) rm_J0_charAt_5068e [.ref (E.2.2.2 10), .int (nI 5)] H (nI 43) := by
  refine met_of (by decide) (Nat.le_of_ble_eq_true rfl) (fun p e s m args below meth c hBD Q hQ ls hl => ?_)
  obtain ⟨S, hr, hlk, hnm, hE, hH⟩ := hBD
  subst hH
  have hl : lv_has ls 2 [(0, .ref (E.2.2.2 10)), (1, .int (nI 5))] := hl
  have hS : va_S (fun _ => False) s.heap s.heap [] := va_S.rf
  refine lv_aload_n S.1 S.2.1 dJ0_charAt_5068e_0 rfl (lv_at hl 0 rfl) ?_
  refine xk_R (v := (nI 1)) (x_runV (As := []) (rest := []) S hE hS (fun _ h => h.elim) (c_J0_isLatin1_aae02_0 l E _) kv_J0_isLatin1_aae02 kw4_21 kw4_22 kw4_23 (vk_recv hE.2.2.2.1 (i := 0) (by decide) hS) ⟨Nat.le_of_ble_eq_true rfl, Nat.le_of_ble_eq_true rfl⟩ rfl rfl rfl hl.1 rfl (Nat.le_of_ble_eq_true rfl) dJ0_charAt_5068e_1 ⟨Nat.zero_le _, Nat.zero_le _⟩) ?_
  refine lv_if_eq (tgt := 16) S.1 S.2.1 dJ0_charAt_5068e_4 rfl (fun h1 => ?_) (fun h1 => ?_)
  · exact absurd h1 (by decide)
  · skip
    refine lv_aload_n S.1 S.2.1 dJ0_charAt_5068e_7 rfl (lv_at hl 0 rfl) ?_
    refine vk_getf S.1 S.2.1 (hE.2.2.2.1.1 0 (by decide)).2.2.1 hS S.2.2.2.1 (S.2.2.2.2 _ kw4_10) (fun _ h => h) dJ0_charAt_5068e_8 ?_
    refine lv_iload_n S.1 S.2.1 dJ0_charAt_5068e_11 rfl (lv_at hl 1 rfl) ?_
    refine xk_R (v := (nI 43)) (x_runS (As := [.ref (E.2.2.2 20), .int (nI 5)]) (rest := []) S hE hS (fun _ h => h.elim) (c_J1_charAt_3b067_5 l E _) kv_J1_charAt_3b067 kw5_1 kw5_2 ⟨Nat.le_of_ble_eq_true rfl, Nat.le_of_ble_eq_true rfl⟩ rfl rfl rfl hl.1 rfl (Nat.le_of_ble_eq_true rfl) dJ0_charAt_5068e_12 ⟨Nat.zero_le _, Nat.zero_le _⟩) ?_
    subst hQ
    exact x_retR S hr hlk (by decide) (rfl) dJ0_charAt_5068e_15
set_option maxRecDepth 100000 in
set_option maxHeartbeats 600000 in
theorem c_J0_charAt_5068e_6 (l : Launch) (E : XE) (H : Heap) : Rd l E yJ0_charAt_5068e cJ0_charAt_5068e 2 (some .char) rm_J0_charAt_5068e [.ref (E.2.2.2 10), .int (nI 6)] H (nI 98) := by
  refine met_of (by decide) (Nat.le_of_ble_eq_true rfl) (fun p e s m args below meth c hBD Q hQ ls hl => ?_)
  obtain ⟨S, hr, hlk, hnm, hE, hH⟩ := hBD
  subst hH
  have hl : lv_has ls 2 [(0, .ref (E.2.2.2 10)), (1, .int (nI 6))] := hl
  have hS : va_S (fun _ => False) s.heap s.heap [] := va_S.rf
  refine lv_aload_n S.1 S.2.1 dJ0_charAt_5068e_0 rfl (lv_at hl 0 rfl) ?_
  refine xk_R (v := (nI 1)) (x_runV (As := []) (rest := []) S hE hS (fun _ h => h.elim) (c_J0_isLatin1_aae02_0 l E _) kv_J0_isLatin1_aae02 kw4_21 kw4_22 kw4_23 (vk_recv hE.2.2.2.1 (i := 0) (by decide) hS) ⟨Nat.le_of_ble_eq_true rfl, Nat.le_of_ble_eq_true rfl⟩ rfl rfl rfl hl.1 rfl (Nat.le_of_ble_eq_true rfl) dJ0_charAt_5068e_1 ⟨Nat.zero_le _, Nat.zero_le _⟩) ?_
  refine lv_if_eq (tgt := 16) S.1 S.2.1 dJ0_charAt_5068e_4 rfl (fun h1 => ?_) (fun h1 => ?_)
  · exact absurd h1 (by decide)
  · skip
    refine lv_aload_n S.1 S.2.1 dJ0_charAt_5068e_7 rfl (lv_at hl 0 rfl) ?_
    refine vk_getf S.1 S.2.1 (hE.2.2.2.1.1 0 (by decide)).2.2.1 hS S.2.2.2.1 (S.2.2.2.2 _ kw4_10) (fun _ h => h) dJ0_charAt_5068e_8 ?_
    refine lv_iload_n S.1 S.2.1 dJ0_charAt_5068e_11 rfl (lv_at hl 1 rfl) ?_
    refine xk_R (v := (nI 98)) (x_runS (As := [.ref (E.2.2.2 20), .int (nI 6)]) (rest := []) S hE hS (fun _ h => h.elim) (c_J1_charAt_3b067_6 l E _) kv_J1_charAt_3b067 kw5_1 kw5_2 ⟨Nat.le_of_ble_eq_true rfl, Nat.le_of_ble_eq_true rfl⟩ rfl rfl rfl hl.1 rfl (Nat.le_of_ble_eq_true rfl) dJ0_charAt_5068e_12 ⟨Nat.zero_le _, Nat.zero_le _⟩) ?_
    subst hQ
    exact x_retR S hr hlk (by decide) (rfl) dJ0_charAt_5068e_15
abbrev rm_X5_init : Room := ({ frames := 1, cells := 7, slots := 1400, locals := 12 } : Room)
set_option maxRecDepth 100000 in
set_option maxHeartbeats 1000000 in
theorem c_X5_init (l : Launch) (E : XE) (a : Nat) (H : Heap) (hz : H.size = a + 1) (ho : XO E a 5 [.null, .null, .null, .null, .null, .null, .null, .int (nI 0)] H) : Cn l E yX5_init cX5_init 1 rm_X5_init [.ref a] H a (fun H1 => NotP E a (fun _ _ => 0) (nI 0) H1 ∧ Gr H H1 a 8) 7 1400 := by
  refine met_ofC (by decide) (Nat.le_of_ble_eq_true rfl) (fun p e s m args below meth c hBD Q hQ ls hl => ?_)
  obtain ⟨S, hr, hlk, hnm, hEA, hH⟩ := hBD
  subst hH
  have hE := hEA.1
  have hl : lv_has ls 1 [(0, .ref a)] := hl
  have hS : va_S (fun q => a ≤ q) s.heap s.heap [] := va_S.rf
  have hG : s.heap.size = a + 1 := hz
  have hp : ∀ q : Nat, q < a → s.heap[q]? = s.heap[q]? := fun _ _ => rfl
  refine lv_aload_n S.1 S.2.1 dX5_init_0 rfl (lv_at hl 0 rfl) ?_
  refine x_init0 S kw3_4 kw1_10 kw1_11 hl.1 dX5_init_1 (Nat.le_of_ble_eq_true rfl) (Nat.le_of_ble_eq_true rfl) ?_
  refine lv_aload_n S.1 S.2.1 dX5_init_4 rfl (lv_at hl 0 rfl) ?_
  refine lv_sipush (v := (nI 200)) S.1 S.2.1 dX5_init_5 (by decide) ?_
  refine x_newI S hE hS kw1_3 (k := 200) rfl (by decide) (Nat.le_of_ble_eq_true rfl) (Nat.le_of_ble_eq_true rfl) dX5_init_8 hG (fun H hX hz1 hK hS => ?_)
  have ho := va_at.kept ho (hK (a) (k_lt0 (by decide)))
  have hp : ∀ q : Nat, q < a → H[q]? = s.heap[q]? := fun q h => (hK q (kp_lt h)).trans (hp q h)
  have hG : H.size = a + 2 := hz1
  have hn1 : XI E (a + 1) 200 (fun _ => 0) H := hX
  refine W.widen (k := 1) (n := 200) (Nat.le_of_ble_eq_true rfl) (Nat.le_of_ble_eq_true rfl) ?_
  refine x_putF S hE hS (show a ≤ a from Nat.le_refl _) (ho) (C := RX5) (T := TX5) (N := 8) rfl inlX5 tyX5 tyX5_ok nmX5 0 (by decide) (Nat.le_of_ble_eq_true rfl) kw3_5 rfl rfl hnm rfl (v := .ref (a + 1)) rfl rfl dX5_init_10 (fun H locs hX hO1 hS => ?_)
  have hn1 := va_at.kept hn1 (hO1.2 ((a + 1)) (k_ne0b (by decide)))
  have hp : ∀ q : Nat, q < a → H[q]? = s.heap[q]? := fun q h => (hO1.2 q (kp_ne0 h)).trans (hp q h)
  have hG : H.size = a + 2 := hO1.1.trans hG
  have ho : XO E a 5 [.ref (a + 1), .null, .null, .null, .null, .null, .null, .int (nI 0)] H := hX
  refine lv_aload_n S.1 S.2.1 dX5_init_13 rfl (lv_at hl 0 rfl) ?_
  refine lv_sipush (v := (nI 200)) S.1 S.2.1 dX5_init_14 (by decide) ?_
  refine x_newI S hE hS kw1_3 (k := 200) rfl (by decide) (Nat.le_of_ble_eq_true rfl) (Nat.le_of_ble_eq_true rfl) dX5_init_17 hG (fun H hX hz1 hK hS => ?_)
  have ho := va_at.kept ho (hK (a) (k_lt0 (by decide)))
  have hn1 := va_at.kept hn1 (hK ((a + 1)) (k_lt (by decide)))
  have hp : ∀ q : Nat, q < a → H[q]? = s.heap[q]? := fun q h => (hK q (kp_lt h)).trans (hp q h)
  have hG : H.size = a + 3 := hz1
  have hn2 : XI E (a + 2) 200 (fun _ => 0) H := hX
  refine W.widen (k := 2) (n := 400) (Nat.le_of_ble_eq_true rfl) (Nat.le_of_ble_eq_true rfl) ?_
  refine x_putF S hE hS (show a ≤ a from Nat.le_refl _) (ho) (C := RX5) (T := TX5) (N := 8) rfl inlX5 tyX5 tyX5_ok nmX5 1 (by decide) (Nat.le_of_ble_eq_true rfl) kw3_6 rfl rfl hnm rfl (v := .ref (a + 2)) rfl rfl dX5_init_19 (fun H locs hX hO1 hS => ?_)
  have hn1 := va_at.kept hn1 (hO1.2 ((a + 1)) (k_ne0b (by decide)))
  have hn2 := va_at.kept hn2 (hO1.2 ((a + 2)) (k_ne0b (by decide)))
  have hp : ∀ q : Nat, q < a → H[q]? = s.heap[q]? := fun q h => (hO1.2 q (kp_ne0 h)).trans (hp q h)
  have hG : H.size = a + 3 := hO1.1.trans hG
  have ho : XO E a 5 [.ref (a + 1), .ref (a + 2), .null, .null, .null, .null, .null, .int (nI 0)] H := hX
  refine lv_aload_n S.1 S.2.1 dX5_init_22 rfl (lv_at hl 0 rfl) ?_
  refine lv_sipush (v := (nI 200)) S.1 S.2.1 dX5_init_23 (by decide) ?_
  refine x_newI S hE hS kw1_3 (k := 200) rfl (by decide) (Nat.le_of_ble_eq_true rfl) (Nat.le_of_ble_eq_true rfl) dX5_init_26 hG (fun H hX hz1 hK hS => ?_)
  have ho := va_at.kept ho (hK (a) (k_lt0 (by decide)))
  have hn1 := va_at.kept hn1 (hK ((a + 1)) (k_lt (by decide)))
  have hn2 := va_at.kept hn2 (hK ((a + 2)) (k_lt (by decide)))
  have hp : ∀ q : Nat, q < a → H[q]? = s.heap[q]? := fun q h => (hK q (kp_lt h)).trans (hp q h)
  have hG : H.size = a + 4 := hz1
  have hn3 : XI E (a + 3) 200 (fun _ => 0) H := hX
  refine W.widen (k := 3) (n := 600) (Nat.le_of_ble_eq_true rfl) (Nat.le_of_ble_eq_true rfl) ?_
  refine x_putF S hE hS (show a ≤ a from Nat.le_refl _) (ho) (C := RX5) (T := TX5) (N := 8) rfl inlX5 tyX5 tyX5_ok nmX5 2 (by decide) (Nat.le_of_ble_eq_true rfl) kw3_7 rfl rfl hnm rfl (v := .ref (a + 3)) rfl rfl dX5_init_28 (fun H locs hX hO1 hS => ?_)
  have hn1 := va_at.kept hn1 (hO1.2 ((a + 1)) (k_ne0b (by decide)))
  have hn2 := va_at.kept hn2 (hO1.2 ((a + 2)) (k_ne0b (by decide)))
  have hn3 := va_at.kept hn3 (hO1.2 ((a + 3)) (k_ne0b (by decide)))
  have hp : ∀ q : Nat, q < a → H[q]? = s.heap[q]? := fun q h => (hO1.2 q (kp_ne0 h)).trans (hp q h)
  have hG : H.size = a + 4 := hO1.1.trans hG
  have ho : XO E a 5 [.ref (a + 1), .ref (a + 2), .ref (a + 3), .null, .null, .null, .null, .int (nI 0)] H := hX
  refine lv_aload_n S.1 S.2.1 dX5_init_31 rfl (lv_at hl 0 rfl) ?_
  refine lv_sipush (v := (nI 200)) S.1 S.2.1 dX5_init_32 (by decide) ?_
  refine x_newI S hE hS kw1_3 (k := 200) rfl (by decide) (Nat.le_of_ble_eq_true rfl) (Nat.le_of_ble_eq_true rfl) dX5_init_35 hG (fun H hX hz1 hK hS => ?_)
  have ho := va_at.kept ho (hK (a) (k_lt0 (by decide)))
  have hn1 := va_at.kept hn1 (hK ((a + 1)) (k_lt (by decide)))
  have hn2 := va_at.kept hn2 (hK ((a + 2)) (k_lt (by decide)))
  have hn3 := va_at.kept hn3 (hK ((a + 3)) (k_lt (by decide)))
  have hp : ∀ q : Nat, q < a → H[q]? = s.heap[q]? := fun q h => (hK q (kp_lt h)).trans (hp q h)
  have hG : H.size = a + 5 := hz1
  have hn4 : XI E (a + 4) 200 (fun _ => 0) H := hX
  refine W.widen (k := 4) (n := 800) (Nat.le_of_ble_eq_true rfl) (Nat.le_of_ble_eq_true rfl) ?_
  refine x_putF S hE hS (show a ≤ a from Nat.le_refl _) (ho) (C := RX5) (T := TX5) (N := 8) rfl inlX5 tyX5 tyX5_ok nmX5 3 (by decide) (Nat.le_of_ble_eq_true rfl) kw3_8 rfl rfl hnm rfl (v := .ref (a + 4)) rfl rfl dX5_init_37 (fun H locs hX hO1 hS => ?_)
  have hn1 := va_at.kept hn1 (hO1.2 ((a + 1)) (k_ne0b (by decide)))
  have hn2 := va_at.kept hn2 (hO1.2 ((a + 2)) (k_ne0b (by decide)))
  have hn3 := va_at.kept hn3 (hO1.2 ((a + 3)) (k_ne0b (by decide)))
  have hn4 := va_at.kept hn4 (hO1.2 ((a + 4)) (k_ne0b (by decide)))
  have hp : ∀ q : Nat, q < a → H[q]? = s.heap[q]? := fun q h => (hO1.2 q (kp_ne0 h)).trans (hp q h)
  have hG : H.size = a + 5 := hO1.1.trans hG
  have ho : XO E a 5 [.ref (a + 1), .ref (a + 2), .ref (a + 3), .ref (a + 4), .null, .null, .null, .int (nI 0)] H := hX
  refine lv_aload_n S.1 S.2.1 dX5_init_40 rfl (lv_at hl 0 rfl) ?_
  refine lv_sipush (v := (nI 200)) S.1 S.2.1 dX5_init_41 (by decide) ?_
  refine x_newI S hE hS kw1_3 (k := 200) rfl (by decide) (Nat.le_of_ble_eq_true rfl) (Nat.le_of_ble_eq_true rfl) dX5_init_44 hG (fun H hX hz1 hK hS => ?_)
  have ho := va_at.kept ho (hK (a) (k_lt0 (by decide)))
  have hn1 := va_at.kept hn1 (hK ((a + 1)) (k_lt (by decide)))
  have hn2 := va_at.kept hn2 (hK ((a + 2)) (k_lt (by decide)))
  have hn3 := va_at.kept hn3 (hK ((a + 3)) (k_lt (by decide)))
  have hn4 := va_at.kept hn4 (hK ((a + 4)) (k_lt (by decide)))
  have hp : ∀ q : Nat, q < a → H[q]? = s.heap[q]? := fun q h => (hK q (kp_lt h)).trans (hp q h)
  have hG : H.size = a + 6 := hz1
  have hn5 : XI E (a + 5) 200 (fun _ => 0) H := hX
  refine W.widen (k := 5) (n := 1000) (Nat.le_of_ble_eq_true rfl) (Nat.le_of_ble_eq_true rfl) ?_
  refine x_putF S hE hS (show a ≤ a from Nat.le_refl _) (ho) (C := RX5) (T := TX5) (N := 8) rfl inlX5 tyX5 tyX5_ok nmX5 4 (by decide) (Nat.le_of_ble_eq_true rfl) kw3_9 rfl rfl hnm rfl (v := .ref (a + 5)) rfl rfl dX5_init_46 (fun H locs hX hO1 hS => ?_)
  have hn1 := va_at.kept hn1 (hO1.2 ((a + 1)) (k_ne0b (by decide)))
  have hn2 := va_at.kept hn2 (hO1.2 ((a + 2)) (k_ne0b (by decide)))
  have hn3 := va_at.kept hn3 (hO1.2 ((a + 3)) (k_ne0b (by decide)))
  have hn4 := va_at.kept hn4 (hO1.2 ((a + 4)) (k_ne0b (by decide)))
  have hn5 := va_at.kept hn5 (hO1.2 ((a + 5)) (k_ne0b (by decide)))
  have hp : ∀ q : Nat, q < a → H[q]? = s.heap[q]? := fun q h => (hO1.2 q (kp_ne0 h)).trans (hp q h)
  have hG : H.size = a + 6 := hO1.1.trans hG
  have ho : XO E a 5 [.ref (a + 1), .ref (a + 2), .ref (a + 3), .ref (a + 4), .ref (a + 5), .null, .null, .int (nI 0)] H := hX
  refine lv_aload_n S.1 S.2.1 dX5_init_49 rfl (lv_at hl 0 rfl) ?_
  refine lv_sipush (v := (nI 200)) S.1 S.2.1 dX5_init_50 (by decide) ?_
  refine x_newI S hE hS kw1_3 (k := 200) rfl (by decide) (Nat.le_of_ble_eq_true rfl) (Nat.le_of_ble_eq_true rfl) dX5_init_53 hG (fun H hX hz1 hK hS => ?_)
  have ho := va_at.kept ho (hK (a) (k_lt0 (by decide)))
  have hn1 := va_at.kept hn1 (hK ((a + 1)) (k_lt (by decide)))
  have hn2 := va_at.kept hn2 (hK ((a + 2)) (k_lt (by decide)))
  have hn3 := va_at.kept hn3 (hK ((a + 3)) (k_lt (by decide)))
  have hn4 := va_at.kept hn4 (hK ((a + 4)) (k_lt (by decide)))
  have hn5 := va_at.kept hn5 (hK ((a + 5)) (k_lt (by decide)))
  have hp : ∀ q : Nat, q < a → H[q]? = s.heap[q]? := fun q h => (hK q (kp_lt h)).trans (hp q h)
  have hG : H.size = a + 7 := hz1
  have hn6 : XI E (a + 6) 200 (fun _ => 0) H := hX
  refine W.widen (k := 6) (n := 1200) (Nat.le_of_ble_eq_true rfl) (Nat.le_of_ble_eq_true rfl) ?_
  refine x_putF S hE hS (show a ≤ a from Nat.le_refl _) (ho) (C := RX5) (T := TX5) (N := 8) rfl inlX5 tyX5 tyX5_ok nmX5 5 (by decide) (Nat.le_of_ble_eq_true rfl) kw3_10 rfl rfl hnm rfl (v := .ref (a + 6)) rfl rfl dX5_init_55 (fun H locs hX hO1 hS => ?_)
  have hn1 := va_at.kept hn1 (hO1.2 ((a + 1)) (k_ne0b (by decide)))
  have hn2 := va_at.kept hn2 (hO1.2 ((a + 2)) (k_ne0b (by decide)))
  have hn3 := va_at.kept hn3 (hO1.2 ((a + 3)) (k_ne0b (by decide)))
  have hn4 := va_at.kept hn4 (hO1.2 ((a + 4)) (k_ne0b (by decide)))
  have hn5 := va_at.kept hn5 (hO1.2 ((a + 5)) (k_ne0b (by decide)))
  have hn6 := va_at.kept hn6 (hO1.2 ((a + 6)) (k_ne0b (by decide)))
  have hp : ∀ q : Nat, q < a → H[q]? = s.heap[q]? := fun q h => (hO1.2 q (kp_ne0 h)).trans (hp q h)
  have hG : H.size = a + 7 := hO1.1.trans hG
  have ho : XO E a 5 [.ref (a + 1), .ref (a + 2), .ref (a + 3), .ref (a + 4), .ref (a + 5), .ref (a + 6), .null, .int (nI 0)] H := hX
  refine lv_aload_n S.1 S.2.1 dX5_init_58 rfl (lv_at hl 0 rfl) ?_
  refine lv_sipush (v := (nI 200)) S.1 S.2.1 dX5_init_59 (by decide) ?_
  refine x_newI S hE hS kw1_3 (k := 200) rfl (by decide) (Nat.le_of_ble_eq_true rfl) (Nat.le_of_ble_eq_true rfl) dX5_init_62 hG (fun H hX hz1 hK hS => ?_)
  have ho := va_at.kept ho (hK (a) (k_lt0 (by decide)))
  have hn1 := va_at.kept hn1 (hK ((a + 1)) (k_lt (by decide)))
  have hn2 := va_at.kept hn2 (hK ((a + 2)) (k_lt (by decide)))
  have hn3 := va_at.kept hn3 (hK ((a + 3)) (k_lt (by decide)))
  have hn4 := va_at.kept hn4 (hK ((a + 4)) (k_lt (by decide)))
  have hn5 := va_at.kept hn5 (hK ((a + 5)) (k_lt (by decide)))
  have hn6 := va_at.kept hn6 (hK ((a + 6)) (k_lt (by decide)))
  have hp : ∀ q : Nat, q < a → H[q]? = s.heap[q]? := fun q h => (hK q (kp_lt h)).trans (hp q h)
  have hG : H.size = a + 8 := hz1
  have hn7 : XI E (a + 7) 200 (fun _ => 0) H := hX
  refine W.widen (k := 7) (n := 1400) (Nat.le_of_ble_eq_true rfl) (Nat.le_of_ble_eq_true rfl) ?_
  refine x_putF S hE hS (show a ≤ a from Nat.le_refl _) (ho) (C := RX5) (T := TX5) (N := 8) rfl inlX5 tyX5 tyX5_ok nmX5 6 (by decide) (Nat.le_of_ble_eq_true rfl) kw3_11 rfl rfl hnm rfl (v := .ref (a + 7)) rfl rfl dX5_init_64 (fun H locs hX hO1 hS => ?_)
  have hn1 := va_at.kept hn1 (hO1.2 ((a + 1)) (k_ne0b (by decide)))
  have hn2 := va_at.kept hn2 (hO1.2 ((a + 2)) (k_ne0b (by decide)))
  have hn3 := va_at.kept hn3 (hO1.2 ((a + 3)) (k_ne0b (by decide)))
  have hn4 := va_at.kept hn4 (hO1.2 ((a + 4)) (k_ne0b (by decide)))
  have hn5 := va_at.kept hn5 (hO1.2 ((a + 5)) (k_ne0b (by decide)))
  have hn6 := va_at.kept hn6 (hO1.2 ((a + 6)) (k_ne0b (by decide)))
  have hn7 := va_at.kept hn7 (hO1.2 ((a + 7)) (k_ne0b (by decide)))
  have hp : ∀ q : Nat, q < a → H[q]? = s.heap[q]? := fun q h => (hO1.2 q (kp_ne0 h)).trans (hp q h)
  have hG : H.size = a + 8 := hO1.1.trans hG
  have ho : XO E a 5 [.ref (a + 1), .ref (a + 2), .ref (a + 3), .ref (a + 4), .ref (a + 5), .ref (a + 6), .ref (a + 7), .int (nI 0)] H := hX
  subst hQ
  refine x_retC S hr hlk hS ?_ dX5_init_67
  exact ⟨⟨ho, fun k hk => by rcases (show k = 0 ∨ k = 1 ∨ k = 2 ∨ k = 3 ∨ k = 4 ∨ k = 5 ∨ k = 6 by omega) with rfl | rfl | rfl | rfl | rfl | rfl | rfl <;> assumption⟩, hG, hp⟩
abbrev rm_X3_init_8 : Room := ({ frames := 1, cells := 1, slots := 8, locals := 21 } : Room)
set_option maxRecDepth 100000 in
set_option maxHeartbeats 1000000 in
theorem c_X3_init_8 (l : Launch) (E : XE) (a : Nat) (H : Heap) (hz : H.size = a + 1) (ho : XO E a 3 [.null, .int (nI 0)] H) : Cn l E yX3_init cX3_init 2 rm_X3_init_8 [.ref a, .int (nI 8)] H a (fun H1 => LinP E a 8 [] H1 ∧ Gr H H1 a 2) 1 8 := by
  refine met_ofC (by decide) (Nat.le_of_ble_eq_true rfl) (fun p e s m args below meth c hBD Q hQ ls hl => ?_)
  obtain ⟨S, hr, hlk, hnm, hEA, hH⟩ := hBD
  subst hH
  have hE := hEA.1
  have hl : lv_has ls 2 [(0, .ref a), (1, .int (nI 8))] := hl
  have hS : va_S (fun q => a ≤ q) s.heap s.heap [] := va_S.rf
  have hG : s.heap.size = a + 1 := hz
  have hp : ∀ q : Nat, q < a → s.heap[q]? = s.heap[q]? := fun _ _ => rfl
  refine lv_aload_n S.1 S.2.1 dX3_init_0 rfl (lv_at hl 0 rfl) ?_
  refine x_init0 S kw3_14 kw1_10 kw1_11 hl.1 dX3_init_1 (Nat.le_of_ble_eq_true rfl) (Nat.le_of_ble_eq_true rfl) ?_
  refine lv_aload_n S.1 S.2.1 dX3_init_4 rfl (lv_at hl 0 rfl) ?_
  refine lv_iconst (v := (nI 0)) S.1 S.2.1 dX3_init_5 (by decide) ?_
  refine lv_iload_n S.1 S.2.1 dX3_init_6 rfl (lv_at hl 1 rfl) ?_
  refine va_mmax S.1 S.2.1 (S.2.2.1.trans hl.1.symm) S.2.2.2.1 (S.2.2.2.2 _ kw3_15) (S.2.2.2.2 _ kw3_16) (S.2.2.2.2 _ kw3_17) (S.2.2.2.2 _ kw3_18) (Nat.le_of_ble_eq_true rfl) (Nat.le_of_ble_eq_true rfl) (Nat.le_of_ble_eq_true rfl) (Nat.le_of_ble_eq_true rfl) dX3_init_7 ?_
  refine x_top (y := (xmax (nI 0) (nI 8))) rfl ?_
  refine x_top (y := (nI 8)) (by decide) ?_
  refine x_newI S hE hS kw1_3 (k := 8) rfl (by decide) (Nat.le_of_ble_eq_true rfl) (Nat.le_of_ble_eq_true rfl) dX3_init_10 hG (fun H hX hz1 hK hS => ?_)
  have ho := va_at.kept ho (hK (a) (k_lt0 (by decide)))
  have hp : ∀ q : Nat, q < a → H[q]? = s.heap[q]? := fun q h => (hK q (kp_lt h)).trans (hp q h)
  have hG : H.size = a + 2 := hz1
  have hn1 : XI E (a + 1) 8 (fun _ => 0) H := hX
  refine W.widen (k := 1) (n := 8) (Nat.le_of_ble_eq_true rfl) (Nat.le_of_ble_eq_true rfl) ?_
  refine x_putF S hE hS (show a ≤ a from Nat.le_refl _) (ho) (C := RX3) (T := TX3) (N := 2) rfl inlX3 tyX3 tyX3_ok nmX3 0 (by decide) (Nat.le_of_ble_eq_true rfl) kw3_19 rfl rfl hnm rfl (v := .ref (a + 1)) rfl rfl dX3_init_12 (fun H locs hX hO1 hS => ?_)
  have hn1 := va_at.kept hn1 (hO1.2 ((a + 1)) (k_ne0b (by decide)))
  have hp : ∀ q : Nat, q < a → H[q]? = s.heap[q]? := fun q h => (hO1.2 q (kp_ne0 h)).trans (hp q h)
  have hG : H.size = a + 2 := hO1.1.trans hG
  have ho : XO E a 3 [.ref (a + 1), .int (nI 0)] H := hX
  subst hQ
  refine x_retC S hr hlk hS ?_ dX3_init_15
  exact ⟨⟨ho, Nat.zero_le _, _, hn1, fun j hj => absurd hj (Nat.not_lt_zero j)⟩, hG, hp⟩
abbrev rm_X3_init_4 : Room := ({ frames := 1, cells := 1, slots := 4, locals := 21 } : Room)
set_option maxRecDepth 100000 in
set_option maxHeartbeats 1000000 in
theorem c_X3_init_4 (l : Launch) (E : XE) (a : Nat) (H : Heap) (hz : H.size = a + 1) (ho : XO E a 3 [.null, .int (nI 0)] H) : Cn l E yX3_init cX3_init 2 rm_X3_init_4 [.ref a, .int (nI 4)] H a (fun H1 => LinP E a 4 [] H1 ∧ Gr H H1 a 2) 1 4 := by
  refine met_ofC (by decide) (Nat.le_of_ble_eq_true rfl) (fun p e s m args below meth c hBD Q hQ ls hl => ?_)
  obtain ⟨S, hr, hlk, hnm, hEA, hH⟩ := hBD
  subst hH
  have hE := hEA.1
  have hl : lv_has ls 2 [(0, .ref a), (1, .int (nI 4))] := hl
  have hS : va_S (fun q => a ≤ q) s.heap s.heap [] := va_S.rf
  have hG : s.heap.size = a + 1 := hz
  have hp : ∀ q : Nat, q < a → s.heap[q]? = s.heap[q]? := fun _ _ => rfl
  refine lv_aload_n S.1 S.2.1 dX3_init_0 rfl (lv_at hl 0 rfl) ?_
  refine x_init0 S kw3_14 kw1_10 kw1_11 hl.1 dX3_init_1 (Nat.le_of_ble_eq_true rfl) (Nat.le_of_ble_eq_true rfl) ?_
  refine lv_aload_n S.1 S.2.1 dX3_init_4 rfl (lv_at hl 0 rfl) ?_
  refine lv_iconst (v := (nI 0)) S.1 S.2.1 dX3_init_5 (by decide) ?_
  refine lv_iload_n S.1 S.2.1 dX3_init_6 rfl (lv_at hl 1 rfl) ?_
  refine va_mmax S.1 S.2.1 (S.2.2.1.trans hl.1.symm) S.2.2.2.1 (S.2.2.2.2 _ kw3_15) (S.2.2.2.2 _ kw3_16) (S.2.2.2.2 _ kw3_17) (S.2.2.2.2 _ kw3_18) (Nat.le_of_ble_eq_true rfl) (Nat.le_of_ble_eq_true rfl) (Nat.le_of_ble_eq_true rfl) (Nat.le_of_ble_eq_true rfl) dX3_init_7 ?_
  refine x_top (y := (xmax (nI 0) (nI 4))) rfl ?_
  refine x_top (y := (nI 4)) (by decide) ?_
  refine x_newI S hE hS kw1_3 (k := 4) rfl (by decide) (Nat.le_of_ble_eq_true rfl) (Nat.le_of_ble_eq_true rfl) dX3_init_10 hG (fun H hX hz1 hK hS => ?_)
  have ho := va_at.kept ho (hK (a) (k_lt0 (by decide)))
  have hp : ∀ q : Nat, q < a → H[q]? = s.heap[q]? := fun q h => (hK q (kp_lt h)).trans (hp q h)
  have hG : H.size = a + 2 := hz1
  have hn1 : XI E (a + 1) 4 (fun _ => 0) H := hX
  refine W.widen (k := 1) (n := 4) (Nat.le_of_ble_eq_true rfl) (Nat.le_of_ble_eq_true rfl) ?_
  refine x_putF S hE hS (show a ≤ a from Nat.le_refl _) (ho) (C := RX3) (T := TX3) (N := 2) rfl inlX3 tyX3 tyX3_ok nmX3 0 (by decide) (Nat.le_of_ble_eq_true rfl) kw3_19 rfl rfl hnm rfl (v := .ref (a + 1)) rfl rfl dX3_init_12 (fun H locs hX hO1 hS => ?_)
  have hn1 := va_at.kept hn1 (hO1.2 ((a + 1)) (k_ne0b (by decide)))
  have hp : ∀ q : Nat, q < a → H[q]? = s.heap[q]? := fun q h => (hO1.2 q (kp_ne0 h)).trans (hp q h)
  have hG : H.size = a + 2 := hO1.1.trans hG
  have ho : XO E a 3 [.ref (a + 1), .int (nI 0)] H := hX
  subst hQ
  refine x_retC S hr hlk hS ?_ dX3_init_15
  exact ⟨⟨ho, Nat.zero_le _, _, hn1, fun j hj => absurd hj (Nat.not_lt_zero j)⟩, hG, hp⟩
abbrev rm_X3_init_6 : Room := ({ frames := 1, cells := 1, slots := 6, locals := 21 } : Room)
set_option maxRecDepth 100000 in
set_option maxHeartbeats 1000000 in
theorem c_X3_init_6 (l : Launch) (E : XE) (a : Nat) (H : Heap) (hz : H.size = a + 1) (ho : XO E a 3 [.null, .int (nI 0)] H) : Cn l E yX3_init cX3_init 2 rm_X3_init_6 [.ref a, .int (nI 6)] H a (fun H1 => LinP E a 6 [] H1 ∧ Gr H H1 a 2) 1 6 := by
  refine met_ofC (by decide) (Nat.le_of_ble_eq_true rfl) (fun p e s m args below meth c hBD Q hQ ls hl => ?_)
  obtain ⟨S, hr, hlk, hnm, hEA, hH⟩ := hBD
  subst hH
  have hE := hEA.1
  have hl : lv_has ls 2 [(0, .ref a), (1, .int (nI 6))] := hl
  have hS : va_S (fun q => a ≤ q) s.heap s.heap [] := va_S.rf
  have hG : s.heap.size = a + 1 := hz
  have hp : ∀ q : Nat, q < a → s.heap[q]? = s.heap[q]? := fun _ _ => rfl
  refine lv_aload_n S.1 S.2.1 dX3_init_0 rfl (lv_at hl 0 rfl) ?_
  refine x_init0 S kw3_14 kw1_10 kw1_11 hl.1 dX3_init_1 (Nat.le_of_ble_eq_true rfl) (Nat.le_of_ble_eq_true rfl) ?_
  refine lv_aload_n S.1 S.2.1 dX3_init_4 rfl (lv_at hl 0 rfl) ?_
  refine lv_iconst (v := (nI 0)) S.1 S.2.1 dX3_init_5 (by decide) ?_
  refine lv_iload_n S.1 S.2.1 dX3_init_6 rfl (lv_at hl 1 rfl) ?_
  refine va_mmax S.1 S.2.1 (S.2.2.1.trans hl.1.symm) S.2.2.2.1 (S.2.2.2.2 _ kw3_15) (S.2.2.2.2 _ kw3_16) (S.2.2.2.2 _ kw3_17) (S.2.2.2.2 _ kw3_18) (Nat.le_of_ble_eq_true rfl) (Nat.le_of_ble_eq_true rfl) (Nat.le_of_ble_eq_true rfl) (Nat.le_of_ble_eq_true rfl) dX3_init_7 ?_
  refine x_top (y := (xmax (nI 0) (nI 6))) rfl ?_
  refine x_top (y := (nI 6)) (by decide) ?_
  refine x_newI S hE hS kw1_3 (k := 6) rfl (by decide) (Nat.le_of_ble_eq_true rfl) (Nat.le_of_ble_eq_true rfl) dX3_init_10 hG (fun H hX hz1 hK hS => ?_)
  have ho := va_at.kept ho (hK (a) (k_lt0 (by decide)))
  have hp : ∀ q : Nat, q < a → H[q]? = s.heap[q]? := fun q h => (hK q (kp_lt h)).trans (hp q h)
  have hG : H.size = a + 2 := hz1
  have hn1 : XI E (a + 1) 6 (fun _ => 0) H := hX
  refine W.widen (k := 1) (n := 6) (Nat.le_of_ble_eq_true rfl) (Nat.le_of_ble_eq_true rfl) ?_
  refine x_putF S hE hS (show a ≤ a from Nat.le_refl _) (ho) (C := RX3) (T := TX3) (N := 2) rfl inlX3 tyX3 tyX3_ok nmX3 0 (by decide) (Nat.le_of_ble_eq_true rfl) kw3_19 rfl rfl hnm rfl (v := .ref (a + 1)) rfl rfl dX3_init_12 (fun H locs hX hO1 hS => ?_)
  have hn1 := va_at.kept hn1 (hO1.2 ((a + 1)) (k_ne0b (by decide)))
  have hp : ∀ q : Nat, q < a → H[q]? = s.heap[q]? := fun q h => (hO1.2 q (kp_ne0 h)).trans (hp q h)
  have hG : H.size = a + 2 := hO1.1.trans hG
  have ho : XO E a 3 [.ref (a + 1), .int (nI 0)] H := hX
  subst hQ
  refine x_retC S hr hlk hS ?_ dX3_init_15
  exact ⟨⟨ho, Nat.zero_le _, _, hn1, fun j hj => absurd hj (Nat.not_lt_zero j)⟩, hG, hp⟩
abbrev rm_X1_init_0 : Room := ({ frames := 4, cells := 1, slots := 60, locals := 85 } : Room)
set_option maxRecDepth 100000 in
set_option maxHeartbeats 1000000 in
theorem c_X1_init_0 (l : Launch) (E : XE) (a : Nat) (H : Heap) (hz : H.size = a + 1) (ho : XO E a 1 [.null, .int (nI 0)] H) : Cn l E yX1_init cX1_init 4 rm_X1_init_0 [.ref a, .ref (E.2.2.2 10)] H a (fun H1 => ForP E a fs0 H1 ∧ Gr H H1 a 2) 1 60 := by
  refine met_ofC (by decide) (Nat.le_of_ble_eq_true rfl) (fun p e s m args below meth c hBD Q hQ ls hl => ?_)
  obtain ⟨S, hr, hlk, hnm, hEA, hH⟩ := hBD
  subst hH
  have hE := hEA.1
  have hl : lv_has ls 4 [(0, .ref a), (1, .ref (E.2.2.2 10))] := hl
  have hS : va_S (fun q => a ≤ q) s.heap s.heap [] := va_S.rf
  have hG : s.heap.size = a + 1 := hz
  have hp : ∀ q : Nat, q < a → s.heap[q]? = s.heap[q]? := fun _ _ => rfl
  refine lv_aload_n S.1 S.2.1 dX1_init_0 rfl (lv_at hl 0 rfl) ?_
  refine x_init0 S kw3_22 kw1_10 kw1_11 hl.1 dX1_init_1 (Nat.le_of_ble_eq_true rfl) (Nat.le_of_ble_eq_true rfl) ?_
  refine lv_aload_n S.1 S.2.1 dX1_init_4 rfl (lv_at hl 0 rfl) ?_
  refine lv_bipush (v := (nI 60)) S.1 S.2.1 dX1_init_5 (by decide) ?_
  refine x_newC S hE hS kw3_23 (k := 60) rfl (by decide) (Nat.le_of_ble_eq_true rfl) (Nat.le_of_ble_eq_true rfl) dX1_init_7 hG (fun H hX hz1 hK hS => ?_)
  have ho := va_at.kept ho (hK (a) (k_lt0 (by decide)))
  have hp : ∀ q : Nat, q < a → H[q]? = s.heap[q]? := fun q h => (hK q (kp_lt h)).trans (hp q h)
  have hG : H.size = a + 2 := hz1
  have hn1 : XC E (a + 1) 60 (fun _ => 0) H := hX
  refine W.widen (k := 1) (n := 60) (Nat.le_of_ble_eq_true rfl) (Nat.le_of_ble_eq_true rfl) ?_
  refine x_putF S hE hS (show a ≤ a from Nat.le_refl _) (ho) (C := RX1) (T := TX1) (N := 2) rfl inlX1 tyX1 tyX1_ok nmX1 0 (by decide) (Nat.le_of_ble_eq_true rfl) kw4_0 rfl rfl hnm rfl (v := .ref (a + 1)) rfl rfl dX1_init_9 (fun H locs hX hO1 hS => ?_)
  have hn1 := va_at.kept hn1 (hO1.2 ((a + 1)) (k_ne0b (by decide)))
  have hp : ∀ q : Nat, q < a → H[q]? = s.heap[q]? := fun q h => (hO1.2 q (kp_ne0 h)).trans (hp q h)
  have hG : H.size = a + 2 := hO1.1.trans hG
  have ho : XO E a 1 [.ref (a + 1), .int (nI 0)] H := hX
  refine lv_aload_n S.1 S.2.1 dX1_init_12 rfl (lv_at hl 1 rfl) ?_
  refine xk_R (v := (nI 7)) (x_runV (As := []) (rest := []) S hE hS (fun _ h => h.elim) (c_J0_length_8abf5_0 l E _) kv_J0_length_8abf5 kw4_5 kw4_6 kw4_7 (vk_recv hE.2.2.2.1 (i := 0) (by decide) hS) ⟨Nat.le_of_ble_eq_true rfl, Nat.le_of_ble_eq_true rfl⟩ rfl rfl rfl hl.1 rfl (Nat.le_of_ble_eq_true rfl) dX1_init_13 ⟨Nat.le_of_ble_eq_true rfl, Nat.le_of_ble_eq_true rfl⟩) ?_
  refine lv_bipush (v := (nI 60)) S.1 S.2.1 dX1_init_16 (by decide) ?_
  refine va_mmin S.1 S.2.1 (S.2.2.1.trans hl.1.symm) S.2.2.2.1 (S.2.2.2.2 _ kw4_1) (S.2.2.2.2 _ kw4_2) (S.2.2.2.2 _ kw3_17) (S.2.2.2.2 _ kw4_3) (Nat.le_of_ble_eq_true rfl) (Nat.le_of_ble_eq_true rfl) (Nat.le_of_ble_eq_true rfl) (Nat.le_of_ble_eq_true rfl) dX1_init_18 ?_
  refine x_top (y := (xmin (nI 7) (nI 60))) rfl ?_
  refine x_top (y := (nI 7)) (by decide) ?_
  refine lv_istore_n S.1 S.2.1 dX1_init_21 rfl hl (by decide) rfl (fun ls hl => ?_)
  have hl : lv_has ls 4 [(2, .int (nI 7)), (0, .ref a), (1, .ref (E.2.2.2 10))] := hl
  refine lv_iconst (v := (nI 0)) S.1 S.2.1 dX1_init_22 (by decide) ?_
  refine lv_istore_n S.1 S.2.1 dX1_init_23 rfl hl (by decide) rfl (fun ls hl => ?_)
  have hl : lv_has ls 4 [(3, .int (nI 0)), (2, .int (nI 7)), (0, .ref a), (1, .ref (E.2.2.2 10))] := hl
  refine lv_iload_n S.1 S.2.1 dX1_init_24 rfl (lv_at hl 0 rfl) ?_
  refine lv_iload_n S.1 S.2.1 dX1_init_25 rfl (lv_at hl 1 rfl) ?_
  refine lv_icmp_ge (tgt := 46) S.1 S.2.1 dX1_init_26 rfl (fun h1 => ?_) (fun h1 => ?_)
  · exact absurd h1 (by decide)
  · skip
    refine lv_aload_n S.1 S.2.1 dX1_init_29 rfl (lv_at hl 2 rfl) ?_
    refine x_get S hE (ho) (C := RX1) (T := TX1) (N := 2) rfl inlX1 0 (by decide) (v := .ref (a + 1)) rfl kw4_0 rfl dX1_init_30 ?_
    refine lv_iload_n S.1 S.2.1 dX1_init_33 rfl (lv_at hl 0 rfl) ?_
    refine lv_aload_n S.1 S.2.1 dX1_init_34 rfl (lv_at hl 3 rfl) ?_
    refine lv_iload_n S.1 S.2.1 dX1_init_35 rfl (lv_at hl 0 rfl) ?_
    refine xk_R (v := (nI 115)) (x_runV (As := [.int (nI 0)]) (rest := [.int (nI 0), .ref (a + 1)]) S hE hS (fun _ h => h.elim) (c_J0_charAt_5068e_0 l E _) kv_J0_charAt_5068e kw4_17 kw4_18 kw4_19 (vk_recv hE.2.2.2.1 (i := 0) (by decide) hS) ⟨Nat.le_of_ble_eq_true rfl, Nat.le_of_ble_eq_true rfl⟩ rfl rfl rfl hl.1 rfl (Nat.le_of_ble_eq_true rfl) dX1_init_36 ⟨Nat.le_of_ble_eq_true rfl, Nat.le_of_ble_eq_true rfl⟩) ?_
    refine x_castI S hE hS (Nat.le_add_right a 1) (hn1) (vp_in_nI (show 0 < 60 by decide) (by decide)) (by decide) dX1_init_39 (fun H locs hX hO1 hS => ?_)
    have ho := va_at.kept ho (hO1.2 (a) (k_ne0a (by decide)))
    have hp : ∀ q : Nat, q < a → H[q]? = s.heap[q]? := fun q h => (hO1.2 q (kp_ne h)).trans (hp q h)
    have hG : H.size = a + 2 := hO1.1.trans hG
    have hn1 : XC E (a + 1) 60 (upd (fun _ => 0) 0 (nI 115)) H := hX
    refine lv_iinc (k := 0) (v := (nI 1)) S.1 S.2.1 dX1_init_40 hl rfl (iincP 0 1) (by decide) rfl (fun ls hl => ?_)
    have hl : lv_has ls 4 [(3, .int (nI 1)), (2, .int (nI 7)), (0, .ref a), (1, .ref (E.2.2.2 10))] := hl
    refine lv_goto (tgt := 24) S.1 S.2.1 dX1_init_43 rfl ?_
    refine lv_iload_n S.1 S.2.1 dX1_init_24 rfl (lv_at hl 0 rfl) ?_
    refine lv_iload_n S.1 S.2.1 dX1_init_25 rfl (lv_at hl 1 rfl) ?_
    refine lv_icmp_ge (tgt := 46) S.1 S.2.1 dX1_init_26 rfl (fun h2 => ?_) (fun h2 => ?_)
    · exact absurd h2 (by decide)
    · skip
      refine lv_aload_n S.1 S.2.1 dX1_init_29 rfl (lv_at hl 2 rfl) ?_
      refine x_get S hE (ho) (C := RX1) (T := TX1) (N := 2) rfl inlX1 0 (by decide) (v := .ref (a + 1)) rfl kw4_0 rfl dX1_init_30 ?_
      refine lv_iload_n S.1 S.2.1 dX1_init_33 rfl (lv_at hl 0 rfl) ?_
      refine lv_aload_n S.1 S.2.1 dX1_init_34 rfl (lv_at hl 3 rfl) ?_
      refine lv_iload_n S.1 S.2.1 dX1_init_35 rfl (lv_at hl 0 rfl) ?_
      refine xk_R (v := (nI 43)) (x_runV (As := [.int (nI 1)]) (rest := [.int (nI 1), .ref (a + 1)]) S hE hS (fun _ h => h.elim) (c_J0_charAt_5068e_1 l E _) kv_J0_charAt_5068e kw4_17 kw4_18 kw4_19 (vk_recv hE.2.2.2.1 (i := 0) (by decide) hS) ⟨Nat.le_of_ble_eq_true rfl, Nat.le_of_ble_eq_true rfl⟩ rfl rfl rfl hl.1 rfl (Nat.le_of_ble_eq_true rfl) dX1_init_36 ⟨Nat.le_of_ble_eq_true rfl, Nat.le_of_ble_eq_true rfl⟩) ?_
      refine x_castI S hE hS (Nat.le_add_right a 1) (hn1) (vp_in_nI (show 1 < 60 by decide) (by decide)) (by decide) dX1_init_39 (fun H locs hX hO1 hS => ?_)
      have ho := va_at.kept ho (hO1.2 (a) (k_ne0a (by decide)))
      have hp : ∀ q : Nat, q < a → H[q]? = s.heap[q]? := fun q h => (hO1.2 q (kp_ne h)).trans (hp q h)
      have hG : H.size = a + 2 := hO1.1.trans hG
      have hn1 : XC E (a + 1) 60 (upd (upd (fun _ => 0) 0 (nI 115)) 1 (nI 43)) H := hX
      refine lv_iinc (k := 0) (v := (nI 2)) S.1 S.2.1 dX1_init_40 hl rfl (iincP 1 1) (by decide) rfl (fun ls hl => ?_)
      have hl : lv_has ls 4 [(3, .int (nI 2)), (2, .int (nI 7)), (0, .ref a), (1, .ref (E.2.2.2 10))] := hl
      refine lv_goto (tgt := 24) S.1 S.2.1 dX1_init_43 rfl ?_
      refine lv_iload_n S.1 S.2.1 dX1_init_24 rfl (lv_at hl 0 rfl) ?_
      refine lv_iload_n S.1 S.2.1 dX1_init_25 rfl (lv_at hl 1 rfl) ?_
      refine lv_icmp_ge (tgt := 46) S.1 S.2.1 dX1_init_26 rfl (fun h3 => ?_) (fun h3 => ?_)
      · exact absurd h3 (by decide)
      · skip
        refine lv_aload_n S.1 S.2.1 dX1_init_29 rfl (lv_at hl 2 rfl) ?_
        refine x_get S hE (ho) (C := RX1) (T := TX1) (N := 2) rfl inlX1 0 (by decide) (v := .ref (a + 1)) rfl kw4_0 rfl dX1_init_30 ?_
        refine lv_iload_n S.1 S.2.1 dX1_init_33 rfl (lv_at hl 0 rfl) ?_
        refine lv_aload_n S.1 S.2.1 dX1_init_34 rfl (lv_at hl 3 rfl) ?_
        refine lv_iload_n S.1 S.2.1 dX1_init_35 rfl (lv_at hl 0 rfl) ?_
        refine xk_R (v := (nI 97)) (x_runV (As := [.int (nI 2)]) (rest := [.int (nI 2), .ref (a + 1)]) S hE hS (fun _ h => h.elim) (c_J0_charAt_5068e_2 l E _) kv_J0_charAt_5068e kw4_17 kw4_18 kw4_19 (vk_recv hE.2.2.2.1 (i := 0) (by decide) hS) ⟨Nat.le_of_ble_eq_true rfl, Nat.le_of_ble_eq_true rfl⟩ rfl rfl rfl hl.1 rfl (Nat.le_of_ble_eq_true rfl) dX1_init_36 ⟨Nat.le_of_ble_eq_true rfl, Nat.le_of_ble_eq_true rfl⟩) ?_
        refine x_castI S hE hS (Nat.le_add_right a 1) (hn1) (vp_in_nI (show 2 < 60 by decide) (by decide)) (by decide) dX1_init_39 (fun H locs hX hO1 hS => ?_)
        have ho := va_at.kept ho (hO1.2 (a) (k_ne0a (by decide)))
        have hp : ∀ q : Nat, q < a → H[q]? = s.heap[q]? := fun q h => (hO1.2 q (kp_ne h)).trans (hp q h)
        have hG : H.size = a + 2 := hO1.1.trans hG
        have hn1 : XC E (a + 1) 60 (upd (upd (upd (fun _ => 0) 0 (nI 115)) 1 (nI 43)) 2 (nI 97)) H := hX
        refine lv_iinc (k := 0) (v := (nI 3)) S.1 S.2.1 dX1_init_40 hl rfl (iincP 2 1) (by decide) rfl (fun ls hl => ?_)
        have hl : lv_has ls 4 [(3, .int (nI 3)), (2, .int (nI 7)), (0, .ref a), (1, .ref (E.2.2.2 10))] := hl
        refine lv_goto (tgt := 24) S.1 S.2.1 dX1_init_43 rfl ?_
        refine lv_iload_n S.1 S.2.1 dX1_init_24 rfl (lv_at hl 0 rfl) ?_
        refine lv_iload_n S.1 S.2.1 dX1_init_25 rfl (lv_at hl 1 rfl) ?_
        refine lv_icmp_ge (tgt := 46) S.1 S.2.1 dX1_init_26 rfl (fun h4 => ?_) (fun h4 => ?_)
        · exact absurd h4 (by decide)
        · skip
          refine lv_aload_n S.1 S.2.1 dX1_init_29 rfl (lv_at hl 2 rfl) ?_
          refine x_get S hE (ho) (C := RX1) (T := TX1) (N := 2) rfl inlX1 0 (by decide) (v := .ref (a + 1)) rfl kw4_0 rfl dX1_init_30 ?_
          refine lv_iload_n S.1 S.2.1 dX1_init_33 rfl (lv_at hl 0 rfl) ?_
          refine lv_aload_n S.1 S.2.1 dX1_init_34 rfl (lv_at hl 3 rfl) ?_
          refine lv_iload_n S.1 S.2.1 dX1_init_35 rfl (lv_at hl 0 rfl) ?_
          refine xk_R (v := (nI 43)) (x_runV (As := [.int (nI 3)]) (rest := [.int (nI 3), .ref (a + 1)]) S hE hS (fun _ h => h.elim) (c_J0_charAt_5068e_3 l E _) kv_J0_charAt_5068e kw4_17 kw4_18 kw4_19 (vk_recv hE.2.2.2.1 (i := 0) (by decide) hS) ⟨Nat.le_of_ble_eq_true rfl, Nat.le_of_ble_eq_true rfl⟩ rfl rfl rfl hl.1 rfl (Nat.le_of_ble_eq_true rfl) dX1_init_36 ⟨Nat.le_of_ble_eq_true rfl, Nat.le_of_ble_eq_true rfl⟩) ?_
          refine x_castI S hE hS (Nat.le_add_right a 1) (hn1) (vp_in_nI (show 3 < 60 by decide) (by decide)) (by decide) dX1_init_39 (fun H locs hX hO1 hS => ?_)
          have ho := va_at.kept ho (hO1.2 (a) (k_ne0a (by decide)))
          have hp : ∀ q : Nat, q < a → H[q]? = s.heap[q]? := fun q h => (hO1.2 q (kp_ne h)).trans (hp q h)
          have hG : H.size = a + 2 := hO1.1.trans hG
          have hn1 : XC E (a + 1) 60 (upd (upd (upd (upd (fun _ => 0) 0 (nI 115)) 1 (nI 43)) 2 (nI 97)) 3 (nI 43)) H := hX
          refine lv_iinc (k := 0) (v := (nI 4)) S.1 S.2.1 dX1_init_40 hl rfl (iincP 3 1) (by decide) rfl (fun ls hl => ?_)
          have hl : lv_has ls 4 [(3, .int (nI 4)), (2, .int (nI 7)), (0, .ref a), (1, .ref (E.2.2.2 10))] := hl
          refine lv_goto (tgt := 24) S.1 S.2.1 dX1_init_43 rfl ?_
          refine lv_iload_n S.1 S.2.1 dX1_init_24 rfl (lv_at hl 0 rfl) ?_
          refine lv_iload_n S.1 S.2.1 dX1_init_25 rfl (lv_at hl 1 rfl) ?_
          refine lv_icmp_ge (tgt := 46) S.1 S.2.1 dX1_init_26 rfl (fun h5 => ?_) (fun h5 => ?_)
          · exact absurd h5 (by decide)
          · skip
            refine lv_aload_n S.1 S.2.1 dX1_init_29 rfl (lv_at hl 2 rfl) ?_
            refine x_get S hE (ho) (C := RX1) (T := TX1) (N := 2) rfl inlX1 0 (by decide) (v := .ref (a + 1)) rfl kw4_0 rfl dX1_init_30 ?_
            refine lv_iload_n S.1 S.2.1 dX1_init_33 rfl (lv_at hl 0 rfl) ?_
            refine lv_aload_n S.1 S.2.1 dX1_init_34 rfl (lv_at hl 3 rfl) ?_
            refine lv_iload_n S.1 S.2.1 dX1_init_35 rfl (lv_at hl 0 rfl) ?_
            refine xk_R (v := (nI 116)) (x_runV (As := [.int (nI 4)]) (rest := [.int (nI 4), .ref (a + 1)]) S hE hS (fun _ h => h.elim) (c_J0_charAt_5068e_4 l E _) kv_J0_charAt_5068e kw4_17 kw4_18 kw4_19 (vk_recv hE.2.2.2.1 (i := 0) (by decide) hS) ⟨Nat.le_of_ble_eq_true rfl, Nat.le_of_ble_eq_true rfl⟩ rfl rfl rfl hl.1 rfl (Nat.le_of_ble_eq_true rfl) dX1_init_36 ⟨Nat.le_of_ble_eq_true rfl, Nat.le_of_ble_eq_true rfl⟩) ?_
            refine x_castI S hE hS (Nat.le_add_right a 1) (hn1) (vp_in_nI (show 4 < 60 by decide) (by decide)) (by decide) dX1_init_39 (fun H locs hX hO1 hS => ?_)
            have ho := va_at.kept ho (hO1.2 (a) (k_ne0a (by decide)))
            have hp : ∀ q : Nat, q < a → H[q]? = s.heap[q]? := fun q h => (hO1.2 q (kp_ne h)).trans (hp q h)
            have hG : H.size = a + 2 := hO1.1.trans hG
            have hn1 : XC E (a + 1) 60 (upd (upd (upd (upd (upd (fun _ => 0) 0 (nI 115)) 1 (nI 43)) 2 (nI 97)) 3 (nI 43)) 4 (nI 116)) H := hX
            refine lv_iinc (k := 0) (v := (nI 5)) S.1 S.2.1 dX1_init_40 hl rfl (iincP 4 1) (by decide) rfl (fun ls hl => ?_)
            have hl : lv_has ls 4 [(3, .int (nI 5)), (2, .int (nI 7)), (0, .ref a), (1, .ref (E.2.2.2 10))] := hl
            refine lv_goto (tgt := 24) S.1 S.2.1 dX1_init_43 rfl ?_
            refine lv_iload_n S.1 S.2.1 dX1_init_24 rfl (lv_at hl 0 rfl) ?_
            refine lv_iload_n S.1 S.2.1 dX1_init_25 rfl (lv_at hl 1 rfl) ?_
            refine lv_icmp_ge (tgt := 46) S.1 S.2.1 dX1_init_26 rfl (fun h6 => ?_) (fun h6 => ?_)
            · exact absurd h6 (by decide)
            · skip
              refine lv_aload_n S.1 S.2.1 dX1_init_29 rfl (lv_at hl 2 rfl) ?_
              refine x_get S hE (ho) (C := RX1) (T := TX1) (N := 2) rfl inlX1 0 (by decide) (v := .ref (a + 1)) rfl kw4_0 rfl dX1_init_30 ?_
              refine lv_iload_n S.1 S.2.1 dX1_init_33 rfl (lv_at hl 0 rfl) ?_
              refine lv_aload_n S.1 S.2.1 dX1_init_34 rfl (lv_at hl 3 rfl) ?_
              refine lv_iload_n S.1 S.2.1 dX1_init_35 rfl (lv_at hl 0 rfl) ?_
              refine xk_R (v := (nI 43)) (x_runV (As := [.int (nI 5)]) (rest := [.int (nI 5), .ref (a + 1)]) S hE hS (fun _ h => h.elim) (c_J0_charAt_5068e_5 l E _) kv_J0_charAt_5068e kw4_17 kw4_18 kw4_19 (vk_recv hE.2.2.2.1 (i := 0) (by decide) hS) ⟨Nat.le_of_ble_eq_true rfl, Nat.le_of_ble_eq_true rfl⟩ rfl rfl rfl hl.1 rfl (Nat.le_of_ble_eq_true rfl) dX1_init_36 ⟨Nat.le_of_ble_eq_true rfl, Nat.le_of_ble_eq_true rfl⟩) ?_
              refine x_castI S hE hS (Nat.le_add_right a 1) (hn1) (vp_in_nI (show 5 < 60 by decide) (by decide)) (by decide) dX1_init_39 (fun H locs hX hO1 hS => ?_)
              have ho := va_at.kept ho (hO1.2 (a) (k_ne0a (by decide)))
              have hp : ∀ q : Nat, q < a → H[q]? = s.heap[q]? := fun q h => (hO1.2 q (kp_ne h)).trans (hp q h)
              have hG : H.size = a + 2 := hO1.1.trans hG
              have hn1 : XC E (a + 1) 60 (upd (upd (upd (upd (upd (upd (fun _ => 0) 0 (nI 115)) 1 (nI 43)) 2 (nI 97)) 3 (nI 43)) 4 (nI 116)) 5 (nI 43)) H := hX
              refine lv_iinc (k := 0) (v := (nI 6)) S.1 S.2.1 dX1_init_40 hl rfl (iincP 5 1) (by decide) rfl (fun ls hl => ?_)
              have hl : lv_has ls 4 [(3, .int (nI 6)), (2, .int (nI 7)), (0, .ref a), (1, .ref (E.2.2.2 10))] := hl
              refine lv_goto (tgt := 24) S.1 S.2.1 dX1_init_43 rfl ?_
              refine lv_iload_n S.1 S.2.1 dX1_init_24 rfl (lv_at hl 0 rfl) ?_
              refine lv_iload_n S.1 S.2.1 dX1_init_25 rfl (lv_at hl 1 rfl) ?_
              refine lv_icmp_ge (tgt := 46) S.1 S.2.1 dX1_init_26 rfl (fun h7 => ?_) (fun h7 => ?_)
              · exact absurd h7 (by decide)
              · skip
                refine lv_aload_n S.1 S.2.1 dX1_init_29 rfl (lv_at hl 2 rfl) ?_
                refine x_get S hE (ho) (C := RX1) (T := TX1) (N := 2) rfl inlX1 0 (by decide) (v := .ref (a + 1)) rfl kw4_0 rfl dX1_init_30 ?_
                refine lv_iload_n S.1 S.2.1 dX1_init_33 rfl (lv_at hl 0 rfl) ?_
                refine lv_aload_n S.1 S.2.1 dX1_init_34 rfl (lv_at hl 3 rfl) ?_
                refine lv_iload_n S.1 S.2.1 dX1_init_35 rfl (lv_at hl 0 rfl) ?_
                refine xk_R (v := (nI 98)) (x_runV (As := [.int (nI 6)]) (rest := [.int (nI 6), .ref (a + 1)]) S hE hS (fun _ h => h.elim) (c_J0_charAt_5068e_6 l E _) kv_J0_charAt_5068e kw4_17 kw4_18 kw4_19 (vk_recv hE.2.2.2.1 (i := 0) (by decide) hS) ⟨Nat.le_of_ble_eq_true rfl, Nat.le_of_ble_eq_true rfl⟩ rfl rfl rfl hl.1 rfl (Nat.le_of_ble_eq_true rfl) dX1_init_36 ⟨Nat.le_of_ble_eq_true rfl, Nat.le_of_ble_eq_true rfl⟩) ?_
                refine x_castI S hE hS (Nat.le_add_right a 1) (hn1) (vp_in_nI (show 6 < 60 by decide) (by decide)) (by decide) dX1_init_39 (fun H locs hX hO1 hS => ?_)
                have ho := va_at.kept ho (hO1.2 (a) (k_ne0a (by decide)))
                have hp : ∀ q : Nat, q < a → H[q]? = s.heap[q]? := fun q h => (hO1.2 q (kp_ne h)).trans (hp q h)
                have hG : H.size = a + 2 := hO1.1.trans hG
                have hn1 : XC E (a + 1) 60 (upd (upd (upd (upd (upd (upd (upd (fun _ => 0) 0 (nI 115)) 1 (nI 43)) 2 (nI 97)) 3 (nI 43)) 4 (nI 116)) 5 (nI 43)) 6 (nI 98)) H := hX
                refine lv_iinc (k := 0) (v := (nI 7)) S.1 S.2.1 dX1_init_40 hl rfl (iincP 6 1) (by decide) rfl (fun ls hl => ?_)
                have hl : lv_has ls 4 [(3, .int (nI 7)), (2, .int (nI 7)), (0, .ref a), (1, .ref (E.2.2.2 10))] := hl
                refine lv_goto (tgt := 24) S.1 S.2.1 dX1_init_43 rfl ?_
                refine lv_iload_n S.1 S.2.1 dX1_init_24 rfl (lv_at hl 0 rfl) ?_
                refine lv_iload_n S.1 S.2.1 dX1_init_25 rfl (lv_at hl 1 rfl) ?_
                refine lv_icmp_ge (tgt := 46) S.1 S.2.1 dX1_init_26 rfl (fun h8 => ?_) (fun h8 => ?_)
                · skip
                  refine lv_aload_n S.1 S.2.1 dX1_init_46 rfl (lv_at hl 2 rfl) ?_
                  refine lv_iload_n S.1 S.2.1 dX1_init_47 rfl (lv_at hl 1 rfl) ?_
                  refine x_put S hE hS (show a ≤ a from Nat.le_refl _) (ho) (C := RX1) (T := TX1) (N := 2) rfl inlX1 tyX1 tyX1_ok nmX1 1 (by decide) (Nat.le_of_ble_eq_true rfl) kw4_4 rfl rfl (v := .int (nI 7)) rfl rfl dX1_init_48 (fun H locs hX hO1 hS => ?_)
                  have hn1 := va_at.kept hn1 (hO1.2 ((a + 1)) (k_ne0b (by decide)))
                  have hp : ∀ q : Nat, q < a → H[q]? = s.heap[q]? := fun q h => (hO1.2 q (kp_ne0 h)).trans (hp q h)
                  have hG : H.size = a + 2 := hO1.1.trans hG
                  have ho : XO E a 1 [.ref (a + 1), .int (nI 7)] H := hX
                  subst hQ
                  refine x_retC S hr hlk hS ?_ dX1_init_51
                  exact ⟨⟨ho, by decide, fs0_ch, _, hn1, fun j hj => by rcases (show j = 0 ∨ j = 1 ∨ j = 2 ∨ j = 3 ∨ j = 4 ∨ j = 5 ∨ j = 6 from fs0_lt hj) with rfl | rfl | rfl | rfl | rfl | rfl | rfl <;> decide⟩, hG, hp⟩
                · exact absurd h8 (by decide)
abbrev rm_X1_init_1 : Room := ({ frames := 2, cells := 1, slots := 60, locals := 40 } : Room)
set_option maxRecDepth 100000 in
set_option maxHeartbeats 1000000 in
theorem c_X1_init_1 (l : Launch) (E : XE) (a : Nat) (H : Heap) (hz : H.size = a + 1) (ho : XO E a 1 [.null, .int (nI 0)] H) : Cn l E yX1_init cX1_init 4 rm_X1_init_1 [.ref a, .ref (E.2.2.2 11)] H a (fun H1 => ForP E a [] H1 ∧ Gr H H1 a 2) 1 60 := by
  refine met_ofC (by decide) (Nat.le_of_ble_eq_true rfl) (fun p e s m args below meth c hBD Q hQ ls hl => ?_)
  obtain ⟨S, hr, hlk, hnm, hEA, hH⟩ := hBD
  subst hH
  have hE := hEA.1
  have hl : lv_has ls 4 [(0, .ref a), (1, .ref (E.2.2.2 11))] := hl
  have hS : va_S (fun q => a ≤ q) s.heap s.heap [] := va_S.rf
  have hG : s.heap.size = a + 1 := hz
  have hp : ∀ q : Nat, q < a → s.heap[q]? = s.heap[q]? := fun _ _ => rfl
  refine lv_aload_n S.1 S.2.1 dX1_init_0 rfl (lv_at hl 0 rfl) ?_
  refine x_init0 S kw3_22 kw1_10 kw1_11 hl.1 dX1_init_1 (Nat.le_of_ble_eq_true rfl) (Nat.le_of_ble_eq_true rfl) ?_
  refine lv_aload_n S.1 S.2.1 dX1_init_4 rfl (lv_at hl 0 rfl) ?_
  refine lv_bipush (v := (nI 60)) S.1 S.2.1 dX1_init_5 (by decide) ?_
  refine x_newC S hE hS kw3_23 (k := 60) rfl (by decide) (Nat.le_of_ble_eq_true rfl) (Nat.le_of_ble_eq_true rfl) dX1_init_7 hG (fun H hX hz1 hK hS => ?_)
  have ho := va_at.kept ho (hK (a) (k_lt0 (by decide)))
  have hp : ∀ q : Nat, q < a → H[q]? = s.heap[q]? := fun q h => (hK q (kp_lt h)).trans (hp q h)
  have hG : H.size = a + 2 := hz1
  have hn1 : XC E (a + 1) 60 (fun _ => 0) H := hX
  refine W.widen (k := 1) (n := 60) (Nat.le_of_ble_eq_true rfl) (Nat.le_of_ble_eq_true rfl) ?_
  refine x_putF S hE hS (show a ≤ a from Nat.le_refl _) (ho) (C := RX1) (T := TX1) (N := 2) rfl inlX1 tyX1 tyX1_ok nmX1 0 (by decide) (Nat.le_of_ble_eq_true rfl) kw4_0 rfl rfl hnm rfl (v := .ref (a + 1)) rfl rfl dX1_init_9 (fun H locs hX hO1 hS => ?_)
  have hn1 := va_at.kept hn1 (hO1.2 ((a + 1)) (k_ne0b (by decide)))
  have hp : ∀ q : Nat, q < a → H[q]? = s.heap[q]? := fun q h => (hO1.2 q (kp_ne0 h)).trans (hp q h)
  have hG : H.size = a + 2 := hO1.1.trans hG
  have ho : XO E a 1 [.ref (a + 1), .int (nI 0)] H := hX
  refine lv_aload_n S.1 S.2.1 dX1_init_12 rfl (lv_at hl 1 rfl) ?_
  refine xk_R (v := (nI 0)) (x_runV (As := []) (rest := []) S hE hS (fun _ h => h.elim) (c_J0_length_8abf5_1 l E _) kv_J0_length_8abf5 kw4_5 kw4_6 kw4_7 (vk_recv hE.2.2.2.1 (i := 1) (by decide) hS) ⟨Nat.le_of_ble_eq_true rfl, Nat.le_of_ble_eq_true rfl⟩ rfl rfl rfl hl.1 rfl (Nat.le_of_ble_eq_true rfl) dX1_init_13 ⟨Nat.le_of_ble_eq_true rfl, Nat.le_of_ble_eq_true rfl⟩) ?_
  refine lv_bipush (v := (nI 60)) S.1 S.2.1 dX1_init_16 (by decide) ?_
  refine va_mmin S.1 S.2.1 (S.2.2.1.trans hl.1.symm) S.2.2.2.1 (S.2.2.2.2 _ kw4_1) (S.2.2.2.2 _ kw4_2) (S.2.2.2.2 _ kw3_17) (S.2.2.2.2 _ kw4_3) (Nat.le_of_ble_eq_true rfl) (Nat.le_of_ble_eq_true rfl) (Nat.le_of_ble_eq_true rfl) (Nat.le_of_ble_eq_true rfl) dX1_init_18 ?_
  refine x_top (y := (xmin (nI 0) (nI 60))) rfl ?_
  refine x_top (y := (nI 0)) (by decide) ?_
  refine lv_istore_n S.1 S.2.1 dX1_init_21 rfl hl (by decide) rfl (fun ls hl => ?_)
  have hl : lv_has ls 4 [(2, .int (nI 0)), (0, .ref a), (1, .ref (E.2.2.2 11))] := hl
  refine lv_iconst (v := (nI 0)) S.1 S.2.1 dX1_init_22 (by decide) ?_
  refine lv_istore_n S.1 S.2.1 dX1_init_23 rfl hl (by decide) rfl (fun ls hl => ?_)
  have hl : lv_has ls 4 [(3, .int (nI 0)), (2, .int (nI 0)), (0, .ref a), (1, .ref (E.2.2.2 11))] := hl
  refine lv_iload_n S.1 S.2.1 dX1_init_24 rfl (lv_at hl 0 rfl) ?_
  refine lv_iload_n S.1 S.2.1 dX1_init_25 rfl (lv_at hl 1 rfl) ?_
  refine lv_icmp_ge (tgt := 46) S.1 S.2.1 dX1_init_26 rfl (fun h1 => ?_) (fun h1 => ?_)
  · skip
    refine lv_aload_n S.1 S.2.1 dX1_init_46 rfl (lv_at hl 2 rfl) ?_
    refine lv_iload_n S.1 S.2.1 dX1_init_47 rfl (lv_at hl 1 rfl) ?_
    refine x_put S hE hS (show a ≤ a from Nat.le_refl _) (ho) (C := RX1) (T := TX1) (N := 2) rfl inlX1 tyX1 tyX1_ok nmX1 1 (by decide) (Nat.le_of_ble_eq_true rfl) kw4_4 rfl rfl (v := .int (nI 0)) rfl rfl dX1_init_48 (fun H locs hX hO1 hS => ?_)
    have hn1 := va_at.kept hn1 (hO1.2 ((a + 1)) (k_ne0b (by decide)))
    have hp : ∀ q : Nat, q < a → H[q]? = s.heap[q]? := fun q h => (hO1.2 q (kp_ne0 h)).trans (hp q h)
    have hG : H.size = a + 2 := hO1.1.trans hG
    have ho : XO E a 1 [.ref (a + 1), .int (nI 0)] H := hX
    subst hQ
    refine x_retC S hr hlk hS ?_ dX1_init_51
    exact ⟨⟨ho, by decide, fun x hx => absurd hx List.not_mem_nil, _, hn1, fun j hj => absurd hj (Nat.not_lt_zero j)⟩, hG, hp⟩
  · exact absurd h1 (by decide)
