/-! 12.str: walks, by program -/
def pnOf (c : Int32) : Int32 := if c = nI 115 then nI 0 else if c = nI 97 then nI 1 else if c = nI 116 then nI 2 else if c = nI 98 then nI 3 else (-1)
theorem i8_all : ∀ n, n < 256 → (nI 115 = (nI n).toInt8.toInt32 ↔ nI n = nI 115) ∧ (nI 97 = (nI n).toInt8.toInt32 ↔ nI n = nI 97) ∧ (nI 116 = (nI n).toInt8.toInt32 ↔ nI n = nI 116) ∧ (nI 98 = (nI n).toInt8.toInt32 ↔ nI n = nI 98) := by decide +kernel
abbrev rm_J0_coder_7d493 : Room := ({ frames := 0, cells := 0, slots := 0, locals := 0 } : Room)
set_option maxRecDepth 100000 in
set_option maxHeartbeats 600000 in
theorem c_J0_coder_7d493_0 (l : Launch) (E : XE) (H : Heap) : Rd l E yJ0_coder_7d493 cJ0_coder_7d493 1 (some .byte) rm_J0_coder_7d493 [.ref (E.2.2.2 10)] H ((0)) := by
  refine met_of (by decide) (Nat.le_of_ble_eq_true rfl) (fun p e s m args below meth c hBD Q hQ ls hl => ?_)
  obtain ⟨S, hr, hlk, hnm, hE, hH⟩ := hBD
  subst hH
  have hl : lv_has ls 1 [(0, .ref (E.2.2.2 10))] := hl
  have hS : va_S (fun _ => False) s.heap s.heap [] := va_S.rf
  refine va_gets S.1 S.2.1 hE.2.2.2.2.1 hS S.2.2.2.1 (S.2.2.2.2 _ kw4_15) (fun _ h => h) dJ0_coder_7d493_0 ?_
  refine lv_if_eq (tgt := 13) S.1 S.2.1 dJ0_coder_7d493_3 rfl (fun h1 => ?_) (fun h1 => ?_)
  · exact absurd h1 (by decide)
  · skip
    refine lv_aload_n S.1 S.2.1 dJ0_coder_7d493_6 rfl (lv_at hl 0 rfl) ?_
    refine vk_getf S.1 S.2.1 (hE.2.2.2.1.1 0 (by decide)).2.1 hS S.2.2.2.1 (S.2.2.2.2 _ kw4_16) (fun _ h => h) dJ0_coder_7d493_7 ?_
    refine lv_goto (tgt := 14) S.1 S.2.1 dJ0_coder_7d493_10 rfl ?_
    subst hQ
    exact x_retR S hr hlk (by decide) (rfl) dJ0_coder_7d493_14
abbrev rm_J0_isLatin1_aae02 : Room := ({ frames := 0, cells := 0, slots := 0, locals := 0 } : Room)
set_option maxRecDepth 100000 in
set_option maxHeartbeats 600000 in
theorem c_J0_isLatin1_aae02_0 (l : Launch) (E : XE) (H : Heap) : Rd l E yJ0_isLatin1_aae02 cJ0_isLatin1_aae02 1 (some .boolean) rm_J0_isLatin1_aae02 [.ref (E.2.2.2 10)] H (nI 1) := by
  refine met_of (by decide) (Nat.le_of_ble_eq_true rfl) (fun p e s m args below meth c hBD Q hQ ls hl => ?_)
  obtain ⟨S, hr, hlk, hnm, hE, hH⟩ := hBD
  subst hH
  have hl : lv_has ls 1 [(0, .ref (E.2.2.2 10))] := hl
  have hS : va_S (fun _ => False) s.heap s.heap [] := va_S.rf
  refine va_gets S.1 S.2.1 hE.2.2.2.2.1 hS S.2.2.2.1 (S.2.2.2.2 _ kw4_15) (fun _ h => h) dJ0_isLatin1_aae02_0 ?_
  refine lv_if_eq (tgt := 17) S.1 S.2.1 dJ0_isLatin1_aae02_3 rfl (fun h1 => ?_) (fun h1 => ?_)
  · exact absurd h1 (by decide)
  · skip
    refine lv_aload_n S.1 S.2.1 dJ0_isLatin1_aae02_6 rfl (lv_at hl 0 rfl) ?_
    refine vk_getf S.1 S.2.1 (hE.2.2.2.1.1 0 (by decide)).2.1 hS S.2.2.2.1 (S.2.2.2.2 _ kw4_16) (fun _ h => h) dJ0_isLatin1_aae02_7 ?_
    refine lv_if_ne (tgt := 17) S.1 S.2.1 dJ0_isLatin1_aae02_10 rfl (fun h2 => ?_) (fun h2 => ?_)
    · exact absurd h2 (by decide)
    · skip
      refine lv_iconst (v := (nI 1)) S.1 S.2.1 dJ0_isLatin1_aae02_13 (by decide) ?_
      refine lv_goto (tgt := 18) S.1 S.2.1 dJ0_isLatin1_aae02_14 rfl ?_
      subst hQ
      exact x_retR S hr hlk (by decide) (rfl) dJ0_isLatin1_aae02_18
abbrev rm_J0_length_8abf5 : Room := ({ frames := 1, cells := 0, slots := 0, locals := 20 } : Room)
set_option maxRecDepth 100000 in
set_option maxHeartbeats 600000 in
theorem c_J0_length_8abf5_0 (l : Launch) (E : XE) (H : Heap) : Rd l E yJ0_length_8abf5 cJ0_length_8abf5 1 (some .int) rm_J0_length_8abf5 [.ref (E.2.2.2 10)] H (nI 7) := by
  refine met_of (by decide) (Nat.le_of_ble_eq_true rfl) (fun p e s m args below meth c hBD Q hQ ls hl => ?_)
  obtain ⟨S, hr, hlk, hnm, hE, hH⟩ := hBD
  subst hH
  have hl : lv_has ls 1 [(0, .ref (E.2.2.2 10))] := hl
  have hS : va_S (fun _ => False) s.heap s.heap [] := va_S.rf
  refine lv_aload_n S.1 S.2.1 dJ0_length_8abf5_0 rfl (lv_at hl 0 rfl) ?_
  refine vk_getf S.1 S.2.1 (hE.2.2.2.1.1 0 (by decide)).2.2.1 hS S.2.2.2.1 (S.2.2.2.2 _ kw4_10) (fun _ h => h) dJ0_length_8abf5_1 ?_
  refine va_tlen S.1 S.2.1 (hE.2.2.2.1.1 0 (by decide)).2.2.2 hS (v := nI 7) (by decide) dJ0_length_8abf5_4 ?_
  refine lv_aload_n S.1 S.2.1 dJ0_length_8abf5_5 rfl (lv_at hl 0 rfl) ?_
  refine xk_R (v := (0)) (x_runV (As := []) (rest := [.int (nI 7)]) S hE hS (fun _ h => h.elim) (c_J0_coder_7d493_0 l E _) kv_J0_coder_7d493 kw4_11 kw4_12 kw4_13 (vk_recv hE.2.2.2.1 (i := 0) (by decide) hS) ⟨Nat.le_of_ble_eq_true rfl, Nat.le_of_ble_eq_true rfl⟩ rfl rfl rfl hl.1 rfl (Nat.le_of_ble_eq_true rfl) dJ0_length_8abf5_6 ⟨Nat.zero_le _, Nat.zero_le _⟩) ?_
  refine lv_ishr S.1 S.2.1 dJ0_length_8abf5_9 ?_
  refine x_top (y := (nI 7)) (sb_shr0 _) ?_
  subst hQ
  exact x_retR S hr hlk (rfl) (rfl) dJ0_length_8abf5_10
set_option maxRecDepth 100000 in
set_option maxHeartbeats 600000 in
theorem c_J0_coder_7d493_1 (l : Launch) (E : XE) (H : Heap) : Rd l E yJ0_coder_7d493 cJ0_coder_7d493 1 (some .byte) rm_J0_coder_7d493 [.ref (E.2.2.2 11)] H ((0)) := by
  refine met_of (by decide) (Nat.le_of_ble_eq_true rfl) (fun p e s m args below meth c hBD Q hQ ls hl => ?_)
  obtain ⟨S, hr, hlk, hnm, hE, hH⟩ := hBD
  subst hH
  have hl : lv_has ls 1 [(0, .ref (E.2.2.2 11))] := hl
  have hS : va_S (fun _ => False) s.heap s.heap [] := va_S.rf
  refine va_gets S.1 S.2.1 hE.2.2.2.2.1 hS S.2.2.2.1 (S.2.2.2.2 _ kw4_15) (fun _ h => h) dJ0_coder_7d493_0 ?_
  refine lv_if_eq (tgt := 13) S.1 S.2.1 dJ0_coder_7d493_3 rfl (fun h1 => ?_) (fun h1 => ?_)
  · exact absurd h1 (by decide)
  · skip
    refine lv_aload_n S.1 S.2.1 dJ0_coder_7d493_6 rfl (lv_at hl 0 rfl) ?_
    refine vk_getf S.1 S.2.1 (hE.2.2.2.1.1 1 (by decide)).2.1 hS S.2.2.2.1 (S.2.2.2.2 _ kw4_16) (fun _ h => h) dJ0_coder_7d493_7 ?_
    refine lv_goto (tgt := 14) S.1 S.2.1 dJ0_coder_7d493_10 rfl ?_
    subst hQ
    exact x_retR S hr hlk (by decide) (rfl) dJ0_coder_7d493_14
set_option maxRecDepth 100000 in
set_option maxHeartbeats 600000 in
theorem c_J0_isLatin1_aae02_1 (l : Launch) (E : XE) (H : Heap) : Rd l E yJ0_isLatin1_aae02 cJ0_isLatin1_aae02 1 (some .boolean) rm_J0_isLatin1_aae02 [.ref (E.2.2.2 11)] H (nI 1) := by
  refine met_of (by decide) (Nat.le_of_ble_eq_true rfl) (fun p e s m args below meth c hBD Q hQ ls hl => ?_)
  obtain ⟨S, hr, hlk, hnm, hE, hH⟩ := hBD
  subst hH
  have hl : lv_has ls 1 [(0, .ref (E.2.2.2 11))] := hl
  have hS : va_S (fun _ => False) s.heap s.heap [] := va_S.rf
  refine va_gets S.1 S.2.1 hE.2.2.2.2.1 hS S.2.2.2.1 (S.2.2.2.2 _ kw4_15) (fun _ h => h) dJ0_isLatin1_aae02_0 ?_
  refine lv_if_eq (tgt := 17) S.1 S.2.1 dJ0_isLatin1_aae02_3 rfl (fun h1 => ?_) (fun h1 => ?_)
  · exact absurd h1 (by decide)
  · skip
    refine lv_aload_n S.1 S.2.1 dJ0_isLatin1_aae02_6 rfl (lv_at hl 0 rfl) ?_
    refine vk_getf S.1 S.2.1 (hE.2.2.2.1.1 1 (by decide)).2.1 hS S.2.2.2.1 (S.2.2.2.2 _ kw4_16) (fun _ h => h) dJ0_isLatin1_aae02_7 ?_
    refine lv_if_ne (tgt := 17) S.1 S.2.1 dJ0_isLatin1_aae02_10 rfl (fun h2 => ?_) (fun h2 => ?_)
    · exact absurd h2 (by decide)
    · skip
      refine lv_iconst (v := (nI 1)) S.1 S.2.1 dJ0_isLatin1_aae02_13 (by decide) ?_
      refine lv_goto (tgt := 18) S.1 S.2.1 dJ0_isLatin1_aae02_14 rfl ?_
      subst hQ
      exact x_retR S hr hlk (by decide) (rfl) dJ0_isLatin1_aae02_18
set_option maxRecDepth 100000 in
set_option maxHeartbeats 600000 in
theorem c_J0_length_8abf5_1 (l : Launch) (E : XE) (H : Heap) : Rd l E yJ0_length_8abf5 cJ0_length_8abf5 1 (some .int) rm_J0_length_8abf5 [.ref (E.2.2.2 11)] H (nI 0) := by
  refine met_of (by decide) (Nat.le_of_ble_eq_true rfl) (fun p e s m args below meth c hBD Q hQ ls hl => ?_)
  obtain ⟨S, hr, hlk, hnm, hE, hH⟩ := hBD
  subst hH
  have hl : lv_has ls 1 [(0, .ref (E.2.2.2 11))] := hl
  have hS : va_S (fun _ => False) s.heap s.heap [] := va_S.rf
  refine lv_aload_n S.1 S.2.1 dJ0_length_8abf5_0 rfl (lv_at hl 0 rfl) ?_
  refine vk_getf S.1 S.2.1 (hE.2.2.2.1.1 1 (by decide)).2.2.1 hS S.2.2.2.1 (S.2.2.2.2 _ kw4_10) (fun _ h => h) dJ0_length_8abf5_1 ?_
  refine va_tlen S.1 S.2.1 (hE.2.2.2.1.1 1 (by decide)).2.2.2 hS (v := nI 0) (by decide) dJ0_length_8abf5_4 ?_
  refine lv_aload_n S.1 S.2.1 dJ0_length_8abf5_5 rfl (lv_at hl 0 rfl) ?_
  refine xk_R (v := (0)) (x_runV (As := []) (rest := [.int (nI 0)]) S hE hS (fun _ h => h.elim) (c_J0_coder_7d493_1 l E _) kv_J0_coder_7d493 kw4_11 kw4_12 kw4_13 (vk_recv hE.2.2.2.1 (i := 1) (by decide) hS) ⟨Nat.le_of_ble_eq_true rfl, Nat.le_of_ble_eq_true rfl⟩ rfl rfl rfl hl.1 rfl (Nat.le_of_ble_eq_true rfl) dJ0_length_8abf5_6 ⟨Nat.zero_le _, Nat.zero_le _⟩) ?_
  refine lv_ishr S.1 S.2.1 dJ0_length_8abf5_9 ?_
  refine x_top (y := (nI 0)) (sb_shr0 _) ?_
  subst hQ
  exact x_retR S hr hlk (rfl) (rfl) dJ0_length_8abf5_10
set_option maxRecDepth 100000 in
set_option maxHeartbeats 600000 in
theorem c_J0_coder_7d493_2 (l : Launch) (E : XE) (H : Heap) : Rd l E yJ0_coder_7d493 cJ0_coder_7d493 1 (some .byte) rm_J0_coder_7d493 [.ref (E.2.2.2 12)] H ((0)) := by
  refine met_of (by decide) (Nat.le_of_ble_eq_true rfl) (fun p e s m args below meth c hBD Q hQ ls hl => ?_)
  obtain ⟨S, hr, hlk, hnm, hE, hH⟩ := hBD
  subst hH
  have hl : lv_has ls 1 [(0, .ref (E.2.2.2 12))] := hl
  have hS : va_S (fun _ => False) s.heap s.heap [] := va_S.rf
  refine va_gets S.1 S.2.1 hE.2.2.2.2.1 hS S.2.2.2.1 (S.2.2.2.2 _ kw4_15) (fun _ h => h) dJ0_coder_7d493_0 ?_
  refine lv_if_eq (tgt := 13) S.1 S.2.1 dJ0_coder_7d493_3 rfl (fun h1 => ?_) (fun h1 => ?_)
  · exact absurd h1 (by decide)
  · skip
    refine lv_aload_n S.1 S.2.1 dJ0_coder_7d493_6 rfl (lv_at hl 0 rfl) ?_
    refine vk_getf S.1 S.2.1 (hE.2.2.2.1.1 2 (by decide)).2.1 hS S.2.2.2.1 (S.2.2.2.2 _ kw4_16) (fun _ h => h) dJ0_coder_7d493_7 ?_
    refine lv_goto (tgt := 14) S.1 S.2.1 dJ0_coder_7d493_10 rfl ?_
    subst hQ
    exact x_retR S hr hlk (by decide) (rfl) dJ0_coder_7d493_14
set_option maxRecDepth 100000 in
set_option maxHeartbeats 600000 in
theorem c_J0_isLatin1_aae02_2 (l : Launch) (E : XE) (H : Heap) : Rd l E yJ0_isLatin1_aae02 cJ0_isLatin1_aae02 1 (some .boolean) rm_J0_isLatin1_aae02 [.ref (E.2.2.2 12)] H (nI 1) := by
  refine met_of (by decide) (Nat.le_of_ble_eq_true rfl) (fun p e s m args below meth c hBD Q hQ ls hl => ?_)
  obtain ⟨S, hr, hlk, hnm, hE, hH⟩ := hBD
  subst hH
  have hl : lv_has ls 1 [(0, .ref (E.2.2.2 12))] := hl
  have hS : va_S (fun _ => False) s.heap s.heap [] := va_S.rf
  refine va_gets S.1 S.2.1 hE.2.2.2.2.1 hS S.2.2.2.1 (S.2.2.2.2 _ kw4_15) (fun _ h => h) dJ0_isLatin1_aae02_0 ?_
  refine lv_if_eq (tgt := 17) S.1 S.2.1 dJ0_isLatin1_aae02_3 rfl (fun h1 => ?_) (fun h1 => ?_)
  · exact absurd h1 (by decide)
  · skip
    refine lv_aload_n S.1 S.2.1 dJ0_isLatin1_aae02_6 rfl (lv_at hl 0 rfl) ?_
    refine vk_getf S.1 S.2.1 (hE.2.2.2.1.1 2 (by decide)).2.1 hS S.2.2.2.1 (S.2.2.2.2 _ kw4_16) (fun _ h => h) dJ0_isLatin1_aae02_7 ?_
    refine lv_if_ne (tgt := 17) S.1 S.2.1 dJ0_isLatin1_aae02_10 rfl (fun h2 => ?_) (fun h2 => ?_)
    · exact absurd h2 (by decide)
    · skip
      refine lv_iconst (v := (nI 1)) S.1 S.2.1 dJ0_isLatin1_aae02_13 (by decide) ?_
      refine lv_goto (tgt := 18) S.1 S.2.1 dJ0_isLatin1_aae02_14 rfl ?_
      subst hQ
      exact x_retR S hr hlk (by decide) (rfl) dJ0_isLatin1_aae02_18
set_option maxRecDepth 100000 in
set_option maxHeartbeats 600000 in
theorem c_J0_length_8abf5_2 (l : Launch) (E : XE) (H : Heap) : Rd l E yJ0_length_8abf5 cJ0_length_8abf5 1 (some .int) rm_J0_length_8abf5 [.ref (E.2.2.2 12)] H (nI 4) := by
  refine met_of (by decide) (Nat.le_of_ble_eq_true rfl) (fun p e s m args below meth c hBD Q hQ ls hl => ?_)
  obtain ⟨S, hr, hlk, hnm, hE, hH⟩ := hBD
  subst hH
  have hl : lv_has ls 1 [(0, .ref (E.2.2.2 12))] := hl
  have hS : va_S (fun _ => False) s.heap s.heap [] := va_S.rf
  refine lv_aload_n S.1 S.2.1 dJ0_length_8abf5_0 rfl (lv_at hl 0 rfl) ?_
  refine vk_getf S.1 S.2.1 (hE.2.2.2.1.1 2 (by decide)).2.2.1 hS S.2.2.2.1 (S.2.2.2.2 _ kw4_10) (fun _ h => h) dJ0_length_8abf5_1 ?_
  refine va_tlen S.1 S.2.1 (hE.2.2.2.1.1 2 (by decide)).2.2.2 hS (v := nI 4) (by decide) dJ0_length_8abf5_4 ?_
  refine lv_aload_n S.1 S.2.1 dJ0_length_8abf5_5 rfl (lv_at hl 0 rfl) ?_
  refine xk_R (v := (0)) (x_runV (As := []) (rest := [.int (nI 4)]) S hE hS (fun _ h => h.elim) (c_J0_coder_7d493_2 l E _) kv_J0_coder_7d493 kw4_11 kw4_12 kw4_13 (vk_recv hE.2.2.2.1 (i := 2) (by decide) hS) ⟨Nat.le_of_ble_eq_true rfl, Nat.le_of_ble_eq_true rfl⟩ rfl rfl rfl hl.1 rfl (Nat.le_of_ble_eq_true rfl) dJ0_length_8abf5_6 ⟨Nat.zero_le _, Nat.zero_le _⟩) ?_
  refine lv_ishr S.1 S.2.1 dJ0_length_8abf5_9 ?_
  refine x_top (y := (nI 4)) (sb_shr0 _) ?_
  subst hQ
  exact x_retR S hr hlk (rfl) (rfl) dJ0_length_8abf5_10
abbrev rm_J1_canEncode_9a6ad : Room := ({ frames := 0, cells := 0, slots := 0, locals := 0 } : Room)
set_option maxRecDepth 100000 in
set_option maxHeartbeats 600000 in
theorem c_J1_canEncode_9a6ad (l : Launch) (E : XE) (c0 : Int32) (H : Heap) : Rd l E yJ1_canEncode_9a6ad cJ1_canEncode_9a6ad 1 (some .boolean) rm_J1_canEncode_9a6ad [.int c0] H (bI (0 ≤ c0 ∧ c0 ≤ nI 255)) := by
  refine met_of (by decide) (Nat.le_of_ble_eq_true rfl) (fun p e s m args below meth c hBD Q hQ ls hl => ?_)
  obtain ⟨S, hr, hlk, hnm, hE, hH⟩ := hBD
  subst hH
  have hl : lv_has ls 1 [(0, .int c0)] := hl
  have hS : va_S (fun _ => False) s.heap s.heap [] := va_S.rf
  refine lv_iload_n S.1 S.2.1 dJ1_canEncode_9a6ad_0 rfl (lv_at hl 0 rfl) ?_
  refine lv_if_lt (tgt := 15) S.1 S.2.1 dJ1_canEncode_9a6ad_1 rfl (fun h1 => ?_) (fun h1 => ?_)
  · skip
    refine lv_iconst (v := (nI 0)) S.1 S.2.1 dJ1_canEncode_9a6ad_15 (by decide) ?_
    subst hQ
    exact x_retR S hr hlk (by first | rfl | decide | exact bI_nar _) (bI_f (fun z => by first | exact absurd h1 (Int32.not_lt.mpr z.1) | exact absurd h2 (Int32.not_lt.mpr z.2))) dJ1_canEncode_9a6ad_16
  · skip
    refine lv_iload_n S.1 S.2.1 dJ1_canEncode_9a6ad_4 rfl (lv_at hl 0 rfl) ?_
    refine lv_sipush (v := (nI 255)) S.1 S.2.1 dJ1_canEncode_9a6ad_5 (by decide) ?_
    refine lv_icmp_gt (tgt := 15) S.1 S.2.1 dJ1_canEncode_9a6ad_8 rfl (fun h2 => ?_) (fun h2 => ?_)
    · skip
      refine lv_iconst (v := (nI 0)) S.1 S.2.1 dJ1_canEncode_9a6ad_15 (by decide) ?_
      subst hQ
      exact x_retR S hr hlk (by first | rfl | decide | exact bI_nar _) (bI_f (fun z => by first | exact absurd h1 (Int32.not_lt.mpr z.1) | exact absurd h2 (Int32.not_lt.mpr z.2))) dJ1_canEncode_9a6ad_16
    · skip
      refine lv_iconst (v := (nI 1)) S.1 S.2.1 dJ1_canEncode_9a6ad_11 (by decide) ?_
      refine lv_goto (tgt := 16) S.1 S.2.1 dJ1_canEncode_9a6ad_12 rfl ?_
      subst hQ
      exact x_retR S hr hlk (by first | rfl | decide | exact bI_nar _) (bI_t ⟨i_nlt h1, i_nlt h2⟩) dJ1_canEncode_9a6ad_16
abbrev rm_J1_indexOfChar_4cfef : Room := ({ frames := 0, cells := 0, slots := 0, locals := 0 } : Room)
set_option maxRecDepth 100000 in
set_option maxHeartbeats 600000 in
theorem c_J1_indexOfChar_4cfef (l : Launch) (E : XE) (n : Nat) (hn : n < 256) (H : Heap) : Rd l E yJ1_indexOfChar_4cfef cJ1_indexOfChar_4cfef 6 (some .int) rm_J1_indexOfChar_4cfef [.ref (E.2.2.2 22), .int (nI n), .int (nI 0), .int (nI 4)] H (pnOf (nI n)) := by
  refine met_of (by decide) (Nat.le_of_ble_eq_true rfl) (fun p e s m args below meth c hBD Q hQ ls hl => ?_)
  obtain ⟨S, hr, hlk, hnm, hE, hH⟩ := hBD
  subst hH
  have hl : lv_has ls 6 [(0, .ref (E.2.2.2 22)), (1, .int (nI n)), (2, .int (nI 0)), (3, .int (nI 4))] := hl
  have hS : va_S (fun _ => False) s.heap s.heap [] := va_S.rf
  refine lv_iload_n S.1 S.2.1 dJ1_indexOfChar_4cfef_0 rfl (lv_at hl 1 rfl) ?_
  refine lv_i2b (v := ((nI n)).toInt8.toInt32) S.1 S.2.1 dJ1_indexOfChar_4cfef_1 rfl ?_
  refine lv_istore S.1 S.2.1 dJ1_indexOfChar_4cfef_2 hl (by decide) rfl (fun ls hl => ?_)
  have hl : lv_has ls 6 [(4, .int ((nI n)).toInt8.toInt32), (0, .ref (E.2.2.2 22)), (1, .int (nI n)), (2, .int (nI 0)), (3, .int (nI 4))] := hl
  refine lv_iload_n S.1 S.2.1 dJ1_indexOfChar_4cfef_4 rfl (lv_at hl 3 rfl) ?_
  refine lv_istore S.1 S.2.1 dJ1_indexOfChar_4cfef_5 hl (by decide) rfl (fun ls hl => ?_)
  have hl : lv_has ls 6 [(5, .int (nI 0)), (4, .int ((nI n)).toInt8.toInt32), (0, .ref (E.2.2.2 22)), (1, .int (nI n)), (2, .int (nI 0)), (3, .int (nI 4))] := hl
  refine lv_iload S.1 S.2.1 dJ1_indexOfChar_4cfef_7 (lv_at hl 0 rfl) ?_
  refine lv_iload_n S.1 S.2.1 dJ1_indexOfChar_4cfef_9 rfl (lv_at hl 5 rfl) ?_
  refine lv_icmp_ge (tgt := 31) S.1 S.2.1 dJ1_indexOfChar_4cfef_10 rfl (fun h1 => ?_) (fun h1 => ?_)
  · exact absurd h1 (by decide)
  · skip
    refine lv_aload_n S.1 S.2.1 dJ1_indexOfChar_4cfef_13 rfl (lv_at hl 2 rfl) ?_
    refine lv_iload S.1 S.2.1 dJ1_indexOfChar_4cfef_14 (lv_at hl 0 rfl) ?_
    refine va_tb S.1 S.2.1 (hE.2.2.2.1.1 2 (by decide)).2.2.2 hS (v := .int (nI 115)) (vp_in_nI (by decide) (by decide)) (congrArg Value.int (by decide)) dJ1_indexOfChar_4cfef_16 ?_
    refine lv_iload S.1 S.2.1 dJ1_indexOfChar_4cfef_17 (lv_at hl 1 rfl) ?_
    refine lv_icmp_ne (tgt := 25) S.1 S.2.1 dJ1_indexOfChar_4cfef_19 rfl (fun h2 => ?_) (fun h2 => ?_)
    · skip
      have e0 := fun z => h2 ((i8_all n hn).1.mpr z)
      refine lv_iinc (k := 0) (v := (nI 1)) S.1 S.2.1 dJ1_indexOfChar_4cfef_25 hl rfl (iincP 0 1) (by decide) rfl (fun ls hl => ?_)
      have hl : lv_has ls 6 [(5, .int (nI 1)), (4, .int ((nI n)).toInt8.toInt32), (0, .ref (E.2.2.2 22)), (1, .int (nI n)), (2, .int (nI 0)), (3, .int (nI 4))] := hl
      refine lv_goto (tgt := 7) S.1 S.2.1 dJ1_indexOfChar_4cfef_28 rfl ?_
      refine lv_iload S.1 S.2.1 dJ1_indexOfChar_4cfef_7 (lv_at hl 0 rfl) ?_
      refine lv_iload_n S.1 S.2.1 dJ1_indexOfChar_4cfef_9 rfl (lv_at hl 5 rfl) ?_
      refine lv_icmp_ge (tgt := 31) S.1 S.2.1 dJ1_indexOfChar_4cfef_10 rfl (fun h3 => ?_) (fun h3 => ?_)
      · exact absurd h3 (by decide)
      · skip
        refine lv_aload_n S.1 S.2.1 dJ1_indexOfChar_4cfef_13 rfl (lv_at hl 2 rfl) ?_
        refine lv_iload S.1 S.2.1 dJ1_indexOfChar_4cfef_14 (lv_at hl 0 rfl) ?_
        refine va_tb S.1 S.2.1 (hE.2.2.2.1.1 2 (by decide)).2.2.2 hS (v := .int (nI 97)) (vp_in_nI (by decide) (by decide)) (congrArg Value.int (by decide)) dJ1_indexOfChar_4cfef_16 ?_
        refine lv_iload S.1 S.2.1 dJ1_indexOfChar_4cfef_17 (lv_at hl 1 rfl) ?_
        refine lv_icmp_ne (tgt := 25) S.1 S.2.1 dJ1_indexOfChar_4cfef_19 rfl (fun h4 => ?_) (fun h4 => ?_)
        · skip
          have e1 := fun z => h4 ((i8_all n hn).2.1.mpr z)
          refine lv_iinc (k := 0) (v := (nI 2)) S.1 S.2.1 dJ1_indexOfChar_4cfef_25 hl rfl (iincP 1 1) (by decide) rfl (fun ls hl => ?_)
          have hl : lv_has ls 6 [(5, .int (nI 2)), (4, .int ((nI n)).toInt8.toInt32), (0, .ref (E.2.2.2 22)), (1, .int (nI n)), (2, .int (nI 0)), (3, .int (nI 4))] := hl
          refine lv_goto (tgt := 7) S.1 S.2.1 dJ1_indexOfChar_4cfef_28 rfl ?_
          refine lv_iload S.1 S.2.1 dJ1_indexOfChar_4cfef_7 (lv_at hl 0 rfl) ?_
          refine lv_iload_n S.1 S.2.1 dJ1_indexOfChar_4cfef_9 rfl (lv_at hl 5 rfl) ?_
          refine lv_icmp_ge (tgt := 31) S.1 S.2.1 dJ1_indexOfChar_4cfef_10 rfl (fun h5 => ?_) (fun h5 => ?_)
          · exact absurd h5 (by decide)
          · skip
            refine lv_aload_n S.1 S.2.1 dJ1_indexOfChar_4cfef_13 rfl (lv_at hl 2 rfl) ?_
            refine lv_iload S.1 S.2.1 dJ1_indexOfChar_4cfef_14 (lv_at hl 0 rfl) ?_
            refine va_tb S.1 S.2.1 (hE.2.2.2.1.1 2 (by decide)).2.2.2 hS (v := .int (nI 116)) (vp_in_nI (by decide) (by decide)) (congrArg Value.int (by decide)) dJ1_indexOfChar_4cfef_16 ?_
            refine lv_iload S.1 S.2.1 dJ1_indexOfChar_4cfef_17 (lv_at hl 1 rfl) ?_
            refine lv_icmp_ne (tgt := 25) S.1 S.2.1 dJ1_indexOfChar_4cfef_19 rfl (fun h6 => ?_) (fun h6 => ?_)
            · skip
              have e2 := fun z => h6 ((i8_all n hn).2.2.1.mpr z)
              refine lv_iinc (k := 0) (v := (nI 3)) S.1 S.2.1 dJ1_indexOfChar_4cfef_25 hl rfl (iincP 2 1) (by decide) rfl (fun ls hl => ?_)
              have hl : lv_has ls 6 [(5, .int (nI 3)), (4, .int ((nI n)).toInt8.toInt32), (0, .ref (E.2.2.2 22)), (1, .int (nI n)), (2, .int (nI 0)), (3, .int (nI 4))] := hl
              refine lv_goto (tgt := 7) S.1 S.2.1 dJ1_indexOfChar_4cfef_28 rfl ?_
              refine lv_iload S.1 S.2.1 dJ1_indexOfChar_4cfef_7 (lv_at hl 0 rfl) ?_
              refine lv_iload_n S.1 S.2.1 dJ1_indexOfChar_4cfef_9 rfl (lv_at hl 5 rfl) ?_
              refine lv_icmp_ge (tgt := 31) S.1 S.2.1 dJ1_indexOfChar_4cfef_10 rfl (fun h7 => ?_) (fun h7 => ?_)
              · exact absurd h7 (by decide)
              · skip
                refine lv_aload_n S.1 S.2.1 dJ1_indexOfChar_4cfef_13 rfl (lv_at hl 2 rfl) ?_
                refine lv_iload S.1 S.2.1 dJ1_indexOfChar_4cfef_14 (lv_at hl 0 rfl) ?_
                refine va_tb S.1 S.2.1 (hE.2.2.2.1.1 2 (by decide)).2.2.2 hS (v := .int (nI 98)) (vp_in_nI (by decide) (by decide)) (congrArg Value.int (by decide)) dJ1_indexOfChar_4cfef_16 ?_
                refine lv_iload S.1 S.2.1 dJ1_indexOfChar_4cfef_17 (lv_at hl 1 rfl) ?_
                refine lv_icmp_ne (tgt := 25) S.1 S.2.1 dJ1_indexOfChar_4cfef_19 rfl (fun h8 => ?_) (fun h8 => ?_)
                · skip
                  have e3 := fun z => h8 ((i8_all n hn).2.2.2.mpr z)
                  refine lv_iinc (k := 0) (v := (nI 4)) S.1 S.2.1 dJ1_indexOfChar_4cfef_25 hl rfl (iincP 3 1) (by decide) rfl (fun ls hl => ?_)
                  have hl : lv_has ls 6 [(5, .int (nI 4)), (4, .int ((nI n)).toInt8.toInt32), (0, .ref (E.2.2.2 22)), (1, .int (nI n)), (2, .int (nI 0)), (3, .int (nI 4))] := hl
                  refine lv_goto (tgt := 7) S.1 S.2.1 dJ1_indexOfChar_4cfef_28 rfl ?_
                  refine lv_iload S.1 S.2.1 dJ1_indexOfChar_4cfef_7 (lv_at hl 0 rfl) ?_
                  refine lv_iload_n S.1 S.2.1 dJ1_indexOfChar_4cfef_9 rfl (lv_at hl 5 rfl) ?_
                  refine lv_icmp_ge (tgt := 31) S.1 S.2.1 dJ1_indexOfChar_4cfef_10 rfl (fun h9 => ?_) (fun h9 => ?_)
                  · skip
                    refine lv_iconst (v := (-1)) S.1 S.2.1 dJ1_indexOfChar_4cfef_31 (by decide) ?_
                    subst hQ
                    exact x_retR S hr hlk (rfl) (by rw [pnOf, if_neg e0, if_neg e1, if_neg e2, if_neg e3]) dJ1_indexOfChar_4cfef_32
                  · exact absurd h9 (by decide)
                · skip
                  have e3 := (i8_all n hn).2.2.2.mp h8
                  refine lv_iload S.1 S.2.1 dJ1_indexOfChar_4cfef_22 (lv_at hl 0 rfl) ?_
                  subst hQ
                  exact x_retR S hr hlk (rfl) (by rw [pnOf, if_neg e0, if_neg e1, if_neg e2, if_pos e3]) dJ1_indexOfChar_4cfef_24
            · skip
              have e2 := (i8_all n hn).2.2.1.mp h6
              refine lv_iload S.1 S.2.1 dJ1_indexOfChar_4cfef_22 (lv_at hl 0 rfl) ?_
              subst hQ
              exact x_retR S hr hlk (rfl) (by rw [pnOf, if_neg e0, if_neg e1, if_pos e2]) dJ1_indexOfChar_4cfef_24
        · skip
          have e1 := (i8_all n hn).2.1.mp h4
          refine lv_iload S.1 S.2.1 dJ1_indexOfChar_4cfef_22 (lv_at hl 0 rfl) ?_
          subst hQ
          exact x_retR S hr hlk (rfl) (by rw [pnOf, if_neg e0, if_pos e1]) dJ1_indexOfChar_4cfef_24
    · skip
      have e0 := (i8_all n hn).1.mp h2
      refine lv_iload S.1 S.2.1 dJ1_indexOfChar_4cfef_22 (lv_at hl 0 rfl) ?_
      subst hQ
      exact x_retR S hr hlk (rfl) (by rw [pnOf, if_pos e0]) dJ1_indexOfChar_4cfef_24
abbrev rm_J1_indexOf_4cfef : Room := ({ frames := 1, cells := 0, slots := 0, locals := 25 } : Room)
set_option maxRecDepth 100000 in
set_option maxHeartbeats 600000 in
theorem c_J1_indexOf_4cfef (l : Launch) (E : XE) (c0 : Int32) (H : Heap) : Rd l E yJ1_indexOf_4cfef cJ1_indexOf_4cfef 4 (some .int) rm_J1_indexOf_4cfef [.ref (E.2.2.2 22), .int c0, .int (nI 0), .int (nI 4)] H (pnOf c0) := by
  refine met_of (by decide) (Nat.le_of_ble_eq_true rfl) (fun p e s m args below meth c hBD Q hQ ls hl => ?_)
  obtain ⟨S, hr, hlk, hnm, hE, hH⟩ := hBD
  subst hH
  have hl : lv_has ls 4 [(0, .ref (E.2.2.2 22)), (1, .int c0), (2, .int (nI 0)), (3, .int (nI 4))] := hl
  have hS : va_S (fun _ => False) s.heap s.heap [] := va_S.rf
  refine lv_iload_n S.1 S.2.1 dJ1_indexOf_4cfef_0 rfl (lv_at hl 1 rfl) ?_
  refine xk_R (v := (bI (0 ≤ c0 ∧ c0 ≤ nI 255))) (x_runS (As := [.int c0]) (rest := []) S hE hS (fun _ h => h.elim) (c_J1_canEncode_9a6ad l E c0 _) kv_J1_canEncode_9a6ad kw13_14 kw13_15 ⟨Nat.le_of_ble_eq_true rfl, Nat.le_of_ble_eq_true rfl⟩ rfl rfl rfl hl.1 rfl (Nat.le_of_ble_eq_true rfl) dJ1_indexOf_4cfef_1 ⟨Nat.zero_le _, Nat.zero_le _⟩) ?_
  refine lv_if_ne (tgt := 9) S.1 S.2.1 dJ1_indexOf_4cfef_4 rfl (fun h1 => ?_) (fun h1 => ?_)
  · skip
    have h1 := bI_n0 h1
    obtain ⟨n, hn0, hc⟩ := nI_of (Int32.not_lt.mpr h1.1)
    have hn : n < 256 := by rw [hc] at h1; have := (nI_leI hn0 (by decide)).mp h1.2; omega
    subst hc
    have hl : lv_has ls 4 [(0, .ref (E.2.2.2 22)), (1, .int (nI n)), (2, .int (nI 0)), (3, .int (nI 4))] := hl
    refine lv_iload_n S.1 S.2.1 dJ1_indexOf_4cfef_9 rfl (lv_at hl 2 rfl) ?_
    refine lv_iconst (v := (nI 0)) S.1 S.2.1 dJ1_indexOf_4cfef_10 (by decide) ?_
    refine va_mmax S.1 S.2.1 (S.2.2.1.trans hl.1.symm) S.2.2.2.1 (S.2.2.2.2 _ kw13_12) (S.2.2.2.2 _ kw3_16) (S.2.2.2.2 _ kw3_17) (S.2.2.2.2 _ kw3_18) (Nat.le_of_ble_eq_true rfl) (Nat.le_of_ble_eq_true rfl) (Nat.zero_le _) (Nat.zero_le _) dJ1_indexOf_4cfef_11 ?_
    refine x_top (y := (xmax (nI 0) (nI 0))) rfl ?_
    refine x_top (y := (nI 0)) (by decide) ?_
    refine lv_istore_n S.1 S.2.1 dJ1_indexOf_4cfef_14 rfl hl (by decide) rfl (fun ls hl => ?_)
    have hl : lv_has ls 4 [(2, .int (nI 0)), (0, .ref (E.2.2.2 22)), (1, .int (nI n)), (3, .int (nI 4))] := hl
    refine lv_iload_n S.1 S.2.1 dJ1_indexOf_4cfef_15 rfl (lv_at hl 3 rfl) ?_
    refine lv_aload_n S.1 S.2.1 dJ1_indexOf_4cfef_16 rfl (lv_at hl 1 rfl) ?_
    refine va_tlen S.1 S.2.1 (hE.2.2.2.1.1 2 (by decide)).2.2.2 hS (v := nI 4) (by decide) dJ1_indexOf_4cfef_17 ?_
    refine va_mmin S.1 S.2.1 (S.2.2.1.trans hl.1.symm) S.2.2.2.1 (S.2.2.2.2 _ kw13_13) (S.2.2.2.2 _ kw4_2) (S.2.2.2.2 _ kw3_17) (S.2.2.2.2 _ kw4_3) (Nat.le_of_ble_eq_true rfl) (Nat.le_of_ble_eq_true rfl) (Nat.zero_le _) (Nat.zero_le _) dJ1_indexOf_4cfef_18 ?_
    refine x_top (y := (xmin (nI 4) (nI 4))) rfl ?_
    refine x_top (y := (nI 4)) (by decide) ?_
    refine lv_istore_n S.1 S.2.1 dJ1_indexOf_4cfef_21 rfl hl (by decide) rfl (fun ls hl => ?_)
    have hl : lv_has ls 4 [(3, .int (nI 4)), (2, .int (nI 0)), (0, .ref (E.2.2.2 22)), (1, .int (nI n))] := hl
    refine lv_iload_n S.1 S.2.1 dJ1_indexOf_4cfef_22 rfl (lv_at hl 1 rfl) ?_
    refine lv_iload_n S.1 S.2.1 dJ1_indexOf_4cfef_23 rfl (lv_at hl 0 rfl) ?_
    refine lv_icmp_lt (tgt := 29) S.1 S.2.1 dJ1_indexOf_4cfef_24 rfl (fun h2 => ?_) (fun h2 => ?_)
    · skip
      refine lv_aload_n S.1 S.2.1 dJ1_indexOf_4cfef_29 rfl (lv_at hl 2 rfl) ?_
      refine lv_iload_n S.1 S.2.1 dJ1_indexOf_4cfef_30 rfl (lv_at hl 3 rfl) ?_
      refine lv_iload_n S.1 S.2.1 dJ1_indexOf_4cfef_31 rfl (lv_at hl 1 rfl) ?_
      refine lv_iload_n S.1 S.2.1 dJ1_indexOf_4cfef_32 rfl (lv_at hl 0 rfl) ?_
      refine xk_R (v := (pnOf (nI n))) (x_runS (As := [.ref (E.2.2.2 22), .int (nI n), .int (nI 0), .int (nI 4)]) (rest := []) S hE hS (fun _ h => h.elim) (c_J1_indexOfChar_4cfef l E n hn _) kv_J1_indexOfChar_4cfef kw13_17 kw13_18 ⟨Nat.le_of_ble_eq_true rfl, Nat.le_of_ble_eq_true rfl⟩ rfl rfl rfl hl.1 rfl (Nat.le_of_ble_eq_true rfl) dJ1_indexOf_4cfef_33 ⟨Nat.zero_le _, Nat.zero_le _⟩) ?_
      subst hQ
      exact x_retR S hr hlk (rfl) (rfl) dJ1_indexOf_4cfef_36
    · exact absurd h2 (by decide)
  · skip
    have h1 := bI_0 h1
    refine lv_iconst (v := (-1)) S.1 S.2.1 dJ1_indexOf_4cfef_7 (by decide) ?_
    subst hQ
    exact x_retR S hr hlk (rfl) (by rw [pnOf, if_neg (fun z => h1 (by rw [z]; decide)), if_neg (fun z => h1 (by rw [z]; decide)), if_neg (fun z => h1 (by rw [z]; decide)), if_neg (fun z => h1 (by rw [z]; decide))]) dJ1_indexOf_4cfef_8
abbrev rm_J0_indexOf_7cf53 : Room := ({ frames := 2, cells := 0, slots := 0, locals := 48 } : Room)
set_option maxRecDepth 100000 in
set_option maxHeartbeats 600000 in
theorem c_J0_indexOf_7cf53 (l : Launch) (E : XE) (c0 : Int32) (H : Heap) : Rd l E yJ0_indexOf_7cf53 cJ0_indexOf_7cf53 3 (some .int) rm_J0_indexOf_7cf53 [.ref (E.2.2.2 12), .int c0, .int (nI 0)] H (pnOf c0) := by
  refine met_of (by decide) (Nat.le_of_ble_eq_true rfl) (fun p e s m args below meth c hBD Q hQ ls hl => ?_)
  obtain ⟨S, hr, hlk, hnm, hE, hH⟩ := hBD
  subst hH
  have hl : lv_has ls 3 [(0, .ref (E.2.2.2 12)), (1, .int c0), (2, .int (nI 0))] := hl
  have hS : va_S (fun _ => False) s.heap s.heap [] := va_S.rf
  refine lv_aload_n S.1 S.2.1 dJ0_indexOf_7cf53_0 rfl (lv_at hl 0 rfl) ?_
  refine xk_R (v := (nI 1)) (x_runV (As := []) (rest := []) S hE hS (fun _ h => h.elim) (c_J0_isLatin1_aae02_2 l E _) kv_J0_isLatin1_aae02 kw4_21 kw4_22 kw4_23 (vk_recv hE.2.2.2.1 (i := 2) (by decide) hS) ⟨Nat.le_of_ble_eq_true rfl, Nat.le_of_ble_eq_true rfl⟩ rfl rfl rfl hl.1 rfl (Nat.le_of_ble_eq_true rfl) dJ0_indexOf_7cf53_1 ⟨Nat.zero_le _, Nat.zero_le _⟩) ?_
  refine lv_if_eq (tgt := 23) S.1 S.2.1 dJ0_indexOf_7cf53_4 rfl (fun h1 => ?_) (fun h1 => ?_)
  · exact absurd h1 (by decide)
  · skip
    refine lv_aload_n S.1 S.2.1 dJ0_indexOf_7cf53_7 rfl (lv_at hl 0 rfl) ?_
    refine vk_getf S.1 S.2.1 (hE.2.2.2.1.1 2 (by decide)).2.2.1 hS S.2.2.2.1 (S.2.2.2.2 _ kw4_10) (fun _ h => h) dJ0_indexOf_7cf53_8 ?_
    refine lv_iload_n S.1 S.2.1 dJ0_indexOf_7cf53_11 rfl (lv_at hl 1 rfl) ?_
    refine lv_iload_n S.1 S.2.1 dJ0_indexOf_7cf53_12 rfl (lv_at hl 2 rfl) ?_
    refine lv_aload_n S.1 S.2.1 dJ0_indexOf_7cf53_13 rfl (lv_at hl 0 rfl) ?_
    refine xk_R (v := (nI 4)) (x_runV (As := []) (rest := [.int (nI 0), .int c0, .ref (E.2.2.2 22)]) S hE hS (fun _ h => h.elim) (c_J0_length_8abf5_2 l E _) kv_J0_length_8abf5 kw13_8 kw4_6 kw4_7 (vk_recv hE.2.2.2.1 (i := 2) (by decide) hS) ⟨Nat.le_of_ble_eq_true rfl, Nat.le_of_ble_eq_true rfl⟩ rfl rfl rfl hl.1 rfl (Nat.le_of_ble_eq_true rfl) dJ0_indexOf_7cf53_14 ⟨Nat.zero_le _, Nat.zero_le _⟩) ?_
    refine xk_R (v := (pnOf c0)) (x_runS (As := [.ref (E.2.2.2 22), .int c0, .int (nI 0), .int (nI 4)]) (rest := []) S hE hS (fun _ h => h.elim) (c_J1_indexOf_4cfef l E c0 _) kv_J1_indexOf_4cfef kw13_9 kw13_10 ⟨Nat.le_of_ble_eq_true rfl, Nat.le_of_ble_eq_true rfl⟩ rfl rfl rfl hl.1 rfl (Nat.le_of_ble_eq_true rfl) dJ0_indexOf_7cf53_17 ⟨Nat.zero_le _, Nat.zero_le _⟩) ?_
    refine lv_goto (tgt := 36) S.1 S.2.1 dJ0_indexOf_7cf53_20 rfl ?_
    subst hQ
    exact x_retR S hr hlk (rfl) (rfl) dJ0_indexOf_7cf53_36
abbrev rm_J0_indexOf_0f7a4 : Room := ({ frames := 3, cells := 0, slots := 0, locals := 70 } : Room)
set_option maxRecDepth 100000 in
set_option maxHeartbeats 600000 in
theorem c_J0_indexOf_0f7a4 (l : Launch) (E : XE) (c0 : Int32) (H : Heap) : Rd l E yJ0_indexOf_0f7a4 cJ0_indexOf_0f7a4 2 (some .int) rm_J0_indexOf_0f7a4 [.ref (E.2.2.2 12), .int c0] H (pnOf c0) := by
  refine met_of (by decide) (Nat.le_of_ble_eq_true rfl) (fun p e s m args below meth c hBD Q hQ ls hl => ?_)
  obtain ⟨S, hr, hlk, hnm, hE, hH⟩ := hBD
  subst hH
  have hl : lv_has ls 2 [(0, .ref (E.2.2.2 12)), (1, .int c0)] := hl
  have hS : va_S (fun _ => False) s.heap s.heap [] := va_S.rf
  refine lv_aload_n S.1 S.2.1 dJ0_indexOf_0f7a4_0 rfl (lv_at hl 0 rfl) ?_
  refine lv_iload_n S.1 S.2.1 dJ0_indexOf_0f7a4_1 rfl (lv_at hl 1 rfl) ?_
  refine lv_iconst (v := (nI 0)) S.1 S.2.1 dJ0_indexOf_0f7a4_2 (by decide) ?_
  refine xk_R (v := (pnOf c0)) (x_runV (As := [.int c0, .int (nI 0)]) (rest := []) S hE hS (fun _ h => h.elim) (c_J0_indexOf_7cf53 l E c0 _) kv_J0_indexOf_7cf53 kw13_4 kw13_5 kw13_6 (vk_recv hE.2.2.2.1 (i := 2) (by decide) hS) ⟨Nat.le_of_ble_eq_true rfl, Nat.le_of_ble_eq_true rfl⟩ rfl rfl rfl hl.1 rfl (Nat.le_of_ble_eq_true rfl) dJ0_indexOf_0f7a4_3 ⟨Nat.zero_le _, Nat.zero_le _⟩) ?_
  subst hQ
  exact x_retR S hr hlk (rfl) (rfl) dJ0_indexOf_0f7a4_6
abbrev rm_X1_partNamed : Room := ({ frames := 4, cells := 0, slots := 0, locals := 91 } : Room)
set_option maxRecDepth 100000 in
set_option maxHeartbeats 600000 in
theorem c_X1_partNamed (l : Launch) (E : XE) (c0 : Int32) (H : Heap) : Rd l E yX1_partNamed cX1_partNamed 1 (some .int) rm_X1_partNamed [.int c0] H (pnOf c0) := by
  refine met_of (by decide) (Nat.le_of_ble_eq_true rfl) (fun p e s m args below meth c hBD Q hQ ls hl => ?_)
  obtain ⟨S, hr, hlk, hnm, hE, hH⟩ := hBD
  subst hH
  have hl : lv_has ls 1 [(0, .int c0)] := hl
  have hS : va_S (fun _ => False) s.heap s.heap [] := va_S.rf
  refine va_ldcS S.1 S.2.1 S.2.2.2.1 (show vk_R RX1 41 "satb" (E.2.2.2 12) s from hE.2.1 2 (by decide)) dX1_partNamed_0 ?_
  refine lv_iload_n S.1 S.2.1 dX1_partNamed_2 rfl (lv_at hl 0 rfl) ?_
  refine xk_R (v := (pnOf c0)) (x_runV (As := [.int c0]) (rest := []) S hE hS (fun _ h => h.elim) (c_J0_indexOf_0f7a4 l E c0 _) kv_J0_indexOf_0f7a4 kw13_0 kw13_1 kw13_2 (vk_recv hE.2.2.2.1 (i := 2) (by decide) hS) ⟨Nat.le_of_ble_eq_true rfl, Nat.le_of_ble_eq_true rfl⟩ rfl rfl rfl hl.1 rfl (Nat.le_of_ble_eq_true rfl) dX1_partNamed_3 ⟨Nat.zero_le _, Nat.zero_le _⟩) ?_
  subst hQ
  exact x_retR S hr hlk (rfl) (rfl) dX1_partNamed_6
