/-! 05.leaf: walks, by program -/
def xdiv (a b : Int32) : Int32 := if 0 < b then (a + b - nI 1) / b else nI 0
def xorNF (a : Int32) : Int32 := if a = (-1) then (-4) else a
abbrev rm_X7_at : Room := ({ frames := 0, cells := 0, slots := 0, locals := 0 } : Room)
set_option maxRecDepth 100000 in
set_option maxHeartbeats 600000 in
theorem c_X7_at (l : Launch) (E : XE) (a n : Nat) (f : Nat → Int32) (i : Int32) (H : Heap) (hrow : XR E a n f H) (hn : n < 2 ^ 31) : Rd l E yX7_at cX7_at 2 (some .int) rm_X7_at [.ref a, .int i] H (xat f n i) := by
  refine met_of (by decide) (Nat.le_of_ble_eq_true rfl) (fun p e s m args below meth c hBD Q hQ ls hl => ?_)
  obtain ⟨S, hr, hlk, hnm, hE, hH⟩ := hBD
  subst hH
  have hl : lv_has ls 2 [(0, .ref a), (1, .int i)] := hl
  have hS : va_S (fun _ => False) s.heap s.heap [] := va_S.rf
  have hT := xr_T hE hrow
  refine lv_iload_n S.1 S.2.1 dX7_at_0 rfl (lv_at hl 1 rfl) ?_
  refine lv_if_lt (tgt := 16) S.1 S.2.1 dX7_at_1 rfl (fun h1 => ?_) (fun h1 => ?_)
  · skip
    refine lv_iconst (v := (nI 0)) S.1 S.2.1 dX7_at_16 (by decide) ?_
    subst hQ
    exact x_retR S hr hlk (rfl) (by have e : ¬ (0 ≤ i ∧ i < nI n) := (fun z => by first | exact absurd h1 (Int32.not_lt.mpr z.1) | exact absurd h2 (Int32.not_le.mpr z.2)); rw [xat, if_neg e]; rfl) dX7_at_17
  · skip
    refine lv_iload_n S.1 S.2.1 dX7_at_4 rfl (lv_at hl 1 rfl) ?_
    refine lv_aload_n S.1 S.2.1 dX7_at_5 rfl (lv_at hl 0 rfl) ?_
    refine va_tlen S.1 S.2.1 hT hS (v := nI n) rfl dX7_at_6 ?_
    refine lv_icmp_ge (tgt := 16) S.1 S.2.1 dX7_at_7 rfl (fun h2 => ?_) (fun h2 => ?_)
    · skip
      refine lv_iconst (v := (nI 0)) S.1 S.2.1 dX7_at_16 (by decide) ?_
      subst hQ
      exact x_retR S hr hlk (rfl) (by have e : ¬ (0 ≤ i ∧ i < nI n) := (fun z => by first | exact absurd h1 (Int32.not_lt.mpr z.1) | exact absurd h2 (Int32.not_le.mpr z.2)); rw [xat, if_neg e]; rfl) dX7_at_17
    · skip
      refine lv_aload_n S.1 S.2.1 dX7_at_10 rfl (lv_at hl 0 rfl) ?_
      refine lv_iload_n S.1 S.2.1 dX7_at_11 rfl (lv_at hl 1 rfl) ?_
      refine va_ti S.1 S.2.1 hT hS (xin_of hn h1 h2) rfl dX7_at_12 ?_
      refine lv_goto (tgt := 17) S.1 S.2.1 dX7_at_13 rfl ?_
      subst hQ
      exact x_retR S hr hlk (rfl) ((if_pos ⟨i_nlt h1, i_nle h2⟩).symm) dX7_at_17
abbrev rm_X7_put : Room := ({ frames := 0, cells := 0, slots := 0, locals := 0 } : Room)
set_option maxRecDepth 100000 in
set_option maxHeartbeats 600000 in
theorem c_X7_put (l : Launch) (E : XE) (a n : Nat) (f : Nat → Int32) (i x : Int32) (H : Heap) (ha : XI E a n f H) (hn : n < 2 ^ 31) : Wv l E yX7_put cX7_put 3 rm_X7_put [.ref a, .int i, .int x] H (fun q => q = a) (fun H1 => XI E a n (xput f n i x) H1) := by
  refine met_of (by decide) (Nat.le_of_ble_eq_true rfl) (fun p e s m args below meth c hBD Q hQ ls hl => ?_)
  obtain ⟨S, hr, hlk, hnm, hE, hH⟩ := hBD
  subst hH
  have hl : lv_has ls 3 [(0, .ref a), (1, .int i), (2, .int x)] := hl
  have hO : Out (fun q => q = a) s.heap s.heap := Out.rf
  have hS : va_S (fun q => q = a) s.heap s.heap [] := va_S.rf
  refine lv_iload_n S.1 S.2.1 dX7_put_0 rfl (lv_at hl 1 rfl) ?_
  refine lv_if_lt (tgt := 14) S.1 S.2.1 dX7_put_1 rfl (fun h1 => ?_) (fun h1 => ?_)
  · skip
    subst hQ
    refine x_retV S hr hlk hS hO ?_ dX7_put_14
    exact by rw [xput, if_neg (fun z => by first | exact absurd h1 (Int32.not_lt.mpr z.1) | exact absurd h2 (Int32.not_le.mpr z.2))]; exact ha
  · skip
    refine lv_iload_n S.1 S.2.1 dX7_put_4 rfl (lv_at hl 1 rfl) ?_
    refine lv_aload_n S.1 S.2.1 dX7_put_5 rfl (lv_at hl 0 rfl) ?_
    refine x_alenI S hE ha hn dX7_put_6 ?_
    refine lv_icmp_ge (tgt := 14) S.1 S.2.1 dX7_put_7 rfl (fun h2 => ?_) (fun h2 => ?_)
    · skip
      subst hQ
      refine x_retV S hr hlk hS hO ?_ dX7_put_14
      exact by rw [xput, if_neg (fun z => by first | exact absurd h1 (Int32.not_lt.mpr z.1) | exact absurd h2 (Int32.not_le.mpr z.2))]; exact ha
    · skip
      refine lv_aload_n S.1 S.2.1 dX7_put_10 rfl (lv_at hl 0 rfl) ?_
      refine lv_iload_n S.1 S.2.1 dX7_put_11 rfl (lv_at hl 1 rfl) ?_
      refine lv_iload_n S.1 S.2.1 dX7_put_12 rfl (lv_at hl 2 rfl) ?_
      refine x_iastI S hE hS (rfl) (ha) (xin_of hn h1 h2) dX7_put_13 (fun H locs hX hO1 hS => ?_)
      have hO := hO.tr hO1 (fun _ h => h)
      have hX : XI E a n (xput f n i x) H := by rw [xput, if_pos ⟨i_nlt h1, i_nle h2⟩]; exact hX
      subst hQ
      refine x_retV S hr hlk hS hO ?_ dX7_put_14
      exact hX
abbrev rm_X7_divideUp : Room := ({ frames := 0, cells := 0, slots := 0, locals := 0 } : Room)
set_option maxRecDepth 100000 in
set_option maxHeartbeats 600000 in
theorem c_X7_divideUp (l : Launch) (E : XE) (a b : Int32) (H : Heap) : Rd l E yX7_divideUp cX7_divideUp 2 (some .int) rm_X7_divideUp [.int a, .int b] H (xdiv a b) := by
  refine met_of (by decide) (Nat.le_of_ble_eq_true rfl) (fun p e s m args below meth c hBD Q hQ ls hl => ?_)
  obtain ⟨S, hr, hlk, hnm, hE, hH⟩ := hBD
  subst hH
  have hl : lv_has ls 2 [(0, .int a), (1, .int b)] := hl
  have hS : va_S (fun _ => False) s.heap s.heap [] := va_S.rf
  refine lv_iload_n S.1 S.2.1 dX7_divideUp_0 rfl (lv_at hl 1 rfl) ?_
  refine lv_if_le (tgt := 14) S.1 S.2.1 dX7_divideUp_1 rfl (fun h1 => ?_) (fun h1 => ?_)
  · skip
    refine lv_iconst (v := (nI 0)) S.1 S.2.1 dX7_divideUp_14 (by decide) ?_
    subst hQ
    exact x_retR S hr hlk (rfl) ((if_neg (Int32.not_lt.mpr h1)).symm) dX7_divideUp_15
  · skip
    refine lv_iload_n S.1 S.2.1 dX7_divideUp_4 rfl (lv_at hl 0 rfl) ?_
    refine lv_iload_n S.1 S.2.1 dX7_divideUp_5 rfl (lv_at hl 1 rfl) ?_
    refine lv_iadd S.1 S.2.1 dX7_divideUp_6 ?_
    refine lv_iconst (v := (nI 1)) S.1 S.2.1 dX7_divideUp_7 (by decide) ?_
    refine lv_isub S.1 S.2.1 dX7_divideUp_8 ?_
    refine lv_iload_n S.1 S.2.1 dX7_divideUp_9 rfl (lv_at hl 1 rfl) ?_
    refine lv_idiv S.1 S.2.1 dX7_divideUp_10 (fun z => h1 (by rw [z]; decide)) ?_
    refine lv_goto (tgt := 15) S.1 S.2.1 dX7_divideUp_11 rfl ?_
    subst hQ
    exact x_retR S hr hlk (rfl) ((if_pos (i_nle h1)).symm) dX7_divideUp_15
abbrev rm_X7_isPart : Room := ({ frames := 0, cells := 0, slots := 0, locals := 0 } : Room)
set_option maxRecDepth 100000 in
set_option maxHeartbeats 600000 in
theorem c_X7_isPart (l : Launch) (E : XE) (a : Int32) (H : Heap) : Rd l E yX7_isPart cX7_isPart 1 (some .boolean) rm_X7_isPart [.int a] H (bI (0 ≤ a ∧ a < nI 4)) := by
  refine met_of (by decide) (Nat.le_of_ble_eq_true rfl) (fun p e s m args below meth c hBD Q hQ ls hl => ?_)
  obtain ⟨S, hr, hlk, hnm, hE, hH⟩ := hBD
  subst hH
  have hl : lv_has ls 1 [(0, .int a)] := hl
  have hS : va_S (fun _ => False) s.heap s.heap [] := va_S.rf
  refine lv_iload_n S.1 S.2.1 dX7_isPart_0 rfl (lv_at hl 0 rfl) ?_
  refine lv_if_lt (tgt := 13) S.1 S.2.1 dX7_isPart_1 rfl (fun h1 => ?_) (fun h1 => ?_)
  · skip
    refine lv_iconst (v := (nI 0)) S.1 S.2.1 dX7_isPart_13 (by decide) ?_
    subst hQ
    exact x_retR S hr hlk (by first | rfl | decide | exact bI_nar _) (bI_f (fun z => by first | exact absurd h1 (Int32.not_lt.mpr z.1) | exact absurd h2 (Int32.not_le.mpr z.2))) dX7_isPart_14
  · skip
    refine lv_iload_n S.1 S.2.1 dX7_isPart_4 rfl (lv_at hl 0 rfl) ?_
    refine lv_iconst (v := (nI 4)) S.1 S.2.1 dX7_isPart_5 (by decide) ?_
    refine lv_icmp_ge (tgt := 13) S.1 S.2.1 dX7_isPart_6 rfl (fun h2 => ?_) (fun h2 => ?_)
    · skip
      refine lv_iconst (v := (nI 0)) S.1 S.2.1 dX7_isPart_13 (by decide) ?_
      subst hQ
      exact x_retR S hr hlk (by first | rfl | decide | exact bI_nar _) (bI_f (fun z => by first | exact absurd h1 (Int32.not_lt.mpr z.1) | exact absurd h2 (Int32.not_le.mpr z.2))) dX7_isPart_14
    · skip
      refine lv_iconst (v := (nI 1)) S.1 S.2.1 dX7_isPart_9 (by decide) ?_
      refine lv_goto (tgt := 14) S.1 S.2.1 dX7_isPart_10 rfl ?_
      subst hQ
      exact x_retR S hr hlk (by first | rfl | decide | exact bI_nar _) (bI_t ⟨i_nlt h1, i_nle h2⟩) dX7_isPart_14
abbrev rm_X7_isPitch : Room := ({ frames := 0, cells := 0, slots := 0, locals := 0 } : Room)
set_option maxRecDepth 100000 in
set_option maxHeartbeats 600000 in
theorem c_X7_isPitch (l : Launch) (E : XE) (a : Int32) (H : Heap) : Rd l E yX7_isPitch cX7_isPitch 1 (some .boolean) rm_X7_isPitch [.int a] H (bI (0 ≤ a ∧ a ≤ nI 127)) := by
  refine met_of (by decide) (Nat.le_of_ble_eq_true rfl) (fun p e s m args below meth c hBD Q hQ ls hl => ?_)
  obtain ⟨S, hr, hlk, hnm, hE, hH⟩ := hBD
  subst hH
  have hl : lv_has ls 1 [(0, .int a)] := hl
  have hS : va_S (fun _ => False) s.heap s.heap [] := va_S.rf
  refine lv_iload_n S.1 S.2.1 dX7_isPitch_0 rfl (lv_at hl 0 rfl) ?_
  refine lv_if_lt (tgt := 14) S.1 S.2.1 dX7_isPitch_1 rfl (fun h1 => ?_) (fun h1 => ?_)
  · skip
    refine lv_iconst (v := (nI 0)) S.1 S.2.1 dX7_isPitch_14 (by decide) ?_
    subst hQ
    exact x_retR S hr hlk (by first | rfl | decide | exact bI_nar _) (bI_f (fun z => by first | exact absurd h1 (Int32.not_lt.mpr z.1) | exact absurd h2 (Int32.not_lt.mpr z.2))) dX7_isPitch_15
  · skip
    refine lv_iload_n S.1 S.2.1 dX7_isPitch_4 rfl (lv_at hl 0 rfl) ?_
    refine lv_bipush (v := (nI 127)) S.1 S.2.1 dX7_isPitch_5 (by decide) ?_
    refine lv_icmp_gt (tgt := 14) S.1 S.2.1 dX7_isPitch_7 rfl (fun h2 => ?_) (fun h2 => ?_)
    · skip
      refine lv_iconst (v := (nI 0)) S.1 S.2.1 dX7_isPitch_14 (by decide) ?_
      subst hQ
      exact x_retR S hr hlk (by first | rfl | decide | exact bI_nar _) (bI_f (fun z => by first | exact absurd h1 (Int32.not_lt.mpr z.1) | exact absurd h2 (Int32.not_lt.mpr z.2))) dX7_isPitch_15
    · skip
      refine lv_iconst (v := (nI 1)) S.1 S.2.1 dX7_isPitch_10 (by decide) ?_
      refine lv_goto (tgt := 15) S.1 S.2.1 dX7_isPitch_11 rfl ?_
      subst hQ
      exact x_retR S hr hlk (by first | rfl | decide | exact bI_nar _) (bI_t ⟨i_nlt h1, i_nlt h2⟩) dX7_isPitch_15
abbrev rm_X7_orNotFound : Room := ({ frames := 0, cells := 0, slots := 0, locals := 0 } : Room)
set_option maxRecDepth 100000 in
set_option maxHeartbeats 600000 in
theorem c_X7_orNotFound (l : Launch) (E : XE) (a : Int32) (H : Heap) : Rd l E yX7_orNotFound cX7_orNotFound 1 (some .int) rm_X7_orNotFound [.int a] H (xorNF a) := by
  refine met_of (by decide) (Nat.le_of_ble_eq_true rfl) (fun p e s m args below meth c hBD Q hQ ls hl => ?_)
  obtain ⟨S, hr, hlk, hnm, hE, hH⟩ := hBD
  subst hH
  have hl : lv_has ls 1 [(0, .int a)] := hl
  have hS : va_S (fun _ => False) s.heap s.heap [] := va_S.rf
  refine lv_iload_n S.1 S.2.1 dX7_orNotFound_0 rfl (lv_at hl 0 rfl) ?_
  refine lv_iconst (v := (-1)) S.1 S.2.1 dX7_orNotFound_1 (by decide) ?_
  refine lv_icmp_ne (tgt := 10) S.1 S.2.1 dX7_orNotFound_2 rfl (fun h1 => ?_) (fun h1 => ?_)
  · skip
    refine lv_iload_n S.1 S.2.1 dX7_orNotFound_10 rfl (lv_at hl 0 rfl) ?_
    subst hQ
    exact x_retR S hr hlk (rfl) ((if_neg h1).symm) dX7_orNotFound_11
  · skip
    refine lv_bipush (v := (-4)) S.1 S.2.1 dX7_orNotFound_5 (by decide) ?_
    refine lv_goto (tgt := 11) S.1 S.2.1 dX7_orNotFound_7 rfl ?_
    subst hQ
    exact x_retR S hr hlk (rfl) ((if_pos h1).symm) dX7_orNotFound_11
abbrev rm_X7_copyRow : Room := ({ frames := 1, cells := 0, slots := 0, locals := 21 } : Room)
set_option maxRecDepth 100000 in
set_option maxHeartbeats 600000 in
theorem c_X7_copyRow (l : Launch) (E : XE) (a b n k : Nat) (f g : Nat → Int32) (z : Int32) (H : Heap) (ha : XR E a n f H) (hb : XI E b k g H) (hn : n < 2 ^ 31) (hk : k < 2 ^ 31) : Wv l E yX7_copyRow cX7_copyRow 3 rm_X7_copyRow [.ref a, .ref b, .int z] H (fun q => q = b) (fun H1 => XI E b k (xcpy f n g k z) H1) := by
  refine met_of (by decide) (Nat.le_of_ble_eq_true rfl) (fun p e s m args below meth c hBD Q hQ ls hl => ?_)
  obtain ⟨S, hr, hlk, hnm, hE, hH⟩ := hBD
  subst hH
  have hl : lv_has ls 3 [(0, .ref a), (1, .ref b), (2, .int z)] := hl
  have hO : Out (fun q => q = b) s.heap s.heap := Out.rf
  have hS : va_S (fun q => q = b) s.heap s.heap [] := va_S.rf
  have hT := xr_T2 hE ha
  refine lv_iload_n S.1 S.2.1 dX7_copyRow_0 rfl (lv_at hl 2 rfl) ?_
  refine lv_if_le (tgt := 24) S.1 S.2.1 dX7_copyRow_1 rfl (fun h1 => ?_) (fun h1 => ?_)
  · skip
    subst hQ
    refine x_retV S hr hlk hS hO ?_ dX7_copyRow_24
    exact by rw [xcpy, if_neg (fun z => by first | exact absurd z.1 (Int32.not_lt.mpr h1) | exact absurd z.2.1 (Int32.not_le.mpr h2) | exact absurd z.2.2 (Int32.not_le.mpr h3))]; exact hb
  · skip
    refine lv_iload_n S.1 S.2.1 dX7_copyRow_4 rfl (lv_at hl 2 rfl) ?_
    refine lv_aload_n S.1 S.2.1 dX7_copyRow_5 rfl (lv_at hl 0 rfl) ?_
    refine va_tlen S.1 S.2.1 hT (va_S.rf (A := fun _ => False)) (v := nI n) rfl dX7_copyRow_6 ?_
    refine lv_icmp_gt (tgt := 24) S.1 S.2.1 dX7_copyRow_7 rfl (fun h2 => ?_) (fun h2 => ?_)
    · skip
      subst hQ
      refine x_retV S hr hlk hS hO ?_ dX7_copyRow_24
      exact by rw [xcpy, if_neg (fun z => by first | exact absurd z.1 (Int32.not_lt.mpr h1) | exact absurd z.2.1 (Int32.not_le.mpr h2) | exact absurd z.2.2 (Int32.not_le.mpr h3))]; exact hb
    · skip
      refine lv_iload_n S.1 S.2.1 dX7_copyRow_10 rfl (lv_at hl 2 rfl) ?_
      refine lv_aload_n S.1 S.2.1 dX7_copyRow_11 rfl (lv_at hl 1 rfl) ?_
      refine x_alenI S hE hb hk dX7_copyRow_12 ?_
      refine lv_icmp_gt (tgt := 24) S.1 S.2.1 dX7_copyRow_13 rfl (fun h3 => ?_) (fun h3 => ?_)
      · skip
        subst hQ
        refine x_retV S hr hlk hS hO ?_ dX7_copyRow_24
        exact by rw [xcpy, if_neg (fun z => by first | exact absurd z.1 (Int32.not_lt.mpr h1) | exact absurd z.2.1 (Int32.not_le.mpr h2) | exact absurd z.2.2 (Int32.not_le.mpr h3))]; exact hb
      · skip
        refine lv_aload_n S.1 S.2.1 dX7_copyRow_16 rfl (lv_at hl 0 rfl) ?_
        refine lv_iconst (v := (nI 0)) S.1 S.2.1 dX7_copyRow_17 (by decide) ?_
        refine lv_aload_n S.1 S.2.1 dX7_copyRow_18 rfl (lv_at hl 1 rfl) ?_
        refine lv_iconst (v := (nI 0)) S.1 S.2.1 dX7_copyRow_19 (by decide) ?_
        refine lv_iload_n S.1 S.2.1 dX7_copyRow_20 rfl (lv_at hl 2 rfl) ?_
        refine x_copyi S hE hS rfl hT hb (by decide) (by decide) (fun q => h1 (Int32.le_of_lt q)) (by rw [show (nI 0).toNatClampNeg = 0 from rfl, Nat.zero_add]; exact xcl_le hn (i_nlt h2)) (by rw [show (nI 0).toNatClampNeg = 0 from rfl, Nat.zero_add]; exact xcl_le hk (i_nlt h3)) hl.1 kw6_8 kw6_9 kw6_10 kw6_11 (Nat.le_of_ble_eq_true rfl) (Nat.le_of_ble_eq_true rfl) dX7_copyRow_21 (fun H locs hX hO1 hS => ?_)
        have hO := hO.tr hO1 (fun _ h => h)
        have hX : XI E b k (xcpy f n g k z) H := by rw [xcpy, if_pos ⟨i_nle h1, i_nlt h2, i_nlt h3⟩]; exact hX
        subst hQ
        refine x_retV S hr hlk hS hO ?_ dX7_copyRow_24
        exact hX
