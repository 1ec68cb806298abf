/-! 65.lu: walks of the law's own methods, by program -/
abbrev rm_L_begins : Room := ({ frames := 1, cells := 0, slots := 0, locals := 24 } : Room)
set_option maxRecDepth 100000 in
set_option maxHeartbeats 600000 in
theorem c_L_begins (l : Launch) (E : XE) (a b k st z sv : Nat) (σ : Nat → Int32) (H : Heap) (hEL : EL E) (hab : ¬ a = b) (hL : LwP E a b σ H) (hk : k < 64) (hst : st < 8) (hz : z < 128) (hsv : sv < 65536) (h5 : σ 5 = nI sv) : Wv l E yL_begins cL_begins 5 rm_L_begins [.ref a, .ref b, .int (nI k), .int (nI st), .int (nI z)] H (fun q => q = a ∨ q = b) (fun H1 => LwP E a b (lwBeg σ k (nI st) (nI z)) H1) := by
  refine met_of (by decide) (Nat.le_of_ble_eq_true rfl) (fun p e s m args below meth c hBD Q hQ ls hl => ?_)
  obtain ⟨S, hr, hlk, hnm, hE, hH⟩ := hBD
  subst hH
  have hl : lv_has ls 5 [(0, .ref a), (1, .ref b), (2, .int (nI k)), (3, .int (nI st)), (4, .int (nI z))] := hl
  have hO : Out (fun q => q = a ∨ q = b) s.heap s.heap := Out.rf
  have hS : va_S (fun q => q = a ∨ q = b) s.heap s.heap [] := va_S.rf
  obtain ⟨hg, κ, hc, hU⟩ := hL
  refine lv_aload_n S.1 S.2.1 dL_begins_0 rfl (lv_at hl 1 rfl) ?_
  refine lv_iload_n S.1 S.2.1 dL_begins_1 rfl (lv_at hl 2 rfl) ?_
  refine lv_aload_n S.1 S.2.1 dL_begins_2 rfl (lv_at hl 1 rfl) ?_
  refine lv_iload_n S.1 S.2.1 dL_begins_3 rfl (lv_at hl 2 rfl) ?_
  refine x_lald S hE hEL (hc) k rfl (by omega) (by decide) dL_begins_4 ?_
  refine lv_bipush (v := (nI 9)) S.1 S.2.1 dL_begins_5 (by decide) ?_
  refine lv_bipush (v := (nI 7)) S.1 S.2.1 dL_begins_7 (by decide) ?_
  refine lv_iload S.1 S.2.1 dL_begins_9 (lv_at hl 4 rfl) ?_
  refine xk_L (v := (lwP (κ k) (nI 9) (nI 7) (nI z))) (x_runS (As := [.long (κ k), .int (nI 9), .int (nI 7), .int (nI z)]) (rest := [.int (nI k), .ref b]) S hE hS (fun _ h => h.elim) (c_L_put l E (κ k) (nI 9) (nI 7) (nI z) _) kv_L_put kw16_14 kw16_15 ⟨Nat.le_of_ble_eq_true rfl, Nat.le_of_ble_eq_true rfl⟩ rfl rfl rfl hl.1 rfl (Nat.le_of_ble_eq_true rfl) dL_begins_11 ⟨Nat.zero_le _, Nat.zero_le _⟩) ?_
  refine x_topl (y := (fput 2 z (κ k))) (rfl) ?_
  refine lv_bipush (v := (nI 16)) S.1 S.2.1 dL_begins_14 (by decide) ?_
  refine lv_iconst (v := (nI 3)) S.1 S.2.1 dL_begins_16 (by decide) ?_
  refine lv_iload_n S.1 S.2.1 dL_begins_17 rfl (lv_at hl 3 rfl) ?_
  refine xk_L (v := (lwP (fput 2 z (κ k)) (nI 16) (nI 3) (nI st))) (x_runS (As := [.long (fput 2 z (κ k)), .int (nI 16), .int (nI 3), .int (nI st)]) (rest := [.int (nI k), .ref b]) S hE hS (fun _ h => h.elim) (c_L_put l E (fput 2 z (κ k)) (nI 16) (nI 3) (nI st) _) kv_L_put kw16_14 kw16_15 ⟨Nat.le_of_ble_eq_true rfl, Nat.le_of_ble_eq_true rfl⟩ rfl rfl rfl hl.1 rfl (Nat.le_of_ble_eq_true rfl) dL_begins_18 ⟨Nat.zero_le _, Nat.zero_le _⟩) ?_
  refine x_topl (y := (fput 3 st (fput 2 z (κ k)))) (rfl) ?_
  refine lv_bipush (v := (nI 41)) S.1 S.2.1 dL_begins_21 (by decide) ?_
  refine lv_iconst (v := (nI 1)) S.1 S.2.1 dL_begins_23 (by decide) ?_
  refine lv_iconst (v := (nI 0)) S.1 S.2.1 dL_begins_24 (by decide) ?_
  refine xk_L (v := (lwP (fput 3 st (fput 2 z (κ k))) (nI 41) (nI 1) (nI 0))) (x_runS (As := [.long (fput 3 st (fput 2 z (κ k))), .int (nI 41), .int (nI 1), .int (nI 0)]) (rest := [.int (nI k), .ref b]) S hE hS (fun _ h => h.elim) (c_L_put l E (fput 3 st (fput 2 z (κ k))) (nI 41) (nI 1) (nI 0) _) kv_L_put kw16_14 kw16_15 ⟨Nat.le_of_ble_eq_true rfl, Nat.le_of_ble_eq_true rfl⟩ rfl rfl rfl hl.1 rfl (Nat.le_of_ble_eq_true rfl) dL_begins_25 ⟨Nat.zero_le _, Nat.zero_le _⟩) ?_
  refine x_topl (y := (fput 6 0 (fput 3 st (fput 2 z (κ k))))) (rfl) ?_
  refine lv_bipush (v := (nI 42)) S.1 S.2.1 dL_begins_28 (by decide) ?_
  refine lv_bipush (v := (nI 16)) S.1 S.2.1 dL_begins_30 (by decide) ?_
  refine lv_aload_n S.1 S.2.1 dL_begins_32 rfl (lv_at hl 0 rfl) ?_
  refine lv_iconst (v := (nI 5)) S.1 S.2.1 dL_begins_33 (by decide) ?_
  refine x_iald S hE (hg) 5 rfl (by decide) (by decide) dL_begins_34 ?_
  refine x_top (y := (nI sv)) (h5) ?_
  refine xk_L (v := (lwP (fput 6 0 (fput 3 st (fput 2 z (κ k)))) (nI 42) (nI 16) (nI sv))) (x_runS (As := [.long (fput 6 0 (fput 3 st (fput 2 z (κ k)))), .int (nI 42), .int (nI 16), .int (nI sv)]) (rest := [.int (nI k), .ref b]) S hE hS (fun _ h => h.elim) (c_L_put l E (fput 6 0 (fput 3 st (fput 2 z (κ k)))) (nI 42) (nI 16) (nI sv) _) kv_L_put kw16_14 kw16_15 ⟨Nat.le_of_ble_eq_true rfl, Nat.le_of_ble_eq_true rfl⟩ rfl rfl rfl hl.1 rfl (Nat.le_of_ble_eq_true rfl) dL_begins_35 ⟨Nat.zero_le _, Nat.zero_le _⟩) ?_
  refine x_topl (y := (fput 7 sv (fput 6 0 (fput 3 st (fput 2 z (κ k)))))) (rfl) ?_
  refine x_last S hE hEL hS (Or.inr rfl) (hc) k rfl (by omega) (by decide) dL_begins_38 (fun H locs hX hO1 hS => ?_)
  have hO := hO.tr hO1 (fun q z => Or.inr z)
  have hg := va_at.kept hg (hO1.2 a hab)
  have hc := hX
  refine lv_aload_n S.1 S.2.1 dL_begins_39 rfl (lv_at hl 0 rfl) ?_
  refine lv_iconst (v := (nI 5)) S.1 S.2.1 dL_begins_40 (by decide) ?_
  refine lv_dup2_11 S.1 S.2.1 dL_begins_41 rfl rfl ?_
  refine x_iald S hE (hg) 5 rfl (by decide) (by decide) dL_begins_42 ?_
  refine x_top (y := (nI sv)) (h5) ?_
  refine lv_iconst (v := (nI 1)) S.1 S.2.1 dL_begins_43 (by decide) ?_
  refine lv_iadd S.1 S.2.1 dL_begins_44 ?_
  refine x_top (y := (nI (sv + 1))) (nI_add sv 1) ?_
  refine x_iast S hE hS (Or.inl rfl) (hg) 5 rfl (by decide) (by decide) dL_begins_45 (fun H locs hX hO1 hS => ?_)
  have hO := hO.tr hO1 (fun q z => Or.inl z)
  have hg := hX
  have hc := va_at.kept hc (hO1.2 b (fun z => hab z.symm))
  subst hQ
  refine x_retV S hr hlk hS hO ?_ dL_begins_46
  exact ⟨xi_ext hg (fun j hj => by rw [bg_lo (by omega), upd_if, h5, nI_add]), _, hc, bg_U hU hk hst hz hsv h5⟩
abbrev rm_L_fades : Room := ({ frames := 2, cells := 0, slots := 0, locals := 44 } : Room)
set_option maxRecDepth 100000 in
set_option maxHeartbeats 600000 in
theorem c_L_fades (l : Launch) (E : XE) (b k st : Nat) (σ : Nat → Int32) (H : Heap) (hEL : EL E) (hL : LcP E b σ H) (hk : k < 64) (hst : st < 8) : Wv l E yL_fades cL_fades 3 rm_L_fades [.ref b, .int (nI k), .int (nI st)] H (fun q => q = b) (fun H1 => LcP E b (lwFd σ k (nI st)) H1) := by
  refine met_of (by decide) (Nat.le_of_ble_eq_true rfl) (fun p e s m args below meth c hBD Q hQ ls hl => ?_)
  obtain ⟨S, hr, hlk, hnm, hE, hH⟩ := hBD
  subst hH
  have hl : lv_has ls 3 [(0, .ref b), (1, .int (nI k)), (2, .int (nI st))] := hl
  have hO : Out (fun q => q = b) s.heap s.heap := Out.rf
  have hS : va_S (fun q => q = b) s.heap s.heap [] := va_S.rf
  obtain ⟨κ, hc, hU⟩ := hL
  refine lv_aload_n S.1 S.2.1 dL_fades_0 rfl (lv_at hl 0 rfl) ?_
  refine lv_iload_n S.1 S.2.1 dL_fades_1 rfl (lv_at hl 1 rfl) ?_
  refine lv_aload_n S.1 S.2.1 dL_fades_2 rfl (lv_at hl 0 rfl) ?_
  refine lv_iload_n S.1 S.2.1 dL_fades_3 rfl (lv_at hl 1 rfl) ?_
  refine x_lald S hE hEL (hc) k rfl (by omega) (by decide) dL_fades_4 ?_
  refine lv_bipush (v := (nI 30)) S.1 S.2.1 dL_fades_5 (by decide) ?_
  refine lv_bipush (v := (nI 11)) S.1 S.2.1 dL_fades_7 (by decide) ?_
  refine lv_aload_n S.1 S.2.1 dL_fades_9 rfl (lv_at hl 0 rfl) ?_
  refine lv_iload_n S.1 S.2.1 dL_fades_10 rfl (lv_at hl 1 rfl) ?_
  refine x_lald S hE hEL (hc) k rfl (by omega) (by decide) dL_fades_11 ?_
  refine xk_R (v := (nI (fvN (κ k) 19 11))) (x_runS (As := [.long (κ k)]) (rest := [.int (nI 11), .int (nI 30), .long (κ k), .int (nI k), .ref b]) S hE hS (fun _ h => h.elim) (c_L_level l E (κ k) _) kv_L_level kw7_15 kw7_16 ⟨Nat.le_of_ble_eq_true rfl, Nat.le_of_ble_eq_true rfl⟩ rfl rfl rfl hl.1 rfl (Nat.le_of_ble_eq_true rfl) dL_fades_12 ⟨Nat.zero_le _, Nat.zero_le _⟩) ?_
  refine xk_L (v := (lwP (κ k) (nI 30) (nI 11) (nI (fvN (κ k) 19 11)))) (x_runS (As := [.long (κ k), .int (nI 30), .int (nI 11), .int (nI (fvN (κ k) 19 11))]) (rest := [.int (nI k), .ref b]) S hE hS (fun _ h => h.elim) (c_L_put l E (κ k) (nI 30) (nI 11) (nI (fvN (κ k) 19 11)) _) kv_L_put kw16_14 kw16_15 ⟨Nat.le_of_ble_eq_true rfl, Nat.le_of_ble_eq_true rfl⟩ rfl rfl rfl hl.1 rfl (Nat.le_of_ble_eq_true rfl) dL_fades_15 ⟨Nat.zero_le _, Nat.zero_le _⟩) ?_
  refine x_topl (y := (fput 5 (fvN (κ k) 19 11) (κ k))) (rfl) ?_
  refine lv_bipush (v := (nI 16)) S.1 S.2.1 dL_fades_18 (by decide) ?_
  refine lv_iconst (v := (nI 3)) S.1 S.2.1 dL_fades_20 (by decide) ?_
  refine lv_iload_n S.1 S.2.1 dL_fades_21 rfl (lv_at hl 2 rfl) ?_
  refine xk_L (v := (lwP (fput 5 (fvN (κ k) 19 11) (κ k)) (nI 16) (nI 3) (nI st))) (x_runS (As := [.long (fput 5 (fvN (κ k) 19 11) (κ k)), .int (nI 16), .int (nI 3), .int (nI st)]) (rest := [.int (nI k), .ref b]) S hE hS (fun _ h => h.elim) (c_L_put l E (fput 5 (fvN (κ k) 19 11) (κ k)) (nI 16) (nI 3) (nI st) _) kv_L_put kw16_14 kw16_15 ⟨Nat.le_of_ble_eq_true rfl, Nat.le_of_ble_eq_true rfl⟩ rfl rfl rfl hl.1 rfl (Nat.le_of_ble_eq_true rfl) dL_fades_22 ⟨Nat.zero_le _, Nat.zero_le _⟩) ?_
  refine x_topl (y := (fput 3 st (fput 5 (fvN (κ k) 19 11) (κ k)))) (rfl) ?_
  refine lv_bipush (v := (nI 41)) S.1 S.2.1 dL_fades_25 (by decide) ?_
  refine lv_iconst (v := (nI 1)) S.1 S.2.1 dL_fades_27 (by decide) ?_
  refine lv_iconst (v := (nI 0)) S.1 S.2.1 dL_fades_28 (by decide) ?_
  refine xk_L (v := (lwP (fput 3 st (fput 5 (fvN (κ k) 19 11) (κ k))) (nI 41) (nI 1) (nI 0))) (x_runS (As := [.long (fput 3 st (fput 5 (fvN (κ k) 19 11) (κ k))), .int (nI 41), .int (nI 1), .int (nI 0)]) (rest := [.int (nI k), .ref b]) S hE hS (fun _ h => h.elim) (c_L_put l E (fput 3 st (fput 5 (fvN (κ k) 19 11) (κ k))) (nI 41) (nI 1) (nI 0) _) kv_L_put kw16_14 kw16_15 ⟨Nat.le_of_ble_eq_true rfl, Nat.le_of_ble_eq_true rfl⟩ rfl rfl rfl hl.1 rfl (Nat.le_of_ble_eq_true rfl) dL_fades_29 ⟨Nat.zero_le _, Nat.zero_le _⟩) ?_
  refine x_topl (y := (fput 6 0 (fput 3 st (fput 5 (fvN (κ k) 19 11) (κ k))))) (rfl) ?_
  refine x_last S hE hEL hS (rfl) (hc) k rfl (by omega) (by decide) dL_fades_32 (fun H locs hX hO1 hS => ?_)
  have hO := hO.tr hO1 (fun q z => z)
  have hc := hX
  subst hQ
  refine x_retV S hr hlk hS hO ?_ dL_fades_33
  exact ⟨_, hc, fe_U hU hk hst⟩
abbrev rm_L_anew : Room := ({ frames := 2, cells := 0, slots := 0, locals := 48 } : Room)
set_option maxRecDepth 100000 in
set_option maxHeartbeats 600000 in
theorem c_L_anew (l : Launch) (E : XE) (a b k z sv : Nat) (σ : Nat → Int32) (H : Heap) (hEL : EL E) (hab : ¬ a = b) (hL : LwP E a b σ H) (hk : k < 64) (hz : z < 128) (hsv : sv < 65536) (h5 : σ 5 = nI sv) : Wv l E yL_anew cL_anew 4 rm_L_anew [.ref a, .ref b, .int (nI k), .int (nI z)] H (fun q => q = a ∨ q = b) (fun H1 => LwP E a b (rfAnew σ k (nI z)) H1) := by
  refine met_of (by decide) (Nat.le_of_ble_eq_true rfl) (fun p e s m args below meth c hBD Q hQ ls hl => ?_)
  obtain ⟨S, hr, hlk, hnm, hE, hH⟩ := hBD
  subst hH
  have hl : lv_has ls 4 [(0, .ref a), (1, .ref b), (2, .int (nI k)), (3, .int (nI z))] := hl
  have hO : Out (fun q => q = a ∨ q = b) s.heap s.heap := Out.rf
  have hS : va_S (fun q => q = a ∨ q = b) s.heap s.heap [] := va_S.rf
  obtain ⟨hg, κ, hc, hU⟩ := hL
  refine lv_aload_n S.1 S.2.1 dL_anew_0 rfl (lv_at hl 0 rfl) ?_
  refine lv_aload_n S.1 S.2.1 dL_anew_1 rfl (lv_at hl 1 rfl) ?_
  refine lv_iload_n S.1 S.2.1 dL_anew_2 rfl (lv_at hl 2 rfl) ?_
  refine lv_aload_n S.1 S.2.1 dL_anew_3 rfl (lv_at hl 1 rfl) ?_
  refine lv_iload_n S.1 S.2.1 dL_anew_4 rfl (lv_at hl 2 rfl) ?_
  refine x_lald S hE hEL (hc) k rfl (by omega) (by decide) dL_anew_5 ?_
  refine xk_R (v := (fld 4 (κ k))) (x_runS (As := [.long (κ k)]) (rest := [.int (nI k), .ref b, .ref a]) S hE hS (fun _ h => h.elim) (c_L_level l E (κ k) _) kv_L_level kw7_15 kw7_16 ⟨Nat.le_of_ble_eq_true rfl, Nat.le_of_ble_eq_true rfl⟩ rfl rfl rfl hl.1 rfl (Nat.le_of_ble_eq_true rfl) dL_anew_6 ⟨Nat.zero_le _, Nat.zero_le _⟩) ?_
  refine x_top (y := (nf σ k 4)) ((hU k 4 (by omega) (by decide)).symm) ?_
  refine lv_bipush (v := (nI 8)) S.1 S.2.1 dL_anew_9 (by decide) ?_
  refine lv_iload_n S.1 S.2.1 dL_anew_11 rfl (lv_at hl 3 rfl) ?_
  refine lv_imul S.1 S.2.1 dL_anew_12 ?_
  refine x_top (y := (nI (8 * z))) (pk_mul 8 z) ?_
  refine lv_icmp_lt (tgt := 20) S.1 S.2.1 dL_anew_13 rfl (fun h1 => ?_) (fun h1 => ?_)
  · skip
    refine lv_iconst (v := (nI 1)) S.1 S.2.1 dL_anew_20 (by decide) ?_
    refine lv_iload_n S.1 S.2.1 dL_anew_21 rfl (lv_at hl 3 rfl) ?_
    refine xk_V (x_runS (As := [.ref a, .ref b, .int (nI k), .int (nI 1), .int (nI z)]) (rest := []) S hE hS (fun _ h => h) (c_L_begins l E a b k 1 z sv σ _ hEL hab ⟨hg, κ, hc, hU⟩ (by omega) (by decide) (hz) (hsv) (h5)) kv_L_begins kw16_11 kw16_12 ⟨Nat.le_of_ble_eq_true rfl, Nat.le_of_ble_eq_true rfl⟩ rfl rfl rfl hl.1 rfl (Nat.le_of_ble_eq_true rfl) dL_anew_22 ⟨Nat.zero_le _, Nat.zero_le _⟩) hS (fun _ h => h) (fun H locs hX hO1 hS => ?_)
    have hO := hO.tr hO1 (fun _ h => h)
    obtain ⟨hg, κ, hc, hU⟩ := hX
    refine lv_aload_n S.1 S.2.1 dL_anew_25 rfl (lv_at hl 0 rfl) ?_
    refine lv_iconst (v := (nI 4)) S.1 S.2.1 dL_anew_26 (by decide) ?_
    refine lv_dup2_11 S.1 S.2.1 dL_anew_27 rfl rfl ?_
    refine x_iald S hE (hg) 4 rfl (by decide) (by decide) dL_anew_28 ?_
    refine x_top (y := (σ 4)) (by rw [bg_lo (by omega), if_neg (by omega)]) ?_
    refine lv_iconst (v := (nI 1)) S.1 S.2.1 dL_anew_29 (by decide) ?_
    refine lv_iadd S.1 S.2.1 dL_anew_30 ?_
    refine x_iast S hE hS (Or.inl rfl) (hg) 4 rfl (by decide) (by decide) dL_anew_31 (fun H locs hX hO1 hS => ?_)
    have hO := hO.tr hO1 (fun q z => Or.inl z)
    have hg := hX
    have hc := va_at.kept hc (hO1.2 b (fun z => hab z.symm))
    subst hQ
    refine x_retV S hr hlk hS hO ?_ dL_anew_32
    exact by have e := @bg_an σ k (nI 1) (nI z) (by rw [show nI 8 * nI z = nI (8 * z) from pk_mul 8 z]; first | rw [if_pos h1] | rw [if_neg (Int32.not_lt.mpr (Int32.not_lt.mp h1))]); exact ⟨xi_ext hg (fun j hj => (e.2 j hj).symm), κ, hc, fun j w hj hw => (e.1 j w hw).trans (hU j w hj hw)⟩
  · skip
    refine lv_iconst (v := (nI 2)) S.1 S.2.1 dL_anew_16 (by decide) ?_
    refine lv_goto (tgt := 21) S.1 S.2.1 dL_anew_17 rfl ?_
    refine lv_iload_n S.1 S.2.1 dL_anew_21 rfl (lv_at hl 3 rfl) ?_
    refine xk_V (x_runS (As := [.ref a, .ref b, .int (nI k), .int (nI 2), .int (nI z)]) (rest := []) S hE hS (fun _ h => h) (c_L_begins l E a b k 2 z sv σ _ hEL hab ⟨hg, κ, hc, hU⟩ (by omega) (by decide) (hz) (hsv) (h5)) kv_L_begins kw16_11 kw16_12 ⟨Nat.le_of_ble_eq_true rfl, Nat.le_of_ble_eq_true rfl⟩ rfl rfl rfl hl.1 rfl (Nat.le_of_ble_eq_true rfl) dL_anew_22 ⟨Nat.zero_le _, Nat.zero_le _⟩) hS (fun _ h => h) (fun H locs hX hO1 hS => ?_)
    have hO := hO.tr hO1 (fun _ h => h)
    obtain ⟨hg, κ, hc, hU⟩ := hX
    refine lv_aload_n S.1 S.2.1 dL_anew_25 rfl (lv_at hl 0 rfl) ?_
    refine lv_iconst (v := (nI 4)) S.1 S.2.1 dL_anew_26 (by decide) ?_
    refine lv_dup2_11 S.1 S.2.1 dL_anew_27 rfl rfl ?_
    refine x_iald S hE (hg) 4 rfl (by decide) (by decide) dL_anew_28 ?_
    refine x_top (y := (σ 4)) (by rw [bg_lo (by omega), if_neg (by omega)]) ?_
    refine lv_iconst (v := (nI 1)) S.1 S.2.1 dL_anew_29 (by decide) ?_
    refine lv_iadd S.1 S.2.1 dL_anew_30 ?_
    refine x_iast S hE hS (Or.inl rfl) (hg) 4 rfl (by decide) (by decide) dL_anew_31 (fun H locs hX hO1 hS => ?_)
    have hO := hO.tr hO1 (fun q z => Or.inl z)
    have hg := hX
    have hc := va_at.kept hc (hO1.2 b (fun z => hab z.symm))
    subst hQ
    refine x_retV S hr hlk hS hO ?_ dL_anew_32
    exact by have e := @bg_an σ k (nI 2) (nI z) (by rw [show nI 8 * nI z = nI (8 * z) from pk_mul 8 z]; first | rw [if_pos h1] | rw [if_neg (Int32.not_lt.mpr (Int32.not_lt.mp h1))]); exact ⟨xi_ext hg (fun j hj => (e.2 j hj).symm), κ, hc, fun j w hj hw => (e.1 j w hw).trans (hU j w hj hw)⟩
abbrev rm_L_moves : Room := ({ frames := 2, cells := 0, slots := 0, locals := 44 } : Room)
set_option maxRecDepth 100000 in
set_option maxHeartbeats 600000 in
theorem c_L_moves (l : Launch) (E : XE) (b k : Nat) (σ : Nat → Int32) (H : Heap) (hEL : EL E) (hL : LcP E b σ H) (hk : k < 64) (hB : NB σ k) (hx : ¬ nf σ k 3 = nI 0 ∧ ¬ nf σ k 3 = nI 6) : Wv l E yL_moves cL_moves 7 rm_L_moves [.ref b, .int (nI k)] H (fun q => q = b) (fun H1 => LcP E b (rfMv σ k) H1) := by
  refine met_of (by decide) (Nat.le_of_ble_eq_true rfl) (fun p e s m args below meth c hBD Q hQ ls hl => ?_)
  obtain ⟨S, hr, hlk, hnm, hE, hH⟩ := hBD
  subst hH
  have hl : lv_has ls 7 [(0, .ref b), (1, .int (nI k))] := hl
  have hO : Out (fun q => q = b) s.heap s.heap := Out.rf
  have hS : va_S (fun q => q = b) s.heap s.heap [] := va_S.rf
  obtain ⟨κ, hc, hU⟩ := hL
  obtain ⟨xx, vv, ex, ev, hxx, hvv⟩ := mv_b hB
  refine lv_aload_n S.1 S.2.1 dL_moves_0 rfl (lv_at hl 0 rfl) ?_
  refine lv_iload_n S.1 S.2.1 dL_moves_1 rfl (lv_at hl 1 rfl) ?_
  refine x_lald S hE hEL (hc) k rfl (by omega) (by decide) dL_moves_2 ?_
  refine lv_iconst (v := (nI 0)) S.1 S.2.1 dL_moves_3 (by decide) ?_
  refine lv_iconst (v := (nI 2)) S.1 S.2.1 dL_moves_4 (by decide) ?_
  refine xk_R (v := (lwG (κ k) (nI 0) (nI 2))) (x_runS (As := [.long (κ k), .int (nI 0), .int (nI 2)]) (rest := []) S hE hS (fun _ h => h.elim) (c_L_get l E (κ k) (nI 0) (nI 2) _) kv_L_get kw7_12 kw7_13 ⟨Nat.le_of_ble_eq_true rfl, Nat.le_of_ble_eq_true rfl⟩ rfl rfl rfl hl.1 rfl (Nat.le_of_ble_eq_true rfl) dL_moves_5 ⟨Nat.zero_le _, Nat.zero_le _⟩) ?_
  refine x_top (y := (nf σ k 0)) ((lwG_eq _ (by decide) (by decide)).trans ((hU k 0 (by omega) (by decide)).symm)) ?_
  refine lv_istore_n S.1 S.2.1 dL_moves_8 rfl hl (by decide) rfl (fun ls hl => ?_)
  have hl : lv_has ls 7 [(2, .int (nf σ k 0)), (0, .ref b), (1, .int (nI k))] := hl
  refine lv_bipush (v := (nI 8)) S.1 S.2.1 dL_moves_9 (by decide) ?_
  refine lv_aload_n S.1 S.2.1 dL_moves_11 rfl (lv_at hl 1 rfl) ?_
  refine lv_iload_n S.1 S.2.1 dL_moves_12 rfl (lv_at hl 2 rfl) ?_
  refine x_lald S hE hEL (hc) k rfl (by omega) (by decide) dL_moves_13 ?_
  refine lv_bipush (v := (nI 9)) S.1 S.2.1 dL_moves_14 (by decide) ?_
  refine lv_bipush (v := (nI 7)) S.1 S.2.1 dL_moves_16 (by decide) ?_
  refine xk_R (v := (lwG (κ k) (nI 9) (nI 7))) (x_runS (As := [.long (κ k), .int (nI 9), .int (nI 7)]) (rest := [.int (nI 8)]) S hE hS (fun _ h => h.elim) (c_L_get l E (κ k) (nI 9) (nI 7) _) kv_L_get kw7_12 kw7_13 ⟨Nat.le_of_ble_eq_true rfl, Nat.le_of_ble_eq_true rfl⟩ rfl rfl rfl hl.1 rfl (Nat.le_of_ble_eq_true rfl) dL_moves_18 ⟨Nat.zero_le _, Nat.zero_le _⟩) ?_
  refine x_top (y := (nf σ k 2)) ((lwG_eq _ (by decide) (by decide)).trans ((hU k 2 (by omega) (by decide)).symm)) ?_
  refine lv_imul S.1 S.2.1 dL_moves_21 ?_
  refine x_top (y := (rfPeak σ k)) (rfl) ?_
  refine lv_istore_n S.1 S.2.1 dL_moves_22 rfl hl (by decide) rfl (fun ls hl => ?_)
  have hl : lv_has ls 7 [(3, .int (rfPeak σ k)), (2, .int (nf σ k 0)), (0, .ref b), (1, .int (nI k))] := hl
  refine lv_iload_n S.1 S.2.1 dL_moves_23 rfl (lv_at hl 0 rfl) ?_
  refine lv_iload_n S.1 S.2.1 dL_moves_24 rfl (lv_at hl 1 rfl) ?_
  refine lv_bipush (v := (nI 6)) S.1 S.2.1 dL_moves_25 (by decide) ?_
  refine lv_iadd S.1 S.2.1 dL_moves_27 ?_
  refine lv_imul S.1 S.2.1 dL_moves_28 ?_
  refine lv_bipush (v := (nI 10)) S.1 S.2.1 dL_moves_29 (by decide) ?_
  refine lv_idiv S.1 S.2.1 dL_moves_31 (by decide) ?_
  refine x_top (y := (rfRest σ k)) (rs_eq hB) ?_
  refine lv_istore S.1 S.2.1 dL_moves_32 hl (by decide) rfl (fun ls hl => ?_)
  have hl : lv_has ls 7 [(4, .int (rfRest σ k)), (3, .int (rfPeak σ k)), (2, .int (nf σ k 0)), (0, .ref b), (1, .int (nI k))] := hl
  refine lv_aload_n S.1 S.2.1 dL_moves_34 rfl (lv_at hl 3 rfl) ?_
  refine lv_iload_n S.1 S.2.1 dL_moves_35 rfl (lv_at hl 4 rfl) ?_
  refine x_lald S hE hEL (hc) k rfl (by omega) (by decide) dL_moves_36 ?_
  refine xk_R (v := (fld 4 (κ k))) (x_runS (As := [.long (κ k)]) (rest := []) S hE hS (fun _ h => h.elim) (c_L_level l E (κ k) _) kv_L_level kw7_15 kw7_16 ⟨Nat.le_of_ble_eq_true rfl, Nat.le_of_ble_eq_true rfl⟩ rfl rfl rfl hl.1 rfl (Nat.le_of_ble_eq_true rfl) dL_moves_37 ⟨Nat.zero_le _, Nat.zero_le _⟩) ?_
  refine x_top (y := (nf σ k 4)) ((hU k 4 (by omega) (by decide)).symm) ?_
  refine lv_istore S.1 S.2.1 dL_moves_40 hl (by decide) rfl (fun ls hl => ?_)
  have hl : lv_has ls 7 [(5, .int (nf σ k 4)), (4, .int (rfRest σ k)), (3, .int (rfPeak σ k)), (2, .int (nf σ k 0)), (0, .ref b), (1, .int (nI k))] := hl
  refine lv_aload_n S.1 S.2.1 dL_moves_42 rfl (lv_at hl 4 rfl) ?_
  refine lv_iload_n S.1 S.2.1 dL_moves_43 rfl (lv_at hl 5 rfl) ?_
  refine x_lald S hE hEL (hc) k rfl (by omega) (by decide) dL_moves_44 ?_
  refine xk_R (v := (fld 3 (κ k))) (x_runS (As := [.long (κ k)]) (rest := []) S hE hS (fun _ h => h.elim) (c_L_is l E (κ k) _) kv_L_is kw7_9 kw7_10 ⟨Nat.le_of_ble_eq_true rfl, Nat.le_of_ble_eq_true rfl⟩ rfl rfl rfl hl.1 rfl (Nat.le_of_ble_eq_true rfl) dL_moves_45 ⟨Nat.zero_le _, Nat.zero_le _⟩) ?_
  refine x_top (y := (nf σ k 3)) ((hU k 3 (by omega) (by decide)).symm) ?_
  refine lv_istore S.1 S.2.1 dL_moves_48 hl (by decide) rfl (fun ls hl => ?_)
  have hl : lv_has ls 7 [(6, .int (nf σ k 3)), (5, .int (nf σ k 4)), (4, .int (rfRest σ k)), (3, .int (rfPeak σ k)), (2, .int (nf σ k 0)), (0, .ref b), (1, .int (nI k))] := hl
  have hj275 : ∀ (H : Heap) (locs : List Loc) (ls : Array Slot), XL E b 64 κ H → Out (fun q => q = b) s.heap H → va_S (fun q => q = b) s.heap H locs → lv_has ls 7 [(5, .int (nI vv)), (6, .int (nI xx)), (0, .ref b), (1, .int (nI k))] → W p l e rm_L_moves s m args below meth c H locs 0 0 Q (F0 m 275 ls []) := by
    intro  H locs ls  hc hO hS hl
    refine lv_aload_n S.1 S.2.1 dL_moves_275 rfl (lv_at hl 2 rfl) ?_
    refine lv_iload_n S.1 S.2.1 dL_moves_276 rfl (lv_at hl 3 rfl) ?_
    refine lv_aload_n S.1 S.2.1 dL_moves_277 rfl (lv_at hl 2 rfl) ?_
    refine lv_iload_n S.1 S.2.1 dL_moves_278 rfl (lv_at hl 3 rfl) ?_
    refine x_lald S hE hEL (hc) k rfl (by omega) (by decide) dL_moves_279 ?_
    refine lv_bipush (v := (nI 16)) S.1 S.2.1 dL_moves_280 (by decide) ?_
    refine lv_iconst (v := (nI 3)) S.1 S.2.1 dL_moves_282 (by decide) ?_
    refine lv_iload S.1 S.2.1 dL_moves_283 (lv_at hl 1 rfl) ?_
    refine xk_L (v := (lwP (κ k) (nI 16) (nI 3) (nI xx))) (x_runS (As := [.long (κ k), .int (nI 16), .int (nI 3), .int (nI xx)]) (rest := [.int (nI k), .ref b]) S hE hS (fun _ h => h.elim) (c_L_put l E (κ k) (nI 16) (nI 3) (nI xx) _) kv_L_put kw16_14 kw16_15 ⟨Nat.le_of_ble_eq_true rfl, Nat.le_of_ble_eq_true rfl⟩ rfl rfl rfl hl.1 rfl (Nat.le_of_ble_eq_true rfl) dL_moves_285 ⟨Nat.zero_le _, Nat.zero_le _⟩) ?_
    refine x_topl (y := (fput 3 xx (κ k))) (rfl) ?_
    refine lv_bipush (v := (nI 19)) S.1 S.2.1 dL_moves_288 (by decide) ?_
    refine lv_bipush (v := (nI 11)) S.1 S.2.1 dL_moves_290 (by decide) ?_
    refine lv_iload S.1 S.2.1 dL_moves_292 (lv_at hl 0 rfl) ?_
    refine xk_L (v := (lwP (fput 3 xx (κ k)) (nI 19) (nI 11) (nI vv))) (x_runS (As := [.long (fput 3 xx (κ k)), .int (nI 19), .int (nI 11), .int (nI vv)]) (rest := [.int (nI k), .ref b]) S hE hS (fun _ h => h.elim) (c_L_put l E (fput 3 xx (κ k)) (nI 19) (nI 11) (nI vv) _) kv_L_put kw16_14 kw16_15 ⟨Nat.le_of_ble_eq_true rfl, Nat.le_of_ble_eq_true rfl⟩ rfl rfl rfl hl.1 rfl (Nat.le_of_ble_eq_true rfl) dL_moves_294 ⟨Nat.zero_le _, Nat.zero_le _⟩) ?_
    refine x_topl (y := (fput 4 vv (fput 3 xx (κ k)))) (rfl) ?_
    refine x_last S hE hEL hS (rfl) (hc) k rfl (by omega) (by decide) dL_moves_297 (fun H locs hX hO1 hS => ?_)
    have hO := hO.tr hO1 (fun q z => z)
    have hc := hX
    subst hQ
    refine x_retV S hr hlk hS hO ?_ dL_moves_298
    exact ⟨_, hc, mv_U hU hk ex ev hxx hvv⟩
  refine lv_iload S.1 S.2.1 dL_moves_50 (lv_at hl 0 rfl) ?_
  refine lv_iconst (v := (nI 1)) S.1 S.2.1 dL_moves_52 (by decide) ?_
  refine lv_icmp_ne (tgt := 116) S.1 S.2.1 dL_moves_53 rfl (fun h1 => ?_) (fun h1 => ?_)
  · skip
    refine lv_iload S.1 S.2.1 dL_moves_116 (lv_at hl 0 rfl) ?_
    refine lv_iconst (v := (nI 2)) S.1 S.2.1 dL_moves_118 (by decide) ?_
    refine lv_icmp_ne (tgt := 198) S.1 S.2.1 dL_moves_119 rfl (fun h2 => ?_) (fun h2 => ?_)
    · skip
      refine lv_iload S.1 S.2.1 dL_moves_198 (lv_at hl 0 rfl) ?_
      refine lv_iconst (v := (nI 3)) S.1 S.2.1 dL_moves_200 (by decide) ?_
      refine lv_icmp_le (tgt := 275) S.1 S.2.1 dL_moves_201 rfl (fun h3 => ?_) (fun h3 => ?_)
      · skip
        have hl : lv_has ls 7 [(5, .int (nI vv)), (6, .int (nI xx)), (0, .ref b), (1, .int (nI k))] := by rw [← ev, ← ex, (mvp_3 (x3 hB h3 hx.1 h1 h2)).1, (mvp_3 (x3 hB h3 hx.1 h1 h2)).2]; exact lv_sub hl [1, 0, 5, 6] rfl
        exact hj275  _ _ ls  (hc) (hO) (hS) (lv_sub hl [0, 1, 2, 3] rfl)
      · skip
        refine lv_iload S.1 S.2.1 dL_moves_204 (lv_at hl 1 rfl) ?_
        refine lv_aload_n S.1 S.2.1 dL_moves_206 rfl (lv_at hl 5 rfl) ?_
        refine lv_iload_n S.1 S.2.1 dL_moves_207 rfl (lv_at hl 6 rfl) ?_
        refine x_lald S hE hEL (hc) k rfl (by omega) (by decide) dL_moves_208 ?_
        refine lv_bipush (v := (nI 30)) S.1 S.2.1 dL_moves_209 (by decide) ?_
        refine lv_bipush (v := (nI 11)) S.1 S.2.1 dL_moves_211 (by decide) ?_
        refine xk_R (v := (lwG (κ k) (nI 30) (nI 11))) (x_runS (As := [.long (κ k), .int (nI 30), .int (nI 11)]) (rest := [.int (nf σ k 4)]) S hE hS (fun _ h => h.elim) (c_L_get l E (κ k) (nI 30) (nI 11) _) kv_L_get kw7_12 kw7_13 ⟨Nat.le_of_ble_eq_true rfl, Nat.le_of_ble_eq_true rfl⟩ rfl rfl rfl hl.1 rfl (Nat.le_of_ble_eq_true rfl) dL_moves_213 ⟨Nat.zero_le _, Nat.zero_le _⟩) ?_
        refine x_top (y := (nf σ k 5)) ((lwG_eq _ (by decide) (by decide)).trans ((hU k 5 (by omega) (by decide)).symm)) ?_
        refine lv_iload S.1 S.2.1 dL_moves_216 (lv_at hl 0 rfl) ?_
        refine lv_iconst (v := (nI 5)) S.1 S.2.1 dL_moves_218 (by decide) ?_
        refine lv_icmp_ne (tgt := 226) S.1 S.2.1 dL_moves_219 rfl (fun h4 => ?_) (fun h4 => ?_)
        · skip
          refine lv_iload_n S.1 S.2.1 dL_moves_226 rfl (lv_at hl 4 rfl) ?_
          refine lv_iconst (v := (nI 3)) S.1 S.2.1 dL_moves_227 (by decide) ?_
          refine lv_icmp_ge (tgt := 240) S.1 S.2.1 dL_moves_228 rfl (fun h5 => ?_) (fun h5 => ?_)
          · skip
            refine lv_bipush (v := (nI 16)) S.1 S.2.1 dL_moves_240 (by decide) ?_
            refine x_top (y := (rfFade (nf σ k 0))) (fa_3 hB h5) ?_
            refine xk_R (v := (rfUp (nf σ k 5) (rfFade (nf σ k 0)))) (x_runS (As := [.int (nf σ k 5), .int (rfFade (nf σ k 0))]) (rest := [.int (nf σ k 4)]) S hE hS (fun _ h => h.elim) (c_L_share l E (nf σ k 5) (rfFade (nf σ k 0)) _ (st_ex hB (Or.inl (x45 hB h3 hx.2 h4))) (fa_ex hB)) kv_L_share kw21_18 kw21_19 ⟨Nat.le_of_ble_eq_true rfl, Nat.le_of_ble_eq_true rfl⟩ rfl rfl rfl hl.1 rfl (Nat.le_of_ble_eq_true rfl) dL_moves_242 ⟨Nat.zero_le _, Nat.zero_le _⟩) ?_
            refine lv_isub S.1 S.2.1 dL_moves_245 ?_
            refine lv_istore S.1 S.2.1 dL_moves_246 hl (by decide) rfl (fun ls hl => ?_)
            have hl : lv_has ls 7 [(5, .int ((nf σ k 4) - (rfUp (nf σ k 5) (rfFade (nf σ k 0))))), (6, .int (nf σ k 3)), (4, .int (rfRest σ k)), (3, .int (rfPeak σ k)), (2, .int (nf σ k 0)), (0, .ref b), (1, .int (nI k))] := hl
            refine lv_iload S.1 S.2.1 dL_moves_248 (lv_at hl 0 rfl) ?_
            refine lv_if_le (tgt := 258) S.1 S.2.1 dL_moves_250 rfl (fun h6 => ?_) (fun h6 => ?_)
            · skip
              refine lv_iconst (v := (nI 0)) S.1 S.2.1 dL_moves_258 (by decide) ?_
              refine x_top (y := (rfDn σ k (rfFade (nf σ k 0)))) (nI_0.trans (mx_1 h6)) ?_
              refine lv_istore S.1 S.2.1 dL_moves_259 hl (by decide) rfl (fun ls hl => ?_)
              have hl : lv_has ls 7 [(5, .int (rfDn σ k (rfFade (nf σ k 0)))), (6, .int (nf σ k 3)), (4, .int (rfRest σ k)), (3, .int (rfPeak σ k)), (2, .int (nf σ k 0)), (0, .ref b), (1, .int (nI k))] := hl
              refine lv_iload S.1 S.2.1 dL_moves_261 (lv_at hl 0 rfl) ?_
              refine lv_if_ne (tgt := 271) S.1 S.2.1 dL_moves_263 rfl (fun h7 => ?_) (fun h7 => ?_)
              · skip
                refine lv_iload S.1 S.2.1 dL_moves_271 (lv_at hl 1 rfl) ?_
                refine x_top (y := (if rfDn σ k (rfFade (nf σ k 0)) = 0 then nI 6 else nf σ k 3)) (by first | rw [if_pos h7] | rw [if_neg h7]) ?_
                refine lv_istore S.1 S.2.1 dL_moves_273 hl (by decide) rfl (fun ls hl => ?_)
                have hl : lv_has ls 7 [(6, .int (if rfDn σ k (rfFade (nf σ k 0)) = 0 then nI 6 else nf σ k 3)), (5, .int (rfDn σ k (rfFade (nf σ k 0)))), (4, .int (rfRest σ k)), (3, .int (rfPeak σ k)), (2, .int (nf σ k 0)), (0, .ref b), (1, .int (nI k))] := hl
                have hl : lv_has ls 7 [(5, .int (nI vv)), (6, .int (nI xx)), (0, .ref b), (1, .int (nI k))] := by rw [← ev, ← ex, (mvp_4 (x45 hB h3 hx.2 h4)).1, (mvp_4 (x45 hB h3 hx.2 h4)).2]; exact lv_sub hl [1, 0, 5, 6] rfl
                exact hj275  _ _ ls  (hc) (hO) (hS) (lv_sub hl [0, 1, 2, 3] rfl)
              · skip
                refine lv_bipush (v := (nI 6)) S.1 S.2.1 dL_moves_266 (by decide) ?_
                refine lv_goto (tgt := 273) S.1 S.2.1 dL_moves_268 rfl ?_
                refine x_top (y := (if rfDn σ k (rfFade (nf σ k 0)) = 0 then nI 6 else nf σ k 3)) (by first | rw [if_pos h7] | rw [if_neg h7]) ?_
                refine lv_istore S.1 S.2.1 dL_moves_273 hl (by decide) rfl (fun ls hl => ?_)
                have hl : lv_has ls 7 [(6, .int (if rfDn σ k (rfFade (nf σ k 0)) = 0 then nI 6 else nf σ k 3)), (5, .int (rfDn σ k (rfFade (nf σ k 0)))), (4, .int (rfRest σ k)), (3, .int (rfPeak σ k)), (2, .int (nf σ k 0)), (0, .ref b), (1, .int (nI k))] := hl
                have hl : lv_has ls 7 [(5, .int (nI vv)), (6, .int (nI xx)), (0, .ref b), (1, .int (nI k))] := by rw [← ev, ← ex, (mvp_4 (x45 hB h3 hx.2 h4)).1, (mvp_4 (x45 hB h3 hx.2 h4)).2]; exact lv_sub hl [1, 0, 5, 6] rfl
                exact hj275  _ _ ls  (hc) (hO) (hS) (lv_sub hl [0, 1, 2, 3] rfl)
            · skip
              refine lv_iload S.1 S.2.1 dL_moves_253 (lv_at hl 0 rfl) ?_
              refine lv_goto (tgt := 259) S.1 S.2.1 dL_moves_255 rfl ?_
              refine x_top (y := (rfDn σ k (rfFade (nf σ k 0)))) (mx_2 h6) ?_
              refine lv_istore S.1 S.2.1 dL_moves_259 hl (by decide) rfl (fun ls hl => ?_)
              have hl : lv_has ls 7 [(5, .int (rfDn σ k (rfFade (nf σ k 0)))), (6, .int (nf σ k 3)), (4, .int (rfRest σ k)), (3, .int (rfPeak σ k)), (2, .int (nf σ k 0)), (0, .ref b), (1, .int (nI k))] := hl
              refine lv_iload S.1 S.2.1 dL_moves_261 (lv_at hl 0 rfl) ?_
              refine lv_if_ne (tgt := 271) S.1 S.2.1 dL_moves_263 rfl (fun h8 => ?_) (fun h8 => ?_)
              · skip
                refine lv_iload S.1 S.2.1 dL_moves_271 (lv_at hl 1 rfl) ?_
                refine x_top (y := (if rfDn σ k (rfFade (nf σ k 0)) = 0 then nI 6 else nf σ k 3)) (by first | rw [if_pos h8] | rw [if_neg h8]) ?_
                refine lv_istore S.1 S.2.1 dL_moves_273 hl (by decide) rfl (fun ls hl => ?_)
                have hl : lv_has ls 7 [(6, .int (if rfDn σ k (rfFade (nf σ k 0)) = 0 then nI 6 else nf σ k 3)), (5, .int (rfDn σ k (rfFade (nf σ k 0)))), (4, .int (rfRest σ k)), (3, .int (rfPeak σ k)), (2, .int (nf σ k 0)), (0, .ref b), (1, .int (nI k))] := hl
                have hl : lv_has ls 7 [(5, .int (nI vv)), (6, .int (nI xx)), (0, .ref b), (1, .int (nI k))] := by rw [← ev, ← ex, (mvp_4 (x45 hB h3 hx.2 h4)).1, (mvp_4 (x45 hB h3 hx.2 h4)).2]; exact lv_sub hl [1, 0, 5, 6] rfl
                exact hj275  _ _ ls  (hc) (hO) (hS) (lv_sub hl [0, 1, 2, 3] rfl)
              · skip
                refine lv_bipush (v := (nI 6)) S.1 S.2.1 dL_moves_266 (by decide) ?_
                refine lv_goto (tgt := 273) S.1 S.2.1 dL_moves_268 rfl ?_
                refine x_top (y := (if rfDn σ k (rfFade (nf σ k 0)) = 0 then nI 6 else nf σ k 3)) (by first | rw [if_pos h8] | rw [if_neg h8]) ?_
                refine lv_istore S.1 S.2.1 dL_moves_273 hl (by decide) rfl (fun ls hl => ?_)
                have hl : lv_has ls 7 [(6, .int (if rfDn σ k (rfFade (nf σ k 0)) = 0 then nI 6 else nf σ k 3)), (5, .int (rfDn σ k (rfFade (nf σ k 0)))), (4, .int (rfRest σ k)), (3, .int (rfPeak σ k)), (2, .int (nf σ k 0)), (0, .ref b), (1, .int (nI k))] := hl
                have hl : lv_has ls 7 [(5, .int (nI vv)), (6, .int (nI xx)), (0, .ref b), (1, .int (nI k))] := by rw [← ev, ← ex, (mvp_4 (x45 hB h3 hx.2 h4)).1, (mvp_4 (x45 hB h3 hx.2 h4)).2]; exact lv_sub hl [1, 0, 5, 6] rfl
                exact hj275  _ _ ls  (hc) (hO) (hS) (lv_sub hl [0, 1, 2, 3] rfl)
          · skip
            refine lv_bipush (v := (nI 6)) S.1 S.2.1 dL_moves_231 (by decide) ?_
            refine lv_iconst (v := (nI 2)) S.1 S.2.1 dL_moves_233 (by decide) ?_
            refine lv_iload_n S.1 S.2.1 dL_moves_234 rfl (lv_at hl 4 rfl) ?_
            refine lv_imul S.1 S.2.1 dL_moves_235 ?_
            refine lv_iadd S.1 S.2.1 dL_moves_236 ?_
            refine lv_goto (tgt := 242) S.1 S.2.1 dL_moves_237 rfl ?_
            refine x_top (y := (rfFade (nf σ k 0))) (fa_o hB h5) ?_
            refine xk_R (v := (rfUp (nf σ k 5) (rfFade (nf σ k 0)))) (x_runS (As := [.int (nf σ k 5), .int (rfFade (nf σ k 0))]) (rest := [.int (nf σ k 4)]) S hE hS (fun _ h => h.elim) (c_L_share l E (nf σ k 5) (rfFade (nf σ k 0)) _ (st_ex hB (Or.inl (x45 hB h3 hx.2 h4))) (fa_ex hB)) kv_L_share kw21_18 kw21_19 ⟨Nat.le_of_ble_eq_true rfl, Nat.le_of_ble_eq_true rfl⟩ rfl rfl rfl hl.1 rfl (Nat.le_of_ble_eq_true rfl) dL_moves_242 ⟨Nat.zero_le _, Nat.zero_le _⟩) ?_
            refine lv_isub S.1 S.2.1 dL_moves_245 ?_
            refine lv_istore S.1 S.2.1 dL_moves_246 hl (by decide) rfl (fun ls hl => ?_)
            have hl : lv_has ls 7 [(5, .int ((nf σ k 4) - (rfUp (nf σ k 5) (rfFade (nf σ k 0))))), (6, .int (nf σ k 3)), (4, .int (rfRest σ k)), (3, .int (rfPeak σ k)), (2, .int (nf σ k 0)), (0, .ref b), (1, .int (nI k))] := hl
            refine lv_iload S.1 S.2.1 dL_moves_248 (lv_at hl 0 rfl) ?_
            refine lv_if_le (tgt := 258) S.1 S.2.1 dL_moves_250 rfl (fun h9 => ?_) (fun h9 => ?_)
            · skip
              refine lv_iconst (v := (nI 0)) S.1 S.2.1 dL_moves_258 (by decide) ?_
              refine x_top (y := (rfDn σ k (rfFade (nf σ k 0)))) (nI_0.trans (mx_1 h9)) ?_
              refine lv_istore S.1 S.2.1 dL_moves_259 hl (by decide) rfl (fun ls hl => ?_)
              have hl : lv_has ls 7 [(5, .int (rfDn σ k (rfFade (nf σ k 0)))), (6, .int (nf σ k 3)), (4, .int (rfRest σ k)), (3, .int (rfPeak σ k)), (2, .int (nf σ k 0)), (0, .ref b), (1, .int (nI k))] := hl
              refine lv_iload S.1 S.2.1 dL_moves_261 (lv_at hl 0 rfl) ?_
              refine lv_if_ne (tgt := 271) S.1 S.2.1 dL_moves_263 rfl (fun h10 => ?_) (fun h10 => ?_)
              · skip
                refine lv_iload S.1 S.2.1 dL_moves_271 (lv_at hl 1 rfl) ?_
                refine x_top (y := (if rfDn σ k (rfFade (nf σ k 0)) = 0 then nI 6 else nf σ k 3)) (by first | rw [if_pos h10] | rw [if_neg h10]) ?_
                refine lv_istore S.1 S.2.1 dL_moves_273 hl (by decide) rfl (fun ls hl => ?_)
                have hl : lv_has ls 7 [(6, .int (if rfDn σ k (rfFade (nf σ k 0)) = 0 then nI 6 else nf σ k 3)), (5, .int (rfDn σ k (rfFade (nf σ k 0)))), (4, .int (rfRest σ k)), (3, .int (rfPeak σ k)), (2, .int (nf σ k 0)), (0, .ref b), (1, .int (nI k))] := hl
                have hl : lv_has ls 7 [(5, .int (nI vv)), (6, .int (nI xx)), (0, .ref b), (1, .int (nI k))] := by rw [← ev, ← ex, (mvp_4 (x45 hB h3 hx.2 h4)).1, (mvp_4 (x45 hB h3 hx.2 h4)).2]; exact lv_sub hl [1, 0, 5, 6] rfl
                exact hj275  _ _ ls  (hc) (hO) (hS) (lv_sub hl [0, 1, 2, 3] rfl)
              · skip
                refine lv_bipush (v := (nI 6)) S.1 S.2.1 dL_moves_266 (by decide) ?_
                refine lv_goto (tgt := 273) S.1 S.2.1 dL_moves_268 rfl ?_
                refine x_top (y := (if rfDn σ k (rfFade (nf σ k 0)) = 0 then nI 6 else nf σ k 3)) (by first | rw [if_pos h10] | rw [if_neg h10]) ?_
                refine lv_istore S.1 S.2.1 dL_moves_273 hl (by decide) rfl (fun ls hl => ?_)
                have hl : lv_has ls 7 [(6, .int (if rfDn σ k (rfFade (nf σ k 0)) = 0 then nI 6 else nf σ k 3)), (5, .int (rfDn σ k (rfFade (nf σ k 0)))), (4, .int (rfRest σ k)), (3, .int (rfPeak σ k)), (2, .int (nf σ k 0)), (0, .ref b), (1, .int (nI k))] := hl
                have hl : lv_has ls 7 [(5, .int (nI vv)), (6, .int (nI xx)), (0, .ref b), (1, .int (nI k))] := by rw [← ev, ← ex, (mvp_4 (x45 hB h3 hx.2 h4)).1, (mvp_4 (x45 hB h3 hx.2 h4)).2]; exact lv_sub hl [1, 0, 5, 6] rfl
                exact hj275  _ _ ls  (hc) (hO) (hS) (lv_sub hl [0, 1, 2, 3] rfl)
            · skip
              refine lv_iload S.1 S.2.1 dL_moves_253 (lv_at hl 0 rfl) ?_
              refine lv_goto (tgt := 259) S.1 S.2.1 dL_moves_255 rfl ?_
              refine x_top (y := (rfDn σ k (rfFade (nf σ k 0)))) (mx_2 h9) ?_
              refine lv_istore S.1 S.2.1 dL_moves_259 hl (by decide) rfl (fun ls hl => ?_)
              have hl : lv_has ls 7 [(5, .int (rfDn σ k (rfFade (nf σ k 0)))), (6, .int (nf σ k 3)), (4, .int (rfRest σ k)), (3, .int (rfPeak σ k)), (2, .int (nf σ k 0)), (0, .ref b), (1, .int (nI k))] := hl
              refine lv_iload S.1 S.2.1 dL_moves_261 (lv_at hl 0 rfl) ?_
              refine lv_if_ne (tgt := 271) S.1 S.2.1 dL_moves_263 rfl (fun h11 => ?_) (fun h11 => ?_)
              · skip
                refine lv_iload S.1 S.2.1 dL_moves_271 (lv_at hl 1 rfl) ?_
                refine x_top (y := (if rfDn σ k (rfFade (nf σ k 0)) = 0 then nI 6 else nf σ k 3)) (by first | rw [if_pos h11] | rw [if_neg h11]) ?_
                refine lv_istore S.1 S.2.1 dL_moves_273 hl (by decide) rfl (fun ls hl => ?_)
                have hl : lv_has ls 7 [(6, .int (if rfDn σ k (rfFade (nf σ k 0)) = 0 then nI 6 else nf σ k 3)), (5, .int (rfDn σ k (rfFade (nf σ k 0)))), (4, .int (rfRest σ k)), (3, .int (rfPeak σ k)), (2, .int (nf σ k 0)), (0, .ref b), (1, .int (nI k))] := hl
                have hl : lv_has ls 7 [(5, .int (nI vv)), (6, .int (nI xx)), (0, .ref b), (1, .int (nI k))] := by rw [← ev, ← ex, (mvp_4 (x45 hB h3 hx.2 h4)).1, (mvp_4 (x45 hB h3 hx.2 h4)).2]; exact lv_sub hl [1, 0, 5, 6] rfl
                exact hj275  _ _ ls  (hc) (hO) (hS) (lv_sub hl [0, 1, 2, 3] rfl)
              · skip
                refine lv_bipush (v := (nI 6)) S.1 S.2.1 dL_moves_266 (by decide) ?_
                refine lv_goto (tgt := 273) S.1 S.2.1 dL_moves_268 rfl ?_
                refine x_top (y := (if rfDn σ k (rfFade (nf σ k 0)) = 0 then nI 6 else nf σ k 3)) (by first | rw [if_pos h11] | rw [if_neg h11]) ?_
                refine lv_istore S.1 S.2.1 dL_moves_273 hl (by decide) rfl (fun ls hl => ?_)
                have hl : lv_has ls 7 [(6, .int (if rfDn σ k (rfFade (nf σ k 0)) = 0 then nI 6 else nf σ k 3)), (5, .int (rfDn σ k (rfFade (nf σ k 0)))), (4, .int (rfRest σ k)), (3, .int (rfPeak σ k)), (2, .int (nf σ k 0)), (0, .ref b), (1, .int (nI k))] := hl
                have hl : lv_has ls 7 [(5, .int (nI vv)), (6, .int (nI xx)), (0, .ref b), (1, .int (nI k))] := by rw [← ev, ← ex, (mvp_4 (x45 hB h3 hx.2 h4)).1, (mvp_4 (x45 hB h3 hx.2 h4)).2]; exact lv_sub hl [1, 0, 5, 6] rfl
                exact hj275  _ _ ls  (hc) (hO) (hS) (lv_sub hl [0, 1, 2, 3] rfl)
        · skip
          refine lv_iconst (v := (nI 3)) S.1 S.2.1 dL_moves_222 (by decide) ?_
          refine lv_goto (tgt := 242) S.1 S.2.1 dL_moves_223 rfl ?_
          refine xk_R (v := (rfUp (nf σ k 5) (nI 3))) (x_runS (As := [.int (nf σ k 5), .int (nI 3)]) (rest := [.int (nf σ k 4)]) S hE hS (fun _ h => h.elim) (c_L_share l E (nf σ k 5) (nI 3) _ (st_ex hB (Or.inr h4)) (⟨3, by decide, by decide, rfl⟩)) kv_L_share kw21_18 kw21_19 ⟨Nat.le_of_ble_eq_true rfl, Nat.le_of_ble_eq_true rfl⟩ rfl rfl rfl hl.1 rfl (Nat.le_of_ble_eq_true rfl) dL_moves_242 ⟨Nat.zero_le _, Nat.zero_le _⟩) ?_
          refine lv_isub S.1 S.2.1 dL_moves_245 ?_
          refine lv_istore S.1 S.2.1 dL_moves_246 hl (by decide) rfl (fun ls hl => ?_)
          have hl : lv_has ls 7 [(5, .int ((nf σ k 4) - (rfUp (nf σ k 5) (nI 3)))), (6, .int (nf σ k 3)), (4, .int (rfRest σ k)), (3, .int (rfPeak σ k)), (2, .int (nf σ k 0)), (0, .ref b), (1, .int (nI k))] := hl
          refine lv_iload S.1 S.2.1 dL_moves_248 (lv_at hl 0 rfl) ?_
          refine lv_if_le (tgt := 258) S.1 S.2.1 dL_moves_250 rfl (fun h12 => ?_) (fun h12 => ?_)
          · skip
            refine lv_iconst (v := (nI 0)) S.1 S.2.1 dL_moves_258 (by decide) ?_
            refine x_top (y := (rfDn σ k (nI 3))) (nI_0.trans (mx_1 h12)) ?_
            refine lv_istore S.1 S.2.1 dL_moves_259 hl (by decide) rfl (fun ls hl => ?_)
            have hl : lv_has ls 7 [(5, .int (rfDn σ k (nI 3))), (6, .int (nf σ k 3)), (4, .int (rfRest σ k)), (3, .int (rfPeak σ k)), (2, .int (nf σ k 0)), (0, .ref b), (1, .int (nI k))] := hl
            refine lv_iload S.1 S.2.1 dL_moves_261 (lv_at hl 0 rfl) ?_
            refine lv_if_ne (tgt := 271) S.1 S.2.1 dL_moves_263 rfl (fun h13 => ?_) (fun h13 => ?_)
            · skip
              refine lv_iload S.1 S.2.1 dL_moves_271 (lv_at hl 1 rfl) ?_
              refine x_top (y := (if rfDn σ k (nI 3) = 0 then nI 6 else nf σ k 3)) (by first | rw [if_pos h13] | rw [if_neg h13]) ?_
              refine lv_istore S.1 S.2.1 dL_moves_273 hl (by decide) rfl (fun ls hl => ?_)
              have hl : lv_has ls 7 [(6, .int (if rfDn σ k (nI 3) = 0 then nI 6 else nf σ k 3)), (5, .int (rfDn σ k (nI 3))), (4, .int (rfRest σ k)), (3, .int (rfPeak σ k)), (2, .int (nf σ k 0)), (0, .ref b), (1, .int (nI k))] := hl
              have hl : lv_has ls 7 [(5, .int (nI vv)), (6, .int (nI xx)), (0, .ref b), (1, .int (nI k))] := by rw [← ev, ← ex, (mvp_5 h4).1, (mvp_5 h4).2]; exact lv_sub hl [1, 0, 5, 6] rfl
              exact hj275  _ _ ls  (hc) (hO) (hS) (lv_sub hl [0, 1, 2, 3] rfl)
            · skip
              refine lv_bipush (v := (nI 6)) S.1 S.2.1 dL_moves_266 (by decide) ?_
              refine lv_goto (tgt := 273) S.1 S.2.1 dL_moves_268 rfl ?_
              refine x_top (y := (if rfDn σ k (nI 3) = 0 then nI 6 else nf σ k 3)) (by first | rw [if_pos h13] | rw [if_neg h13]) ?_
              refine lv_istore S.1 S.2.1 dL_moves_273 hl (by decide) rfl (fun ls hl => ?_)
              have hl : lv_has ls 7 [(6, .int (if rfDn σ k (nI 3) = 0 then nI 6 else nf σ k 3)), (5, .int (rfDn σ k (nI 3))), (4, .int (rfRest σ k)), (3, .int (rfPeak σ k)), (2, .int (nf σ k 0)), (0, .ref b), (1, .int (nI k))] := hl
              have hl : lv_has ls 7 [(5, .int (nI vv)), (6, .int (nI xx)), (0, .ref b), (1, .int (nI k))] := by rw [← ev, ← ex, (mvp_5 h4).1, (mvp_5 h4).2]; exact lv_sub hl [1, 0, 5, 6] rfl
              exact hj275  _ _ ls  (hc) (hO) (hS) (lv_sub hl [0, 1, 2, 3] rfl)
          · skip
            refine lv_iload S.1 S.2.1 dL_moves_253 (lv_at hl 0 rfl) ?_
            refine lv_goto (tgt := 259) S.1 S.2.1 dL_moves_255 rfl ?_
            refine x_top (y := (rfDn σ k (nI 3))) (mx_2 h12) ?_
            refine lv_istore S.1 S.2.1 dL_moves_259 hl (by decide) rfl (fun ls hl => ?_)
            have hl : lv_has ls 7 [(5, .int (rfDn σ k (nI 3))), (6, .int (nf σ k 3)), (4, .int (rfRest σ k)), (3, .int (rfPeak σ k)), (2, .int (nf σ k 0)), (0, .ref b), (1, .int (nI k))] := hl
            refine lv_iload S.1 S.2.1 dL_moves_261 (lv_at hl 0 rfl) ?_
            refine lv_if_ne (tgt := 271) S.1 S.2.1 dL_moves_263 rfl (fun h14 => ?_) (fun h14 => ?_)
            · skip
              refine lv_iload S.1 S.2.1 dL_moves_271 (lv_at hl 1 rfl) ?_
              refine x_top (y := (if rfDn σ k (nI 3) = 0 then nI 6 else nf σ k 3)) (by first | rw [if_pos h14] | rw [if_neg h14]) ?_
              refine lv_istore S.1 S.2.1 dL_moves_273 hl (by decide) rfl (fun ls hl => ?_)
              have hl : lv_has ls 7 [(6, .int (if rfDn σ k (nI 3) = 0 then nI 6 else nf σ k 3)), (5, .int (rfDn σ k (nI 3))), (4, .int (rfRest σ k)), (3, .int (rfPeak σ k)), (2, .int (nf σ k 0)), (0, .ref b), (1, .int (nI k))] := hl
              have hl : lv_has ls 7 [(5, .int (nI vv)), (6, .int (nI xx)), (0, .ref b), (1, .int (nI k))] := by rw [← ev, ← ex, (mvp_5 h4).1, (mvp_5 h4).2]; exact lv_sub hl [1, 0, 5, 6] rfl
              exact hj275  _ _ ls  (hc) (hO) (hS) (lv_sub hl [0, 1, 2, 3] rfl)
            · skip
              refine lv_bipush (v := (nI 6)) S.1 S.2.1 dL_moves_266 (by decide) ?_
              refine lv_goto (tgt := 273) S.1 S.2.1 dL_moves_268 rfl ?_
              refine x_top (y := (if rfDn σ k (nI 3) = 0 then nI 6 else nf σ k 3)) (by first | rw [if_pos h14] | rw [if_neg h14]) ?_
              refine lv_istore S.1 S.2.1 dL_moves_273 hl (by decide) rfl (fun ls hl => ?_)
              have hl : lv_has ls 7 [(6, .int (if rfDn σ k (nI 3) = 0 then nI 6 else nf σ k 3)), (5, .int (rfDn σ k (nI 3))), (4, .int (rfRest σ k)), (3, .int (rfPeak σ k)), (2, .int (nf σ k 0)), (0, .ref b), (1, .int (nI k))] := hl
              have hl : lv_has ls 7 [(5, .int (nI vv)), (6, .int (nI xx)), (0, .ref b), (1, .int (nI k))] := by rw [← ev, ← ex, (mvp_5 h4).1, (mvp_5 h4).2]; exact lv_sub hl [1, 0, 5, 6] rfl
              exact hj275  _ _ ls  (hc) (hO) (hS) (lv_sub hl [0, 1, 2, 3] rfl)
    · skip
      refine lv_iload S.1 S.2.1 dL_moves_122 (lv_at hl 1 rfl) ?_
      refine lv_iload_n S.1 S.2.1 dL_moves_124 rfl (lv_at hl 3 rfl) ?_
      refine lv_iload S.1 S.2.1 dL_moves_125 (lv_at hl 2 rfl) ?_
      refine lv_isub S.1 S.2.1 dL_moves_127 ?_
      refine lv_iload_n S.1 S.2.1 dL_moves_128 rfl (lv_at hl 4 rfl) ?_
      refine lv_if_ne (tgt := 137) S.1 S.2.1 dL_moves_129 rfl (fun h15 => ?_) (fun h15 => ?_)
      · skip
        refine lv_iload_n S.1 S.2.1 dL_moves_137 rfl (lv_at hl 4 rfl) ?_
        refine lv_iconst (v := (nI 1)) S.1 S.2.1 dL_moves_138 (by decide) ?_
        refine lv_icmp_ne (tgt := 147) S.1 S.2.1 dL_moves_139 rfl (fun h16 => ?_) (fun h16 => ?_)
        · skip
          refine lv_iload_n S.1 S.2.1 dL_moves_147 rfl (lv_at hl 4 rfl) ?_
          refine lv_iconst (v := (nI 2)) S.1 S.2.1 dL_moves_148 (by decide) ?_
          refine lv_icmp_ne (tgt := 157) S.1 S.2.1 dL_moves_149 rfl (fun h17 => ?_) (fun h17 => ?_)
          · skip
            refine lv_bipush (v := (nI 6)) S.1 S.2.1 dL_moves_157 (by decide) ?_
            refine x_top (y := (rfSink (nf σ k 0))) (by rw [rfSink, if_neg h15, if_neg h16, if_neg h17]) ?_
            refine xk_R (v := (rfUp ((rfPeak σ k) - (rfRest σ k)) (rfSink (nf σ k 0)))) (x_runS (As := [.int ((rfPeak σ k) - (rfRest σ k)), .int (rfSink (nf σ k 0))]) (rest := [.int (nf σ k 4)]) S hE hS (fun _ h => h.elim) (c_L_share l E ((rfPeak σ k) - (rfRest σ k)) (rfSink (nf σ k 0)) _ (dr_ex hB) (si_ex hB)) kv_L_share kw21_18 kw21_19 ⟨Nat.le_of_ble_eq_true rfl, Nat.le_of_ble_eq_true rfl⟩ rfl rfl rfl hl.1 rfl (Nat.le_of_ble_eq_true rfl) dL_moves_159 ⟨Nat.zero_le _, Nat.zero_le _⟩) ?_
            refine lv_isub S.1 S.2.1 dL_moves_162 ?_
            refine lv_istore S.1 S.2.1 dL_moves_163 hl (by decide) rfl (fun ls hl => ?_)
            have hl : lv_has ls 7 [(5, .int ((nf σ k 4) - (rfUp ((rfPeak σ k) - (rfRest σ k)) (rfSink (nf σ k 0))))), (6, .int (nf σ k 3)), (4, .int (rfRest σ k)), (3, .int (rfPeak σ k)), (2, .int (nf σ k 0)), (0, .ref b), (1, .int (nI k))] := hl
            refine lv_iload S.1 S.2.1 dL_moves_165 (lv_at hl 0 rfl) ?_
            refine lv_iload S.1 S.2.1 dL_moves_167 (lv_at hl 2 rfl) ?_
            refine lv_icmp_le (tgt := 177) S.1 S.2.1 dL_moves_169 rfl (fun h18 => ?_) (fun h18 => ?_)
            · skip
              refine lv_iload S.1 S.2.1 dL_moves_177 (lv_at hl 2 rfl) ?_
              refine x_top (y := (rfSk σ k)) (mx_1 h18) ?_
              refine lv_istore S.1 S.2.1 dL_moves_179 hl (by decide) rfl (fun ls hl => ?_)
              have hl : lv_has ls 7 [(5, .int (rfSk σ k)), (6, .int (nf σ k 3)), (4, .int (rfRest σ k)), (3, .int (rfPeak σ k)), (2, .int (nf σ k 0)), (0, .ref b), (1, .int (nI k))] := hl
              refine lv_iload S.1 S.2.1 dL_moves_181 (lv_at hl 0 rfl) ?_
              refine lv_iload S.1 S.2.1 dL_moves_183 (lv_at hl 2 rfl) ?_
              refine lv_icmp_ne (tgt := 192) S.1 S.2.1 dL_moves_185 rfl (fun h19 => ?_) (fun h19 => ?_)
              · skip
                refine lv_iconst (v := (nI 2)) S.1 S.2.1 dL_moves_192 (by decide) ?_
                refine x_top (y := (if rfSk σ k = rfRest σ k then nI 3 else nI 2)) (by first | rw [if_pos h19] | rw [if_neg h19]) ?_
                refine lv_istore S.1 S.2.1 dL_moves_193 hl (by decide) rfl (fun ls hl => ?_)
                have hl : lv_has ls 7 [(6, .int (if rfSk σ k = rfRest σ k then nI 3 else nI 2)), (5, .int (rfSk σ k)), (4, .int (rfRest σ k)), (3, .int (rfPeak σ k)), (2, .int (nf σ k 0)), (0, .ref b), (1, .int (nI k))] := hl
                refine lv_goto (tgt := 275) S.1 S.2.1 dL_moves_195 rfl ?_
                have hl : lv_has ls 7 [(5, .int (nI vv)), (6, .int (nI xx)), (0, .ref b), (1, .int (nI k))] := by rw [← ev, ← ex, (mvp_2 h2).1, (mvp_2 h2).2]; exact lv_sub hl [1, 0, 5, 6] rfl
                exact hj275  _ _ ls  (hc) (hO) (hS) (lv_sub hl [0, 1, 2, 3] rfl)
              · skip
                refine lv_iconst (v := (nI 3)) S.1 S.2.1 dL_moves_188 (by decide) ?_
                refine lv_goto (tgt := 193) S.1 S.2.1 dL_moves_189 rfl ?_
                refine x_top (y := (if rfSk σ k = rfRest σ k then nI 3 else nI 2)) (by first | rw [if_pos h19] | rw [if_neg h19]) ?_
                refine lv_istore S.1 S.2.1 dL_moves_193 hl (by decide) rfl (fun ls hl => ?_)
                have hl : lv_has ls 7 [(6, .int (if rfSk σ k = rfRest σ k then nI 3 else nI 2)), (5, .int (rfSk σ k)), (4, .int (rfRest σ k)), (3, .int (rfPeak σ k)), (2, .int (nf σ k 0)), (0, .ref b), (1, .int (nI k))] := hl
                refine lv_goto (tgt := 275) S.1 S.2.1 dL_moves_195 rfl ?_
                have hl : lv_has ls 7 [(5, .int (nI vv)), (6, .int (nI xx)), (0, .ref b), (1, .int (nI k))] := by rw [← ev, ← ex, (mvp_2 h2).1, (mvp_2 h2).2]; exact lv_sub hl [1, 0, 5, 6] rfl
                exact hj275  _ _ ls  (hc) (hO) (hS) (lv_sub hl [0, 1, 2, 3] rfl)
            · skip
              refine lv_iload S.1 S.2.1 dL_moves_172 (lv_at hl 0 rfl) ?_
              refine lv_goto (tgt := 179) S.1 S.2.1 dL_moves_174 rfl ?_
              refine x_top (y := (rfSk σ k)) (mx_2 h18) ?_
              refine lv_istore S.1 S.2.1 dL_moves_179 hl (by decide) rfl (fun ls hl => ?_)
              have hl : lv_has ls 7 [(5, .int (rfSk σ k)), (6, .int (nf σ k 3)), (4, .int (rfRest σ k)), (3, .int (rfPeak σ k)), (2, .int (nf σ k 0)), (0, .ref b), (1, .int (nI k))] := hl
              refine lv_iload S.1 S.2.1 dL_moves_181 (lv_at hl 0 rfl) ?_
              refine lv_iload S.1 S.2.1 dL_moves_183 (lv_at hl 2 rfl) ?_
              refine lv_icmp_ne (tgt := 192) S.1 S.2.1 dL_moves_185 rfl (fun h20 => ?_) (fun h20 => ?_)
              · skip
                refine lv_iconst (v := (nI 2)) S.1 S.2.1 dL_moves_192 (by decide) ?_
                refine x_top (y := (if rfSk σ k = rfRest σ k then nI 3 else nI 2)) (by first | rw [if_pos h20] | rw [if_neg h20]) ?_
                refine lv_istore S.1 S.2.1 dL_moves_193 hl (by decide) rfl (fun ls hl => ?_)
                have hl : lv_has ls 7 [(6, .int (if rfSk σ k = rfRest σ k then nI 3 else nI 2)), (5, .int (rfSk σ k)), (4, .int (rfRest σ k)), (3, .int (rfPeak σ k)), (2, .int (nf σ k 0)), (0, .ref b), (1, .int (nI k))] := hl
                refine lv_goto (tgt := 275) S.1 S.2.1 dL_moves_195 rfl ?_
                have hl : lv_has ls 7 [(5, .int (nI vv)), (6, .int (nI xx)), (0, .ref b), (1, .int (nI k))] := by rw [← ev, ← ex, (mvp_2 h2).1, (mvp_2 h2).2]; exact lv_sub hl [1, 0, 5, 6] rfl
                exact hj275  _ _ ls  (hc) (hO) (hS) (lv_sub hl [0, 1, 2, 3] rfl)
              · skip
                refine lv_iconst (v := (nI 3)) S.1 S.2.1 dL_moves_188 (by decide) ?_
                refine lv_goto (tgt := 193) S.1 S.2.1 dL_moves_189 rfl ?_
                refine x_top (y := (if rfSk σ k = rfRest σ k then nI 3 else nI 2)) (by first | rw [if_pos h20] | rw [if_neg h20]) ?_
                refine lv_istore S.1 S.2.1 dL_moves_193 hl (by decide) rfl (fun ls hl => ?_)
                have hl : lv_has ls 7 [(6, .int (if rfSk σ k = rfRest σ k then nI 3 else nI 2)), (5, .int (rfSk σ k)), (4, .int (rfRest σ k)), (3, .int (rfPeak σ k)), (2, .int (nf σ k 0)), (0, .ref b), (1, .int (nI k))] := hl
                refine lv_goto (tgt := 275) S.1 S.2.1 dL_moves_195 rfl ?_
                have hl : lv_has ls 7 [(5, .int (nI vv)), (6, .int (nI xx)), (0, .ref b), (1, .int (nI k))] := by rw [← ev, ← ex, (mvp_2 h2).1, (mvp_2 h2).2]; exact lv_sub hl [1, 0, 5, 6] rfl
                exact hj275  _ _ ls  (hc) (hO) (hS) (lv_sub hl [0, 1, 2, 3] rfl)
          · skip
            refine lv_bipush (v := (nI 12)) S.1 S.2.1 dL_moves_152 (by decide) ?_
            refine lv_goto (tgt := 159) S.1 S.2.1 dL_moves_154 rfl ?_
            refine x_top (y := (rfSink (nf σ k 0))) (by rw [rfSink, if_neg h15, if_neg h16, if_pos h17]) ?_
            refine xk_R (v := (rfUp ((rfPeak σ k) - (rfRest σ k)) (rfSink (nf σ k 0)))) (x_runS (As := [.int ((rfPeak σ k) - (rfRest σ k)), .int (rfSink (nf σ k 0))]) (rest := [.int (nf σ k 4)]) S hE hS (fun _ h => h.elim) (c_L_share l E ((rfPeak σ k) - (rfRest σ k)) (rfSink (nf σ k 0)) _ (dr_ex hB) (si_ex hB)) kv_L_share kw21_18 kw21_19 ⟨Nat.le_of_ble_eq_true rfl, Nat.le_of_ble_eq_true rfl⟩ rfl rfl rfl hl.1 rfl (Nat.le_of_ble_eq_true rfl) dL_moves_159 ⟨Nat.zero_le _, Nat.zero_le _⟩) ?_
            refine lv_isub S.1 S.2.1 dL_moves_162 ?_
            refine lv_istore S.1 S.2.1 dL_moves_163 hl (by decide) rfl (fun ls hl => ?_)
            have hl : lv_has ls 7 [(5, .int ((nf σ k 4) - (rfUp ((rfPeak σ k) - (rfRest σ k)) (rfSink (nf σ k 0))))), (6, .int (nf σ k 3)), (4, .int (rfRest σ k)), (3, .int (rfPeak σ k)), (2, .int (nf σ k 0)), (0, .ref b), (1, .int (nI k))] := hl
            refine lv_iload S.1 S.2.1 dL_moves_165 (lv_at hl 0 rfl) ?_
            refine lv_iload S.1 S.2.1 dL_moves_167 (lv_at hl 2 rfl) ?_
            refine lv_icmp_le (tgt := 177) S.1 S.2.1 dL_moves_169 rfl (fun h21 => ?_) (fun h21 => ?_)
            · skip
              refine lv_iload S.1 S.2.1 dL_moves_177 (lv_at hl 2 rfl) ?_
              refine x_top (y := (rfSk σ k)) (mx_1 h21) ?_
              refine lv_istore S.1 S.2.1 dL_moves_179 hl (by decide) rfl (fun ls hl => ?_)
              have hl : lv_has ls 7 [(5, .int (rfSk σ k)), (6, .int (nf σ k 3)), (4, .int (rfRest σ k)), (3, .int (rfPeak σ k)), (2, .int (nf σ k 0)), (0, .ref b), (1, .int (nI k))] := hl
              refine lv_iload S.1 S.2.1 dL_moves_181 (lv_at hl 0 rfl) ?_
              refine lv_iload S.1 S.2.1 dL_moves_183 (lv_at hl 2 rfl) ?_
              refine lv_icmp_ne (tgt := 192) S.1 S.2.1 dL_moves_185 rfl (fun h22 => ?_) (fun h22 => ?_)
              · skip
                refine lv_iconst (v := (nI 2)) S.1 S.2.1 dL_moves_192 (by decide) ?_
                refine x_top (y := (if rfSk σ k = rfRest σ k then nI 3 else nI 2)) (by first | rw [if_pos h22] | rw [if_neg h22]) ?_
                refine lv_istore S.1 S.2.1 dL_moves_193 hl (by decide) rfl (fun ls hl => ?_)
                have hl : lv_has ls 7 [(6, .int (if rfSk σ k = rfRest σ k then nI 3 else nI 2)), (5, .int (rfSk σ k)), (4, .int (rfRest σ k)), (3, .int (rfPeak σ k)), (2, .int (nf σ k 0)), (0, .ref b), (1, .int (nI k))] := hl
                refine lv_goto (tgt := 275) S.1 S.2.1 dL_moves_195 rfl ?_
                have hl : lv_has ls 7 [(5, .int (nI vv)), (6, .int (nI xx)), (0, .ref b), (1, .int (nI k))] := by rw [← ev, ← ex, (mvp_2 h2).1, (mvp_2 h2).2]; exact lv_sub hl [1, 0, 5, 6] rfl
                exact hj275  _ _ ls  (hc) (hO) (hS) (lv_sub hl [0, 1, 2, 3] rfl)
              · skip
                refine lv_iconst (v := (nI 3)) S.1 S.2.1 dL_moves_188 (by decide) ?_
                refine lv_goto (tgt := 193) S.1 S.2.1 dL_moves_189 rfl ?_
                refine x_top (y := (if rfSk σ k = rfRest σ k then nI 3 else nI 2)) (by first | rw [if_pos h22] | rw [if_neg h22]) ?_
                refine lv_istore S.1 S.2.1 dL_moves_193 hl (by decide) rfl (fun ls hl => ?_)
                have hl : lv_has ls 7 [(6, .int (if rfSk σ k = rfRest σ k then nI 3 else nI 2)), (5, .int (rfSk σ k)), (4, .int (rfRest σ k)), (3, .int (rfPeak σ k)), (2, .int (nf σ k 0)), (0, .ref b), (1, .int (nI k))] := hl
                refine lv_goto (tgt := 275) S.1 S.2.1 dL_moves_195 rfl ?_
                have hl : lv_has ls 7 [(5, .int (nI vv)), (6, .int (nI xx)), (0, .ref b), (1, .int (nI k))] := by rw [← ev, ← ex, (mvp_2 h2).1, (mvp_2 h2).2]; exact lv_sub hl [1, 0, 5, 6] rfl
                exact hj275  _ _ ls  (hc) (hO) (hS) (lv_sub hl [0, 1, 2, 3] rfl)
            · skip
              refine lv_iload S.1 S.2.1 dL_moves_172 (lv_at hl 0 rfl) ?_
              refine lv_goto (tgt := 179) S.1 S.2.1 dL_moves_174 rfl ?_
              refine x_top (y := (rfSk σ k)) (mx_2 h21) ?_
              refine lv_istore S.1 S.2.1 dL_moves_179 hl (by decide) rfl (fun ls hl => ?_)
              have hl : lv_has ls 7 [(5, .int (rfSk σ k)), (6, .int (nf σ k 3)), (4, .int (rfRest σ k)), (3, .int (rfPeak σ k)), (2, .int (nf σ k 0)), (0, .ref b), (1, .int (nI k))] := hl
              refine lv_iload S.1 S.2.1 dL_moves_181 (lv_at hl 0 rfl) ?_
              refine lv_iload S.1 S.2.1 dL_moves_183 (lv_at hl 2 rfl) ?_
              refine lv_icmp_ne (tgt := 192) S.1 S.2.1 dL_moves_185 rfl (fun h23 => ?_) (fun h23 => ?_)
              · skip
                refine lv_iconst (v := (nI 2)) S.1 S.2.1 dL_moves_192 (by decide) ?_
                refine x_top (y := (if rfSk σ k = rfRest σ k then nI 3 else nI 2)) (by first | rw [if_pos h23] | rw [if_neg h23]) ?_
                refine lv_istore S.1 S.2.1 dL_moves_193 hl (by decide) rfl (fun ls hl => ?_)
                have hl : lv_has ls 7 [(6, .int (if rfSk σ k = rfRest σ k then nI 3 else nI 2)), (5, .int (rfSk σ k)), (4, .int (rfRest σ k)), (3, .int (rfPeak σ k)), (2, .int (nf σ k 0)), (0, .ref b), (1, .int (nI k))] := hl
                refine lv_goto (tgt := 275) S.1 S.2.1 dL_moves_195 rfl ?_
                have hl : lv_has ls 7 [(5, .int (nI vv)), (6, .int (nI xx)), (0, .ref b), (1, .int (nI k))] := by rw [← ev, ← ex, (mvp_2 h2).1, (mvp_2 h2).2]; exact lv_sub hl [1, 0, 5, 6] rfl
                exact hj275  _ _ ls  (hc) (hO) (hS) (lv_sub hl [0, 1, 2, 3] rfl)
              · skip
                refine lv_iconst (v := (nI 3)) S.1 S.2.1 dL_moves_188 (by decide) ?_
                refine lv_goto (tgt := 193) S.1 S.2.1 dL_moves_189 rfl ?_
                refine x_top (y := (if rfSk σ k = rfRest σ k then nI 3 else nI 2)) (by first | rw [if_pos h23] | rw [if_neg h23]) ?_
                refine lv_istore S.1 S.2.1 dL_moves_193 hl (by decide) rfl (fun ls hl => ?_)
                have hl : lv_has ls 7 [(6, .int (if rfSk σ k = rfRest σ k then nI 3 else nI 2)), (5, .int (rfSk σ k)), (4, .int (rfRest σ k)), (3, .int (rfPeak σ k)), (2, .int (nf σ k 0)), (0, .ref b), (1, .int (nI k))] := hl
                refine lv_goto (tgt := 275) S.1 S.2.1 dL_moves_195 rfl ?_
                have hl : lv_has ls 7 [(5, .int (nI vv)), (6, .int (nI xx)), (0, .ref b), (1, .int (nI k))] := by rw [← ev, ← ex, (mvp_2 h2).1, (mvp_2 h2).2]; exact lv_sub hl [1, 0, 5, 6] rfl
                exact hj275  _ _ ls  (hc) (hO) (hS) (lv_sub hl [0, 1, 2, 3] rfl)
        · skip
          refine lv_bipush (v := (nI 8)) S.1 S.2.1 dL_moves_142 (by decide) ?_
          refine lv_goto (tgt := 159) S.1 S.2.1 dL_moves_144 rfl ?_
          refine x_top (y := (rfSink (nf σ k 0))) (by rw [rfSink, if_neg h15, if_pos h16]) ?_
          refine xk_R (v := (rfUp ((rfPeak σ k) - (rfRest σ k)) (rfSink (nf σ k 0)))) (x_runS (As := [.int ((rfPeak σ k) - (rfRest σ k)), .int (rfSink (nf σ k 0))]) (rest := [.int (nf σ k 4)]) S hE hS (fun _ h => h.elim) (c_L_share l E ((rfPeak σ k) - (rfRest σ k)) (rfSink (nf σ k 0)) _ (dr_ex hB) (si_ex hB)) kv_L_share kw21_18 kw21_19 ⟨Nat.le_of_ble_eq_true rfl, Nat.le_of_ble_eq_true rfl⟩ rfl rfl rfl hl.1 rfl (Nat.le_of_ble_eq_true rfl) dL_moves_159 ⟨Nat.zero_le _, Nat.zero_le _⟩) ?_
          refine lv_isub S.1 S.2.1 dL_moves_162 ?_
          refine lv_istore S.1 S.2.1 dL_moves_163 hl (by decide) rfl (fun ls hl => ?_)
          have hl : lv_has ls 7 [(5, .int ((nf σ k 4) - (rfUp ((rfPeak σ k) - (rfRest σ k)) (rfSink (nf σ k 0))))), (6, .int (nf σ k 3)), (4, .int (rfRest σ k)), (3, .int (rfPeak σ k)), (2, .int (nf σ k 0)), (0, .ref b), (1, .int (nI k))] := hl
          refine lv_iload S.1 S.2.1 dL_moves_165 (lv_at hl 0 rfl) ?_
          refine lv_iload S.1 S.2.1 dL_moves_167 (lv_at hl 2 rfl) ?_
          refine lv_icmp_le (tgt := 177) S.1 S.2.1 dL_moves_169 rfl (fun h24 => ?_) (fun h24 => ?_)
          · skip
            refine lv_iload S.1 S.2.1 dL_moves_177 (lv_at hl 2 rfl) ?_
            refine x_top (y := (rfSk σ k)) (mx_1 h24) ?_
            refine lv_istore S.1 S.2.1 dL_moves_179 hl (by decide) rfl (fun ls hl => ?_)
            have hl : lv_has ls 7 [(5, .int (rfSk σ k)), (6, .int (nf σ k 3)), (4, .int (rfRest σ k)), (3, .int (rfPeak σ k)), (2, .int (nf σ k 0)), (0, .ref b), (1, .int (nI k))] := hl
            refine lv_iload S.1 S.2.1 dL_moves_181 (lv_at hl 0 rfl) ?_
            refine lv_iload S.1 S.2.1 dL_moves_183 (lv_at hl 2 rfl) ?_
            refine lv_icmp_ne (tgt := 192) S.1 S.2.1 dL_moves_185 rfl (fun h25 => ?_) (fun h25 => ?_)
            · skip
              refine lv_iconst (v := (nI 2)) S.1 S.2.1 dL_moves_192 (by decide) ?_
              refine x_top (y := (if rfSk σ k = rfRest σ k then nI 3 else nI 2)) (by first | rw [if_pos h25] | rw [if_neg h25]) ?_
              refine lv_istore S.1 S.2.1 dL_moves_193 hl (by decide) rfl (fun ls hl => ?_)
              have hl : lv_has ls 7 [(6, .int (if rfSk σ k = rfRest σ k then nI 3 else nI 2)), (5, .int (rfSk σ k)), (4, .int (rfRest σ k)), (3, .int (rfPeak σ k)), (2, .int (nf σ k 0)), (0, .ref b), (1, .int (nI k))] := hl
              refine lv_goto (tgt := 275) S.1 S.2.1 dL_moves_195 rfl ?_
              have hl : lv_has ls 7 [(5, .int (nI vv)), (6, .int (nI xx)), (0, .ref b), (1, .int (nI k))] := by rw [← ev, ← ex, (mvp_2 h2).1, (mvp_2 h2).2]; exact lv_sub hl [1, 0, 5, 6] rfl
              exact hj275  _ _ ls  (hc) (hO) (hS) (lv_sub hl [0, 1, 2, 3] rfl)
            · skip
              refine lv_iconst (v := (nI 3)) S.1 S.2.1 dL_moves_188 (by decide) ?_
              refine lv_goto (tgt := 193) S.1 S.2.1 dL_moves_189 rfl ?_
              refine x_top (y := (if rfSk σ k = rfRest σ k then nI 3 else nI 2)) (by first | rw [if_pos h25] | rw [if_neg h25]) ?_
              refine lv_istore S.1 S.2.1 dL_moves_193 hl (by decide) rfl (fun ls hl => ?_)
              have hl : lv_has ls 7 [(6, .int (if rfSk σ k = rfRest σ k then nI 3 else nI 2)), (5, .int (rfSk σ k)), (4, .int (rfRest σ k)), (3, .int (rfPeak σ k)), (2, .int (nf σ k 0)), (0, .ref b), (1, .int (nI k))] := hl
              refine lv_goto (tgt := 275) S.1 S.2.1 dL_moves_195 rfl ?_
              have hl : lv_has ls 7 [(5, .int (nI vv)), (6, .int (nI xx)), (0, .ref b), (1, .int (nI k))] := by rw [← ev, ← ex, (mvp_2 h2).1, (mvp_2 h2).2]; exact lv_sub hl [1, 0, 5, 6] rfl
              exact hj275  _ _ ls  (hc) (hO) (hS) (lv_sub hl [0, 1, 2, 3] rfl)
          · skip
            refine lv_iload S.1 S.2.1 dL_moves_172 (lv_at hl 0 rfl) ?_
            refine lv_goto (tgt := 179) S.1 S.2.1 dL_moves_174 rfl ?_
            refine x_top (y := (rfSk σ k)) (mx_2 h24) ?_
            refine lv_istore S.1 S.2.1 dL_moves_179 hl (by decide) rfl (fun ls hl => ?_)
            have hl : lv_has ls 7 [(5, .int (rfSk σ k)), (6, .int (nf σ k 3)), (4, .int (rfRest σ k)), (3, .int (rfPeak σ k)), (2, .int (nf σ k 0)), (0, .ref b), (1, .int (nI k))] := hl
            refine lv_iload S.1 S.2.1 dL_moves_181 (lv_at hl 0 rfl) ?_
            refine lv_iload S.1 S.2.1 dL_moves_183 (lv_at hl 2 rfl) ?_
            refine lv_icmp_ne (tgt := 192) S.1 S.2.1 dL_moves_185 rfl (fun h26 => ?_) (fun h26 => ?_)
            · skip
              refine lv_iconst (v := (nI 2)) S.1 S.2.1 dL_moves_192 (by decide) ?_
              refine x_top (y := (if rfSk σ k = rfRest σ k then nI 3 else nI 2)) (by first | rw [if_pos h26] | rw [if_neg h26]) ?_
              refine lv_istore S.1 S.2.1 dL_moves_193 hl (by decide) rfl (fun ls hl => ?_)
              have hl : lv_has ls 7 [(6, .int (if rfSk σ k = rfRest σ k then nI 3 else nI 2)), (5, .int (rfSk σ k)), (4, .int (rfRest σ k)), (3, .int (rfPeak σ k)), (2, .int (nf σ k 0)), (0, .ref b), (1, .int (nI k))] := hl
              refine lv_goto (tgt := 275) S.1 S.2.1 dL_moves_195 rfl ?_
              have hl : lv_has ls 7 [(5, .int (nI vv)), (6, .int (nI xx)), (0, .ref b), (1, .int (nI k))] := by rw [← ev, ← ex, (mvp_2 h2).1, (mvp_2 h2).2]; exact lv_sub hl [1, 0, 5, 6] rfl
              exact hj275  _ _ ls  (hc) (hO) (hS) (lv_sub hl [0, 1, 2, 3] rfl)
            · skip
              refine lv_iconst (v := (nI 3)) S.1 S.2.1 dL_moves_188 (by decide) ?_
              refine lv_goto (tgt := 193) S.1 S.2.1 dL_moves_189 rfl ?_
              refine x_top (y := (if rfSk σ k = rfRest σ k then nI 3 else nI 2)) (by first | rw [if_pos h26] | rw [if_neg h26]) ?_
              refine lv_istore S.1 S.2.1 dL_moves_193 hl (by decide) rfl (fun ls hl => ?_)
              have hl : lv_has ls 7 [(6, .int (if rfSk σ k = rfRest σ k then nI 3 else nI 2)), (5, .int (rfSk σ k)), (4, .int (rfRest σ k)), (3, .int (rfPeak σ k)), (2, .int (nf σ k 0)), (0, .ref b), (1, .int (nI k))] := hl
              refine lv_goto (tgt := 275) S.1 S.2.1 dL_moves_195 rfl ?_
              have hl : lv_has ls 7 [(5, .int (nI vv)), (6, .int (nI xx)), (0, .ref b), (1, .int (nI k))] := by rw [← ev, ← ex, (mvp_2 h2).1, (mvp_2 h2).2]; exact lv_sub hl [1, 0, 5, 6] rfl
              exact hj275  _ _ ls  (hc) (hO) (hS) (lv_sub hl [0, 1, 2, 3] rfl)
      · skip
        refine lv_bipush (v := (nI 10)) S.1 S.2.1 dL_moves_132 (by decide) ?_
        refine lv_goto (tgt := 159) S.1 S.2.1 dL_moves_134 rfl ?_
        refine x_top (y := (rfSink (nf σ k 0))) (by rw [rfSink, if_pos h15]) ?_
        refine xk_R (v := (rfUp ((rfPeak σ k) - (rfRest σ k)) (rfSink (nf σ k 0)))) (x_runS (As := [.int ((rfPeak σ k) - (rfRest σ k)), .int (rfSink (nf σ k 0))]) (rest := [.int (nf σ k 4)]) S hE hS (fun _ h => h.elim) (c_L_share l E ((rfPeak σ k) - (rfRest σ k)) (rfSink (nf σ k 0)) _ (dr_ex hB) (si_ex hB)) kv_L_share kw21_18 kw21_19 ⟨Nat.le_of_ble_eq_true rfl, Nat.le_of_ble_eq_true rfl⟩ rfl rfl rfl hl.1 rfl (Nat.le_of_ble_eq_true rfl) dL_moves_159 ⟨Nat.zero_le _, Nat.zero_le _⟩) ?_
        refine lv_isub S.1 S.2.1 dL_moves_162 ?_
        refine lv_istore S.1 S.2.1 dL_moves_163 hl (by decide) rfl (fun ls hl => ?_)
        have hl : lv_has ls 7 [(5, .int ((nf σ k 4) - (rfUp ((rfPeak σ k) - (rfRest σ k)) (rfSink (nf σ k 0))))), (6, .int (nf σ k 3)), (4, .int (rfRest σ k)), (3, .int (rfPeak σ k)), (2, .int (nf σ k 0)), (0, .ref b), (1, .int (nI k))] := hl
        refine lv_iload S.1 S.2.1 dL_moves_165 (lv_at hl 0 rfl) ?_
        refine lv_iload S.1 S.2.1 dL_moves_167 (lv_at hl 2 rfl) ?_
        refine lv_icmp_le (tgt := 177) S.1 S.2.1 dL_moves_169 rfl (fun h27 => ?_) (fun h27 => ?_)
        · skip
          refine lv_iload S.1 S.2.1 dL_moves_177 (lv_at hl 2 rfl) ?_
          refine x_top (y := (rfSk σ k)) (mx_1 h27) ?_
          refine lv_istore S.1 S.2.1 dL_moves_179 hl (by decide) rfl (fun ls hl => ?_)
          have hl : lv_has ls 7 [(5, .int (rfSk σ k)), (6, .int (nf σ k 3)), (4, .int (rfRest σ k)), (3, .int (rfPeak σ k)), (2, .int (nf σ k 0)), (0, .ref b), (1, .int (nI k))] := hl
          refine lv_iload S.1 S.2.1 dL_moves_181 (lv_at hl 0 rfl) ?_
          refine lv_iload S.1 S.2.1 dL_moves_183 (lv_at hl 2 rfl) ?_
          refine lv_icmp_ne (tgt := 192) S.1 S.2.1 dL_moves_185 rfl (fun h28 => ?_) (fun h28 => ?_)
          · skip
            refine lv_iconst (v := (nI 2)) S.1 S.2.1 dL_moves_192 (by decide) ?_
            refine x_top (y := (if rfSk σ k = rfRest σ k then nI 3 else nI 2)) (by first | rw [if_pos h28] | rw [if_neg h28]) ?_
            refine lv_istore S.1 S.2.1 dL_moves_193 hl (by decide) rfl (fun ls hl => ?_)
            have hl : lv_has ls 7 [(6, .int (if rfSk σ k = rfRest σ k then nI 3 else nI 2)), (5, .int (rfSk σ k)), (4, .int (rfRest σ k)), (3, .int (rfPeak σ k)), (2, .int (nf σ k 0)), (0, .ref b), (1, .int (nI k))] := hl
            refine lv_goto (tgt := 275) S.1 S.2.1 dL_moves_195 rfl ?_
            have hl : lv_has ls 7 [(5, .int (nI vv)), (6, .int (nI xx)), (0, .ref b), (1, .int (nI k))] := by rw [← ev, ← ex, (mvp_2 h2).1, (mvp_2 h2).2]; exact lv_sub hl [1, 0, 5, 6] rfl
            exact hj275  _ _ ls  (hc) (hO) (hS) (lv_sub hl [0, 1, 2, 3] rfl)
          · skip
            refine lv_iconst (v := (nI 3)) S.1 S.2.1 dL_moves_188 (by decide) ?_
            refine lv_goto (tgt := 193) S.1 S.2.1 dL_moves_189 rfl ?_
            refine x_top (y := (if rfSk σ k = rfRest σ k then nI 3 else nI 2)) (by first | rw [if_pos h28] | rw [if_neg h28]) ?_
            refine lv_istore S.1 S.2.1 dL_moves_193 hl (by decide) rfl (fun ls hl => ?_)
            have hl : lv_has ls 7 [(6, .int (if rfSk σ k = rfRest σ k then nI 3 else nI 2)), (5, .int (rfSk σ k)), (4, .int (rfRest σ k)), (3, .int (rfPeak σ k)), (2, .int (nf σ k 0)), (0, .ref b), (1, .int (nI k))] := hl
            refine lv_goto (tgt := 275) S.1 S.2.1 dL_moves_195 rfl ?_
            have hl : lv_has ls 7 [(5, .int (nI vv)), (6, .int (nI xx)), (0, .ref b), (1, .int (nI k))] := by rw [← ev, ← ex, (mvp_2 h2).1, (mvp_2 h2).2]; exact lv_sub hl [1, 0, 5, 6] rfl
            exact hj275  _ _ ls  (hc) (hO) (hS) (lv_sub hl [0, 1, 2, 3] rfl)
        · skip
          refine lv_iload S.1 S.2.1 dL_moves_172 (lv_at hl 0 rfl) ?_
          refine lv_goto (tgt := 179) S.1 S.2.1 dL_moves_174 rfl ?_
          refine x_top (y := (rfSk σ k)) (mx_2 h27) ?_
          refine lv_istore S.1 S.2.1 dL_moves_179 hl (by decide) rfl (fun ls hl => ?_)
          have hl : lv_has ls 7 [(5, .int (rfSk σ k)), (6, .int (nf σ k 3)), (4, .int (rfRest σ k)), (3, .int (rfPeak σ k)), (2, .int (nf σ k 0)), (0, .ref b), (1, .int (nI k))] := hl
          refine lv_iload S.1 S.2.1 dL_moves_181 (lv_at hl 0 rfl) ?_
          refine lv_iload S.1 S.2.1 dL_moves_183 (lv_at hl 2 rfl) ?_
          refine lv_icmp_ne (tgt := 192) S.1 S.2.1 dL_moves_185 rfl (fun h29 => ?_) (fun h29 => ?_)
          · skip
            refine lv_iconst (v := (nI 2)) S.1 S.2.1 dL_moves_192 (by decide) ?_
            refine x_top (y := (if rfSk σ k = rfRest σ k then nI 3 else nI 2)) (by first | rw [if_pos h29] | rw [if_neg h29]) ?_
            refine lv_istore S.1 S.2.1 dL_moves_193 hl (by decide) rfl (fun ls hl => ?_)
            have hl : lv_has ls 7 [(6, .int (if rfSk σ k = rfRest σ k then nI 3 else nI 2)), (5, .int (rfSk σ k)), (4, .int (rfRest σ k)), (3, .int (rfPeak σ k)), (2, .int (nf σ k 0)), (0, .ref b), (1, .int (nI k))] := hl
            refine lv_goto (tgt := 275) S.1 S.2.1 dL_moves_195 rfl ?_
            have hl : lv_has ls 7 [(5, .int (nI vv)), (6, .int (nI xx)), (0, .ref b), (1, .int (nI k))] := by rw [← ev, ← ex, (mvp_2 h2).1, (mvp_2 h2).2]; exact lv_sub hl [1, 0, 5, 6] rfl
            exact hj275  _ _ ls  (hc) (hO) (hS) (lv_sub hl [0, 1, 2, 3] rfl)
          · skip
            refine lv_iconst (v := (nI 3)) S.1 S.2.1 dL_moves_188 (by decide) ?_
            refine lv_goto (tgt := 193) S.1 S.2.1 dL_moves_189 rfl ?_
            refine x_top (y := (if rfSk σ k = rfRest σ k then nI 3 else nI 2)) (by first | rw [if_pos h29] | rw [if_neg h29]) ?_
            refine lv_istore S.1 S.2.1 dL_moves_193 hl (by decide) rfl (fun ls hl => ?_)
            have hl : lv_has ls 7 [(6, .int (if rfSk σ k = rfRest σ k then nI 3 else nI 2)), (5, .int (rfSk σ k)), (4, .int (rfRest σ k)), (3, .int (rfPeak σ k)), (2, .int (nf σ k 0)), (0, .ref b), (1, .int (nI k))] := hl
            refine lv_goto (tgt := 275) S.1 S.2.1 dL_moves_195 rfl ?_
            have hl : lv_has ls 7 [(5, .int (nI vv)), (6, .int (nI xx)), (0, .ref b), (1, .int (nI k))] := by rw [← ev, ← ex, (mvp_2 h2).1, (mvp_2 h2).2]; exact lv_sub hl [1, 0, 5, 6] rfl
            exact hj275  _ _ ls  (hc) (hO) (hS) (lv_sub hl [0, 1, 2, 3] rfl)
  · skip
    refine lv_iload S.1 S.2.1 dL_moves_56 (lv_at hl 1 rfl) ?_
    refine lv_iload_n S.1 S.2.1 dL_moves_58 rfl (lv_at hl 3 rfl) ?_
    refine lv_iload_n S.1 S.2.1 dL_moves_59 rfl (lv_at hl 4 rfl) ?_
    refine lv_if_ne (tgt := 67) S.1 S.2.1 dL_moves_60 rfl (fun h30 => ?_) (fun h30 => ?_)
    · skip
      refine lv_iload_n S.1 S.2.1 dL_moves_67 rfl (lv_at hl 4 rfl) ?_
      refine lv_iconst (v := (nI 3)) S.1 S.2.1 dL_moves_68 (by decide) ?_
      refine lv_icmp_ne (tgt := 77) S.1 S.2.1 dL_moves_69 rfl (fun h31 => ?_) (fun h31 => ?_)
      · skip
        refine lv_iload_n S.1 S.2.1 dL_moves_77 rfl (lv_at hl 4 rfl) ?_
        refine lv_iconst (v := (nI 3)) S.1 S.2.1 dL_moves_78 (by decide) ?_
        refine lv_iadd S.1 S.2.1 dL_moves_79 ?_
        refine x_top (y := (rfRise (nf σ k 0))) (ri_o hB h30 h31) ?_
        refine xk_R (v := (rfUp (rfPeak σ k) (rfRise (nf σ k 0)))) (x_runS (As := [.int (rfPeak σ k), .int (rfRise (nf σ k 0))]) (rest := [.int (nf σ k 4)]) S hE hS (fun _ h => h.elim) (c_L_share l E (rfPeak σ k) (rfRise (nf σ k 0)) _ (pk_ex hB) (ri_ex hB)) kv_L_share kw21_18 kw21_19 ⟨Nat.le_of_ble_eq_true rfl, Nat.le_of_ble_eq_true rfl⟩ rfl rfl rfl hl.1 rfl (Nat.le_of_ble_eq_true rfl) dL_moves_80 ⟨Nat.zero_le _, Nat.zero_le _⟩) ?_
        refine lv_iadd S.1 S.2.1 dL_moves_83 ?_
        refine lv_istore S.1 S.2.1 dL_moves_84 hl (by decide) rfl (fun ls hl => ?_)
        have hl : lv_has ls 7 [(5, .int ((nf σ k 4) + (rfUp (rfPeak σ k) (rfRise (nf σ k 0))))), (6, .int (nf σ k 3)), (4, .int (rfRest σ k)), (3, .int (rfPeak σ k)), (2, .int (nf σ k 0)), (0, .ref b), (1, .int (nI k))] := hl
        refine lv_iload S.1 S.2.1 dL_moves_86 (lv_at hl 0 rfl) ?_
        refine lv_iload_n S.1 S.2.1 dL_moves_88 rfl (lv_at hl 3 rfl) ?_
        refine lv_icmp_ge (tgt := 97) S.1 S.2.1 dL_moves_89 rfl (fun h32 => ?_) (fun h32 => ?_)
        · skip
          refine lv_iload_n S.1 S.2.1 dL_moves_97 rfl (lv_at hl 3 rfl) ?_
          refine x_top (y := (rfRs σ k)) (mn_1 h32) ?_
          refine lv_istore S.1 S.2.1 dL_moves_98 hl (by decide) rfl (fun ls hl => ?_)
          have hl : lv_has ls 7 [(5, .int (rfRs σ k)), (6, .int (nf σ k 3)), (4, .int (rfRest σ k)), (3, .int (rfPeak σ k)), (2, .int (nf σ k 0)), (0, .ref b), (1, .int (nI k))] := hl
          refine lv_iload S.1 S.2.1 dL_moves_100 (lv_at hl 0 rfl) ?_
          refine lv_iload_n S.1 S.2.1 dL_moves_102 rfl (lv_at hl 3 rfl) ?_
          refine lv_icmp_ne (tgt := 110) S.1 S.2.1 dL_moves_103 rfl (fun h33 => ?_) (fun h33 => ?_)
          · skip
            refine lv_iconst (v := (nI 1)) S.1 S.2.1 dL_moves_110 (by decide) ?_
            refine x_top (y := (if rfRs σ k = rfPeak σ k then nI 2 else nI 1)) (by first | rw [if_pos h33] | rw [if_neg h33]) ?_
            refine lv_istore S.1 S.2.1 dL_moves_111 hl (by decide) rfl (fun ls hl => ?_)
            have hl : lv_has ls 7 [(6, .int (if rfRs σ k = rfPeak σ k then nI 2 else nI 1)), (5, .int (rfRs σ k)), (4, .int (rfRest σ k)), (3, .int (rfPeak σ k)), (2, .int (nf σ k 0)), (0, .ref b), (1, .int (nI k))] := hl
            refine lv_goto (tgt := 275) S.1 S.2.1 dL_moves_113 rfl ?_
            have hl : lv_has ls 7 [(5, .int (nI vv)), (6, .int (nI xx)), (0, .ref b), (1, .int (nI k))] := by rw [← ev, ← ex, (mvp_1 h1).1, (mvp_1 h1).2]; exact lv_sub hl [1, 0, 5, 6] rfl
            exact hj275  _ _ ls  (hc) (hO) (hS) (lv_sub hl [0, 1, 2, 3] rfl)
          · skip
            refine lv_iconst (v := (nI 2)) S.1 S.2.1 dL_moves_106 (by decide) ?_
            refine lv_goto (tgt := 111) S.1 S.2.1 dL_moves_107 rfl ?_
            refine x_top (y := (if rfRs σ k = rfPeak σ k then nI 2 else nI 1)) (by first | rw [if_pos h33] | rw [if_neg h33]) ?_
            refine lv_istore S.1 S.2.1 dL_moves_111 hl (by decide) rfl (fun ls hl => ?_)
            have hl : lv_has ls 7 [(6, .int (if rfRs σ k = rfPeak σ k then nI 2 else nI 1)), (5, .int (rfRs σ k)), (4, .int (rfRest σ k)), (3, .int (rfPeak σ k)), (2, .int (nf σ k 0)), (0, .ref b), (1, .int (nI k))] := hl
            refine lv_goto (tgt := 275) S.1 S.2.1 dL_moves_113 rfl ?_
            have hl : lv_has ls 7 [(5, .int (nI vv)), (6, .int (nI xx)), (0, .ref b), (1, .int (nI k))] := by rw [← ev, ← ex, (mvp_1 h1).1, (mvp_1 h1).2]; exact lv_sub hl [1, 0, 5, 6] rfl
            exact hj275  _ _ ls  (hc) (hO) (hS) (lv_sub hl [0, 1, 2, 3] rfl)
        · skip
          refine lv_iload S.1 S.2.1 dL_moves_92 (lv_at hl 0 rfl) ?_
          refine lv_goto (tgt := 98) S.1 S.2.1 dL_moves_94 rfl ?_
          refine x_top (y := (rfRs σ k)) (mn_2 h32) ?_
          refine lv_istore S.1 S.2.1 dL_moves_98 hl (by decide) rfl (fun ls hl => ?_)
          have hl : lv_has ls 7 [(5, .int (rfRs σ k)), (6, .int (nf σ k 3)), (4, .int (rfRest σ k)), (3, .int (rfPeak σ k)), (2, .int (nf σ k 0)), (0, .ref b), (1, .int (nI k))] := hl
          refine lv_iload S.1 S.2.1 dL_moves_100 (lv_at hl 0 rfl) ?_
          refine lv_iload_n S.1 S.2.1 dL_moves_102 rfl (lv_at hl 3 rfl) ?_
          refine lv_icmp_ne (tgt := 110) S.1 S.2.1 dL_moves_103 rfl (fun h34 => ?_) (fun h34 => ?_)
          · skip
            refine lv_iconst (v := (nI 1)) S.1 S.2.1 dL_moves_110 (by decide) ?_
            refine x_top (y := (if rfRs σ k = rfPeak σ k then nI 2 else nI 1)) (by first | rw [if_pos h34] | rw [if_neg h34]) ?_
            refine lv_istore S.1 S.2.1 dL_moves_111 hl (by decide) rfl (fun ls hl => ?_)
            have hl : lv_has ls 7 [(6, .int (if rfRs σ k = rfPeak σ k then nI 2 else nI 1)), (5, .int (rfRs σ k)), (4, .int (rfRest σ k)), (3, .int (rfPeak σ k)), (2, .int (nf σ k 0)), (0, .ref b), (1, .int (nI k))] := hl
            refine lv_goto (tgt := 275) S.1 S.2.1 dL_moves_113 rfl ?_
            have hl : lv_has ls 7 [(5, .int (nI vv)), (6, .int (nI xx)), (0, .ref b), (1, .int (nI k))] := by rw [← ev, ← ex, (mvp_1 h1).1, (mvp_1 h1).2]; exact lv_sub hl [1, 0, 5, 6] rfl
            exact hj275  _ _ ls  (hc) (hO) (hS) (lv_sub hl [0, 1, 2, 3] rfl)
          · skip
            refine lv_iconst (v := (nI 2)) S.1 S.2.1 dL_moves_106 (by decide) ?_
            refine lv_goto (tgt := 111) S.1 S.2.1 dL_moves_107 rfl ?_
            refine x_top (y := (if rfRs σ k = rfPeak σ k then nI 2 else nI 1)) (by first | rw [if_pos h34] | rw [if_neg h34]) ?_
            refine lv_istore S.1 S.2.1 dL_moves_111 hl (by decide) rfl (fun ls hl => ?_)
            have hl : lv_has ls 7 [(6, .int (if rfRs σ k = rfPeak σ k then nI 2 else nI 1)), (5, .int (rfRs σ k)), (4, .int (rfRest σ k)), (3, .int (rfPeak σ k)), (2, .int (nf σ k 0)), (0, .ref b), (1, .int (nI k))] := hl
            refine lv_goto (tgt := 275) S.1 S.2.1 dL_moves_113 rfl ?_
            have hl : lv_has ls 7 [(5, .int (nI vv)), (6, .int (nI xx)), (0, .ref b), (1, .int (nI k))] := by rw [← ev, ← ex, (mvp_1 h1).1, (mvp_1 h1).2]; exact lv_sub hl [1, 0, 5, 6] rfl
            exact hj275  _ _ ls  (hc) (hO) (hS) (lv_sub hl [0, 1, 2, 3] rfl)
      · skip
        refine lv_bipush (v := (nI 8)) S.1 S.2.1 dL_moves_72 (by decide) ?_
        refine lv_goto (tgt := 80) S.1 S.2.1 dL_moves_74 rfl ?_
        refine x_top (y := (rfRise (nf σ k 0))) (ri_3 h31) ?_
        refine xk_R (v := (rfUp (rfPeak σ k) (rfRise (nf σ k 0)))) (x_runS (As := [.int (rfPeak σ k), .int (rfRise (nf σ k 0))]) (rest := [.int (nf σ k 4)]) S hE hS (fun _ h => h.elim) (c_L_share l E (rfPeak σ k) (rfRise (nf σ k 0)) _ (pk_ex hB) (ri_ex hB)) kv_L_share kw21_18 kw21_19 ⟨Nat.le_of_ble_eq_true rfl, Nat.le_of_ble_eq_true rfl⟩ rfl rfl rfl hl.1 rfl (Nat.le_of_ble_eq_true rfl) dL_moves_80 ⟨Nat.zero_le _, Nat.zero_le _⟩) ?_
        refine lv_iadd S.1 S.2.1 dL_moves_83 ?_
        refine lv_istore S.1 S.2.1 dL_moves_84 hl (by decide) rfl (fun ls hl => ?_)
        have hl : lv_has ls 7 [(5, .int ((nf σ k 4) + (rfUp (rfPeak σ k) (rfRise (nf σ k 0))))), (6, .int (nf σ k 3)), (4, .int (rfRest σ k)), (3, .int (rfPeak σ k)), (2, .int (nf σ k 0)), (0, .ref b), (1, .int (nI k))] := hl
        refine lv_iload S.1 S.2.1 dL_moves_86 (lv_at hl 0 rfl) ?_
        refine lv_iload_n S.1 S.2.1 dL_moves_88 rfl (lv_at hl 3 rfl) ?_
        refine lv_icmp_ge (tgt := 97) S.1 S.2.1 dL_moves_89 rfl (fun h35 => ?_) (fun h35 => ?_)
        · skip
          refine lv_iload_n S.1 S.2.1 dL_moves_97 rfl (lv_at hl 3 rfl) ?_
          refine x_top (y := (rfRs σ k)) (mn_1 h35) ?_
          refine lv_istore S.1 S.2.1 dL_moves_98 hl (by decide) rfl (fun ls hl => ?_)
          have hl : lv_has ls 7 [(5, .int (rfRs σ k)), (6, .int (nf σ k 3)), (4, .int (rfRest σ k)), (3, .int (rfPeak σ k)), (2, .int (nf σ k 0)), (0, .ref b), (1, .int (nI k))] := hl
          refine lv_iload S.1 S.2.1 dL_moves_100 (lv_at hl 0 rfl) ?_
          refine lv_iload_n S.1 S.2.1 dL_moves_102 rfl (lv_at hl 3 rfl) ?_
          refine lv_icmp_ne (tgt := 110) S.1 S.2.1 dL_moves_103 rfl (fun h36 => ?_) (fun h36 => ?_)
          · skip
            refine lv_iconst (v := (nI 1)) S.1 S.2.1 dL_moves_110 (by decide) ?_
            refine x_top (y := (if rfRs σ k = rfPeak σ k then nI 2 else nI 1)) (by first | rw [if_pos h36] | rw [if_neg h36]) ?_
            refine lv_istore S.1 S.2.1 dL_moves_111 hl (by decide) rfl (fun ls hl => ?_)
            have hl : lv_has ls 7 [(6, .int (if rfRs σ k = rfPeak σ k then nI 2 else nI 1)), (5, .int (rfRs σ k)), (4, .int (rfRest σ k)), (3, .int (rfPeak σ k)), (2, .int (nf σ k 0)), (0, .ref b), (1, .int (nI k))] := hl
            refine lv_goto (tgt := 275) S.1 S.2.1 dL_moves_113 rfl ?_
            have hl : lv_has ls 7 [(5, .int (nI vv)), (6, .int (nI xx)), (0, .ref b), (1, .int (nI k))] := by rw [← ev, ← ex, (mvp_1 h1).1, (mvp_1 h1).2]; exact lv_sub hl [1, 0, 5, 6] rfl
            exact hj275  _ _ ls  (hc) (hO) (hS) (lv_sub hl [0, 1, 2, 3] rfl)
          · skip
            refine lv_iconst (v := (nI 2)) S.1 S.2.1 dL_moves_106 (by decide) ?_
            refine lv_goto (tgt := 111) S.1 S.2.1 dL_moves_107 rfl ?_
            refine x_top (y := (if rfRs σ k = rfPeak σ k then nI 2 else nI 1)) (by first | rw [if_pos h36] | rw [if_neg h36]) ?_
            refine lv_istore S.1 S.2.1 dL_moves_111 hl (by decide) rfl (fun ls hl => ?_)
            have hl : lv_has ls 7 [(6, .int (if rfRs σ k = rfPeak σ k then nI 2 else nI 1)), (5, .int (rfRs σ k)), (4, .int (rfRest σ k)), (3, .int (rfPeak σ k)), (2, .int (nf σ k 0)), (0, .ref b), (1, .int (nI k))] := hl
            refine lv_goto (tgt := 275) S.1 S.2.1 dL_moves_113 rfl ?_
            have hl : lv_has ls 7 [(5, .int (nI vv)), (6, .int (nI xx)), (0, .ref b), (1, .int (nI k))] := by rw [← ev, ← ex, (mvp_1 h1).1, (mvp_1 h1).2]; exact lv_sub hl [1, 0, 5, 6] rfl
            exact hj275  _ _ ls  (hc) (hO) (hS) (lv_sub hl [0, 1, 2, 3] rfl)
        · skip
          refine lv_iload S.1 S.2.1 dL_moves_92 (lv_at hl 0 rfl) ?_
          refine lv_goto (tgt := 98) S.1 S.2.1 dL_moves_94 rfl ?_
          refine x_top (y := (rfRs σ k)) (mn_2 h35) ?_
          refine lv_istore S.1 S.2.1 dL_moves_98 hl (by decide) rfl (fun ls hl => ?_)
          have hl : lv_has ls 7 [(5, .int (rfRs σ k)), (6, .int (nf σ k 3)), (4, .int (rfRest σ k)), (3, .int (rfPeak σ k)), (2, .int (nf σ k 0)), (0, .ref b), (1, .int (nI k))] := hl
          refine lv_iload S.1 S.2.1 dL_moves_100 (lv_at hl 0 rfl) ?_
          refine lv_iload_n S.1 S.2.1 dL_moves_102 rfl (lv_at hl 3 rfl) ?_
          refine lv_icmp_ne (tgt := 110) S.1 S.2.1 dL_moves_103 rfl (fun h37 => ?_) (fun h37 => ?_)
          · skip
            refine lv_iconst (v := (nI 1)) S.1 S.2.1 dL_moves_110 (by decide) ?_
            refine x_top (y := (if rfRs σ k = rfPeak σ k then nI 2 else nI 1)) (by first | rw [if_pos h37] | rw [if_neg h37]) ?_
            refine lv_istore S.1 S.2.1 dL_moves_111 hl (by decide) rfl (fun ls hl => ?_)
            have hl : lv_has ls 7 [(6, .int (if rfRs σ k = rfPeak σ k then nI 2 else nI 1)), (5, .int (rfRs σ k)), (4, .int (rfRest σ k)), (3, .int (rfPeak σ k)), (2, .int (nf σ k 0)), (0, .ref b), (1, .int (nI k))] := hl
            refine lv_goto (tgt := 275) S.1 S.2.1 dL_moves_113 rfl ?_
            have hl : lv_has ls 7 [(5, .int (nI vv)), (6, .int (nI xx)), (0, .ref b), (1, .int (nI k))] := by rw [← ev, ← ex, (mvp_1 h1).1, (mvp_1 h1).2]; exact lv_sub hl [1, 0, 5, 6] rfl
            exact hj275  _ _ ls  (hc) (hO) (hS) (lv_sub hl [0, 1, 2, 3] rfl)
          · skip
            refine lv_iconst (v := (nI 2)) S.1 S.2.1 dL_moves_106 (by decide) ?_
            refine lv_goto (tgt := 111) S.1 S.2.1 dL_moves_107 rfl ?_
            refine x_top (y := (if rfRs σ k = rfPeak σ k then nI 2 else nI 1)) (by first | rw [if_pos h37] | rw [if_neg h37]) ?_
            refine lv_istore S.1 S.2.1 dL_moves_111 hl (by decide) rfl (fun ls hl => ?_)
            have hl : lv_has ls 7 [(6, .int (if rfRs σ k = rfPeak σ k then nI 2 else nI 1)), (5, .int (rfRs σ k)), (4, .int (rfRest σ k)), (3, .int (rfPeak σ k)), (2, .int (nf σ k 0)), (0, .ref b), (1, .int (nI k))] := hl
            refine lv_goto (tgt := 275) S.1 S.2.1 dL_moves_113 rfl ?_
            have hl : lv_has ls 7 [(5, .int (nI vv)), (6, .int (nI xx)), (0, .ref b), (1, .int (nI k))] := by rw [← ev, ← ex, (mvp_1 h1).1, (mvp_1 h1).2]; exact lv_sub hl [1, 0, 5, 6] rfl
            exact hj275  _ _ ls  (hc) (hO) (hS) (lv_sub hl [0, 1, 2, 3] rfl)
    · skip
      refine lv_iconst (v := (nI 2)) S.1 S.2.1 dL_moves_63 (by decide) ?_
      refine lv_goto (tgt := 80) S.1 S.2.1 dL_moves_64 rfl ?_
      refine x_top (y := (rfRise (nf σ k 0))) (ri_0 h30) ?_
      refine xk_R (v := (rfUp (rfPeak σ k) (rfRise (nf σ k 0)))) (x_runS (As := [.int (rfPeak σ k), .int (rfRise (nf σ k 0))]) (rest := [.int (nf σ k 4)]) S hE hS (fun _ h => h.elim) (c_L_share l E (rfPeak σ k) (rfRise (nf σ k 0)) _ (pk_ex hB) (ri_ex hB)) kv_L_share kw21_18 kw21_19 ⟨Nat.le_of_ble_eq_true rfl, Nat.le_of_ble_eq_true rfl⟩ rfl rfl rfl hl.1 rfl (Nat.le_of_ble_eq_true rfl) dL_moves_80 ⟨Nat.zero_le _, Nat.zero_le _⟩) ?_
      refine lv_iadd S.1 S.2.1 dL_moves_83 ?_
      refine lv_istore S.1 S.2.1 dL_moves_84 hl (by decide) rfl (fun ls hl => ?_)
      have hl : lv_has ls 7 [(5, .int ((nf σ k 4) + (rfUp (rfPeak σ k) (rfRise (nf σ k 0))))), (6, .int (nf σ k 3)), (4, .int (rfRest σ k)), (3, .int (rfPeak σ k)), (2, .int (nf σ k 0)), (0, .ref b), (1, .int (nI k))] := hl
      refine lv_iload S.1 S.2.1 dL_moves_86 (lv_at hl 0 rfl) ?_
      refine lv_iload_n S.1 S.2.1 dL_moves_88 rfl (lv_at hl 3 rfl) ?_
      refine lv_icmp_ge (tgt := 97) S.1 S.2.1 dL_moves_89 rfl (fun h38 => ?_) (fun h38 => ?_)
      · skip
        refine lv_iload_n S.1 S.2.1 dL_moves_97 rfl (lv_at hl 3 rfl) ?_
        refine x_top (y := (rfRs σ k)) (mn_1 h38) ?_
        refine lv_istore S.1 S.2.1 dL_moves_98 hl (by decide) rfl (fun ls hl => ?_)
        have hl : lv_has ls 7 [(5, .int (rfRs σ k)), (6, .int (nf σ k 3)), (4, .int (rfRest σ k)), (3, .int (rfPeak σ k)), (2, .int (nf σ k 0)), (0, .ref b), (1, .int (nI k))] := hl
        refine lv_iload S.1 S.2.1 dL_moves_100 (lv_at hl 0 rfl) ?_
        refine lv_iload_n S.1 S.2.1 dL_moves_102 rfl (lv_at hl 3 rfl) ?_
        refine lv_icmp_ne (tgt := 110) S.1 S.2.1 dL_moves_103 rfl (fun h39 => ?_) (fun h39 => ?_)
        · skip
          refine lv_iconst (v := (nI 1)) S.1 S.2.1 dL_moves_110 (by decide) ?_
          refine x_top (y := (if rfRs σ k = rfPeak σ k then nI 2 else nI 1)) (by first | rw [if_pos h39] | rw [if_neg h39]) ?_
          refine lv_istore S.1 S.2.1 dL_moves_111 hl (by decide) rfl (fun ls hl => ?_)
          have hl : lv_has ls 7 [(6, .int (if rfRs σ k = rfPeak σ k then nI 2 else nI 1)), (5, .int (rfRs σ k)), (4, .int (rfRest σ k)), (3, .int (rfPeak σ k)), (2, .int (nf σ k 0)), (0, .ref b), (1, .int (nI k))] := hl
          refine lv_goto (tgt := 275) S.1 S.2.1 dL_moves_113 rfl ?_
          have hl : lv_has ls 7 [(5, .int (nI vv)), (6, .int (nI xx)), (0, .ref b), (1, .int (nI k))] := by rw [← ev, ← ex, (mvp_1 h1).1, (mvp_1 h1).2]; exact lv_sub hl [1, 0, 5, 6] rfl
          exact hj275  _ _ ls  (hc) (hO) (hS) (lv_sub hl [0, 1, 2, 3] rfl)
        · skip
          refine lv_iconst (v := (nI 2)) S.1 S.2.1 dL_moves_106 (by decide) ?_
          refine lv_goto (tgt := 111) S.1 S.2.1 dL_moves_107 rfl ?_
          refine x_top (y := (if rfRs σ k = rfPeak σ k then nI 2 else nI 1)) (by first | rw [if_pos h39] | rw [if_neg h39]) ?_
          refine lv_istore S.1 S.2.1 dL_moves_111 hl (by decide) rfl (fun ls hl => ?_)
          have hl : lv_has ls 7 [(6, .int (if rfRs σ k = rfPeak σ k then nI 2 else nI 1)), (5, .int (rfRs σ k)), (4, .int (rfRest σ k)), (3, .int (rfPeak σ k)), (2, .int (nf σ k 0)), (0, .ref b), (1, .int (nI k))] := hl
          refine lv_goto (tgt := 275) S.1 S.2.1 dL_moves_113 rfl ?_
          have hl : lv_has ls 7 [(5, .int (nI vv)), (6, .int (nI xx)), (0, .ref b), (1, .int (nI k))] := by rw [← ev, ← ex, (mvp_1 h1).1, (mvp_1 h1).2]; exact lv_sub hl [1, 0, 5, 6] rfl
          exact hj275  _ _ ls  (hc) (hO) (hS) (lv_sub hl [0, 1, 2, 3] rfl)
      · skip
        refine lv_iload S.1 S.2.1 dL_moves_92 (lv_at hl 0 rfl) ?_
        refine lv_goto (tgt := 98) S.1 S.2.1 dL_moves_94 rfl ?_
        refine x_top (y := (rfRs σ k)) (mn_2 h38) ?_
        refine lv_istore S.1 S.2.1 dL_moves_98 hl (by decide) rfl (fun ls hl => ?_)
        have hl : lv_has ls 7 [(5, .int (rfRs σ k)), (6, .int (nf σ k 3)), (4, .int (rfRest σ k)), (3, .int (rfPeak σ k)), (2, .int (nf σ k 0)), (0, .ref b), (1, .int (nI k))] := hl
        refine lv_iload S.1 S.2.1 dL_moves_100 (lv_at hl 0 rfl) ?_
        refine lv_iload_n S.1 S.2.1 dL_moves_102 rfl (lv_at hl 3 rfl) ?_
        refine lv_icmp_ne (tgt := 110) S.1 S.2.1 dL_moves_103 rfl (fun h40 => ?_) (fun h40 => ?_)
        · skip
          refine lv_iconst (v := (nI 1)) S.1 S.2.1 dL_moves_110 (by decide) ?_
          refine x_top (y := (if rfRs σ k = rfPeak σ k then nI 2 else nI 1)) (by first | rw [if_pos h40] | rw [if_neg h40]) ?_
          refine lv_istore S.1 S.2.1 dL_moves_111 hl (by decide) rfl (fun ls hl => ?_)
          have hl : lv_has ls 7 [(6, .int (if rfRs σ k = rfPeak σ k then nI 2 else nI 1)), (5, .int (rfRs σ k)), (4, .int (rfRest σ k)), (3, .int (rfPeak σ k)), (2, .int (nf σ k 0)), (0, .ref b), (1, .int (nI k))] := hl
          refine lv_goto (tgt := 275) S.1 S.2.1 dL_moves_113 rfl ?_
          have hl : lv_has ls 7 [(5, .int (nI vv)), (6, .int (nI xx)), (0, .ref b), (1, .int (nI k))] := by rw [← ev, ← ex, (mvp_1 h1).1, (mvp_1 h1).2]; exact lv_sub hl [1, 0, 5, 6] rfl
          exact hj275  _ _ ls  (hc) (hO) (hS) (lv_sub hl [0, 1, 2, 3] rfl)
        · skip
          refine lv_iconst (v := (nI 2)) S.1 S.2.1 dL_moves_106 (by decide) ?_
          refine lv_goto (tgt := 111) S.1 S.2.1 dL_moves_107 rfl ?_
          refine x_top (y := (if rfRs σ k = rfPeak σ k then nI 2 else nI 1)) (by first | rw [if_pos h40] | rw [if_neg h40]) ?_
          refine lv_istore S.1 S.2.1 dL_moves_111 hl (by decide) rfl (fun ls hl => ?_)
          have hl : lv_has ls 7 [(6, .int (if rfRs σ k = rfPeak σ k then nI 2 else nI 1)), (5, .int (rfRs σ k)), (4, .int (rfRest σ k)), (3, .int (rfPeak σ k)), (2, .int (nf σ k 0)), (0, .ref b), (1, .int (nI k))] := hl
          refine lv_goto (tgt := 275) S.1 S.2.1 dL_moves_113 rfl ?_
          have hl : lv_has ls 7 [(5, .int (nI vv)), (6, .int (nI xx)), (0, .ref b), (1, .int (nI k))] := by rw [← ev, ← ex, (mvp_1 h1).1, (mvp_1 h1).2]; exact lv_sub hl [1, 0, 5, 6] rfl
          exact hj275  _ _ ls  (hc) (hO) (hS) (lv_sub hl [0, 1, 2, 3] rfl)
abbrev rm_L_lifts : Room := ({ frames := 3, cells := 0, slots := 0, locals := 66 } : Room)
set_option maxRecDepth 100000 in
set_option maxHeartbeats 600000 in
theorem c_L_lifts (l : Launch) (E : XE) (a b n : Nat) (σ : Nat → Int32) (H : Heap) (hEL : EL E) (hab : ¬ a = b) (hL : LwP E a b σ H) (h0 : σ 0 = nI n) (hn : n ≤ 64) (hm : MK n σ) : Wr l E yL_lifts cL_lifts 4 (some .int) rm_L_lifts [.ref a, .ref b] H (fun q => q = a ∨ q = b) (fun v H1 => v = (rfLN σ n).2 ∧ LwP E a b (rfLN σ n).1 H1) := by
  refine met_of (by decide) (Nat.le_of_ble_eq_true rfl) (fun p e s m args below meth c hBD Q hQ ls hl => ?_)
  obtain ⟨S, hr, hlk, hnm, hE, hH⟩ := hBD
  subst hH
  have hl : lv_has ls 4 [(0, .ref a), (1, .ref b)] := hl
  have hO : Out (fun q => q = a ∨ q = b) s.heap s.heap := Out.rf
  have hS : va_S (fun q => q = a ∨ q = b) s.heap s.heap [] := va_S.rf
  obtain ⟨hg, κ, hc, hU⟩ := hL
  refine lv_iconst (v := (nI 0)) S.1 S.2.1 dL_lifts_0 (by decide) ?_
  refine lv_istore_n S.1 S.2.1 dL_lifts_1 rfl hl (by decide) rfl (fun ls hl => ?_)
  have hl : lv_has ls 4 [(2, .int (nI 0)), (0, .ref a), (1, .ref b)] := hl
  refine lv_aload_n S.1 S.2.1 dL_lifts_2 rfl (lv_at hl 1 rfl) ?_
  refine lv_iconst (v := (nI 2)) S.1 S.2.1 dL_lifts_3 (by decide) ?_
  refine lv_iconst (v := (nI 0)) S.1 S.2.1 dL_lifts_4 (by decide) ?_
  refine x_iast S hE hS (Or.inl rfl) (hg) 2 rfl (by decide) (by decide) dL_lifts_5 (fun H locs hX hO1 hS => ?_)
  have hO := hO.tr hO1 (fun q z => Or.inl z)
  have hg := hX
  have hc := va_at.kept hc (hO1.2 b (fun z => hab z.symm))
  refine lv_iconst (v := (nI 0)) S.1 S.2.1 dL_lifts_6 (by decide) ?_
  refine lv_istore_n S.1 S.2.1 dL_lifts_7 rfl hl (by decide) rfl (fun ls hl => ?_)
  have hl : lv_has ls 4 [(3, .int (nI 0)), (2, .int (nI 0)), (0, .ref a), (1, .ref b)] := hl
  have hloop8 : ∀ (d : Nat) (i : Nat) (H : Heap) (locs : List Loc) (ls : Array Slot), n - i = d → i ≤ n → LwP E a b ((rfLN σ i).1) H → Out (fun q => q = a ∨ q = b) s.heap H → va_S (fun q => q = a ∨ q = b) s.heap H locs → lv_has ls 4 [(2, .int (rfLN σ i).2), (3, .int (nI i)), (0, .ref a), (1, .ref b)] → W p l e rm_L_lifts s m args below meth c H locs 0 0 Q (F0 m 8 ls []) := by
    intro d
    induction d using Nat.strongRecOn with
    | ind d ih =>
      intro i H locs ls hd hi hL hO hS hl
      obtain ⟨hg, κ, hc, hU⟩ := hL
      refine lv_iload_n S.1 S.2.1 dL_lifts_8 rfl (lv_at hl 1 rfl) ?_
      refine lv_aload_n S.1 S.2.1 dL_lifts_9 rfl (lv_at hl 2 rfl) ?_
      refine lv_iconst (v := (nI 0)) S.1 S.2.1 dL_lifts_10 (by decide) ?_
      refine x_iald S hE (hg) 0 rfl (by decide) (by decide) dL_lifts_11 ?_
      refine x_top (y := (nI n)) ((rfLN_0 (by omega) (by omega)).trans h0) ?_
      refine lv_icmp_ge (tgt := 43) S.1 S.2.1 dL_lifts_12 rfl (fun h1 => ?_) (fun h1 => ?_)
      · skip
        refine lv_iload_n S.1 S.2.1 dL_lifts_43 rfl (lv_at hl 0 rfl) ?_
        subst hQ
        refine x_retW S hr hlk (rfl) hS hO ?_ dL_lifts_44
        exact by have e : i = n := (by have := ge_of_le (by omega) (by omega) h1; omega); subst e; exact ⟨rfl, hg, κ, hc, hU⟩
      · skip
        have hlt := lt_of_nle (by omega) (by omega) h1
        refine lv_aload_n S.1 S.2.1 dL_lifts_15 rfl (lv_at hl 3 rfl) ?_
        refine lv_iload_n S.1 S.2.1 dL_lifts_16 rfl (lv_at hl 1 rfl) ?_
        refine x_lald S hE hEL (hc) i rfl (by omega) (by decide) dL_lifts_17 ?_
        refine lv_bipush (v := (nI 41)) S.1 S.2.1 dL_lifts_18 (by decide) ?_
        refine lv_iconst (v := (nI 1)) S.1 S.2.1 dL_lifts_20 (by decide) ?_
        refine xk_R (v := (lwG (κ i) (nI 41) (nI 1))) (x_runS (As := [.long (κ i), .int (nI 41), .int (nI 1)]) (rest := []) S hE hS (fun _ h => h.elim) (c_L_get l E (κ i) (nI 41) (nI 1) _) kv_L_get kw7_12 kw7_13 ⟨Nat.le_of_ble_eq_true rfl, Nat.le_of_ble_eq_true rfl⟩ rfl rfl rfl hl.1 rfl (Nat.le_of_ble_eq_true rfl) dL_lifts_21 ⟨Nat.zero_le _, Nat.zero_le _⟩) ?_
        refine x_top (y := (nf (rfLN σ i).1 i 6)) ((lwG_eq _ (by decide) (by decide)).trans ((hU i 6 (by omega) (by decide)).symm)) ?_
        refine lv_iconst (v := (nI 1)) S.1 S.2.1 dL_lifts_24 (by decide) ?_
        refine lv_icmp_ne (tgt := 37) S.1 S.2.1 dL_lifts_25 rfl (fun h2 => ?_) (fun h2 => ?_)
        · skip
          refine lv_iinc (k := 1) (v := (nI (i + 1))) S.1 S.2.1 dL_lifts_37 hl rfl (iincP i 1) (by decide) rfl (fun ls hl => ?_)
          have hl : lv_has ls 4 [(3, .int (nI (i + 1))), (2, .int (rfLN σ i).2), (0, .ref a), (1, .ref b)] := hl
          refine lv_goto (tgt := 8) S.1 S.2.1 dL_lifts_40 rfl ?_
          have e := @ln_no σ i h2
          have hl : lv_has ls 4 [(2, .int (rfLN σ (i + 1)).2), (3, .int (nI (i + 1))), (0, .ref a), (1, .ref b)] := by
            rw [show (rfLN σ (i + 1)).2 = (rfLN σ i).2 from by rw [e]]
            exact lv_sub hl [1, 0, 2, 3] rfl
          exact ih _ (by omega) (i + 1) _ _ ls rfl (by omega) (by rw [e]; exact ⟨hg, κ, hc, hU⟩) (hO) (hS) (lv_sub hl [0, 1, 2, 3] rfl)
        · skip
          refine lv_aload_n S.1 S.2.1 dL_lifts_28 rfl (lv_at hl 3 rfl) ?_
          refine lv_iload_n S.1 S.2.1 dL_lifts_29 rfl (lv_at hl 1 rfl) ?_
          refine lv_iconst (v := (nI 4)) S.1 S.2.1 dL_lifts_30 (by decide) ?_
          refine xk_V (x_runS (As := [.ref b, .int (nI i), .int (nI 4)]) (rest := []) S hE hS (fun _ h => Or.inr h) (c_L_fades l E b i 4 (rfLN σ i).1 _ hEL ⟨κ, hc, hU⟩ (by omega) (by decide)) kv_L_fades kw19_21 kw19_22 ⟨Nat.le_of_ble_eq_true rfl, Nat.le_of_ble_eq_true rfl⟩ rfl rfl rfl hl.1 rfl (Nat.le_of_ble_eq_true rfl) dL_lifts_31 ⟨Nat.zero_le _, Nat.zero_le _⟩) hS (fun _ h => Or.inr h) (fun H locs hX hO1 hS => ?_)
          have hO := hO.tr hO1 (fun q z => Or.inr z)
          have hg := va_at.kept hg (hO1.2 a hab)
          obtain ⟨κ, hc, hU⟩ := hX
          refine lv_iinc (k := 0) (v := ((rfLN σ i).2 + nI 1)) S.1 S.2.1 dL_lifts_34 hl rfl (rfl) (by decide) rfl (fun ls hl => ?_)
          have hl : lv_has ls 4 [(2, .int ((rfLN σ i).2 + nI 1)), (3, .int (nI i)), (0, .ref a), (1, .ref b)] := hl
          refine lv_iinc (k := 1) (v := (nI (i + 1))) S.1 S.2.1 dL_lifts_37 hl rfl (iincP i 1) (by decide) rfl (fun ls hl => ?_)
          have hl : lv_has ls 4 [(3, .int (nI (i + 1))), (2, .int ((rfLN σ i).2 + nI 1)), (0, .ref a), (1, .ref b)] := hl
          refine lv_goto (tgt := 8) S.1 S.2.1 dL_lifts_40 rfl ?_
          have e := ln_yes hm hlt h2
          have hl : lv_has ls 4 [(2, .int (rfLN σ (i + 1)).2), (3, .int (nI (i + 1))), (0, .ref a), (1, .ref b)] := by
            rw [show (rfLN σ (i + 1)).2 = ((rfLN σ i).2 + nI 1) from by rw [e]]
            exact lv_sub hl [1, 0, 2, 3] rfl
          exact ih _ (by omega) (i + 1) _ _ ls rfl (by omega) (by rw [e]; exact ⟨xi_ext hg (fun j hj => (rfFades_0 (by omega)).symm), κ, hc, fun j w hj hw => (fe_fd hw).trans (hU j w hj hw)⟩) (hO) (hS) (lv_sub hl [0, 1, 2, 3] rfl)
  exact hloop8 _ 0 _ _ ls rfl (Nat.zero_le _) (⟨hg, κ, hc, fun j w hj hw => (nf_lo (by omega)).trans (hU j w hj hw)⟩) (hO) (hS) (lv_sub hl [1, 0, 2, 3] rfl)
abbrev rm_L_tick : Room := ({ frames := 4, cells := 0, slots := 0, locals := 89 } : Room)
set_option maxRecDepth 100000 in
set_option maxHeartbeats 600000 in
theorem c_L_tick (l : Launch) (E : XE) (a b n : Nat) (σ : Nat → Int32) (H : Heap) (hEL : EL E) (hab : ¬ a = b) (hL : LwP E a b σ H) (h0 : σ 0 = nI n) (hn : n ≤ 64) (hB : ∀ k, k < n → NB σ k) (hUq : UQ n σ) (hS5 : ∃ S, σ 5 = nI S ∧ S + n < 65536) : Wv l E yL_tick cL_tick 4 rm_L_tick [.ref a, .ref b] H (fun q => q = a ∨ q = b) (fun H1 => LwP E a b (rfTick σ n) H1) := by
  refine met_of (by decide) (Nat.le_of_ble_eq_true rfl) (fun p e s m args below meth c hBD Q hQ ls hl => ?_)
  obtain ⟨S, hr, hlk, hnm, hE, hH⟩ := hBD
  subst hH
  have hl : lv_has ls 4 [(0, .ref a), (1, .ref b)] := hl
  have hO : Out (fun q => q = a ∨ q = b) s.heap s.heap := Out.rf
  have hS : va_S (fun q => q = a ∨ q = b) s.heap s.heap [] := va_S.rf
  obtain ⟨hg, κ, hc, hU⟩ := hL
  refine lv_aload_n S.1 S.2.1 dL_tick_0 rfl (lv_at hl 0 rfl) ?_
  refine lv_iconst (v := (nI 1)) S.1 S.2.1 dL_tick_1 (by decide) ?_
  refine lv_dup2_11 S.1 S.2.1 dL_tick_2 rfl rfl ?_
  refine x_iald S hE (hg) 1 rfl (by decide) (by decide) dL_tick_3 ?_
  refine lv_iconst (v := (nI 1)) S.1 S.2.1 dL_tick_4 (by decide) ?_
  refine lv_iadd S.1 S.2.1 dL_tick_5 ?_
  refine x_iast S hE hS (Or.inl rfl) (hg) 1 rfl (by decide) (by decide) dL_tick_6 (fun H locs hX hO1 hS => ?_)
  have hO := hO.tr hO1 (fun q z => Or.inl z)
  have hg := hX
  have hc := va_at.kept hc (hO1.2 b (fun z => hab z.symm))
  refine lv_iconst (v := (nI 0)) S.1 S.2.1 dL_tick_7 (by decide) ?_
  refine lv_istore_n S.1 S.2.1 dL_tick_8 rfl hl (by decide) rfl (fun ls hl => ?_)
  have hl : lv_has ls 4 [(2, .int (nI 0)), (0, .ref a), (1, .ref b)] := hl
  have hloop9 : ∀ (d : Nat) (i : Nat) (H : Heap) (locs : List Loc) (ls : Array Slot), n - i = d → i ≤ n → LwP E a b (rfMvN σ i) H → Out (fun q => q = a ∨ q = b) s.heap H → va_S (fun q => q = a ∨ q = b) s.heap H locs → lv_has ls 4 [(2, .int (nI i)), (0, .ref a), (1, .ref b)] → W p l e rm_L_tick s m args below meth c H locs 0 0 Q (F0 m 9 ls []) := by
    intro d
    induction d using Nat.strongRecOn with
    | ind d ih =>
      intro i H locs ls hd hi hL hO hS hl
      obtain ⟨hg, κ, hc, hU⟩ := hL
      refine lv_iload_n S.1 S.2.1 dL_tick_9 rfl (lv_at hl 0 rfl) ?_
      refine lv_aload_n S.1 S.2.1 dL_tick_10 rfl (lv_at hl 1 rfl) ?_
      refine lv_iconst (v := (nI 0)) S.1 S.2.1 dL_tick_11 (by decide) ?_
      refine x_iald S hE (hg) 0 rfl (by decide) (by decide) dL_tick_12 ?_
      refine x_top (y := (nI n)) ((rfMvN_0 (by omega) (by omega)).trans h0) ?_
      refine lv_icmp_ge (tgt := 47) S.1 S.2.1 dL_tick_13 rfl (fun h1 => ?_) (fun h1 => ?_)
      · skip
        refine lv_iconst (v := (nI 0)) S.1 S.2.1 dL_tick_47 (by decide) ?_
        refine lv_istore_n S.1 S.2.1 dL_tick_48 rfl hl (by decide) rfl (fun ls hl => ?_)
        have hl : lv_has ls 4 [(2, .int (nI 0)), (0, .ref a), (1, .ref b)] := hl
        have hloop49 : ∀ (d : Nat) (i : Nat) (τ : Nat → Int32) (H : Heap) (locs : List Loc) (ls : Array Slot), n - i = d → i ≤ n → TI n i σ τ → LwP E a b (τ) H → Out (fun q => q = a ∨ q = b) s.heap H → va_S (fun q => q = a ∨ q = b) s.heap H locs → lv_has ls 4 [(2, .int (nI i)), (0, .ref a), (1, .ref b)] → W p l e rm_L_tick s m args below meth c H locs 0 0 Q (F0 m 49 ls []) := by
          intro d
          induction d using Nat.strongRecOn with
          | ind d ih =>
            intro i τ H locs ls hd hi hT hL hO hS hl
            obtain ⟨hg, κ, hc, hU⟩ := hL
            obtain ⟨T1, T2, T3, T4, sv, T5, T6⟩ := id hT
            have h0 := T4
            refine lv_iload_n S.1 S.2.1 dL_tick_49 rfl (lv_at hl 0 rfl) ?_
            refine lv_aload_n S.1 S.2.1 dL_tick_50 rfl (lv_at hl 1 rfl) ?_
            refine lv_iconst (v := (nI 0)) S.1 S.2.1 dL_tick_51 (by decide) ?_
            refine x_iald S hE (hg) 0 rfl (by decide) (by decide) dL_tick_52 ?_
            refine x_top (y := (nI n)) (T4) ?_
            refine lv_icmp_ge (tgt := 166) S.1 S.2.1 dL_tick_53 rfl (fun h2 => ?_) (fun h2 => ?_)
            · skip
              subst hQ
              refine x_retV S hr hlk hS hO ?_ dL_tick_166
              exact by rw [← ti_end hT (ge_of_le (by omega) (by omega) h2)]; exact ⟨hg, κ, hc, hU⟩
            · skip
              have hlt := lt_of_nle (by omega) (by omega) h2
              refine lv_aload_n S.1 S.2.1 dL_tick_56 rfl (lv_at hl 2 rfl) ?_
              refine lv_iload_n S.1 S.2.1 dL_tick_57 rfl (lv_at hl 0 rfl) ?_
              refine x_lald S hE hEL (hc) i rfl (by omega) (by decide) dL_tick_58 ?_
              refine xk_R (v := (fld 3 (κ i))) (x_runS (As := [.long (κ i)]) (rest := []) S hE hS (fun _ h => h.elim) (c_L_is l E (κ i) _) kv_L_is kw7_9 kw7_10 ⟨Nat.le_of_ble_eq_true rfl, Nat.le_of_ble_eq_true rfl⟩ rfl rfl rfl hl.1 rfl (Nat.le_of_ble_eq_true rfl) dL_tick_59 ⟨Nat.zero_le _, Nat.zero_le _⟩) ?_
              refine x_top (y := (nf τ i 3)) ((hU i 3 (by omega) (by decide)).symm) ?_
              refine lv_if_ne (tgt := 160) S.1 S.2.1 dL_tick_62 rfl (fun h3 => ?_) (fun h3 => ?_)
              · skip
                refine lv_iinc (k := 0) (v := (nI (i + 1))) S.1 S.2.1 dL_tick_160 hl rfl (iincP i 1) (by decide) rfl (fun ls hl => ?_)
                have hl : lv_has ls 4 [(2, .int (nI (i + 1))), (0, .ref a), (1, .ref b)] := hl
                refine lv_goto (tgt := 49) S.1 S.2.1 dL_tick_163 rfl ?_
                exact ih _ (by omega) (i + 1) τ _ _ ls rfl (by omega) (ti_skip hT hlt (h3)) (⟨hg, κ, hc, hU⟩) (hO) (hS) (lv_sub hl [0, 1, 2] rfl)
              · skip
                refine lv_aload_n S.1 S.2.1 dL_tick_65 rfl (lv_at hl 1 rfl) ?_
                refine lv_aload_n S.1 S.2.1 dL_tick_66 rfl (lv_at hl 2 rfl) ?_
                refine lv_aload_n S.1 S.2.1 dL_tick_67 rfl (lv_at hl 2 rfl) ?_
                refine lv_iload_n S.1 S.2.1 dL_tick_68 rfl (lv_at hl 0 rfl) ?_
                refine x_lald S hE hEL (hc) i rfl (by omega) (by decide) dL_tick_69 ?_
                refine lv_iconst (v := (nI 0)) S.1 S.2.1 dL_tick_70 (by decide) ?_
                refine lv_iconst (v := (nI 2)) S.1 S.2.1 dL_tick_71 (by decide) ?_
                refine xk_R (v := (lwG (κ i) (nI 0) (nI 2))) (x_runS (As := [.long (κ i), .int (nI 0), .int (nI 2)]) (rest := [.ref b, .ref a]) S hE hS (fun _ h => h.elim) (c_L_get l E (κ i) (nI 0) (nI 2) _) kv_L_get kw7_12 kw7_13 ⟨Nat.le_of_ble_eq_true rfl, Nat.le_of_ble_eq_true rfl⟩ rfl rfl rfl hl.1 rfl (Nat.le_of_ble_eq_true rfl) dL_tick_72 ⟨Nat.zero_le _, Nat.zero_le _⟩) ?_
                refine x_top (y := (nf τ i 0)) ((lwG_eq _ (by decide) (by decide)).trans ((hU i 0 (by omega) (by decide)).symm)) ?_
                refine lv_aload_n S.1 S.2.1 dL_tick_75 rfl (lv_at hl 2 rfl) ?_
                refine lv_iload_n S.1 S.2.1 dL_tick_76 rfl (lv_at hl 0 rfl) ?_
                refine x_lald S hE hEL (hc) i rfl (by omega) (by decide) dL_tick_77 ?_
                refine lv_iconst (v := (nI 2)) S.1 S.2.1 dL_tick_78 (by decide) ?_
                refine lv_bipush (v := (nI 7)) S.1 S.2.1 dL_tick_79 (by decide) ?_
                refine xk_R (v := (lwG (κ i) (nI 2) (nI 7))) (x_runS (As := [.long (κ i), .int (nI 2), .int (nI 7)]) (rest := [.int (nf τ i 0), .ref b, .ref a]) S hE hS (fun _ h => h.elim) (c_L_get l E (κ i) (nI 2) (nI 7) _) kv_L_get kw7_12 kw7_13 ⟨Nat.le_of_ble_eq_true rfl, Nat.le_of_ble_eq_true rfl⟩ rfl rfl rfl hl.1 rfl (Nat.le_of_ble_eq_true rfl) dL_tick_81 ⟨Nat.zero_le _, Nat.zero_le _⟩) ?_
                refine x_top (y := (nf τ i 1)) ((lwG_eq _ (by decide) (by decide)).trans ((hU i 1 (by omega) (by decide)).symm)) ?_
                refine xk_R (v := (oi (lwV τ (nf τ i 0) (nf τ i 1) n 0))) (x_runS (As := [.ref a, .ref b, .int (nf τ i 0), .int (nf τ i 1)]) (rest := []) S hE hS (fun _ h => h.elim) (c_L_voice l E a b n τ (nf τ i 0) (nf τ i 1) _ hEL ⟨hg, κ, hc, hU⟩ h0 hn (fb_U hn hU i hlt 0 (by decide)) (fb_U hn hU i hlt 1 (by decide))) kv_L_voice kw10_22 kw10_23 ⟨Nat.le_of_ble_eq_true rfl, Nat.le_of_ble_eq_true rfl⟩ rfl rfl rfl hl.1 rfl (Nat.le_of_ble_eq_true rfl) dL_tick_84 ⟨Nat.zero_le _, Nat.zero_le _⟩) ?_
                refine lv_istore_n S.1 S.2.1 dL_tick_87 rfl hl (by decide) rfl (fun ls hl => ?_)
                have hl : lv_has ls 4 [(3, .int (oi (lwV τ (nf τ i 0) (nf τ i 1) n 0))), (2, .int (nI i)), (0, .ref a), (1, .ref b)] := hl
                rcases hv3 : lwV τ (nf τ i 0) (nf τ i 1) n 0 with _ | j3
                · rw [hv3] at hl
                  have hl : lv_has ls 4 [(3, .int (-4)), (2, .int (nI i)), (0, .ref a), (1, .ref b)] := hl
                  refine lv_iload_n S.1 S.2.1 dL_tick_88 rfl (lv_at hl 0 rfl) ?_
                  refine lv_if_lt (tgt := 125) S.1 S.2.1 dL_tick_89 rfl (fun h4 => ?_) (fun h4 => ?_)
                  · skip
                    refine lv_aload_n S.1 S.2.1 dL_tick_125 rfl (lv_at hl 2 rfl) ?_
                    refine lv_aload_n S.1 S.2.1 dL_tick_126 rfl (lv_at hl 3 rfl) ?_
                    refine lv_bipush (v := (nI 9)) S.1 S.2.1 dL_tick_127 (by decide) ?_
                    refine xk_R (v := (rfPlc τ n)) (x_runS (As := [.ref a, .ref b, .int (nI 9)]) (rest := []) S hE hS (fun _ h => h.elim) (c_L_many_0 l E a b n τ _ hEL ⟨hg, κ, hc, hU⟩ h0 hn) kv_L_many kw9_22 kw9_23 ⟨Nat.le_of_ble_eq_true rfl, Nat.le_of_ble_eq_true rfl⟩ rfl rfl rfl hl.1 rfl (Nat.le_of_ble_eq_true rfl) dL_tick_129 ⟨Nat.zero_le _, Nat.zero_le _⟩) ?_
                    refine lv_aload_n S.1 S.2.1 dL_tick_132 rfl (lv_at hl 2 rfl) ?_
                    refine lv_bipush (v := (nI 6)) S.1 S.2.1 dL_tick_133 (by decide) ?_
                    refine x_iald S hE (hg) 6 rfl (by decide) (by decide) dL_tick_135 ?_
                    refine lv_icmp_ge (tgt := 159) S.1 S.2.1 dL_tick_136 rfl (fun h5 => ?_) (fun h5 => ?_)
                    · skip
                      subst hQ
                      refine x_retV S hr hlk hS hO ?_ dL_tick_159
                      exact by rw [← ti_stop hT hlt h3 hv3 (Int32.not_lt.mpr h5)]; exact ⟨hg, κ, hc, hU⟩
                    · skip
                      refine lv_aload_n S.1 S.2.1 dL_tick_139 rfl (lv_at hl 2 rfl) ?_
                      refine lv_aload_n S.1 S.2.1 dL_tick_140 rfl (lv_at hl 3 rfl) ?_
                      refine lv_iload_n S.1 S.2.1 dL_tick_141 rfl (lv_at hl 1 rfl) ?_
                      refine lv_iconst (v := (nI 1)) S.1 S.2.1 dL_tick_142 (by decide) ?_
                      refine lv_aload_n S.1 S.2.1 dL_tick_143 rfl (lv_at hl 3 rfl) ?_
                      refine lv_iload_n S.1 S.2.1 dL_tick_144 rfl (lv_at hl 1 rfl) ?_
                      refine x_lald S hE hEL (hc) i rfl (by omega) (by decide) dL_tick_145 ?_
                      refine lv_bipush (v := (nI 9)) S.1 S.2.1 dL_tick_146 (by decide) ?_
                      refine lv_bipush (v := (nI 7)) S.1 S.2.1 dL_tick_148 (by decide) ?_
                      refine xk_R (v := (lwG (κ i) (nI 9) (nI 7))) (x_runS (As := [.long (κ i), .int (nI 9), .int (nI 7)]) (rest := [.int (nI 1), .int (nI i), .ref b, .ref a]) S hE hS (fun _ h => h.elim) (c_L_get l E (κ i) (nI 9) (nI 7) _) kv_L_get kw7_12 kw7_13 ⟨Nat.le_of_ble_eq_true rfl, Nat.le_of_ble_eq_true rfl⟩ rfl rfl rfl hl.1 rfl (Nat.le_of_ble_eq_true rfl) dL_tick_150 ⟨Nat.zero_le _, Nat.zero_le _⟩) ?_
                      refine x_top (y := (nf τ i 2)) ((lwG_eq _ (by decide) (by decide)).trans ((hU i 2 (by omega) (by decide)).symm)) ?_
                      obtain ⟨z, hz, ez⟩ : ∃ z, z < 128 ∧ (nf τ i 2) = nI z := fb_U hn hU i hlt 2 (by decide)
                      refine x_top (y := (nI z)) ez ?_
                      refine xk_V (x_runS (As := [.ref a, .ref b, .int (nI i), .int (nI 1), .int (nI z)]) (rest := []) S hE hS (fun _ h => h) (c_L_begins l E a b i 1 z sv τ _ hEL hab ⟨hg, κ, hc, hU⟩ (by omega) (by decide) (hz) ((by omega)) (T5)) kv_L_begins kw16_11 kw16_12 ⟨Nat.le_of_ble_eq_true rfl, Nat.le_of_ble_eq_true rfl⟩ rfl rfl rfl hl.1 rfl (Nat.le_of_ble_eq_true rfl) dL_tick_153 ⟨Nat.zero_le _, Nat.zero_le _⟩) hS (fun _ h => h) (fun H locs hX hO1 hS => ?_)
                      have hO := hO.tr hO1 (fun _ h => h)
                      obtain ⟨hg, κ, hc, hU⟩ := hX
                      refine lv_goto (tgt := 160) S.1 S.2.1 dL_tick_156 rfl ?_
                      refine lv_iinc (k := 1) (v := (nI (i + 1))) S.1 S.2.1 dL_tick_160 hl rfl (iincP i 1) (by decide) rfl (fun ls hl => ?_)
                      have hl : lv_has ls 4 [(2, .int (nI (i + 1))), (3, .int (-4)), (0, .ref a), (1, .ref b)] := hl
                      refine lv_goto (tgt := 49) S.1 S.2.1 dL_tick_163 rfl ?_
                      exact ih _ (by omega) (i + 1) (rfSings τ i) _ _ ls rfl (by omega) (ti_sing hT hlt (h3) hv3 (Int32.not_le.mp h5)) (⟨xi_ext hg (fun j hj => ((bg_sg T3 hlt (h3) ez).2 j hj).symm), κ, hc, fun j w hj hw => ((bg_sg T3 hlt (h3) ez).1 j w hw).trans (hU j w hj hw)⟩) (hO) (hS) (lv_sub hl [0, 2, 3] rfl)
                  · exact absurd h4 (by decide)
                · rw [hv3] at hl
                  have hl : lv_has ls 4 [(3, .int (nI j3)), (2, .int (nI i)), (0, .ref a), (1, .ref b)] := hl
                  have j3b := lwV_lt hv3
                  refine lv_iload_n S.1 S.2.1 dL_tick_88 rfl (lv_at hl 0 rfl) ?_
                  refine lv_if_lt (tgt := 125) S.1 S.2.1 dL_tick_89 rfl (fun h6 => ?_) (fun h6 => ?_)
                  · exact absurd h6 (nI_pos (by omega))
                  · skip
                    refine lv_aload_n S.1 S.2.1 dL_tick_92 rfl (lv_at hl 3 rfl) ?_
                    refine lv_iload_n S.1 S.2.1 dL_tick_93 rfl (lv_at hl 1 rfl) ?_
                    refine lv_aload_n S.1 S.2.1 dL_tick_94 rfl (lv_at hl 3 rfl) ?_
                    refine lv_iload_n S.1 S.2.1 dL_tick_95 rfl (lv_at hl 1 rfl) ?_
                    refine x_lald S hE hEL (hc) i rfl (by omega) (by decide) dL_tick_96 ?_
                    refine lv_bipush (v := (nI 16)) S.1 S.2.1 dL_tick_97 (by decide) ?_
                    refine lv_iconst (v := (nI 3)) S.1 S.2.1 dL_tick_99 (by decide) ?_
                    refine lv_bipush (v := (nI 6)) S.1 S.2.1 dL_tick_100 (by decide) ?_
                    refine xk_L (v := (lwP (κ i) (nI 16) (nI 3) (nI 6))) (x_runS (As := [.long (κ i), .int (nI 16), .int (nI 3), .int (nI 6)]) (rest := [.int (nI i), .ref b]) S hE hS (fun _ h => h.elim) (c_L_put l E (κ i) (nI 16) (nI 3) (nI 6) _) kv_L_put kw16_14 kw16_15 ⟨Nat.le_of_ble_eq_true rfl, Nat.le_of_ble_eq_true rfl⟩ rfl rfl rfl hl.1 rfl (Nat.le_of_ble_eq_true rfl) dL_tick_102 ⟨Nat.zero_le _, Nat.zero_le _⟩) ?_
                    refine x_topl (y := (fput 3 6 (κ i))) (rfl) ?_
                    refine x_last S hE hEL hS (Or.inr rfl) (hc) i rfl (by omega) (by decide) dL_tick_105 (fun H locs hX hO1 hS => ?_)
                    have hO := hO.tr hO1 (fun q z => Or.inr z)
                    have hg := va_at.kept hg (hO1.2 a hab)
                    have hg : XI E a 9 (nset τ i 3 (nI 6)) H := xi_ext hg (fun j hj => (nset_lo (by omega)).symm)
                    obtain ⟨κ, hc, hU⟩ : LcP E b (nset τ i 3 (nI 6)) H := ⟨_, hX, n6_U hU (by omega) (by decide) (by decide)⟩
                    refine lv_aload_n S.1 S.2.1 dL_tick_106 rfl (lv_at hl 2 rfl) ?_
                    refine lv_aload_n S.1 S.2.1 dL_tick_107 rfl (lv_at hl 3 rfl) ?_
                    refine lv_iload_n S.1 S.2.1 dL_tick_108 rfl (lv_at hl 0 rfl) ?_
                    refine lv_aload_n S.1 S.2.1 dL_tick_109 rfl (lv_at hl 3 rfl) ?_
                    refine lv_iload_n S.1 S.2.1 dL_tick_110 rfl (lv_at hl 1 rfl) ?_
                    refine x_lald S hE hEL (hc) i rfl (by omega) (by decide) dL_tick_111 ?_
                    refine lv_bipush (v := (nI 9)) S.1 S.2.1 dL_tick_112 (by decide) ?_
                    refine lv_bipush (v := (nI 7)) S.1 S.2.1 dL_tick_114 (by decide) ?_
                    refine xk_R (v := (lwG (κ i) (nI 9) (nI 7))) (x_runS (As := [.long (κ i), .int (nI 9), .int (nI 7)]) (rest := [.int (nI j3), .ref b, .ref a]) S hE hS (fun _ h => h.elim) (c_L_get l E (κ i) (nI 9) (nI 7) _) kv_L_get kw7_12 kw7_13 ⟨Nat.le_of_ble_eq_true rfl, Nat.le_of_ble_eq_true rfl⟩ rfl rfl rfl hl.1 rfl (Nat.le_of_ble_eq_true rfl) dL_tick_116 ⟨Nat.zero_le _, Nat.zero_le _⟩) ?_
                    refine x_top (y := (nf (nset τ i 3 (nI 6)) i 2)) ((lwG_eq _ (by decide) (by decide)).trans ((hU i 2 (by omega) (by decide)).symm)) ?_
                    obtain ⟨z, hz, ez⟩ : ∃ z, z < 128 ∧ (nf (nset τ i 3 (nI 6)) i 2) = nI z := fb_U hn hU i hlt 2 (by decide)
                    refine x_top (y := (nI z)) ez ?_
                    refine xk_V (x_runS (As := [.ref a, .ref b, .int (nI j3), .int (nI z)]) (rest := []) S hE hS (fun _ h => h) (c_L_anew l E a b j3 z sv (nset τ i 3 (nI 6)) _ hEL hab ⟨hg, κ, hc, hU⟩ (by omega) (hz) ((by omega)) (((nset_lo (by omega)).trans T5))) kv_L_anew kw16_8 kw16_9 ⟨Nat.le_of_ble_eq_true rfl, Nat.le_of_ble_eq_true rfl⟩ rfl rfl rfl hl.1 rfl (Nat.le_of_ble_eq_true rfl) dL_tick_119 ⟨Nat.zero_le _, Nat.zero_le _⟩) hS (fun _ h => h) (fun H locs hX hO1 hS => ?_)
                    have hO := hO.tr hO1 (fun _ h => h)
                    obtain ⟨hg, κ, hc, hU⟩ := hX
                    refine lv_goto (tgt := 160) S.1 S.2.1 dL_tick_122 rfl ?_
                    refine lv_iinc (k := 1) (v := (nI (i + 1))) S.1 S.2.1 dL_tick_160 hl rfl (iincP i 1) (by decide) rfl (fun ls hl => ?_)
                    have hl : lv_has ls 4 [(2, .int (nI (i + 1))), (3, .int (nI j3)), (0, .ref a), (1, .ref b)] := hl
                    refine lv_goto (tgt := 49) S.1 S.2.1 dL_tick_163 rfl ?_
                    exact ih _ (by omega) (i + 1) (rfAnew (nset τ i 3 (nI 6)) j3 (nI z)) _ _ ls rfl (by omega) (ti_anew hT hlt (h3) hv3 ez) (⟨hg, κ, hc, hU⟩) (hO) (hS) (lv_sub hl [0, 2, 3] rfl)
        exact hloop49 _ 0 (rfMvN σ n) _ _ ls rfl (Nat.zero_le _) (ti_start hB hUq h0 hS5) (by have e : i = n := (by have := ge_of_le (by omega) (by omega) h1; omega); subst e; exact ⟨hg, κ, hc, hU⟩) (hO) (hS) (lv_sub hl [0, 1, 2] rfl)
      · skip
        have hlt := lt_of_nle (by omega) (by omega) h1
        have hBi : NB (rfMvN σ i) i := nb_eq (fun w hw => mvN_i hw) (hB i hlt)
        refine lv_aload_n S.1 S.2.1 dL_tick_16 rfl (lv_at hl 2 rfl) ?_
        refine lv_iload_n S.1 S.2.1 dL_tick_17 rfl (lv_at hl 0 rfl) ?_
        refine x_lald S hE hEL (hc) i rfl (by omega) (by decide) dL_tick_18 ?_
        refine xk_R (v := (fld 3 (κ i))) (x_runS (As := [.long (κ i)]) (rest := []) S hE hS (fun _ h => h.elim) (c_L_is l E (κ i) _) kv_L_is kw7_9 kw7_10 ⟨Nat.le_of_ble_eq_true rfl, Nat.le_of_ble_eq_true rfl⟩ rfl rfl rfl hl.1 rfl (Nat.le_of_ble_eq_true rfl) dL_tick_19 ⟨Nat.zero_le _, Nat.zero_le _⟩) ?_
        refine x_top (y := (nf (rfMvN σ i) i 3)) ((hU i 3 (by omega) (by decide)).symm) ?_
        refine lv_if_le (tgt := 41) S.1 S.2.1 dL_tick_22 rfl (fun h7 => ?_) (fun h7 => ?_)
        · skip
          refine lv_iinc (k := 0) (v := (nI (i + 1))) S.1 S.2.1 dL_tick_41 hl rfl (iincP i 1) (by decide) rfl (fun ls hl => ?_)
          have hl : lv_has ls 4 [(2, .int (nI (i + 1))), (0, .ref a), (1, .ref b)] := hl
          refine lv_goto (tgt := 9) S.1 S.2.1 dL_tick_44 rfl ?_
          exact ih _ (by omega) (i + 1) _ _ ls rfl (by omega) (⟨xi_ext hg (fun j hj => ((rfMv_0 (by omega)).symm)), κ, hc, fun j w hj hw => (mv_no (ph_06 (fb_U hn hU i hlt 3 (by decide)) hBi (Or.inl h7)) j w hw).trans (hU j w hj hw)⟩) (hO) (hS) (lv_sub hl [0, 1, 2] rfl)
        · skip
          refine lv_aload_n S.1 S.2.1 dL_tick_25 rfl (lv_at hl 2 rfl) ?_
          refine lv_iload_n S.1 S.2.1 dL_tick_26 rfl (lv_at hl 0 rfl) ?_
          refine x_lald S hE hEL (hc) i rfl (by omega) (by decide) dL_tick_27 ?_
          refine xk_R (v := (fld 3 (κ i))) (x_runS (As := [.long (κ i)]) (rest := []) S hE hS (fun _ h => h.elim) (c_L_is l E (κ i) _) kv_L_is kw7_9 kw7_10 ⟨Nat.le_of_ble_eq_true rfl, Nat.le_of_ble_eq_true rfl⟩ rfl rfl rfl hl.1 rfl (Nat.le_of_ble_eq_true rfl) dL_tick_28 ⟨Nat.zero_le _, Nat.zero_le _⟩) ?_
          refine x_top (y := (nf (rfMvN σ i) i 3)) ((hU i 3 (by omega) (by decide)).symm) ?_
          refine lv_bipush (v := (nI 6)) S.1 S.2.1 dL_tick_31 (by decide) ?_
          refine lv_icmp_ge (tgt := 41) S.1 S.2.1 dL_tick_33 rfl (fun h8 => ?_) (fun h8 => ?_)
          · skip
            refine lv_iinc (k := 0) (v := (nI (i + 1))) S.1 S.2.1 dL_tick_41 hl rfl (iincP i 1) (by decide) rfl (fun ls hl => ?_)
            have hl : lv_has ls 4 [(2, .int (nI (i + 1))), (0, .ref a), (1, .ref b)] := hl
            refine lv_goto (tgt := 9) S.1 S.2.1 dL_tick_44 rfl ?_
            exact ih _ (by omega) (i + 1) _ _ ls rfl (by omega) (⟨xi_ext hg (fun j hj => ((rfMv_0 (by omega)).symm)), κ, hc, fun j w hj hw => (mv_no (ph_06 (fb_U hn hU i hlt 3 (by decide)) hBi (Or.inr h8)) j w hw).trans (hU j w hj hw)⟩) (hO) (hS) (lv_sub hl [0, 1, 2] rfl)
          · skip
            refine lv_aload_n S.1 S.2.1 dL_tick_36 rfl (lv_at hl 2 rfl) ?_
            refine lv_iload_n S.1 S.2.1 dL_tick_37 rfl (lv_at hl 0 rfl) ?_
            refine xk_V (x_runS (As := [.ref b, .int (nI i)]) (rest := []) S hE hS (fun _ h => Or.inr h) (c_L_moves l E b i (rfMvN σ i) _ hEL ⟨κ, hc, hU⟩ (by omega) hBi ⟨fun z => h7 (by rw [z]; decide), fun z => h8 (by rw [z]; decide)⟩) kv_L_moves kw21_15 kw21_16 ⟨Nat.le_of_ble_eq_true rfl, Nat.le_of_ble_eq_true rfl⟩ rfl rfl rfl hl.1 rfl (Nat.le_of_ble_eq_true rfl) dL_tick_38 ⟨Nat.zero_le _, Nat.zero_le _⟩) hS (fun _ h => Or.inr h) (fun H locs hX hO1 hS => ?_)
            have hO := hO.tr hO1 (fun q z => Or.inr z)
            have hg := va_at.kept hg (hO1.2 a hab)
            obtain ⟨κ, hc, hU⟩ := hX
            refine lv_iinc (k := 0) (v := (nI (i + 1))) S.1 S.2.1 dL_tick_41 hl rfl (iincP i 1) (by decide) rfl (fun ls hl => ?_)
            have hl : lv_has ls 4 [(2, .int (nI (i + 1))), (0, .ref a), (1, .ref b)] := hl
            refine lv_goto (tgt := 9) S.1 S.2.1 dL_tick_44 rfl ?_
            exact ih _ (by omega) (i + 1) _ _ ls rfl (by omega) (⟨xi_ext hg (fun j hj => ((rfMv_0 (by omega)).symm)), κ, hc, hU⟩) (hO) (hS) (lv_sub hl [0, 1, 2] rfl)
  exact hloop9 _ 0 _ _ ls rfl (Nat.zero_le _) (⟨hg, κ, hc, fun j w hj hw => (nf_lo (by omega)).trans (hU j w hj hw)⟩) (hO) (hS) (lv_sub hl [0, 1, 2] rfl)
