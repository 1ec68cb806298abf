/-! 23.refd: walks, by program -/
def rfPk (σ : Nat → Int32) (n : Nat) : Nat → Int32
  | 0 => nI 0
  | t + 1 => if rfPk σ n t < rfSum (rfTick (rfIt σ n t) n) n then rfSum (rfTick (rfIt σ n t) n) n else rfPk σ n t
def rfPeakOf (σ : Nat → Int32) (n : Nat) (ta : Int32) : Int32 := if nI 1 ≤ ta ∧ ta ≤ nI 200 then rfPk σ n ta.toNatClampNeg else (-1)
def rfSl1 (r : (Nat → Int32) × Int32) (i : Nat) : (Nat → Int32) × Int32 := if nI 1 ≤ nf r.1 i 3 ∧ nf r.1 i 3 ≤ nI 3 then (rfFades r.1 i, r.2 + nI 1) else r
def rfSl2 (r : (Nat → Int32) × Int32) (i : Nat) : (Nat → Int32) × Int32 := (nset r.1 i 3 (if nf r.1 i 3 = 0 then nI 6 else nf r.1 i 3), r.2)
def rfSl (σ : Nat → Int32) (n : Nat) : Nat → (Nat → Int32) × Int32
  | 0 => rfLN σ n
  | i + 1 => rfSl2 (rfSl1 (rfSl σ n i) i) i
def rfCon (σ : Nat → Int32) (n : Nat) : Int32 := rfPlc σ n + rfMany σ (nI 5) n
def rfTy (tx : Nat → Int32) (ty : Nat) (ca : Int32) : ((Nat → Int32) × Nat) × Int32 := if nI 32 ≤ ca ∧ ca ≤ nI 126 then (if ty = 60 then ((tx, ty), (-3)) else ((upd tx ty ca, ty + 1), nI (ty + 1))) else ((tx, ty), (-1))
theorem rfFl_at {η : Nat → Nat → Int32} {q j : Nat} (h : j < 1670) : rfFl η (1670 * q + j) = η q j := by
  unfold rfFl
  rw [show (1670 * q + j) / 1670 = q from by omega, show (1670 * q + j) % 1670 = j from by omega]
theorem upd_rowS {r f g : Nat → Int32} {i : Nat} {v : Int32} (hr : ∀ j, r j = if j < i then f j else g j) (hv : v = f i) : ∀ j, upd r i v j = if j < i + 1 then f j else g j := by
  subst hv; exact upd_row hr
abbrev rm_X8_peak : Room := ({ frames := 5, cells := 0, slots := 0, locals := 111 } : Room)
set_option maxRecDepth 100000 in
set_option maxHeartbeats 600000 in
theorem c_X8_peak (l : Launch) (E : XE) (M n : Nat) (σ : Nat → Int32) (η : Nat → Nat → Int32) (np : Nat) (tx : Nat → Int32) (ty : Nat) (ta : Int32) (H : Heap) (hP : RfP E M (σ, (η, np), (tx, ty)) H) (hn : σ 0 = nI n) (hn2 : n ≤ 200) (hnp : np ≤ 4) : Wr l E yX8_peak cX8_peak 4 (some .int) rm_X8_peak [.ref M, .int ta] H (bk M 8) (fun v H1 => v = rfPeakOf σ n ta ∧ RfP E M (σ, (η, np), (tx, ty)) H1) := by
  refine met_of (by decide) (Nat.le_of_ble_eq_true rfl) (fun p e s m args below meth c hBD Q hQ ls hl => ?_)
  obtain ⟨S, hr, hlk, hnm, hE, hH⟩ := hBD
  subst hH
  have hl : lv_has ls 4 [(0, .ref M), (1, .int ta)] := hl
  have hO : Out (bk M 8) s.heap s.heap := Out.rf
  have hS : va_S (bk M 8) s.heap s.heap [] := va_S.rf
  obtain ⟨re, ho, hs, hp, ⟨f3, hd3⟩, ht, ⟨f5, hq5⟩, ⟨f6, hq6⟩, ⟨f7, hq7⟩⟩ := hP
  have ho : RfO E M (nI np) (nI ty) re s.heap := ho
  have hs : XI E (M + 1) 1670 σ s.heap := hs
  have hp : XI E (M + 2) 6680 (rfFl η) s.heap := hp
  have ht : XI E (M + 4) 60 tx s.heap := ht
  refine lv_iload_n S.1 S.2.1 dX8_peak_0 rfl (lv_at hl 1 rfl) ?_
  refine lv_iconst (v := (nI 1)) S.1 S.2.1 dX8_peak_1 (by decide) ?_
  refine lv_sipush (v := (nI 200)) S.1 S.2.1 dX8_peak_2 (by decide) ?_
  refine xk_R (v := (bI ((nI 1) ≤ ta ∧ ta ≤ (nI 200)))) (x_runS (As := [.int ta, .int (nI 1), .int (nI 200)]) (rest := []) S hE hS (fun _ h => h.elim) (c_X8_in l E ta (nI 1) (nI 200) _) kv_X8_in kw12_11 kw12_12 ⟨Nat.le_of_ble_eq_true rfl, Nat.le_of_ble_eq_true rfl⟩ rfl rfl rfl hl.1 rfl (Nat.le_of_ble_eq_true rfl) dX8_peak_5 ⟨Nat.zero_le _, Nat.zero_le _⟩) ?_
  refine lv_if_ne (tgt := 13) S.1 S.2.1 dX8_peak_8 rfl (fun h1 => ?_) (fun h1 => ?_)
  · have h1 := bI_n0 h1
    obtain ⟨k, hk, rfl⟩ := i_nat (by decide) (Int32.le_trans (show nI 0 ≤ nI 1 by decide) h1.1) h1.2
    refine lv_aload_n S.1 S.2.1 dX8_peak_13 rfl (lv_at hl 0 rfl) ?_
    refine lv_aload_n S.1 S.2.1 dX8_peak_14 rfl (lv_at hl 0 rfl) ?_
    refine x_get S hE (ho) (C := RX8) (T := TX8) (N := 10) rfl inlX8 0 (by decide) (v := .ref (M + 1)) rfl kw7_6 rfl dX8_peak_15 ?_
    refine lv_aload_n S.1 S.2.1 dX8_peak_18 rfl (lv_at hl 0 rfl) ?_
    refine x_get S hE (ho) (C := RX8) (T := TX8) (N := 10) rfl inlX8 2 (by decide) (v := .ref (M + 3)) rfl kw7_8 rfl dX8_peak_19 ?_
    refine xk_V (x_runV (As := [.ref (M + 1), .ref (M + 3)]) (rest := []) S hE hS (fun q h => bkM (k := 3) h (by decide)) (c_X8_copies l E M (M + 1) (M + 3) σ f3 _ hs hd3 (by omega)) kv_X8_copies kw24_22 kw24_23 kw25_0 (x_recv hE (ho) (ci := 8) rfl) ⟨Nat.le_of_ble_eq_true rfl, Nat.le_of_ble_eq_true rfl⟩ rfl rfl rfl hl.1 rfl (Nat.le_of_ble_eq_true rfl) dX8_peak_22 ⟨Nat.zero_le _, Nat.zero_le _⟩) hS (fun q h => bkM (k := 3) h (by decide)) (fun H locs hX hO1 hS => ?_)
    have hO := hO.tr hO1 (fun q h => bkM (k := 3) h (by decide))
    have ho := va_at.kept ho (hO1.2 (M) (fun z => by have z : M = M + 3 := z; omega))
    have hs := va_at.kept hs (hO1.2 (M + 1) (fun z => by have z : M + 1 = M + 3 := z; omega))
    have hp := va_at.kept hp (hO1.2 (M + 2) (fun z => by have z : M + 2 = M + 3 := z; omega))
    have ht := va_at.kept ht (hO1.2 (M + 4) (fun z => by have z : M + 4 = M + 3 := z; omega))
    have hq5 := va_at.kept hq5 (hO1.2 (M + 5) (fun z => by have z : M + 5 = M + 3 := z; omega))
    have hq6 := va_at.kept hq6 (hO1.2 (M + 6) (fun z => by have z : M + 6 = M + 3 := z; omega))
    have hq7 := va_at.kept hq7 (hO1.2 (M + 7) (fun z => by have z : M + 7 = M + 3 := z; omega))
    have hd3 := hX
    refine lv_iconst (v := (nI 0)) S.1 S.2.1 dX8_peak_25 (by decide) ?_
    refine lv_istore_n S.1 S.2.1 dX8_peak_26 rfl hl (by decide) rfl (fun ls hl => ?_)
    have hl : lv_has ls 4 [(2, .int (nI 0)), (0, .ref M), (1, .int (nI k))] := hl
    refine lv_iconst (v := (nI 0)) S.1 S.2.1 dX8_peak_27 (by decide) ?_
    refine lv_istore_n S.1 S.2.1 dX8_peak_28 rfl hl (by decide) rfl (fun ls hl => ?_)
    have hl : lv_has ls 4 [(3, .int (nI 0)), (2, .int (nI 0)), (0, .ref M), (1, .int (nI k))] := hl
    have hloop29 : ∀ (d : Nat) (i : Nat) (H : Heap) (locs : List Loc) (ls : Array Slot), k - i = d → i ≤ k → rfIt σ n i 0 = nI n → RfO E M (nI np) (nI ty) re H → XI E (M + 1) 1670 (rfIt σ n i) H → XI E (M + 2) 6680 (rfFl η) H → XI E (M + 3) 1670 σ H → XI E (M + 4) 60 tx H → XI E (M + 5) 4 f5 H → XI E (M + 6) 7 f6 H → XI E (M + 7) 7 f7 H → Out (bk M 8) s.heap H → va_S (bk M 8) s.heap H locs → lv_has ls 4 [(2, .int (rfPk σ n i)), (3, .int (nI i)), (0, .ref M), (1, .int (nI k))] → W p l e rm_X8_peak s m args below meth c H locs 0 0 Q (F0 m 29 ls []) := by
      intro d
      induction d using Nat.strongRecOn with
      | ind d ih =>
        intro i H locs ls hd hi hn ho hs hp hd3 ht hq5 hq6 hq7 hO hS hl
        refine lv_iload_n S.1 S.2.1 dX8_peak_29 rfl (lv_at hl 1 rfl) ?_
        refine lv_iload_n S.1 S.2.1 dX8_peak_30 rfl (lv_at hl 3 rfl) ?_
        refine lv_icmp_ge (tgt := 61) S.1 S.2.1 dX8_peak_31 rfl (fun h2 => ?_) (fun h2 => ?_)
        · have hge : i = k := (by have := ge_of_le (by omega) (by omega) h2; omega)
          refine lv_aload_n S.1 S.2.1 dX8_peak_61 rfl (lv_at hl 2 rfl) ?_
          refine lv_aload_n S.1 S.2.1 dX8_peak_62 rfl (lv_at hl 2 rfl) ?_
          refine x_get S hE (ho) (C := RX8) (T := TX8) (N := 10) rfl inlX8 2 (by decide) (v := .ref (M + 3)) rfl kw7_8 rfl dX8_peak_63 ?_
          refine lv_aload_n S.1 S.2.1 dX8_peak_66 rfl (lv_at hl 2 rfl) ?_
          refine x_get S hE (ho) (C := RX8) (T := TX8) (N := 10) rfl inlX8 0 (by decide) (v := .ref (M + 1)) rfl kw7_6 rfl dX8_peak_67 ?_
          refine xk_V (x_runV (As := [.ref (M + 3), .ref (M + 1)]) (rest := []) S hE hS (fun q h => bkM (k := 1) h (by decide)) (c_X8_copies l E M (M + 3) (M + 1) σ (rfIt σ n i) _ hd3 hs (by omega)) kv_X8_copies kw24_22 kw24_23 kw25_0 (x_recv hE (ho) (ci := 8) rfl) ⟨Nat.le_of_ble_eq_true rfl, Nat.le_of_ble_eq_true rfl⟩ rfl rfl rfl hl.1 rfl (Nat.le_of_ble_eq_true rfl) dX8_peak_70 ⟨Nat.zero_le _, Nat.zero_le _⟩) hS (fun q h => bkM (k := 1) h (by decide)) (fun H locs hX hO1 hS => ?_)
          have hO := hO.tr hO1 (fun q h => bkM (k := 1) h (by decide))
          have ho := va_at.kept ho (hO1.2 (M) (fun z => by have z : M = M + 1 := z; omega))
          have hp := va_at.kept hp (hO1.2 (M + 2) (fun z => by have z : M + 2 = M + 1 := z; omega))
          have hd3 := va_at.kept hd3 (hO1.2 (M + 3) (fun z => by have z : M + 3 = M + 1 := z; omega))
          have ht := va_at.kept ht (hO1.2 (M + 4) (fun z => by have z : M + 4 = M + 1 := z; omega))
          have hq5 := va_at.kept hq5 (hO1.2 (M + 5) (fun z => by have z : M + 5 = M + 1 := z; omega))
          have hq6 := va_at.kept hq6 (hO1.2 (M + 6) (fun z => by have z : M + 6 = M + 1 := z; omega))
          have hq7 := va_at.kept hq7 (hO1.2 (M + 7) (fun z => by have z : M + 7 = M + 1 := z; omega))
          have hs := hX
          refine lv_iload_n S.1 S.2.1 dX8_peak_73 rfl (lv_at hl 0 rfl) ?_
          subst hQ
          refine x_retW S hr hlk (rfl) hS hO ?_ dX8_peak_74
          exact ⟨by rw [rfPeakOf, if_pos h1, nI_clamp (by omega), hge], ⟨_, ho, hs, hp, ⟨_, hd3⟩, ht, ⟨_, hq5⟩, ⟨_, hq6⟩, ⟨_, hq7⟩⟩⟩
        · have hlt : i < k := lt_of_nle (by omega) (by omega) h2
          refine lv_aload_n S.1 S.2.1 dX8_peak_34 rfl (lv_at hl 2 rfl) ?_
          refine xk_V (x_runV (As := []) (rest := []) S hE hS (fun q h => bkM (k := 1) h (by decide)) (c_X8_ticks l E M (nI np) (nI ty) re (rfIt σ n i) n _ ho hs hn hn2) kv_X8_ticks kw18_11 kw18_12 kw18_13 (x_recv hE (ho) (ci := 8) rfl) ⟨Nat.le_of_ble_eq_true rfl, Nat.le_of_ble_eq_true rfl⟩ rfl rfl rfl hl.1 rfl (Nat.le_of_ble_eq_true rfl) dX8_peak_35 ⟨Nat.zero_le _, Nat.zero_le _⟩) hS (fun q h => bkM (k := 1) h (by decide)) (fun H locs hX hO1 hS => ?_)
          have hO := hO.tr hO1 (fun q h => bkM (k := 1) h (by decide))
          have ho := va_at.kept ho (hO1.2 (M) (fun z => by have z : M = M + 1 := z; omega))
          have hp := va_at.kept hp (hO1.2 (M + 2) (fun z => by have z : M + 2 = M + 1 := z; omega))
          have hd3 := va_at.kept hd3 (hO1.2 (M + 3) (fun z => by have z : M + 3 = M + 1 := z; omega))
          have ht := va_at.kept ht (hO1.2 (M + 4) (fun z => by have z : M + 4 = M + 1 := z; omega))
          have hq5 := va_at.kept hq5 (hO1.2 (M + 5) (fun z => by have z : M + 5 = M + 1 := z; omega))
          have hq6 := va_at.kept hq6 (hO1.2 (M + 6) (fun z => by have z : M + 6 = M + 1 := z; omega))
          have hq7 := va_at.kept hq7 (hO1.2 (M + 7) (fun z => by have z : M + 7 = M + 1 := z; omega))
          have hs : XI E (M + 1) 1670 (rfTick (rfIt σ n i) n) H := hX
          have hn : (rfTick (rfIt σ n i) n) 0 = nI n := (rfTick_0 (by decide) (by decide)).trans hn
          refine lv_aload_n S.1 S.2.1 dX8_peak_38 rfl (lv_at hl 2 rfl) ?_
          refine xk_R (v := (rfSum (rfTick (rfIt σ n i) n) n)) (x_runV (As := []) (rest := []) S hE hS (fun _ h => h.elim) (c_X8_sum l E M (nI np) (nI ty) re (rfTick (rfIt σ n i) n) n _ ho hs hn hn2) kv_X8_sum kw19_15 kw19_16 kw19_17 (x_recv hE (ho) (ci := 8) rfl) ⟨Nat.le_of_ble_eq_true rfl, Nat.le_of_ble_eq_true rfl⟩ rfl rfl rfl hl.1 rfl (Nat.le_of_ble_eq_true rfl) dX8_peak_39 ⟨Nat.zero_le _, Nat.zero_le _⟩) ?_
          refine lv_iload_n S.1 S.2.1 dX8_peak_42 rfl (lv_at hl 0 rfl) ?_
          refine lv_icmp_le (tgt := 53) S.1 S.2.1 dX8_peak_43 rfl (fun h3 => ?_) (fun h3 => ?_)
          · skip
            refine lv_iload_n S.1 S.2.1 dX8_peak_53 rfl (lv_at hl 0 rfl) ?_
            refine lv_istore_n S.1 S.2.1 dX8_peak_54 rfl hl (by decide) rfl (fun ls hl => ?_)
            have hl : lv_has ls 4 [(2, .int (rfPk σ n i)), (3, .int (nI i)), (0, .ref M), (1, .int (nI k))] := hl
            refine lv_iinc (k := 1) (v := (nI (i + 1))) S.1 S.2.1 dX8_peak_55 hl rfl (iincP i 1) (by decide) rfl (fun ls hl => ?_)
            have hl : lv_has ls 4 [(3, .int (nI (i + 1))), (2, .int (rfPk σ n i)), (0, .ref M), (1, .int (nI k))] := hl
            refine lv_goto (tgt := 29) S.1 S.2.1 dX8_peak_58 rfl ?_
            have hl : lv_has ls 4 [(2, .int (rfPk σ n (i + 1))), (3, .int (nI (i + 1))), (0, .ref M), (1, .int (nI k))] := by
              rw [show (rfPk σ n (i + 1)) = (rfPk σ n i) from by rw [rfPk, if_neg (Int32.not_lt.mpr h3)]]
              exact lv_sub hl [1, 0, 2, 3] rfl
            exact ih _ (by omega) (i + 1) _ _ ls rfl (by omega) (hn) (ho) (hs) (hp) (hd3) (ht) (hq5) (hq6) (hq7) (hO) (hS) (lv_sub hl [0, 1, 2, 3] rfl)
          · skip
            refine lv_aload_n S.1 S.2.1 dX8_peak_46 rfl (lv_at hl 2 rfl) ?_
            refine xk_R (v := (rfSum (rfTick (rfIt σ n i) n) n)) (x_runV (As := []) (rest := []) S hE hS (fun _ h => h.elim) (c_X8_sum l E M (nI np) (nI ty) re (rfTick (rfIt σ n i) n) n _ ho hs hn hn2) kv_X8_sum kw19_15 kw19_16 kw19_17 (x_recv hE (ho) (ci := 8) rfl) ⟨Nat.le_of_ble_eq_true rfl, Nat.le_of_ble_eq_true rfl⟩ rfl rfl rfl hl.1 rfl (Nat.le_of_ble_eq_true rfl) dX8_peak_47 ⟨Nat.zero_le _, Nat.zero_le _⟩) ?_
            refine lv_goto (tgt := 54) S.1 S.2.1 dX8_peak_50 rfl ?_
            refine lv_istore_n S.1 S.2.1 dX8_peak_54 rfl hl (by decide) rfl (fun ls hl => ?_)
            have hl : lv_has ls 4 [(2, .int (rfSum (rfTick (rfIt σ n i) n) n)), (3, .int (nI i)), (0, .ref M), (1, .int (nI k))] := hl
            refine lv_iinc (k := 1) (v := (nI (i + 1))) S.1 S.2.1 dX8_peak_55 hl rfl (iincP i 1) (by decide) rfl (fun ls hl => ?_)
            have hl : lv_has ls 4 [(3, .int (nI (i + 1))), (2, .int (rfSum (rfTick (rfIt σ n i) n) n)), (0, .ref M), (1, .int (nI k))] := hl
            refine lv_goto (tgt := 29) S.1 S.2.1 dX8_peak_58 rfl ?_
            have hl : lv_has ls 4 [(2, .int (rfPk σ n (i + 1))), (3, .int (nI (i + 1))), (0, .ref M), (1, .int (nI k))] := by
              rw [show (rfPk σ n (i + 1)) = (rfSum (rfTick (rfIt σ n i) n) n) from by rw [rfPk, if_pos (i_nle h3)]]
              exact lv_sub hl [1, 0, 2, 3] rfl
            exact ih _ (by omega) (i + 1) _ _ ls rfl (by omega) (hn) (ho) (hs) (hp) (hd3) (ht) (hq5) (hq6) (hq7) (hO) (hS) (lv_sub hl [0, 1, 2, 3] rfl)
    exact hloop29 _ 0 _ _ ls rfl (Nat.zero_le _) (hn) (ho) (hs) (hp) (hd3) (ht) (hq5) (hq6) (hq7) (hO) (hS) (lv_sub hl [1, 0, 2, 3] rfl)
  · have h1 := bI_0 h1
    refine lv_iconst (v := (-1)) S.1 S.2.1 dX8_peak_11 (by decide) ?_
    subst hQ
    refine x_retW S hr hlk (rfl) hS hO ?_ dX8_peak_12
    exact ⟨by rw [rfPeakOf, if_neg h1], ⟨_, ho, hs, hp, ⟨_, hd3⟩, ht, ⟨_, hq5⟩, ⟨_, hq6⟩, ⟨_, hq7⟩⟩⟩
abbrev rm_X8_silence : Room := ({ frames := 5, cells := 0, slots := 0, locals := 111 } : Room)
set_option maxRecDepth 100000 in
set_option maxHeartbeats 600000 in
theorem c_X8_silence (l : Launch) (E : XE) (M n : Nat) (σ : Nat → Int32) (η : Nat → Nat → Int32) (np : Nat) (tx : Nat → Int32) (ty : Nat) (H : Heap) (hP : RfP E M (σ, (η, np), (tx, ty)) H) (hn : σ 0 = nI n) (hn2 : n ≤ 200) (hnp : np ≤ 4) (T : Nat) (hF : 0 ≤ (rfSl σ n n).2) (hT : ∀ t, t < T → ¬ rfCon (rfIt (rfSl σ n n).1 n t) n ≤ 0) (hT2 : rfCon (rfIt (rfSl σ n n).1 n T) n ≤ 0) : Wr l E yX8_silence cX8_silence 3 (some .int) rm_X8_silence [.ref M] H (bk M 8) (fun v H1 => v = nI T ∧ RfP E M (σ, (η, np), (tx, ty)) H1) := by
  refine met_of (by decide) (Nat.le_of_ble_eq_true rfl) (fun p e s m args below meth c hBD Q hQ ls hl => ?_)
  obtain ⟨S, hr, hlk, hnm, hE, hH⟩ := hBD
  subst hH
  have hl : lv_has ls 3 [(0, .ref M)] := hl
  have hO : Out (bk M 8) s.heap s.heap := Out.rf
  have hS : va_S (bk M 8) s.heap s.heap [] := va_S.rf
  obtain ⟨re, ho, hs, hp, ⟨f3, hd3⟩, ht, ⟨f5, hq5⟩, ⟨f6, hq6⟩, ⟨f7, hq7⟩⟩ := hP
  have ho : RfO E M (nI np) (nI ty) re s.heap := ho
  have hs : XI E (M + 1) 1670 σ s.heap := hs
  have hp : XI E (M + 2) 6680 (rfFl η) s.heap := hp
  have ht : XI E (M + 4) 60 tx s.heap := ht
  refine lv_aload_n S.1 S.2.1 dX8_silence_0 rfl (lv_at hl 0 rfl) ?_
  refine lv_aload_n S.1 S.2.1 dX8_silence_1 rfl (lv_at hl 0 rfl) ?_
  refine x_get S hE (ho) (C := RX8) (T := TX8) (N := 10) rfl inlX8 0 (by decide) (v := .ref (M + 1)) rfl kw7_6 rfl dX8_silence_2 ?_
  refine lv_aload_n S.1 S.2.1 dX8_silence_5 rfl (lv_at hl 0 rfl) ?_
  refine x_get S hE (ho) (C := RX8) (T := TX8) (N := 10) rfl inlX8 2 (by decide) (v := .ref (M + 3)) rfl kw7_8 rfl dX8_silence_6 ?_
  refine xk_V (x_runV (As := [.ref (M + 1), .ref (M + 3)]) (rest := []) S hE hS (fun q h => bkM (k := 3) h (by decide)) (c_X8_copies l E M (M + 1) (M + 3) σ f3 _ hs hd3 (by omega)) kv_X8_copies kw24_22 kw24_23 kw25_0 (x_recv hE (ho) (ci := 8) rfl) ⟨Nat.le_of_ble_eq_true rfl, Nat.le_of_ble_eq_true rfl⟩ rfl rfl rfl hl.1 rfl (Nat.le_of_ble_eq_true rfl) dX8_silence_9 ⟨Nat.zero_le _, Nat.zero_le _⟩) hS (fun q h => bkM (k := 3) h (by decide)) (fun H locs hX hO1 hS => ?_)
  have hO := hO.tr hO1 (fun q h => bkM (k := 3) h (by decide))
  have ho := va_at.kept ho (hO1.2 (M) (fun z => by have z : M = M + 3 := z; omega))
  have hs := va_at.kept hs (hO1.2 (M + 1) (fun z => by have z : M + 1 = M + 3 := z; omega))
  have hp := va_at.kept hp (hO1.2 (M + 2) (fun z => by have z : M + 2 = M + 3 := z; omega))
  have ht := va_at.kept ht (hO1.2 (M + 4) (fun z => by have z : M + 4 = M + 3 := z; omega))
  have hq5 := va_at.kept hq5 (hO1.2 (M + 5) (fun z => by have z : M + 5 = M + 3 := z; omega))
  have hq6 := va_at.kept hq6 (hO1.2 (M + 6) (fun z => by have z : M + 6 = M + 3 := z; omega))
  have hq7 := va_at.kept hq7 (hO1.2 (M + 7) (fun z => by have z : M + 7 = M + 3 := z; omega))
  have hd3 := hX
  refine lv_aload_n S.1 S.2.1 dX8_silence_12 rfl (lv_at hl 0 rfl) ?_
  refine xk_W (x_runV (As := []) (rest := []) S hE hS (fun q h => bkM (k := 1) h (by decide)) (c_X8_lifts l E M (nI np) (nI ty) re σ n _ ho hs hn hn2) kv_X8_lifts kw15_23 kw16_0 kw16_1 (x_recv hE (ho) (ci := 8) rfl) ⟨Nat.le_of_ble_eq_true rfl, Nat.le_of_ble_eq_true rfl⟩ rfl rfl rfl hl.1 rfl (Nat.le_of_ble_eq_true rfl) dX8_silence_13 ⟨Nat.zero_le _, Nat.zero_le _⟩) hS (fun q h => bkM (k := 1) h (by decide)) (fun v0 H locs hX hO1 hS => ?_)
  obtain ⟨hv0, hX⟩ := hX
  subst hv0
  have hO := hO.tr hO1 (fun q h => bkM (k := 1) h (by decide))
  have ho := va_at.kept ho (hO1.2 (M) (fun z => by have z : M = M + 1 := z; omega))
  have hp := va_at.kept hp (hO1.2 (M + 2) (fun z => by have z : M + 2 = M + 1 := z; omega))
  have hd3 := va_at.kept hd3 (hO1.2 (M + 3) (fun z => by have z : M + 3 = M + 1 := z; omega))
  have ht := va_at.kept ht (hO1.2 (M + 4) (fun z => by have z : M + 4 = M + 1 := z; omega))
  have hq5 := va_at.kept hq5 (hO1.2 (M + 5) (fun z => by have z : M + 5 = M + 1 := z; omega))
  have hq6 := va_at.kept hq6 (hO1.2 (M + 6) (fun z => by have z : M + 6 = M + 1 := z; omega))
  have hq7 := va_at.kept hq7 (hO1.2 (M + 7) (fun z => by have z : M + 7 = M + 1 := z; omega))
  have hs : XI E (M + 1) 1670 (rfLN σ n).1 H := hX
  have hn : (rfLN σ n).1 0 = nI n := (rfLN_0 (by decide) (by decide)).trans hn
  refine lv_istore_n S.1 S.2.1 dX8_silence_16 rfl hl (by decide) rfl (fun ls hl => ?_)
  have hl : lv_has ls 3 [(1, .int (rfLN σ n).2), (0, .ref M)] := hl
  refine lv_iconst (v := (nI 0)) S.1 S.2.1 dX8_silence_17 (by decide) ?_
  refine lv_istore_n S.1 S.2.1 dX8_silence_18 rfl hl (by decide) rfl (fun ls hl => ?_)
  have hl : lv_has ls 3 [(2, .int (nI 0)), (1, .int (rfLN σ n).2), (0, .ref M)] := hl
  have hloop19 : ∀ (d : Nat) (i : Nat) (H : Heap) (locs : List Loc) (ls : Array Slot), n - i = d → i ≤ n → (rfSl σ n i).1 0 = nI n → RfO E M (nI np) (nI ty) re H → XI E (M + 1) 1670 (rfSl σ n i).1 H → XI E (M + 2) 6680 (rfFl η) H → XI E (M + 3) 1670 σ H → XI E (M + 4) 60 tx H → XI E (M + 5) 4 f5 H → XI E (M + 6) 7 f6 H → XI E (M + 7) 7 f7 H → Out (bk M 8) s.heap H → va_S (bk M 8) s.heap H locs → lv_has ls 3 [(1, .int (rfSl σ n i).2), (2, .int (nI i)), (0, .ref M)] → W p l e rm_X8_silence s m args below meth c H locs 0 0 Q (F0 m 19 ls []) := by
    intro d19
    induction d19 using Nat.strongRecOn with
    | ind d19 ih19 =>
      intro i H locs ls hd19 hi hn ho hs hp hd3 ht hq5 hq6 hq7 hO hS hl
      refine lv_iload_n S.1 S.2.1 dX8_silence_19 rfl (lv_at hl 1 rfl) ?_
      refine lv_aload_n S.1 S.2.1 dX8_silence_20 rfl (lv_at hl 2 rfl) ?_
      refine x_get S hE (ho) (C := RX8) (T := TX8) (N := 10) rfl inlX8 0 (by decide) (v := .ref (M + 1)) rfl kw7_6 rfl dX8_silence_21 ?_
      refine lv_iconst (v := (nI 0)) S.1 S.2.1 dX8_silence_24 (by decide) ?_
      refine x_iald S hE (hs) 0 rfl (by decide) (by decide) dX8_silence_25 ?_
      refine x_top (y := (nI n)) (hn) ?_
      refine lv_icmp_ge (tgt := 83) S.1 S.2.1 dX8_silence_26 rfl (fun h1 => ?_) (fun h1 => ?_)
      · have hge : i = n := (by have := ge_of_le (by omega) (by omega) h1; omega)
        rw [hge] at hs hn hl
        have hl : lv_has ls 3 [(1, .int (rfSl σ n n).2), (2, .int (nI n)), (0, .ref M)] := hl
        refine lv_iconst (v := (nI 0)) S.1 S.2.1 dX8_silence_83 (by decide) ?_
        refine lv_istore_n S.1 S.2.1 dX8_silence_84 rfl hl (by decide) rfl (fun ls hl => ?_)
        have hl : lv_has ls 3 [(2, .int (nI 0)), (1, .int (rfSl σ n n).2), (0, .ref M)] := hl
        have hloop85 : ∀ (d : Nat) (t : Nat) (H : Heap) (locs : List Loc) (ls : Array Slot), T - t = d → t ≤ T → rfIt (rfSl σ n n).1 n t 0 = nI n → RfO E M (nI np) (nI ty) re H → XI E (M + 1) 1670 (rfIt (rfSl σ n n).1 n t) H → XI E (M + 2) 6680 (rfFl η) H → XI E (M + 3) 1670 σ H → XI E (M + 4) 60 tx H → XI E (M + 5) 4 f5 H → XI E (M + 6) 7 f6 H → XI E (M + 7) 7 f7 H → Out (bk M 8) s.heap H → va_S (bk M 8) s.heap H locs → lv_has ls 3 [(1, .int (rfSl σ n n).2), (2, .int (nI t)), (0, .ref M)] → W p l e rm_X8_silence s m args below meth c H locs 0 0 Q (F0 m 85 ls []) := by
          intro d85
          induction d85 using Nat.strongRecOn with
          | ind d85 ih85 =>
            intro t H locs ls hd85 ht0 hn ho hs hp hd3 ht hq5 hq6 hq7 hO hS hl
            refine lv_iload_n S.1 S.2.1 dX8_silence_85 rfl (lv_at hl 0 rfl) ?_
            refine lv_if_lt (tgt := 112) S.1 S.2.1 dX8_silence_86 rfl (fun h2 => ?_) (fun h2 => ?_)
            · exact absurd h2 (Int32.not_lt.mpr hF)
            · skip
              refine lv_aload_n S.1 S.2.1 dX8_silence_89 rfl (lv_at hl 2 rfl) ?_
              refine xk_R (v := (rfPlc (rfIt (rfSl σ n n).1 n t) n)) (x_runV (As := []) (rest := []) S hE hS (fun _ h => h.elim) (c_X8_placed l E M (nI np) (nI ty) re (rfIt (rfSl σ n n).1 n t) n _ ho hs hn hn2) kv_X8_placed kw13_19 kw13_20 kw13_21 (x_recv hE (ho) (ci := 8) rfl) ⟨Nat.le_of_ble_eq_true rfl, Nat.le_of_ble_eq_true rfl⟩ rfl rfl rfl hl.1 rfl (Nat.le_of_ble_eq_true rfl) dX8_silence_90 ⟨Nat.zero_le _, Nat.zero_le _⟩) ?_
              refine lv_aload_n S.1 S.2.1 dX8_silence_93 rfl (lv_at hl 2 rfl) ?_
              refine lv_iconst (v := (nI 5)) S.1 S.2.1 dX8_silence_94 (by decide) ?_
              refine xk_R (v := (rfMany (rfIt (rfSl σ n n).1 n t) (nI 5) n)) (x_runV (As := [.int (nI 5)]) (rest := [.int (rfPlc (rfIt (rfSl σ n n).1 n t) n)]) S hE hS (fun _ h => h.elim) (c_X8_many l E M (nI np) (nI ty) re (rfIt (rfSl σ n n).1 n t) (nI 5) n _ ho hs hn hn2) kv_X8_many kw13_23 kw14_0 kw14_1 (x_recv hE (ho) (ci := 8) rfl) ⟨Nat.le_of_ble_eq_true rfl, Nat.le_of_ble_eq_true rfl⟩ rfl rfl rfl hl.1 rfl (Nat.le_of_ble_eq_true rfl) dX8_silence_95 ⟨Nat.zero_le _, Nat.zero_le _⟩) ?_
              refine lv_iadd S.1 S.2.1 dX8_silence_98 ?_
              refine lv_if_le (tgt := 112) S.1 S.2.1 dX8_silence_99 rfl (fun h3 => ?_) (fun h3 => ?_)
              · have hT3 : t = T := by
                  by_cases q : t < T
                  · exact absurd h3 (hT t q)
                  · omega
                refine lv_aload_n S.1 S.2.1 dX8_silence_112 rfl (lv_at hl 2 rfl) ?_
                refine lv_aload_n S.1 S.2.1 dX8_silence_113 rfl (lv_at hl 2 rfl) ?_
                refine x_get S hE (ho) (C := RX8) (T := TX8) (N := 10) rfl inlX8 2 (by decide) (v := .ref (M + 3)) rfl kw7_8 rfl dX8_silence_114 ?_
                refine lv_aload_n S.1 S.2.1 dX8_silence_117 rfl (lv_at hl 2 rfl) ?_
                refine x_get S hE (ho) (C := RX8) (T := TX8) (N := 10) rfl inlX8 0 (by decide) (v := .ref (M + 1)) rfl kw7_6 rfl dX8_silence_118 ?_
                refine xk_V (x_runV (As := [.ref (M + 3), .ref (M + 1)]) (rest := []) S hE hS (fun q h => bkM (k := 1) h (by decide)) (c_X8_copies l E M (M + 3) (M + 1) σ (rfIt (rfSl σ n n).1 n t) _ hd3 hs (by omega)) kv_X8_copies kw24_22 kw24_23 kw25_0 (x_recv hE (ho) (ci := 8) rfl) ⟨Nat.le_of_ble_eq_true rfl, Nat.le_of_ble_eq_true rfl⟩ rfl rfl rfl hl.1 rfl (Nat.le_of_ble_eq_true rfl) dX8_silence_121 ⟨Nat.zero_le _, Nat.zero_le _⟩) hS (fun q h => bkM (k := 1) h (by decide)) (fun H locs hX hO1 hS => ?_)
                have hO := hO.tr hO1 (fun q h => bkM (k := 1) h (by decide))
                have ho := va_at.kept ho (hO1.2 (M) (fun z => by have z : M = M + 1 := z; omega))
                have hp := va_at.kept hp (hO1.2 (M + 2) (fun z => by have z : M + 2 = M + 1 := z; omega))
                have hd3 := va_at.kept hd3 (hO1.2 (M + 3) (fun z => by have z : M + 3 = M + 1 := z; omega))
                have ht := va_at.kept ht (hO1.2 (M + 4) (fun z => by have z : M + 4 = M + 1 := z; omega))
                have hq5 := va_at.kept hq5 (hO1.2 (M + 5) (fun z => by have z : M + 5 = M + 1 := z; omega))
                have hq6 := va_at.kept hq6 (hO1.2 (M + 6) (fun z => by have z : M + 6 = M + 1 := z; omega))
                have hq7 := va_at.kept hq7 (hO1.2 (M + 7) (fun z => by have z : M + 7 = M + 1 := z; omega))
                have hs := hX
                refine lv_iload_n S.1 S.2.1 dX8_silence_124 rfl (lv_at hl 1 rfl) ?_
                subst hQ
                refine x_retW S hr hlk (rfl) hS hO ?_ dX8_silence_125
                exact ⟨by rw [hT3], ⟨_, ho, hs, hp, ⟨_, hd3⟩, ht, ⟨_, hq5⟩, ⟨_, hq6⟩, ⟨_, hq7⟩⟩⟩
              · have hlt2 : t < T := by
                  by_cases q : t = T
                  · exact absurd (q ▸ hT2) h3
                  · omega
                refine lv_aload_n S.1 S.2.1 dX8_silence_102 rfl (lv_at hl 2 rfl) ?_
                refine xk_V (x_runV (As := []) (rest := []) S hE hS (fun q h => bkM (k := 1) h (by decide)) (c_X8_ticks l E M (nI np) (nI ty) re (rfIt (rfSl σ n n).1 n t) n _ ho hs hn hn2) kv_X8_ticks kw18_11 kw18_12 kw18_13 (x_recv hE (ho) (ci := 8) rfl) ⟨Nat.le_of_ble_eq_true rfl, Nat.le_of_ble_eq_true rfl⟩ rfl rfl rfl hl.1 rfl (Nat.le_of_ble_eq_true rfl) dX8_silence_103 ⟨Nat.zero_le _, Nat.zero_le _⟩) hS (fun q h => bkM (k := 1) h (by decide)) (fun H locs hX hO1 hS => ?_)
                have hO := hO.tr hO1 (fun q h => bkM (k := 1) h (by decide))
                have ho := va_at.kept ho (hO1.2 (M) (fun z => by have z : M = M + 1 := z; omega))
                have hp := va_at.kept hp (hO1.2 (M + 2) (fun z => by have z : M + 2 = M + 1 := z; omega))
                have hd3 := va_at.kept hd3 (hO1.2 (M + 3) (fun z => by have z : M + 3 = M + 1 := z; omega))
                have ht := va_at.kept ht (hO1.2 (M + 4) (fun z => by have z : M + 4 = M + 1 := z; omega))
                have hq5 := va_at.kept hq5 (hO1.2 (M + 5) (fun z => by have z : M + 5 = M + 1 := z; omega))
                have hq6 := va_at.kept hq6 (hO1.2 (M + 6) (fun z => by have z : M + 6 = M + 1 := z; omega))
                have hq7 := va_at.kept hq7 (hO1.2 (M + 7) (fun z => by have z : M + 7 = M + 1 := z; omega))
                have hs : XI E (M + 1) 1670 (rfTick (rfIt (rfSl σ n n).1 n t) n) H := hX
                have hn : (rfTick (rfIt (rfSl σ n n).1 n t) n) 0 = nI n := (rfTick_0 (by decide) (by decide)).trans hn
                refine lv_iinc (k := 1) (v := (nI (t + 1))) S.1 S.2.1 dX8_silence_106 hl rfl (iincP t 1) (by decide) rfl (fun ls hl => ?_)
                have hl : lv_has ls 3 [(2, .int (nI (t + 1))), (1, .int (rfSl σ n n).2), (0, .ref M)] := hl
                refine lv_goto (tgt := 85) S.1 S.2.1 dX8_silence_109 rfl ?_
                exact ih85 _ (by omega) (t + 1) _ _ ls rfl (by omega) (hn) (ho) (hs) (hp) (hd3) (ht) (hq5) (hq6) (hq7) (hO) (hS) (lv_sub hl [1, 0, 2] rfl)
        exact hloop85 _ 0 _ _ ls rfl (Nat.zero_le _) (hn) (ho) (hs) (hp) (hd3) (ht) (hq5) (hq6) (hq7) (hO) (hS) (lv_sub hl [1, 0, 2] rfl)
      · have hlt : i < n := lt_of_nle (by omega) (by omega) h1
        refine lv_aload_n S.1 S.2.1 dX8_silence_29 rfl (lv_at hl 2 rfl) ?_
        refine lv_iload_n S.1 S.2.1 dX8_silence_30 rfl (lv_at hl 1 rfl) ?_
        refine lv_iconst (v := (nI 3)) S.1 S.2.1 dX8_silence_31 (by decide) ?_
        refine xk_R (v := (nf (rfSl σ n i).1 i 3)) (x_runV (As := [.int (nI i), .int (nI 3)]) (rest := []) S hE hS (fun _ h => h.elim) (c_X8_of l E M (nI np) (nI ty) re (rfSl σ n i).1 i 3 _ ho hs (by omega) (by omega)) kv_X8_of kw12_22 kw12_23 kw13_0 (x_recv hE (ho) (ci := 8) rfl) ⟨Nat.le_of_ble_eq_true rfl, Nat.le_of_ble_eq_true rfl⟩ rfl rfl rfl hl.1 rfl (Nat.le_of_ble_eq_true rfl) dX8_silence_32 ⟨Nat.zero_le _, Nat.zero_le _⟩) ?_
        refine lv_iconst (v := (nI 1)) S.1 S.2.1 dX8_silence_35 (by decide) ?_
        refine lv_iconst (v := (nI 3)) S.1 S.2.1 dX8_silence_36 (by decide) ?_
        refine xk_R (v := (bI ((nI 1) ≤ (nf (rfSl σ n i).1 i 3) ∧ (nf (rfSl σ n i).1 i 3) ≤ (nI 3)))) (x_runS (As := [.int (nf (rfSl σ n i).1 i 3), .int (nI 1), .int (nI 3)]) (rest := []) S hE hS (fun _ h => h.elim) (c_X8_in l E (nf (rfSl σ n i).1 i 3) (nI 1) (nI 3) _) kv_X8_in kw12_11 kw12_12 ⟨Nat.le_of_ble_eq_true rfl, Nat.le_of_ble_eq_true rfl⟩ rfl rfl rfl hl.1 rfl (Nat.le_of_ble_eq_true rfl) dX8_silence_37 ⟨Nat.zero_le _, Nat.zero_le _⟩) ?_
        refine lv_if_eq (tgt := 51) S.1 S.2.1 dX8_silence_40 rfl (fun h4 => ?_) (fun h4 => ?_)
        · skip
          have h4 := bI_0 h4
          refine lv_aload_n S.1 S.2.1 dX8_silence_51 rfl (lv_at hl 2 rfl) ?_
          refine lv_iload_n S.1 S.2.1 dX8_silence_52 rfl (lv_at hl 1 rfl) ?_
          refine lv_iconst (v := (nI 3)) S.1 S.2.1 dX8_silence_53 (by decide) ?_
          refine lv_aload_n S.1 S.2.1 dX8_silence_54 rfl (lv_at hl 2 rfl) ?_
          refine lv_iload_n S.1 S.2.1 dX8_silence_55 rfl (lv_at hl 1 rfl) ?_
          refine lv_iconst (v := (nI 3)) S.1 S.2.1 dX8_silence_56 (by decide) ?_
          refine xk_R (v := (nf (rfSl σ n i).1 i 3)) (x_runV (As := [.int (nI i), .int (nI 3)]) (rest := [.int (nI 3), .int (nI i), .ref M]) S hE hS (fun _ h => h.elim) (c_X8_of l E M (nI np) (nI ty) re (rfSl σ n i).1 i 3 _ ho hs (by omega) (by omega)) kv_X8_of kw12_22 kw12_23 kw13_0 (x_recv hE (ho) (ci := 8) rfl) ⟨Nat.le_of_ble_eq_true rfl, Nat.le_of_ble_eq_true rfl⟩ rfl rfl rfl hl.1 rfl (Nat.le_of_ble_eq_true rfl) dX8_silence_57 ⟨Nat.zero_le _, Nat.zero_le _⟩) ?_
          refine lv_if_ne (tgt := 68) S.1 S.2.1 dX8_silence_60 rfl (fun h5 => ?_) (fun h5 => ?_)
          · skip
            refine lv_aload_n S.1 S.2.1 dX8_silence_68 rfl (lv_at hl 2 rfl) ?_
            refine lv_iload_n S.1 S.2.1 dX8_silence_69 rfl (lv_at hl 1 rfl) ?_
            refine lv_iconst (v := (nI 3)) S.1 S.2.1 dX8_silence_70 (by decide) ?_
            refine xk_R (v := (nf (rfSl σ n i).1 i 3)) (x_runV (As := [.int (nI i), .int (nI 3)]) (rest := [.int (nI 3), .int (nI i), .ref M]) S hE hS (fun _ h => h.elim) (c_X8_of l E M (nI np) (nI ty) re (rfSl σ n i).1 i 3 _ ho hs (by omega) (by omega)) kv_X8_of kw12_22 kw12_23 kw13_0 (x_recv hE (ho) (ci := 8) rfl) ⟨Nat.le_of_ble_eq_true rfl, Nat.le_of_ble_eq_true rfl⟩ rfl rfl rfl hl.1 rfl (Nat.le_of_ble_eq_true rfl) dX8_silence_71 ⟨Nat.zero_le _, Nat.zero_le _⟩) ?_
            refine xk_V (x_runV (As := [.int (nI i), .int (nI 3), .int (nf (rfSl σ n i).1 i 3)]) (rest := []) S hE hS (fun q h => bkM (k := 1) h (by decide)) (c_X8_puts l E M (nI np) (nI ty) re (rfSl σ n i).1 i 3 (nf (rfSl σ n i).1 i 3) _ ho hs (by omega) (by omega)) kv_X8_puts kw13_11 kw13_12 kw13_13 (x_recv hE (ho) (ci := 8) rfl) ⟨Nat.le_of_ble_eq_true rfl, Nat.le_of_ble_eq_true rfl⟩ rfl rfl rfl hl.1 rfl (Nat.le_of_ble_eq_true rfl) dX8_silence_74 ⟨Nat.zero_le _, Nat.zero_le _⟩) hS (fun q h => bkM (k := 1) h (by decide)) (fun H locs hX hO1 hS => ?_)
            have hO := hO.tr hO1 (fun q h => bkM (k := 1) h (by decide))
            have ho := va_at.kept ho (hO1.2 (M) (fun z => by have z : M = M + 1 := z; omega))
            have hp := va_at.kept hp (hO1.2 (M + 2) (fun z => by have z : M + 2 = M + 1 := z; omega))
            have hd3 := va_at.kept hd3 (hO1.2 (M + 3) (fun z => by have z : M + 3 = M + 1 := z; omega))
            have ht := va_at.kept ht (hO1.2 (M + 4) (fun z => by have z : M + 4 = M + 1 := z; omega))
            have hq5 := va_at.kept hq5 (hO1.2 (M + 5) (fun z => by have z : M + 5 = M + 1 := z; omega))
            have hq6 := va_at.kept hq6 (hO1.2 (M + 6) (fun z => by have z : M + 6 = M + 1 := z; omega))
            have hq7 := va_at.kept hq7 (hO1.2 (M + 7) (fun z => by have z : M + 7 = M + 1 := z; omega))
            have hs : XI E (M + 1) 1670 (nset (rfSl σ n i).1 i 3 (nf (rfSl σ n i).1 i 3)) H := hX
            have hn : (nset (rfSl σ n i).1 i 3 (nf (rfSl σ n i).1 i 3)) 0 = nI n := ((nset_lo (by decide))).trans hn
            refine lv_iinc (k := 1) (v := (nI (i + 1))) S.1 S.2.1 dX8_silence_77 hl rfl (iincP i 1) (by decide) rfl (fun ls hl => ?_)
            have hl : lv_has ls 3 [(2, .int (nI (i + 1))), (1, .int (rfSl σ n i).2), (0, .ref M)] := hl
            refine lv_goto (tgt := 19) S.1 S.2.1 dX8_silence_80 rfl ?_
            have hq1 : rfSl1 (rfSl σ n i) i = (rfSl σ n i) := if_neg h4
            have hq : rfSl σ n (i + 1) = (nset (rfSl σ n i).1 i 3 (nf (rfSl σ n i).1 i 3), (rfSl σ n i).2) := by show rfSl2 (rfSl1 (rfSl σ n i) i) i = _; rw [hq1]; unfold rfSl2; (try simp only []); rw [if_neg h5]
            have hs : XI E (M + 1) 1670 (rfSl σ n (i + 1)).1 H := by rw [hq]; exact hs
            have hn : (rfSl σ n (i + 1)).1 0 = nI n := by rw [hq]; exact hn
            have hl : lv_has ls 3 [(1, .int (rfSl σ n (i + 1)).2), (2, .int (nI (i + 1))), (0, .ref M)] := by
              rw [show (rfSl σ n (i + 1)).2 = (rfSl σ n i).2 from by rw [hq]]
              exact lv_sub hl [1, 0, 2] rfl
            exact ih19 _ (by omega) (i + 1) _ _ ls rfl (by omega) (hn) (ho) (hs) (hp) (hd3) (ht) (hq5) (hq6) (hq7) (hO) (hS) (lv_sub hl [0, 1, 2] rfl)
          · skip
            refine lv_bipush (v := (nI 6)) S.1 S.2.1 dX8_silence_63 (by decide) ?_
            refine lv_goto (tgt := 74) S.1 S.2.1 dX8_silence_65 rfl ?_
            refine xk_V (x_runV (As := [.int (nI i), .int (nI 3), .int (nI 6)]) (rest := []) S hE hS (fun q h => bkM (k := 1) h (by decide)) (c_X8_puts l E M (nI np) (nI ty) re (rfSl σ n i).1 i 3 (nI 6) _ ho hs (by omega) (by omega)) kv_X8_puts kw13_11 kw13_12 kw13_13 (x_recv hE (ho) (ci := 8) rfl) ⟨Nat.le_of_ble_eq_true rfl, Nat.le_of_ble_eq_true rfl⟩ rfl rfl rfl hl.1 rfl (Nat.le_of_ble_eq_true rfl) dX8_silence_74 ⟨Nat.zero_le _, Nat.zero_le _⟩) hS (fun q h => bkM (k := 1) h (by decide)) (fun H locs hX hO1 hS => ?_)
            have hO := hO.tr hO1 (fun q h => bkM (k := 1) h (by decide))
            have ho := va_at.kept ho (hO1.2 (M) (fun z => by have z : M = M + 1 := z; omega))
            have hp := va_at.kept hp (hO1.2 (M + 2) (fun z => by have z : M + 2 = M + 1 := z; omega))
            have hd3 := va_at.kept hd3 (hO1.2 (M + 3) (fun z => by have z : M + 3 = M + 1 := z; omega))
            have ht := va_at.kept ht (hO1.2 (M + 4) (fun z => by have z : M + 4 = M + 1 := z; omega))
            have hq5 := va_at.kept hq5 (hO1.2 (M + 5) (fun z => by have z : M + 5 = M + 1 := z; omega))
            have hq6 := va_at.kept hq6 (hO1.2 (M + 6) (fun z => by have z : M + 6 = M + 1 := z; omega))
            have hq7 := va_at.kept hq7 (hO1.2 (M + 7) (fun z => by have z : M + 7 = M + 1 := z; omega))
            have hs : XI E (M + 1) 1670 (nset (rfSl σ n i).1 i 3 (nI 6)) H := hX
            have hn : (nset (rfSl σ n i).1 i 3 (nI 6)) 0 = nI n := ((nset_lo (by decide))).trans hn
            refine lv_iinc (k := 1) (v := (nI (i + 1))) S.1 S.2.1 dX8_silence_77 hl rfl (iincP i 1) (by decide) rfl (fun ls hl => ?_)
            have hl : lv_has ls 3 [(2, .int (nI (i + 1))), (1, .int (rfSl σ n i).2), (0, .ref M)] := hl
            refine lv_goto (tgt := 19) S.1 S.2.1 dX8_silence_80 rfl ?_
            have hq1 : rfSl1 (rfSl σ n i) i = (rfSl σ n i) := if_neg h4
            have hq : rfSl σ n (i + 1) = (nset (rfSl σ n i).1 i 3 (nI 6), (rfSl σ n i).2) := by show rfSl2 (rfSl1 (rfSl σ n i) i) i = _; rw [hq1]; unfold rfSl2; (try simp only []); rw [if_pos h5]
            have hs : XI E (M + 1) 1670 (rfSl σ n (i + 1)).1 H := by rw [hq]; exact hs
            have hn : (rfSl σ n (i + 1)).1 0 = nI n := by rw [hq]; exact hn
            have hl : lv_has ls 3 [(1, .int (rfSl σ n (i + 1)).2), (2, .int (nI (i + 1))), (0, .ref M)] := by
              rw [show (rfSl σ n (i + 1)).2 = (rfSl σ n i).2 from by rw [hq]]
              exact lv_sub hl [1, 0, 2] rfl
            exact ih19 _ (by omega) (i + 1) _ _ ls rfl (by omega) (hn) (ho) (hs) (hp) (hd3) (ht) (hq5) (hq6) (hq7) (hO) (hS) (lv_sub hl [0, 1, 2] rfl)
        · skip
          have h4 := bI_n0 h4
          refine lv_aload_n S.1 S.2.1 dX8_silence_43 rfl (lv_at hl 2 rfl) ?_
          refine lv_iload_n S.1 S.2.1 dX8_silence_44 rfl (lv_at hl 1 rfl) ?_
          refine xk_V (x_runV (As := [.int (nI i)]) (rest := []) S hE hS (fun q h => bkM (k := 1) h (by decide)) (c_X8_fades l E M (nI np) (nI ty) re (rfSl σ n i).1 i _ ho hs (by omega)) kv_X8_fades kw15_8 kw15_9 kw15_10 (x_recv hE (ho) (ci := 8) rfl) ⟨Nat.le_of_ble_eq_true rfl, Nat.le_of_ble_eq_true rfl⟩ rfl rfl rfl hl.1 rfl (Nat.le_of_ble_eq_true rfl) dX8_silence_45 ⟨Nat.zero_le _, Nat.zero_le _⟩) hS (fun q h => bkM (k := 1) h (by decide)) (fun H locs hX hO1 hS => ?_)
          have hO := hO.tr hO1 (fun q h => bkM (k := 1) h (by decide))
          have ho := va_at.kept ho (hO1.2 (M) (fun z => by have z : M = M + 1 := z; omega))
          have hp := va_at.kept hp (hO1.2 (M + 2) (fun z => by have z : M + 2 = M + 1 := z; omega))
          have hd3 := va_at.kept hd3 (hO1.2 (M + 3) (fun z => by have z : M + 3 = M + 1 := z; omega))
          have ht := va_at.kept ht (hO1.2 (M + 4) (fun z => by have z : M + 4 = M + 1 := z; omega))
          have hq5 := va_at.kept hq5 (hO1.2 (M + 5) (fun z => by have z : M + 5 = M + 1 := z; omega))
          have hq6 := va_at.kept hq6 (hO1.2 (M + 6) (fun z => by have z : M + 6 = M + 1 := z; omega))
          have hq7 := va_at.kept hq7 (hO1.2 (M + 7) (fun z => by have z : M + 7 = M + 1 := z; omega))
          have hs : XI E (M + 1) 1670 (rfFades (rfSl σ n i).1 i) H := hX
          have hn : (rfFades (rfSl σ n i).1 i) 0 = nI n := (rfFades_0 (by decide)).trans hn
          refine lv_iinc (k := 0) (v := ((rfSl σ n i).2 + nI 1)) S.1 S.2.1 dX8_silence_48 hl rfl (rfl) (by decide) rfl (fun ls hl => ?_)
          have hl : lv_has ls 3 [(1, .int ((rfSl σ n i).2 + nI 1)), (2, .int (nI i)), (0, .ref M)] := hl
          refine lv_aload_n S.1 S.2.1 dX8_silence_51 rfl (lv_at hl 2 rfl) ?_
          refine lv_iload_n S.1 S.2.1 dX8_silence_52 rfl (lv_at hl 1 rfl) ?_
          refine lv_iconst (v := (nI 3)) S.1 S.2.1 dX8_silence_53 (by decide) ?_
          refine lv_aload_n S.1 S.2.1 dX8_silence_54 rfl (lv_at hl 2 rfl) ?_
          refine lv_iload_n S.1 S.2.1 dX8_silence_55 rfl (lv_at hl 1 rfl) ?_
          refine lv_iconst (v := (nI 3)) S.1 S.2.1 dX8_silence_56 (by decide) ?_
          refine xk_R (v := (nf (rfFades (rfSl σ n i).1 i) i 3)) (x_runV (As := [.int (nI i), .int (nI 3)]) (rest := [.int (nI 3), .int (nI i), .ref M]) S hE hS (fun _ h => h.elim) (c_X8_of l E M (nI np) (nI ty) re (rfFades (rfSl σ n i).1 i) i 3 _ ho hs (by omega) (by omega)) kv_X8_of kw12_22 kw12_23 kw13_0 (x_recv hE (ho) (ci := 8) rfl) ⟨Nat.le_of_ble_eq_true rfl, Nat.le_of_ble_eq_true rfl⟩ rfl rfl rfl hl.1 rfl (Nat.le_of_ble_eq_true rfl) dX8_silence_57 ⟨Nat.zero_le _, Nat.zero_le _⟩) ?_
          refine lv_if_ne (tgt := 68) S.1 S.2.1 dX8_silence_60 rfl (fun h6 => ?_) (fun h6 => ?_)
          · skip
            refine lv_aload_n S.1 S.2.1 dX8_silence_68 rfl (lv_at hl 2 rfl) ?_
            refine lv_iload_n S.1 S.2.1 dX8_silence_69 rfl (lv_at hl 1 rfl) ?_
            refine lv_iconst (v := (nI 3)) S.1 S.2.1 dX8_silence_70 (by decide) ?_
            refine xk_R (v := (nf (rfFades (rfSl σ n i).1 i) i 3)) (x_runV (As := [.int (nI i), .int (nI 3)]) (rest := [.int (nI 3), .int (nI i), .ref M]) S hE hS (fun _ h => h.elim) (c_X8_of l E M (nI np) (nI ty) re (rfFades (rfSl σ n i).1 i) i 3 _ ho hs (by omega) (by omega)) kv_X8_of kw12_22 kw12_23 kw13_0 (x_recv hE (ho) (ci := 8) rfl) ⟨Nat.le_of_ble_eq_true rfl, Nat.le_of_ble_eq_true rfl⟩ rfl rfl rfl hl.1 rfl (Nat.le_of_ble_eq_true rfl) dX8_silence_71 ⟨Nat.zero_le _, Nat.zero_le _⟩) ?_
            refine xk_V (x_runV (As := [.int (nI i), .int (nI 3), .int (nf (rfFades (rfSl σ n i).1 i) i 3)]) (rest := []) S hE hS (fun q h => bkM (k := 1) h (by decide)) (c_X8_puts l E M (nI np) (nI ty) re (rfFades (rfSl σ n i).1 i) i 3 (nf (rfFades (rfSl σ n i).1 i) i 3) _ ho hs (by omega) (by omega)) kv_X8_puts kw13_11 kw13_12 kw13_13 (x_recv hE (ho) (ci := 8) rfl) ⟨Nat.le_of_ble_eq_true rfl, Nat.le_of_ble_eq_true rfl⟩ rfl rfl rfl hl.1 rfl (Nat.le_of_ble_eq_true rfl) dX8_silence_74 ⟨Nat.zero_le _, Nat.zero_le _⟩) hS (fun q h => bkM (k := 1) h (by decide)) (fun H locs hX hO1 hS => ?_)
            have hO := hO.tr hO1 (fun q h => bkM (k := 1) h (by decide))
            have ho := va_at.kept ho (hO1.2 (M) (fun z => by have z : M = M + 1 := z; omega))
            have hp := va_at.kept hp (hO1.2 (M + 2) (fun z => by have z : M + 2 = M + 1 := z; omega))
            have hd3 := va_at.kept hd3 (hO1.2 (M + 3) (fun z => by have z : M + 3 = M + 1 := z; omega))
            have ht := va_at.kept ht (hO1.2 (M + 4) (fun z => by have z : M + 4 = M + 1 := z; omega))
            have hq5 := va_at.kept hq5 (hO1.2 (M + 5) (fun z => by have z : M + 5 = M + 1 := z; omega))
            have hq6 := va_at.kept hq6 (hO1.2 (M + 6) (fun z => by have z : M + 6 = M + 1 := z; omega))
            have hq7 := va_at.kept hq7 (hO1.2 (M + 7) (fun z => by have z : M + 7 = M + 1 := z; omega))
            have hs : XI E (M + 1) 1670 (nset (rfFades (rfSl σ n i).1 i) i 3 (nf (rfFades (rfSl σ n i).1 i) i 3)) H := hX
            have hn : (nset (rfFades (rfSl σ n i).1 i) i 3 (nf (rfFades (rfSl σ n i).1 i) i 3)) 0 = nI n := ((nset_lo (by decide))).trans hn
            refine lv_iinc (k := 1) (v := (nI (i + 1))) S.1 S.2.1 dX8_silence_77 hl rfl (iincP i 1) (by decide) rfl (fun ls hl => ?_)
            have hl : lv_has ls 3 [(2, .int (nI (i + 1))), (1, .int ((rfSl σ n i).2 + nI 1)), (0, .ref M)] := hl
            refine lv_goto (tgt := 19) S.1 S.2.1 dX8_silence_80 rfl ?_
            have hq1 : rfSl1 (rfSl σ n i) i = (rfFades (rfSl σ n i).1 i, (rfSl σ n i).2 + nI 1) := if_pos h4
            have hq : rfSl σ n (i + 1) = (nset (rfFades (rfSl σ n i).1 i) i 3 (nf (rfFades (rfSl σ n i).1 i) i 3), (rfSl σ n i).2 + nI 1) := by show rfSl2 (rfSl1 (rfSl σ n i) i) i = _; rw [hq1]; unfold rfSl2; (try simp only []); rw [if_neg h6]
            have hs : XI E (M + 1) 1670 (rfSl σ n (i + 1)).1 H := by rw [hq]; exact hs
            have hn : (rfSl σ n (i + 1)).1 0 = nI n := by rw [hq]; exact hn
            have hl : lv_has ls 3 [(1, .int (rfSl σ n (i + 1)).2), (2, .int (nI (i + 1))), (0, .ref M)] := by
              rw [show (rfSl σ n (i + 1)).2 = ((rfSl σ n i).2 + nI 1) from by rw [hq]]
              exact lv_sub hl [1, 0, 2] rfl
            exact ih19 _ (by omega) (i + 1) _ _ ls rfl (by omega) (hn) (ho) (hs) (hp) (hd3) (ht) (hq5) (hq6) (hq7) (hO) (hS) (lv_sub hl [0, 1, 2] rfl)
          · skip
            refine lv_bipush (v := (nI 6)) S.1 S.2.1 dX8_silence_63 (by decide) ?_
            refine lv_goto (tgt := 74) S.1 S.2.1 dX8_silence_65 rfl ?_
            refine xk_V (x_runV (As := [.int (nI i), .int (nI 3), .int (nI 6)]) (rest := []) S hE hS (fun q h => bkM (k := 1) h (by decide)) (c_X8_puts l E M (nI np) (nI ty) re (rfFades (rfSl σ n i).1 i) i 3 (nI 6) _ ho hs (by omega) (by omega)) kv_X8_puts kw13_11 kw13_12 kw13_13 (x_recv hE (ho) (ci := 8) rfl) ⟨Nat.le_of_ble_eq_true rfl, Nat.le_of_ble_eq_true rfl⟩ rfl rfl rfl hl.1 rfl (Nat.le_of_ble_eq_true rfl) dX8_silence_74 ⟨Nat.zero_le _, Nat.zero_le _⟩) hS (fun q h => bkM (k := 1) h (by decide)) (fun H locs hX hO1 hS => ?_)
            have hO := hO.tr hO1 (fun q h => bkM (k := 1) h (by decide))
            have ho := va_at.kept ho (hO1.2 (M) (fun z => by have z : M = M + 1 := z; omega))
            have hp := va_at.kept hp (hO1.2 (M + 2) (fun z => by have z : M + 2 = M + 1 := z; omega))
            have hd3 := va_at.kept hd3 (hO1.2 (M + 3) (fun z => by have z : M + 3 = M + 1 := z; omega))
            have ht := va_at.kept ht (hO1.2 (M + 4) (fun z => by have z : M + 4 = M + 1 := z; omega))
            have hq5 := va_at.kept hq5 (hO1.2 (M + 5) (fun z => by have z : M + 5 = M + 1 := z; omega))
            have hq6 := va_at.kept hq6 (hO1.2 (M + 6) (fun z => by have z : M + 6 = M + 1 := z; omega))
            have hq7 := va_at.kept hq7 (hO1.2 (M + 7) (fun z => by have z : M + 7 = M + 1 := z; omega))
            have hs : XI E (M + 1) 1670 (nset (rfFades (rfSl σ n i).1 i) i 3 (nI 6)) H := hX
            have hn : (nset (rfFades (rfSl σ n i).1 i) i 3 (nI 6)) 0 = nI n := ((nset_lo (by decide))).trans hn
            refine lv_iinc (k := 1) (v := (nI (i + 1))) S.1 S.2.1 dX8_silence_77 hl rfl (iincP i 1) (by decide) rfl (fun ls hl => ?_)
            have hl : lv_has ls 3 [(2, .int (nI (i + 1))), (1, .int ((rfSl σ n i).2 + nI 1)), (0, .ref M)] := hl
            refine lv_goto (tgt := 19) S.1 S.2.1 dX8_silence_80 rfl ?_
            have hq1 : rfSl1 (rfSl σ n i) i = (rfFades (rfSl σ n i).1 i, (rfSl σ n i).2 + nI 1) := if_pos h4
            have hq : rfSl σ n (i + 1) = (nset (rfFades (rfSl σ n i).1 i) i 3 (nI 6), (rfSl σ n i).2 + nI 1) := by show rfSl2 (rfSl1 (rfSl σ n i) i) i = _; rw [hq1]; unfold rfSl2; (try simp only []); rw [if_pos h6]
            have hs : XI E (M + 1) 1670 (rfSl σ n (i + 1)).1 H := by rw [hq]; exact hs
            have hn : (rfSl σ n (i + 1)).1 0 = nI n := by rw [hq]; exact hn
            have hl : lv_has ls 3 [(1, .int (rfSl σ n (i + 1)).2), (2, .int (nI (i + 1))), (0, .ref M)] := by
              rw [show (rfSl σ n (i + 1)).2 = ((rfSl σ n i).2 + nI 1) from by rw [hq]]
              exact lv_sub hl [1, 0, 2] rfl
            exact ih19 _ (by omega) (i + 1) _ _ ls rfl (by omega) (hn) (ho) (hs) (hp) (hd3) (ht) (hq5) (hq6) (hq7) (hO) (hS) (lv_sub hl [0, 1, 2] rfl)
  exact hloop19 _ 0 _ _ ls rfl (Nat.zero_le _) (hn) (ho) (hs) (hp) (hd3) (ht) (hq5) (hq6) (hq7) (hO) (hS) (lv_sub hl [1, 0, 2] rfl)
abbrev rm_X8_freeIn : Room := ({ frames := 5, cells := 0, slots := 0, locals := 111 } : Room)
set_option maxRecDepth 100000 in
set_option maxHeartbeats 600000 in
theorem c_X8_freeIn (l : Launch) (E : XE) (M n : Nat) (σ : Nat → Int32) (η : Nat → Nat → Int32) (np : Nat) (tx : Nat → Int32) (ty : Nat) (H : Heap) (hP : RfP E M (σ, (η, np), (tx, ty)) H) (hn : σ 0 = nI n) (hn2 : n ≤ 200) (hnp : np ≤ 4) (T : Nat) (hT : ∀ t, t < T → rfFree (rfIt σ n t) n = 0) (hT2 : T ≤ 201) (hT3 : T = 201 ∨ ¬ rfFree (rfIt σ n T) n = 0) : Wr l E yX8_freeIn cX8_freeIn 2 (some .int) rm_X8_freeIn [.ref M] H (bk M 8) (fun v H1 => v = (if T = 201 then (-4) else nI T) ∧ RfP E M (σ, (η, np), (tx, ty)) H1) := by
  refine met_of (by decide) (Nat.le_of_ble_eq_true rfl) (fun p e s m args below meth c hBD Q hQ ls hl => ?_)
  obtain ⟨S, hr, hlk, hnm, hE, hH⟩ := hBD
  subst hH
  have hl : lv_has ls 2 [(0, .ref M)] := hl
  have hO : Out (bk M 8) s.heap s.heap := Out.rf
  have hS : va_S (bk M 8) s.heap s.heap [] := va_S.rf
  obtain ⟨re, ho, hs, hp, ⟨f3, hd3⟩, ht, ⟨f5, hq5⟩, ⟨f6, hq6⟩, ⟨f7, hq7⟩⟩ := hP
  have ho : RfO E M (nI np) (nI ty) re s.heap := ho
  have hs : XI E (M + 1) 1670 σ s.heap := hs
  have hp : XI E (M + 2) 6680 (rfFl η) s.heap := hp
  have ht : XI E (M + 4) 60 tx s.heap := ht
  refine lv_aload_n S.1 S.2.1 dX8_freeIn_0 rfl (lv_at hl 0 rfl) ?_
  refine lv_aload_n S.1 S.2.1 dX8_freeIn_1 rfl (lv_at hl 0 rfl) ?_
  refine x_get S hE (ho) (C := RX8) (T := TX8) (N := 10) rfl inlX8 0 (by decide) (v := .ref (M + 1)) rfl kw7_6 rfl dX8_freeIn_2 ?_
  refine lv_aload_n S.1 S.2.1 dX8_freeIn_5 rfl (lv_at hl 0 rfl) ?_
  refine x_get S hE (ho) (C := RX8) (T := TX8) (N := 10) rfl inlX8 2 (by decide) (v := .ref (M + 3)) rfl kw7_8 rfl dX8_freeIn_6 ?_
  refine xk_V (x_runV (As := [.ref (M + 1), .ref (M + 3)]) (rest := []) S hE hS (fun q h => bkM (k := 3) h (by decide)) (c_X8_copies l E M (M + 1) (M + 3) σ f3 _ hs hd3 (by omega)) kv_X8_copies kw24_22 kw24_23 kw25_0 (x_recv hE (ho) (ci := 8) rfl) ⟨Nat.le_of_ble_eq_true rfl, Nat.le_of_ble_eq_true rfl⟩ rfl rfl rfl hl.1 rfl (Nat.le_of_ble_eq_true rfl) dX8_freeIn_9 ⟨Nat.zero_le _, Nat.zero_le _⟩) hS (fun q h => bkM (k := 3) h (by decide)) (fun H locs hX hO1 hS => ?_)
  have hO := hO.tr hO1 (fun q h => bkM (k := 3) h (by decide))
  have ho := va_at.kept ho (hO1.2 (M) (fun z => by have z : M = M + 3 := z; omega))
  have hs := va_at.kept hs (hO1.2 (M + 1) (fun z => by have z : M + 1 = M + 3 := z; omega))
  have hp := va_at.kept hp (hO1.2 (M + 2) (fun z => by have z : M + 2 = M + 3 := z; omega))
  have ht := va_at.kept ht (hO1.2 (M + 4) (fun z => by have z : M + 4 = M + 3 := z; omega))
  have hq5 := va_at.kept hq5 (hO1.2 (M + 5) (fun z => by have z : M + 5 = M + 3 := z; omega))
  have hq6 := va_at.kept hq6 (hO1.2 (M + 6) (fun z => by have z : M + 6 = M + 3 := z; omega))
  have hq7 := va_at.kept hq7 (hO1.2 (M + 7) (fun z => by have z : M + 7 = M + 3 := z; omega))
  have hd3 := hX
  refine lv_iconst (v := (nI 0)) S.1 S.2.1 dX8_freeIn_12 (by decide) ?_
  refine lv_istore_n S.1 S.2.1 dX8_freeIn_13 rfl hl (by decide) rfl (fun ls hl => ?_)
  have hl : lv_has ls 2 [(1, .int (nI 0)), (0, .ref M)] := hl
  have hloop14 : ∀ (d : Nat) (t : Nat) (H : Heap) (locs : List Loc) (ls : Array Slot), T - t = d → t ≤ T → rfIt σ n t 0 = nI n → RfO E M (nI np) (nI ty) re H → XI E (M + 1) 1670 (rfIt σ n t) H → XI E (M + 2) 6680 (rfFl η) H → XI E (M + 3) 1670 σ H → XI E (M + 4) 60 tx H → XI E (M + 5) 4 f5 H → XI E (M + 6) 7 f6 H → XI E (M + 7) 7 f7 H → Out (bk M 8) s.heap H → va_S (bk M 8) s.heap H locs → lv_has ls 2 [(1, .int (nI t)), (0, .ref M)] → W p l e rm_X8_freeIn s m args below meth c H locs 0 0 Q (F0 m 14 ls []) := by
    intro d
    induction d using Nat.strongRecOn with
    | ind d ih =>
      intro t H locs ls hd ht0 hn ho hs hp hd3 ht hq5 hq6 hq7 hO hS hl
      refine lv_iload_n S.1 S.2.1 dX8_freeIn_14 rfl (lv_at hl 0 rfl) ?_
      refine lv_sipush (v := (nI 200)) S.1 S.2.1 dX8_freeIn_15 (by decide) ?_
      refine lv_icmp_gt (tgt := 38) S.1 S.2.1 dX8_freeIn_18 rfl (fun h1 => ?_) (fun h1 => ?_)
      · have hg : 200 < t := (nI_ltI (by decide) (by omega)).mp h1
        have hTe : t = T := by omega
        refine lv_aload_n S.1 S.2.1 dX8_freeIn_38 rfl (lv_at hl 1 rfl) ?_
        refine lv_aload_n S.1 S.2.1 dX8_freeIn_39 rfl (lv_at hl 1 rfl) ?_
        refine x_get S hE (ho) (C := RX8) (T := TX8) (N := 10) rfl inlX8 2 (by decide) (v := .ref (M + 3)) rfl kw7_8 rfl dX8_freeIn_40 ?_
        refine lv_aload_n S.1 S.2.1 dX8_freeIn_43 rfl (lv_at hl 1 rfl) ?_
        refine x_get S hE (ho) (C := RX8) (T := TX8) (N := 10) rfl inlX8 0 (by decide) (v := .ref (M + 1)) rfl kw7_6 rfl dX8_freeIn_44 ?_
        refine xk_V (x_runV (As := [.ref (M + 3), .ref (M + 1)]) (rest := []) S hE hS (fun q h => bkM (k := 1) h (by decide)) (c_X8_copies l E M (M + 3) (M + 1) σ (rfIt σ n t) _ hd3 hs (by omega)) kv_X8_copies kw24_22 kw24_23 kw25_0 (x_recv hE (ho) (ci := 8) rfl) ⟨Nat.le_of_ble_eq_true rfl, Nat.le_of_ble_eq_true rfl⟩ rfl rfl rfl hl.1 rfl (Nat.le_of_ble_eq_true rfl) dX8_freeIn_47 ⟨Nat.zero_le _, Nat.zero_le _⟩) hS (fun q h => bkM (k := 1) h (by decide)) (fun H locs hX hO1 hS => ?_)
        have hO := hO.tr hO1 (fun q h => bkM (k := 1) h (by decide))
        have ho := va_at.kept ho (hO1.2 (M) (fun z => by have z : M = M + 1 := z; omega))
        have hp := va_at.kept hp (hO1.2 (M + 2) (fun z => by have z : M + 2 = M + 1 := z; omega))
        have hd3 := va_at.kept hd3 (hO1.2 (M + 3) (fun z => by have z : M + 3 = M + 1 := z; omega))
        have ht := va_at.kept ht (hO1.2 (M + 4) (fun z => by have z : M + 4 = M + 1 := z; omega))
        have hq5 := va_at.kept hq5 (hO1.2 (M + 5) (fun z => by have z : M + 5 = M + 1 := z; omega))
        have hq6 := va_at.kept hq6 (hO1.2 (M + 6) (fun z => by have z : M + 6 = M + 1 := z; omega))
        have hq7 := va_at.kept hq7 (hO1.2 (M + 7) (fun z => by have z : M + 7 = M + 1 := z; omega))
        have hs := hX
        refine lv_iload_n S.1 S.2.1 dX8_freeIn_50 rfl (lv_at hl 0 rfl) ?_
        refine lv_sipush (v := (nI 200)) S.1 S.2.1 dX8_freeIn_51 (by decide) ?_
        refine lv_icmp_le (tgt := 62) S.1 S.2.1 dX8_freeIn_54 rfl (fun h2 => ?_) (fun h2 => ?_)
        · have hle := ge_of_le (by omega) (by decide) h2
          refine lv_iload_n S.1 S.2.1 dX8_freeIn_62 rfl (lv_at hl 0 rfl) ?_
          subst hQ
          refine x_retW S hr hlk (rfl) hS hO ?_ dX8_freeIn_63
          exact ⟨by rw [if_neg (by omega), hTe], ⟨_, ho, hs, hp, ⟨_, hd3⟩, ht, ⟨_, hq5⟩, ⟨_, hq6⟩, ⟨_, hq7⟩⟩⟩
        · have hle : 200 < t := lt_of_nle (by omega) (by decide) h2
          refine lv_bipush (v := (-4)) S.1 S.2.1 dX8_freeIn_57 (by decide) ?_
          refine lv_goto (tgt := 63) S.1 S.2.1 dX8_freeIn_59 rfl ?_
          subst hQ
          refine x_retW S hr hlk (rfl) hS hO ?_ dX8_freeIn_63
          exact ⟨by rw [if_pos (by omega)], ⟨_, ho, hs, hp, ⟨_, hd3⟩, ht, ⟨_, hq5⟩, ⟨_, hq6⟩, ⟨_, hq7⟩⟩⟩
      · have hg : t ≤ 200 := by
          by_cases q : 200 < t
          · exact absurd ((nI_ltI (by decide) (by omega)).mpr q) h1
          · omega
        refine lv_aload_n S.1 S.2.1 dX8_freeIn_21 rfl (lv_at hl 1 rfl) ?_
        refine xk_R (v := (rfFree (rfIt σ n t) n)) (x_runV (As := []) (rest := []) S hE hS (fun _ h => h.elim) (c_X8_free l E M (nI np) (nI ty) re (rfIt σ n t) n _ ho hs hn hn2) kv_X8_free kw23_21 kw23_22 kw23_23 (x_recv hE (ho) (ci := 8) rfl) ⟨Nat.le_of_ble_eq_true rfl, Nat.le_of_ble_eq_true rfl⟩ rfl rfl rfl hl.1 rfl (Nat.le_of_ble_eq_true rfl) dX8_freeIn_22 ⟨Nat.zero_le _, Nat.zero_le _⟩) ?_
        refine lv_if_ne (tgt := 38) S.1 S.2.1 dX8_freeIn_25 rfl (fun h3 => ?_) (fun h3 => ?_)
        · have hTe : t = T := by
            by_cases q : t < T
            · exact absurd (hT t q) h3
            · omega
          refine lv_aload_n S.1 S.2.1 dX8_freeIn_38 rfl (lv_at hl 1 rfl) ?_
          refine lv_aload_n S.1 S.2.1 dX8_freeIn_39 rfl (lv_at hl 1 rfl) ?_
          refine x_get S hE (ho) (C := RX8) (T := TX8) (N := 10) rfl inlX8 2 (by decide) (v := .ref (M + 3)) rfl kw7_8 rfl dX8_freeIn_40 ?_
          refine lv_aload_n S.1 S.2.1 dX8_freeIn_43 rfl (lv_at hl 1 rfl) ?_
          refine x_get S hE (ho) (C := RX8) (T := TX8) (N := 10) rfl inlX8 0 (by decide) (v := .ref (M + 1)) rfl kw7_6 rfl dX8_freeIn_44 ?_
          refine xk_V (x_runV (As := [.ref (M + 3), .ref (M + 1)]) (rest := []) S hE hS (fun q h => bkM (k := 1) h (by decide)) (c_X8_copies l E M (M + 3) (M + 1) σ (rfIt σ n t) _ hd3 hs (by omega)) kv_X8_copies kw24_22 kw24_23 kw25_0 (x_recv hE (ho) (ci := 8) rfl) ⟨Nat.le_of_ble_eq_true rfl, Nat.le_of_ble_eq_true rfl⟩ rfl rfl rfl hl.1 rfl (Nat.le_of_ble_eq_true rfl) dX8_freeIn_47 ⟨Nat.zero_le _, Nat.zero_le _⟩) hS (fun q h => bkM (k := 1) h (by decide)) (fun H locs hX hO1 hS => ?_)
          have hO := hO.tr hO1 (fun q h => bkM (k := 1) h (by decide))
          have ho := va_at.kept ho (hO1.2 (M) (fun z => by have z : M = M + 1 := z; omega))
          have hp := va_at.kept hp (hO1.2 (M + 2) (fun z => by have z : M + 2 = M + 1 := z; omega))
          have hd3 := va_at.kept hd3 (hO1.2 (M + 3) (fun z => by have z : M + 3 = M + 1 := z; omega))
          have ht := va_at.kept ht (hO1.2 (M + 4) (fun z => by have z : M + 4 = M + 1 := z; omega))
          have hq5 := va_at.kept hq5 (hO1.2 (M + 5) (fun z => by have z : M + 5 = M + 1 := z; omega))
          have hq6 := va_at.kept hq6 (hO1.2 (M + 6) (fun z => by have z : M + 6 = M + 1 := z; omega))
          have hq7 := va_at.kept hq7 (hO1.2 (M + 7) (fun z => by have z : M + 7 = M + 1 := z; omega))
          have hs := hX
          refine lv_iload_n S.1 S.2.1 dX8_freeIn_50 rfl (lv_at hl 0 rfl) ?_
          refine lv_sipush (v := (nI 200)) S.1 S.2.1 dX8_freeIn_51 (by decide) ?_
          refine lv_icmp_le (tgt := 62) S.1 S.2.1 dX8_freeIn_54 rfl (fun h4 => ?_) (fun h4 => ?_)
          · have hle := ge_of_le (by omega) (by decide) h4
            refine lv_iload_n S.1 S.2.1 dX8_freeIn_62 rfl (lv_at hl 0 rfl) ?_
            subst hQ
            refine x_retW S hr hlk (rfl) hS hO ?_ dX8_freeIn_63
            exact ⟨by rw [if_neg (by omega), hTe], ⟨_, ho, hs, hp, ⟨_, hd3⟩, ht, ⟨_, hq5⟩, ⟨_, hq6⟩, ⟨_, hq7⟩⟩⟩
          · have hle : 200 < t := lt_of_nle (by omega) (by decide) h4
            refine lv_bipush (v := (-4)) S.1 S.2.1 dX8_freeIn_57 (by decide) ?_
            refine lv_goto (tgt := 63) S.1 S.2.1 dX8_freeIn_59 rfl ?_
            subst hQ
            refine x_retW S hr hlk (rfl) hS hO ?_ dX8_freeIn_63
            exact ⟨by rw [if_pos (by omega)], ⟨_, ho, hs, hp, ⟨_, hd3⟩, ht, ⟨_, hq5⟩, ⟨_, hq6⟩, ⟨_, hq7⟩⟩⟩
        · have hlt2 : t < T := by
            by_cases q : t = T
            · subst q; rcases hT3 with z | z
              · omega
              · exact absurd h3 z
            · omega
          refine lv_aload_n S.1 S.2.1 dX8_freeIn_28 rfl (lv_at hl 1 rfl) ?_
          refine xk_V (x_runV (As := []) (rest := []) S hE hS (fun q h => bkM (k := 1) h (by decide)) (c_X8_ticks l E M (nI np) (nI ty) re (rfIt σ n t) n _ ho hs hn hn2) kv_X8_ticks kw18_11 kw18_12 kw18_13 (x_recv hE (ho) (ci := 8) rfl) ⟨Nat.le_of_ble_eq_true rfl, Nat.le_of_ble_eq_true rfl⟩ rfl rfl rfl hl.1 rfl (Nat.le_of_ble_eq_true rfl) dX8_freeIn_29 ⟨Nat.zero_le _, Nat.zero_le _⟩) hS (fun q h => bkM (k := 1) h (by decide)) (fun H locs hX hO1 hS => ?_)
          have hO := hO.tr hO1 (fun q h => bkM (k := 1) h (by decide))
          have ho := va_at.kept ho (hO1.2 (M) (fun z => by have z : M = M + 1 := z; omega))
          have hp := va_at.kept hp (hO1.2 (M + 2) (fun z => by have z : M + 2 = M + 1 := z; omega))
          have hd3 := va_at.kept hd3 (hO1.2 (M + 3) (fun z => by have z : M + 3 = M + 1 := z; omega))
          have ht := va_at.kept ht (hO1.2 (M + 4) (fun z => by have z : M + 4 = M + 1 := z; omega))
          have hq5 := va_at.kept hq5 (hO1.2 (M + 5) (fun z => by have z : M + 5 = M + 1 := z; omega))
          have hq6 := va_at.kept hq6 (hO1.2 (M + 6) (fun z => by have z : M + 6 = M + 1 := z; omega))
          have hq7 := va_at.kept hq7 (hO1.2 (M + 7) (fun z => by have z : M + 7 = M + 1 := z; omega))
          have hs : XI E (M + 1) 1670 (rfTick (rfIt σ n t) n) H := hX
          have hn : (rfTick (rfIt σ n t) n) 0 = nI n := (rfTick_0 (by decide) (by decide)).trans hn
          refine lv_iinc (k := 0) (v := (nI (t + 1))) S.1 S.2.1 dX8_freeIn_32 hl rfl (iincP t 1) (by decide) rfl (fun ls hl => ?_)
          have hl : lv_has ls 2 [(1, .int (nI (t + 1))), (0, .ref M)] := hl
          refine lv_goto (tgt := 14) S.1 S.2.1 dX8_freeIn_35 rfl ?_
          exact ih _ (by omega) (t + 1) _ _ ls rfl (by omega) (hn) (ho) (hs) (hp) (hd3) (ht) (hq5) (hq6) (hq7) (hO) (hS) (lv_sub hl [0, 1] rfl)
  exact hloop14 _ 0 _ _ ls rfl (Nat.zero_le _) (hn) (ho) (hs) (hp) (hd3) (ht) (hq5) (hq6) (hq7) (hO) (hS) (lv_sub hl [0, 1] rfl)
abbrev rm_X8_undo : Room := ({ frames := 0, cells := 0, slots := 0, locals := 0 } : Room)
set_option maxRecDepth 100000 in
set_option maxHeartbeats 600000 in
theorem c_X8_undo (l : Launch) (E : XE) (M n : Nat) (σ : Nat → Int32) (η : Nat → Nat → Int32) (np : Nat) (tx : Nat → Int32) (ty : Nat) (H : Heap) (hP : RfP E M (σ, (η, np), (tx, ty)) H) (hn : σ 0 = nI n) (hn2 : n ≤ 200) (hnp : np ≤ 4) : Wr l E yX8_undo cX8_undo 2 (some .int) rm_X8_undo [.ref M] H (bk M 8) (fun v H1 => if np = 0 then v = (-2) ∧ RfP E M (σ, (η, np), (tx, ty)) H1 else v = nI (np - 1) ∧ RfP E M (η (np - 1), (η, np - 1), (tx, ty)) H1) := by
  refine met_of (by decide) (Nat.le_of_ble_eq_true rfl) (fun p e s m args below meth c hBD Q hQ ls hl => ?_)
  obtain ⟨S, hr, hlk, hnm, hE, hH⟩ := hBD
  subst hH
  have hl : lv_has ls 2 [(0, .ref M)] := hl
  have hO : Out (bk M 8) s.heap s.heap := Out.rf
  have hS : va_S (bk M 8) s.heap s.heap [] := va_S.rf
  obtain ⟨re, ho, hs, hp, ⟨f3, hd3⟩, ht, ⟨f5, hq5⟩, ⟨f6, hq6⟩, ⟨f7, hq7⟩⟩ := hP
  have ho : RfO E M (nI np) (nI ty) re s.heap := ho
  have hs : XI E (M + 1) 1670 σ s.heap := hs
  have hp : XI E (M + 2) 6680 (rfFl η) s.heap := hp
  have ht : XI E (M + 4) 60 tx s.heap := ht
  refine lv_aload_n S.1 S.2.1 dX8_undo_0 rfl (lv_at hl 0 rfl) ?_
  refine x_get S hE (ho) (C := RX8) (T := TX8) (N := 10) rfl inlX8 3 (by decide) (v := .int (nI np)) rfl kw13_6 rfl dX8_undo_1 ?_
  refine lv_if_ne (tgt := 10) S.1 S.2.1 dX8_undo_4 rfl (fun h1 => ?_) (fun h1 => ?_)
  · have hne : ¬ np = 0 := fun z => h1 (by rw [z]; rfl)
    obtain ⟨q, rfl⟩ : ∃ q, np = q + 1 := ⟨np - 1, by omega⟩
    refine lv_aload_n S.1 S.2.1 dX8_undo_10 rfl (lv_at hl 0 rfl) ?_
    refine lv_dup S.1 S.2.1 dX8_undo_11 rfl ?_
    refine x_get S hE (ho) (C := RX8) (T := TX8) (N := 10) rfl inlX8 3 (by decide) (v := .int (nI (q + 1))) rfl kw13_6 rfl dX8_undo_12 ?_
    refine lv_iconst (v := (nI 1)) S.1 S.2.1 dX8_undo_15 (by decide) ?_
    refine lv_isub S.1 S.2.1 dX8_undo_16 ?_
    refine x_top (y := (nI q)) (sub1e q) ?_
    refine x_put S hE hS (bkM (k := 0) rfl (by decide)) (ho) (C := RX8) (T := TX8) (N := 10) rfl inlX8 tyX8 tyX8_ok nmX8 3 (by decide) (Nat.le_of_ble_eq_true rfl) kw13_6 rfl rfl (v := .int (nI q)) rfl rfl dX8_undo_17 (fun H locs hX hO1 hS => ?_)
    have hO := hO.tr hO1 (fun q h => bkM (k := 0) h (by decide))
    have hs := va_at.kept hs (hO1.2 (M + 1) (fun z => by have z : M + 1 = M := z; omega))
    have hp := va_at.kept hp (hO1.2 (M + 2) (fun z => by have z : M + 2 = M := z; omega))
    have hd3 := va_at.kept hd3 (hO1.2 (M + 3) (fun z => by have z : M + 3 = M := z; omega))
    have ht := va_at.kept ht (hO1.2 (M + 4) (fun z => by have z : M + 4 = M := z; omega))
    have hq5 := va_at.kept hq5 (hO1.2 (M + 5) (fun z => by have z : M + 5 = M := z; omega))
    have hq6 := va_at.kept hq6 (hO1.2 (M + 6) (fun z => by have z : M + 6 = M := z; omega))
    have hq7 := va_at.kept hq7 (hO1.2 (M + 7) (fun z => by have z : M + 7 = M := z; omega))
    have ho := hX
    refine lv_iconst (v := (nI 0)) S.1 S.2.1 dX8_undo_20 (by decide) ?_
    refine lv_istore_n S.1 S.2.1 dX8_undo_21 rfl hl (by decide) rfl (fun ls hl => ?_)
    have hl : lv_has ls 2 [(1, .int (nI 0)), (0, .ref M)] := hl
    have hloop22 : ∀ (d : Nat) (i : Nat) (r : Nat → Int32) (H : Heap) (locs : List Loc) (ls : Array Slot), 1670 - i = d → i ≤ 1670 → (∀ j, r j = if j < i then η q j else σ j) → RfO E M (nI q) (nI ty) re H → XI E (M + 1) 1670 r H → XI E (M + 2) 6680 (rfFl η) H → XI E (M + 3) 1670 f3 H → XI E (M + 4) 60 tx H → XI E (M + 5) 4 f5 H → XI E (M + 6) 7 f6 H → XI E (M + 7) 7 f7 H → Out (bk M 8) s.heap H → va_S (bk M 8) s.heap H locs → lv_has ls 2 [(1, .int (nI i)), (0, .ref M)] → W p l e rm_X8_undo s m args below meth c H locs 0 0 Q (F0 m 22 ls []) := by
      intro d22
      induction d22 using Nat.strongRecOn with
      | ind d22 ih22 =>
        intro i r H locs ls hd22 hi hrw ho hs hp hd3 ht hq5 hq6 hq7 hO hS hl
        refine lv_iload_n S.1 S.2.1 dX8_undo_22 rfl (lv_at hl 0 rfl) ?_
        refine lv_sipush (v := (nI 1670)) S.1 S.2.1 dX8_undo_23 (by decide) ?_
        refine lv_icmp_ge (tgt := 56) S.1 S.2.1 dX8_undo_26 rfl (fun h2 => ?_) (fun h2 => ?_)
        · have hge : i = 1670 := (by have := ge_of_le (by omega) (by omega) h2; omega)
          refine lv_aload_n S.1 S.2.1 dX8_undo_56 rfl (lv_at hl 1 rfl) ?_
          refine x_get S hE (ho) (C := RX8) (T := TX8) (N := 10) rfl inlX8 3 (by decide) (v := .int (nI q)) rfl kw13_6 rfl dX8_undo_57 ?_
          subst hQ
          refine x_retW S hr hlk (rfl) hS hO ?_ dX8_undo_60
          exact by rw [if_neg (Nat.succ_ne_zero q)]; exact ⟨rfl, ⟨_, ho, xi_ext hs (fun j hj => by rw [hrw j, if_pos (by omega)]; rfl), hp, ⟨_, hd3⟩, ht, ⟨_, hq5⟩, ⟨_, hq6⟩, ⟨_, hq7⟩⟩⟩
        · have hlt : i < 1670 := lt_of_nle (by omega) (by omega) h2
          refine lv_aload_n S.1 S.2.1 dX8_undo_29 rfl (lv_at hl 1 rfl) ?_
          refine x_get S hE (ho) (C := RX8) (T := TX8) (N := 10) rfl inlX8 0 (by decide) (v := .ref (M + 1)) rfl kw7_6 rfl dX8_undo_30 ?_
          refine lv_iload_n S.1 S.2.1 dX8_undo_33 rfl (lv_at hl 0 rfl) ?_
          refine lv_aload_n S.1 S.2.1 dX8_undo_34 rfl (lv_at hl 1 rfl) ?_
          refine x_get S hE (ho) (C := RX8) (T := TX8) (N := 10) rfl inlX8 1 (by decide) (v := .ref (M + 2)) rfl kw7_7 rfl dX8_undo_35 ?_
          refine lv_sipush (v := (nI 1670)) S.1 S.2.1 dX8_undo_38 (by decide) ?_
          refine lv_aload_n S.1 S.2.1 dX8_undo_41 rfl (lv_at hl 1 rfl) ?_
          refine x_get S hE (ho) (C := RX8) (T := TX8) (N := 10) rfl inlX8 3 (by decide) (v := .int (nI q)) rfl kw13_6 rfl dX8_undo_42 ?_
          refine lv_imul S.1 S.2.1 dX8_undo_45 ?_
          refine x_top (y := (nI (1670 * q))) (pk_mul 1670 q) ?_
          refine lv_iload_n S.1 S.2.1 dX8_undo_46 rfl (lv_at hl 0 rfl) ?_
          refine lv_iadd S.1 S.2.1 dX8_undo_47 ?_
          refine x_top (y := (nI ((1670 * q) + i))) (nI_add (1670 * q) i) ?_
          refine x_iald S hE (hp) ((1670 * q) + i) rfl (by omega) (by decide) dX8_undo_48 ?_
          refine x_top (y := (η q i)) (rfFl_at hlt) ?_
          refine x_iast S hE hS (bkM (k := 1) rfl (by decide)) (hs) i rfl (by omega) (by decide) dX8_undo_49 (fun H locs hX hO1 hS => ?_)
          have hO := hO.tr hO1 (fun q h => bkM (k := 1) h (by decide))
          have ho := va_at.kept ho (hO1.2 (M) (fun z => by have z : M = M + 1 := z; omega))
          have hp := va_at.kept hp (hO1.2 (M + 2) (fun z => by have z : M + 2 = M + 1 := z; omega))
          have hd3 := va_at.kept hd3 (hO1.2 (M + 3) (fun z => by have z : M + 3 = M + 1 := z; omega))
          have ht := va_at.kept ht (hO1.2 (M + 4) (fun z => by have z : M + 4 = M + 1 := z; omega))
          have hq5 := va_at.kept hq5 (hO1.2 (M + 5) (fun z => by have z : M + 5 = M + 1 := z; omega))
          have hq6 := va_at.kept hq6 (hO1.2 (M + 6) (fun z => by have z : M + 6 = M + 1 := z; omega))
          have hq7 := va_at.kept hq7 (hO1.2 (M + 7) (fun z => by have z : M + 7 = M + 1 := z; omega))
          have hs := hX
          refine lv_iinc (k := 0) (v := (nI (i + 1))) S.1 S.2.1 dX8_undo_50 hl rfl (iincP i 1) (by decide) rfl (fun ls hl => ?_)
          have hl : lv_has ls 2 [(1, .int (nI (i + 1))), (0, .ref M)] := hl
          refine lv_goto (tgt := 22) S.1 S.2.1 dX8_undo_53 rfl ?_
          exact ih22 _ (by omega) (i + 1) (upd r i (η q i)) _ _ ls rfl (by omega) (upd_row (f := η q) hrw) (ho) (hs) (hp) (hd3) (ht) (hq5) (hq6) (hq7) (hO) (hS) (lv_sub hl [0, 1] rfl)
    exact hloop22 _ 0 σ _ _ ls rfl (Nat.zero_le _) (fun j => (if_neg (Nat.not_lt_zero _)).symm) (ho) (hs) (hp) (hd3) (ht) (hq5) (hq6) (hq7) (hO) (hS) (lv_sub hl [0, 1] rfl)
  · have h0 : np = 0 := (nI_eq (by omega) (by decide)).mp h1
    refine lv_bipush (v := (-2)) S.1 S.2.1 dX8_undo_7 (by decide) ?_
    subst hQ
    refine x_retW S hr hlk (rfl) hS hO ?_ dX8_undo_9
    exact by rw [if_pos h0]; exact ⟨rfl, ⟨_, ho, hs, hp, ⟨_, hd3⟩, ht, ⟨_, hq5⟩, ⟨_, hq6⟩, ⟨_, hq7⟩⟩⟩
abbrev rm_X8_type : Room := ({ frames := 1, cells := 0, slots := 0, locals := 22 } : Room)
set_option maxRecDepth 100000 in
set_option maxHeartbeats 600000 in
theorem c_X8_type (l : Launch) (E : XE) (M n : Nat) (σ : Nat → Int32) (η : Nat → Nat → Int32) (np : Nat) (tx : Nat → Int32) (ty : Nat) (ca : Int32) (H : Heap) (hP : RfP E M (σ, (η, np), (tx, ty)) H) (hn : σ 0 = nI n) (hn2 : n ≤ 200) (hnp : np ≤ 4) (hty : ty ≤ 60) : Wr l E yX8_type cX8_type 2 (some .int) rm_X8_type [.ref M, .int ca] H (bk M 8) (fun v H1 => v = (rfTy tx ty ca).2 ∧ RfP E M (σ, (η, np), (rfTy tx ty ca).1) H1) := by
  refine met_of (by decide) (Nat.le_of_ble_eq_true rfl) (fun p e s m args below meth c hBD Q hQ ls hl => ?_)
  obtain ⟨S, hr, hlk, hnm, hE, hH⟩ := hBD
  subst hH
  have hl : lv_has ls 2 [(0, .ref M), (1, .int ca)] := hl
  have hO : Out (bk M 8) s.heap s.heap := Out.rf
  have hS : va_S (bk M 8) s.heap s.heap [] := va_S.rf
  obtain ⟨re, ho, hs, hp, ⟨f3, hd3⟩, ht, ⟨f5, hq5⟩, ⟨f6, hq6⟩, ⟨f7, hq7⟩⟩ := hP
  have ho : RfO E M (nI np) (nI ty) re s.heap := ho
  have hs : XI E (M + 1) 1670 σ s.heap := hs
  have hp : XI E (M + 2) 6680 (rfFl η) s.heap := hp
  have ht : XI E (M + 4) 60 tx s.heap := ht
  refine lv_iload_n S.1 S.2.1 dX8_type_0 rfl (lv_at hl 1 rfl) ?_
  refine lv_bipush (v := (nI 32)) S.1 S.2.1 dX8_type_1 (by decide) ?_
  refine lv_bipush (v := (nI 126)) S.1 S.2.1 dX8_type_3 (by decide) ?_
  refine xk_R (v := (bI ((nI 32) ≤ ca ∧ ca ≤ (nI 126)))) (x_runS (As := [.int ca, .int (nI 32), .int (nI 126)]) (rest := []) S hE hS (fun _ h => h.elim) (c_X8_in l E ca (nI 32) (nI 126) _) kv_X8_in kw12_11 kw12_12 ⟨Nat.le_of_ble_eq_true rfl, Nat.le_of_ble_eq_true rfl⟩ rfl rfl rfl hl.1 rfl (Nat.le_of_ble_eq_true rfl) dX8_type_5 ⟨Nat.zero_le _, Nat.zero_le _⟩) ?_
  refine lv_if_ne (tgt := 13) S.1 S.2.1 dX8_type_8 rfl (fun h1 => ?_) (fun h1 => ?_)
  · skip
    have h1 := bI_n0 h1
    refine lv_aload_n S.1 S.2.1 dX8_type_13 rfl (lv_at hl 0 rfl) ?_
    refine x_get S hE (ho) (C := RX8) (T := TX8) (N := 10) rfl inlX8 5 (by decide) (v := .int (nI ty)) rfl kw23_20 rfl dX8_type_14 ?_
    refine lv_bipush (v := (nI 60)) S.1 S.2.1 dX8_type_17 (by decide) ?_
    refine lv_icmp_ne (tgt := 25) S.1 S.2.1 dX8_type_19 rfl (fun h2 => ?_) (fun h2 => ?_)
    · have hT : ¬ ty = 60 := fun z => h2 (by rw [z])
      refine lv_aload_n S.1 S.2.1 dX8_type_25 rfl (lv_at hl 0 rfl) ?_
      refine x_get S hE (ho) (C := RX8) (T := TX8) (N := 10) rfl inlX8 4 (by decide) (v := .ref (M + 4)) rfl kw7_9 rfl dX8_type_26 ?_
      refine lv_aload_n S.1 S.2.1 dX8_type_29 rfl (lv_at hl 0 rfl) ?_
      refine x_get S hE (ho) (C := RX8) (T := TX8) (N := 10) rfl inlX8 5 (by decide) (v := .int (nI ty)) rfl kw23_20 rfl dX8_type_30 ?_
      refine lv_iload_n S.1 S.2.1 dX8_type_33 rfl (lv_at hl 1 rfl) ?_
      refine x_iast S hE hS (bkM (k := 4) rfl (by decide)) (ht) ty rfl (by omega) (by decide) dX8_type_34 (fun H locs hX hO1 hS => ?_)
      have hO := hO.tr hO1 (fun q h => bkM (k := 4) h (by decide))
      have ho := va_at.kept ho (hO1.2 (M) (fun z => by have z : M = M + 4 := z; omega))
      have hs := va_at.kept hs (hO1.2 (M + 1) (fun z => by have z : M + 1 = M + 4 := z; omega))
      have hp := va_at.kept hp (hO1.2 (M + 2) (fun z => by have z : M + 2 = M + 4 := z; omega))
      have hd3 := va_at.kept hd3 (hO1.2 (M + 3) (fun z => by have z : M + 3 = M + 4 := z; omega))
      have hq5 := va_at.kept hq5 (hO1.2 (M + 5) (fun z => by have z : M + 5 = M + 4 := z; omega))
      have hq6 := va_at.kept hq6 (hO1.2 (M + 6) (fun z => by have z : M + 6 = M + 4 := z; omega))
      have hq7 := va_at.kept hq7 (hO1.2 (M + 7) (fun z => by have z : M + 7 = M + 4 := z; omega))
      have ht := hX
      refine lv_aload_n S.1 S.2.1 dX8_type_35 rfl (lv_at hl 0 rfl) ?_
      refine lv_dup S.1 S.2.1 dX8_type_36 rfl ?_
      refine x_get S hE (ho) (C := RX8) (T := TX8) (N := 10) rfl inlX8 5 (by decide) (v := .int (nI ty)) rfl kw23_20 rfl dX8_type_37 ?_
      refine lv_iconst (v := (nI 1)) S.1 S.2.1 dX8_type_40 (by decide) ?_
      refine lv_iadd S.1 S.2.1 dX8_type_41 ?_
      refine x_top (y := (nI (ty + 1))) (nI_add ty 1) ?_
      refine x_put S hE hS (bkM (k := 0) rfl (by decide)) (ho) (C := RX8) (T := TX8) (N := 10) rfl inlX8 tyX8 tyX8_ok nmX8 5 (by decide) (Nat.le_of_ble_eq_true rfl) kw23_20 rfl rfl (v := .int (nI (ty + 1))) rfl rfl dX8_type_42 (fun H locs hX hO1 hS => ?_)
      have hO := hO.tr hO1 (fun q h => bkM (k := 0) h (by decide))
      have hs := va_at.kept hs (hO1.2 (M + 1) (fun z => by have z : M + 1 = M := z; omega))
      have hp := va_at.kept hp (hO1.2 (M + 2) (fun z => by have z : M + 2 = M := z; omega))
      have hd3 := va_at.kept hd3 (hO1.2 (M + 3) (fun z => by have z : M + 3 = M := z; omega))
      have ht := va_at.kept ht (hO1.2 (M + 4) (fun z => by have z : M + 4 = M := z; omega))
      have hq5 := va_at.kept hq5 (hO1.2 (M + 5) (fun z => by have z : M + 5 = M := z; omega))
      have hq6 := va_at.kept hq6 (hO1.2 (M + 6) (fun z => by have z : M + 6 = M := z; omega))
      have hq7 := va_at.kept hq7 (hO1.2 (M + 7) (fun z => by have z : M + 7 = M := z; omega))
      have ho := hX
      refine lv_aload_n S.1 S.2.1 dX8_type_45 rfl (lv_at hl 0 rfl) ?_
      refine x_get S hE (ho) (C := RX8) (T := TX8) (N := 10) rfl inlX8 5 (by decide) (v := .int (nI (ty + 1))) rfl kw23_20 rfl dX8_type_46 ?_
      subst hQ
      refine x_retW S hr hlk (rfl) hS hO ?_ dX8_type_49
      exact (show rfTy tx ty ca = ((upd tx ty ca, ty + 1), (nI (ty + 1))) from by rw [rfTy, if_pos h1, if_neg hT]) ▸ ⟨rfl, ⟨_, ho, hs, hp, ⟨_, hd3⟩, ht, ⟨_, hq5⟩, ⟨_, hq6⟩, ⟨_, hq7⟩⟩⟩
    · have hT : ty = 60 := (nI_eq (by omega) (by decide)).mp h2
      refine lv_bipush (v := (-3)) S.1 S.2.1 dX8_type_22 (by decide) ?_
      subst hQ
      refine x_retW S hr hlk (rfl) hS hO ?_ dX8_type_24
      exact (show rfTy tx ty ca = ((tx, ty), (-3)) from by rw [rfTy, if_pos h1, if_pos hT]) ▸ ⟨rfl, ⟨_, ho, hs, hp, ⟨_, hd3⟩, ht, ⟨_, hq5⟩, ⟨_, hq6⟩, ⟨_, hq7⟩⟩⟩
  · skip
    have h1 := bI_0 h1
    refine lv_iconst (v := (-1)) S.1 S.2.1 dX8_type_11 (by decide) ?_
    subst hQ
    refine x_retW S hr hlk (rfl) hS hO ?_ dX8_type_12
    exact (show rfTy tx ty ca = ((tx, ty), (-1)) from by rw [rfTy, if_neg h1]) ▸ ⟨rfl, ⟨_, ho, hs, hp, ⟨_, hd3⟩, ht, ⟨_, hq5⟩, ⟨_, hq6⟩, ⟨_, hq7⟩⟩⟩
abbrev rm_X8_clearText : Room := ({ frames := 0, cells := 0, slots := 0, locals := 0 } : Room)
set_option maxRecDepth 100000 in
set_option maxHeartbeats 600000 in
theorem c_X8_clearText (l : Launch) (E : XE) (M n : Nat) (σ : Nat → Int32) (η : Nat → Nat → Int32) (np : Nat) (tx : Nat → Int32) (ty : Nat) (H : Heap) (hP : RfP E M (σ, (η, np), (tx, ty)) H) (hn : σ 0 = nI n) (hn2 : n ≤ 200) (hnp : np ≤ 4) : Wr l E yX8_clearText cX8_clearText 2 (some .int) rm_X8_clearText [.ref M] H (bk M 8) (fun v H1 => v = nI ty ∧ RfP E M (σ, (η, np), (tx, 0)) H1) := by
  refine met_of (by decide) (Nat.le_of_ble_eq_true rfl) (fun p e s m args below meth c hBD Q hQ ls hl => ?_)
  obtain ⟨S, hr, hlk, hnm, hE, hH⟩ := hBD
  subst hH
  have hl : lv_has ls 2 [(0, .ref M)] := hl
  have hO : Out (bk M 8) s.heap s.heap := Out.rf
  have hS : va_S (bk M 8) s.heap s.heap [] := va_S.rf
  obtain ⟨re, ho, hs, hp, ⟨f3, hd3⟩, ht, ⟨f5, hq5⟩, ⟨f6, hq6⟩, ⟨f7, hq7⟩⟩ := hP
  have ho : RfO E M (nI np) (nI ty) re s.heap := ho
  have hs : XI E (M + 1) 1670 σ s.heap := hs
  have hp : XI E (M + 2) 6680 (rfFl η) s.heap := hp
  have ht : XI E (M + 4) 60 tx s.heap := ht
  refine lv_aload_n S.1 S.2.1 dX8_clearText_0 rfl (lv_at hl 0 rfl) ?_
  refine x_get S hE (ho) (C := RX8) (T := TX8) (N := 10) rfl inlX8 5 (by decide) (v := .int (nI ty)) rfl kw23_20 rfl dX8_clearText_1 ?_
  refine lv_istore_n S.1 S.2.1 dX8_clearText_4 rfl hl (by decide) rfl (fun ls hl => ?_)
  have hl : lv_has ls 2 [(1, .int (nI ty)), (0, .ref M)] := hl
  refine lv_aload_n S.1 S.2.1 dX8_clearText_5 rfl (lv_at hl 1 rfl) ?_
  refine lv_iconst (v := (nI 0)) S.1 S.2.1 dX8_clearText_6 (by decide) ?_
  refine x_put S hE hS (bkM (k := 0) rfl (by decide)) (ho) (C := RX8) (T := TX8) (N := 10) rfl inlX8 tyX8 tyX8_ok nmX8 5 (by decide) (Nat.le_of_ble_eq_true rfl) kw23_20 rfl rfl (v := .int (nI 0)) rfl rfl dX8_clearText_7 (fun H locs hX hO1 hS => ?_)
  have hO := hO.tr hO1 (fun q h => bkM (k := 0) h (by decide))
  have hs := va_at.kept hs (hO1.2 (M + 1) (fun z => by have z : M + 1 = M := z; omega))
  have hp := va_at.kept hp (hO1.2 (M + 2) (fun z => by have z : M + 2 = M := z; omega))
  have hd3 := va_at.kept hd3 (hO1.2 (M + 3) (fun z => by have z : M + 3 = M := z; omega))
  have ht := va_at.kept ht (hO1.2 (M + 4) (fun z => by have z : M + 4 = M := z; omega))
  have hq5 := va_at.kept hq5 (hO1.2 (M + 5) (fun z => by have z : M + 5 = M := z; omega))
  have hq6 := va_at.kept hq6 (hO1.2 (M + 6) (fun z => by have z : M + 6 = M := z; omega))
  have hq7 := va_at.kept hq7 (hO1.2 (M + 7) (fun z => by have z : M + 7 = M := z; omega))
  have ho := hX
  refine lv_iload_n S.1 S.2.1 dX8_clearText_10 rfl (lv_at hl 0 rfl) ?_
  subst hQ
  refine x_retW S hr hlk (rfl) hS hO ?_ dX8_clearText_11
  exact ⟨rfl, ⟨_, ho, hs, hp, ⟨_, hd3⟩, ht, ⟨_, hq5⟩, ⟨_, hq6⟩, ⟨_, hq7⟩⟩⟩
