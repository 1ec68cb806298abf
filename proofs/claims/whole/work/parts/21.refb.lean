/-! 21.refb: walks, by program -/
abbrev RS : Type := (Nat → Int32) × ((Nat → Nat → Int32) × Nat) × ((Nat → Int32) × Nat)
/-- the reference's box at M (8 cells): notes and counts, the past, the text; the other rows hold anything -/
def RfP (E : XE) (M : Nat) (μ : RS) (H : Heap) : Prop :=
  ∃ re, RfO E M (nI μ.2.1.2) (nI μ.2.2.2) re H ∧ XI E (M + 1) 1670 μ.1 H ∧ XI E (M + 2) 6680 (rfFl μ.2.1.1) H ∧ (∃ f, XI E (M + 3) 1670 f H) ∧ XI E (M + 4) 60 μ.2.2.1 H ∧ (∃ f, XI E (M + 5) 4 f H) ∧ (∃ f, XI E (M + 6) 7 f H) ∧ ∃ f, XI E (M + 7) 7 f H
theorem hiLen_le {np : Nat} (h : np ≤ 4) : hiLen np ≤ 4 := by
  unfold hiLen; by_cases c : np = 4
  · rw [if_pos c]; exact Nat.le_refl 4
  · rw [if_neg c]; omega
theorem upd_win {v b σ : Nat → Int32} {q k : Nat} (hv : ∀ j, v j = if 1670 * q ≤ j ∧ j < 1670 * q + k then σ (j - 1670 * q) else b j) : ∀ j, upd v (1670 * q + k) (σ k) j = if 1670 * q ≤ j ∧ j < 1670 * q + (k + 1) then σ (j - 1670 * q) else b j := by
  intro j
  by_cases c : j = 1670 * q + k
  · subst c; rw [pk_us, if_pos (by omega), show 1670 * q + k - 1670 * q = k from by omega]
  · rw [pk_un c, hv j]
    by_cases d : 1670 * q ≤ j ∧ j < 1670 * q + k
    · rw [if_pos d, if_pos (by omega)]
    · rw [if_neg d, if_neg (by omega)]
theorem past_new {v σ : Nat → Int32} {η : Nat → Nat → Int32} {np : Nat} (hne : ¬ np = 4) (hv : ∀ j, v j = if 1670 * np ≤ j ∧ j < 1670 * np + 1670 then σ (j - 1670 * np) else rfFl η j) (j : Nat) : v j = rfFl (rfRec η np σ) j := by
  rw [hv j, rfRec, if_neg hne]
  unfold rfFl
  by_cases c : j / 1670 = np
  · rw [if_pos (by omega)]; show _ = (if j / 1670 = np then σ else η (j / 1670)) (j % 1670); rw [if_pos c]; exact congrArg σ (by omega)
  · rw [if_neg (by omega)]; show _ = (if j / 1670 = np then σ else η (j / 1670)) (j % 1670); rw [if_neg c]
theorem past_full {v r σ : Nat → Int32} {η : Nat → Nat → Int32} (hr : ∀ j, r j = if j < 5010 then rfFl η (j + 1670) else rfFl η j) (hv : ∀ j, v j = if 1670 * 3 ≤ j ∧ j < 1670 * 3 + 1670 then σ (j - 1670 * 3) else r j) (j : Nat) (hj : j < 6680) : v j = rfFl (rfRec η 4 σ) j := by
  rw [hv j, rfRec, if_pos rfl]
  unfold rfFl
  by_cases c : j / 1670 = 3
  · rw [if_pos (by omega)]; show _ = (if j / 1670 = 3 then σ else η (j / 1670 + 1)) (j % 1670); rw [if_pos c]; exact congrArg σ (by omega)
  · rw [if_neg (by omega)]; show _ = (if j / 1670 = 3 then σ else η (j / 1670 + 1)) (j % 1670); rw [if_neg c, hr j, if_pos (by omega)]
    unfold rfFl
    rw [show (j + 1670) / 1670 = j / 1670 + 1 from by omega, show (j + 1670) % 1670 = j % 1670 from by omega]
abbrev rm_X8_changes : Room := ({ frames := 0, cells := 0, slots := 0, locals := 0 } : Room)
set_option maxRecDepth 100000 in
set_option maxHeartbeats 600000 in
theorem c_X8_changes (l : Launch) (E : XE) (M : Nat) (ty re : Int32) (np : Nat) (σ : Nat → Int32) (η : Nat → Nat → Int32) (H : Heap) (ho : RfO E M (nI np) ty re H) (hs : XI E (M + 1) 1670 σ H) (hp : XI E (M + 2) 6680 (rfFl η) H) (hnp : np ≤ 4) : Wv l E yX8_changes cX8_changes 2 rm_X8_changes [.ref M] H (fun q => q = M ∨ q = M + 2) (fun H1 => RfO E M (nI (hiLen np)) ty re H1 ∧ XI E (M + 2) 6680 (rfFl (rfRec η np σ)) H1) := by
  refine met_of (by decide) (Nat.le_of_ble_eq_true rfl) (fun p e s m args below meth c hBD Q hQ ls hl => ?_)
  obtain ⟨S, hr, hlk, hnm, hE, hH⟩ := hBD
  subst hH
  have hl : lv_has ls 2 [(0, .ref M)] := hl
  have hO : Out (fun q => q = M ∨ q = M + 2) s.heap s.heap := Out.rf
  have hS : va_S (fun q => q = M ∨ q = M + 2) s.heap s.heap [] := va_S.rf
  refine lv_aload_n S.1 S.2.1 dX8_changes_0 rfl (lv_at hl 0 rfl) ?_
  refine x_get S hE (ho) (C := RX8) (T := TX8) (N := 10) rfl inlX8 3 (by decide) (v := .int (nI np)) rfl kw13_6 rfl dX8_changes_1 ?_
  refine lv_iconst (v := (nI 4)) S.1 S.2.1 dX8_changes_4 (by decide) ?_
  refine lv_icmp_ne (tgt := 49) S.1 S.2.1 dX8_changes_5 rfl (fun h1 => ?_) (fun h1 => ?_)
  · have hne : ¬ np = 4 := fun z => h1 (by rw [z])
    refine lv_iconst (v := (nI 0)) S.1 S.2.1 dX8_changes_49 (by decide) ?_
    refine lv_istore_n S.1 S.2.1 dX8_changes_50 rfl hl (by decide) rfl (fun ls hl => ?_)
    have hl : lv_has ls 2 [(1, .int (nI 0)), (0, .ref M)] := hl
    have hloop51 : ∀ (d : Nat) (k : Nat) (v : Nat → Int32) (H : Heap) (locs : List Loc) (ls : Array Slot), 1670 - k = d → k ≤ 1670 → (∀ j, v j = if 1670 * np ≤ j ∧ j < 1670 * np + k then σ (j - 1670 * np) else (rfFl η) j) → RfO E M (nI np) ty re H → XI E (M + 1) 1670 σ H → XI E (M + 2) 6680 v H → Out (fun q => q = M ∨ q = M + 2) s.heap H → va_S (fun q => q = M ∨ q = M + 2) s.heap H locs → lv_has ls 2 [(1, .int (nI k)), (0, .ref M)] → W p l e rm_X8_changes s m args below meth c H locs 0 0 Q (F0 m 51 ls []) := by
      intro d51
      induction d51 using Nat.strongRecOn with
      | ind d51 ih51 =>
        intro k v H locs ls hd51 hk hv ho hs hp hO hS hl
        refine lv_iload_n S.1 S.2.1 dX8_changes_51 rfl (lv_at hl 0 rfl) ?_
        refine lv_sipush (v := (nI 1670)) S.1 S.2.1 dX8_changes_52 (by decide) ?_
        refine lv_icmp_ge (tgt := 85) S.1 S.2.1 dX8_changes_55 rfl (fun h2 => ?_) (fun h2 => ?_)
        · have hge2 : k = 1670 := (by have := ge_of_le (by omega) (by omega) h2; omega)
          refine lv_aload_n S.1 S.2.1 dX8_changes_85 rfl (lv_at hl 1 rfl) ?_
          refine lv_dup S.1 S.2.1 dX8_changes_86 rfl ?_
          refine x_get S hE (ho) (C := RX8) (T := TX8) (N := 10) rfl inlX8 3 (by decide) (v := .int (nI np)) rfl kw13_6 rfl dX8_changes_87 ?_
          refine lv_iconst (v := (nI 1)) S.1 S.2.1 dX8_changes_90 (by decide) ?_
          refine lv_iadd S.1 S.2.1 dX8_changes_91 ?_
          refine x_top (y := (nI (np + 1))) (nI_add np 1) ?_
          refine x_put S hE hS (Or.inl rfl) (ho) (C := RX8) (T := TX8) (N := 10) rfl inlX8 tyX8 tyX8_ok nmX8 3 (by decide) (Nat.le_of_ble_eq_true rfl) kw13_6 rfl rfl (v := .int (nI (np + 1))) rfl rfl dX8_changes_92 (fun H locs hX hO1 hS => ?_)
          have hO := hO.tr hO1 (fun q h => Or.inl h)
          have ho := hX
          have hs := va_at.kept hs (hO1.2 (M + 1) (fun z => by have z : M + 1 = M := z; omega))
          have hp := va_at.kept hp (hO1.2 (M + 2) (fun z => by have z : M + 2 = M := z; omega))
          subst hQ
          refine x_retV S hr hlk hS hO ?_ dX8_changes_95
          exact ⟨by rw [hiLen, if_neg hne]; exact ho, xi_ext hp (fun j _ => past_new hne (hge2 ▸ hv) j)⟩
        · have hlt : k < 1670 := lt_of_nle (by omega) (by omega) h2
          refine lv_aload_n S.1 S.2.1 dX8_changes_58 rfl (lv_at hl 1 rfl) ?_
          refine x_get S hE (ho) (C := RX8) (T := TX8) (N := 10) rfl inlX8 1 (by decide) (v := .ref (M + 2)) rfl kw7_7 rfl dX8_changes_59 ?_
          refine lv_sipush (v := (nI 1670)) S.1 S.2.1 dX8_changes_62 (by decide) ?_
          refine lv_aload_n S.1 S.2.1 dX8_changes_65 rfl (lv_at hl 1 rfl) ?_
          refine x_get S hE (ho) (C := RX8) (T := TX8) (N := 10) rfl inlX8 3 (by decide) (v := .int (nI np)) rfl kw13_6 rfl dX8_changes_66 ?_
          refine lv_imul S.1 S.2.1 dX8_changes_69 ?_
          refine x_top (y := (nI (1670 * np))) (pk_mul 1670 np) ?_
          refine lv_iload_n S.1 S.2.1 dX8_changes_70 rfl (lv_at hl 0 rfl) ?_
          refine lv_iadd S.1 S.2.1 dX8_changes_71 ?_
          refine x_top (y := (nI ((1670 * np) + k))) (nI_add (1670 * np) k) ?_
          refine lv_aload_n S.1 S.2.1 dX8_changes_72 rfl (lv_at hl 1 rfl) ?_
          refine x_get S hE (ho) (C := RX8) (T := TX8) (N := 10) rfl inlX8 0 (by decide) (v := .ref (M + 1)) rfl kw7_6 rfl dX8_changes_73 ?_
          refine lv_iload_n S.1 S.2.1 dX8_changes_76 rfl (lv_at hl 0 rfl) ?_
          refine x_iald S hE (hs) k rfl (by omega) (by decide) dX8_changes_77 ?_
          refine x_iast S hE hS (Or.inr rfl) (hp) ((1670 * np) + k) rfl (by omega) (by decide) dX8_changes_78 (fun H locs hX hO1 hS => ?_)
          have hO := hO.tr hO1 (fun q h => Or.inr h)
          have ho := va_at.kept ho (hO1.2 M (fun z => by have z : M = M + 2 := z; omega))
          have hs := va_at.kept hs (hO1.2 (M + 1) (fun z => by have z : M + 1 = M + 2 := z; omega))
          have hp := hX
          refine lv_iinc (k := 0) (v := (nI (k + 1))) S.1 S.2.1 dX8_changes_79 hl rfl (iincP k 1) (by decide) rfl (fun ls hl => ?_)
          have hl : lv_has ls 2 [(1, .int (nI (k + 1))), (0, .ref M)] := hl
          refine lv_goto (tgt := 51) S.1 S.2.1 dX8_changes_82 rfl ?_
          exact ih51 _ (by omega) (k + 1) (upd v (1670 * np + k) (σ k)) _ _ ls rfl (by omega) (upd_win hv) (ho) (hs) (hp) (hO) (hS) (lv_sub hl [0, 1] rfl)
    exact hloop51 _ 0 (rfFl η) _ _ ls rfl (Nat.zero_le _) (fun j => (if_neg (by omega)).symm) (ho) (hs) (hp) (hO) (hS) (lv_sub hl [0, 1] rfl)
  · have h4 : np = 4 := (nI_eq (by omega) (by decide)).mp h1
    subst h4
    refine lv_iconst (v := (nI 0)) S.1 S.2.1 dX8_changes_8 (by decide) ?_
    refine lv_istore_n S.1 S.2.1 dX8_changes_9 rfl hl (by decide) rfl (fun ls hl => ?_)
    have hl : lv_has ls 2 [(1, .int (nI 0)), (0, .ref M)] := hl
    have hloop10 : ∀ (d : Nat) (i : Nat) (r : Nat → Int32) (H : Heap) (locs : List Loc) (ls : Array Slot), 5010 - i = d → i ≤ 5010 → (∀ j, r j = if j < i then rfFl η (j + 1670) else rfFl η j) → RfO E M (nI 4) ty re H → XI E (M + 1) 1670 σ H → XI E (M + 2) 6680 r H → Out (fun q => q = M ∨ q = M + 2) s.heap H → va_S (fun q => q = M ∨ q = M + 2) s.heap H locs → lv_has ls 2 [(1, .int (nI i)), (0, .ref M)] → W p l e rm_X8_changes s m args below meth c H locs 0 0 Q (F0 m 10 ls []) := by
      intro d10
      induction d10 using Nat.strongRecOn with
      | ind d10 ih10 =>
        intro i r H locs ls hd10 hi hrw ho hs hp hO hS hl
        refine lv_iload_n S.1 S.2.1 dX8_changes_10 rfl (lv_at hl 0 rfl) ?_
        refine lv_sipush (v := (nI 5010)) S.1 S.2.1 dX8_changes_11 (by decide) ?_
        refine lv_icmp_ge (tgt := 39) S.1 S.2.1 dX8_changes_14 rfl (fun h3 => ?_) (fun h3 => ?_)
        · have hge : i = 5010 := (by have := ge_of_le (by omega) (by omega) h3; omega)
          refine lv_aload_n S.1 S.2.1 dX8_changes_39 rfl (lv_at hl 1 rfl) ?_
          refine lv_dup S.1 S.2.1 dX8_changes_40 rfl ?_
          refine x_get S hE (ho) (C := RX8) (T := TX8) (N := 10) rfl inlX8 3 (by decide) (v := .int (nI 4)) rfl kw13_6 rfl dX8_changes_41 ?_
          refine lv_iconst (v := (nI 1)) S.1 S.2.1 dX8_changes_44 (by decide) ?_
          refine lv_isub S.1 S.2.1 dX8_changes_45 ?_
          refine x_top (y := (nI 3)) (by decide) ?_
          refine x_put S hE hS (Or.inl rfl) (ho) (C := RX8) (T := TX8) (N := 10) rfl inlX8 tyX8 tyX8_ok nmX8 3 (by decide) (Nat.le_of_ble_eq_true rfl) kw13_6 rfl rfl (v := .int (nI 3)) rfl rfl dX8_changes_46 (fun H locs hX hO1 hS => ?_)
          have hO := hO.tr hO1 (fun q h => Or.inl h)
          have ho := hX
          have hs := va_at.kept hs (hO1.2 (M + 1) (fun z => by have z : M + 1 = M := z; omega))
          have hp := va_at.kept hp (hO1.2 (M + 2) (fun z => by have z : M + 2 = M := z; omega))
          refine lv_iconst (v := (nI 0)) S.1 S.2.1 dX8_changes_49 (by decide) ?_
          refine lv_istore_n S.1 S.2.1 dX8_changes_50 rfl hl (by decide) rfl (fun ls hl => ?_)
          have hl : lv_has ls 2 [(1, .int (nI 0)), (0, .ref M)] := hl
          have hloop51 : ∀ (d : Nat) (k : Nat) (v : Nat → Int32) (H : Heap) (locs : List Loc) (ls : Array Slot), 1670 - k = d → k ≤ 1670 → (∀ j, v j = if 1670 * 3 ≤ j ∧ j < 1670 * 3 + k then σ (j - 1670 * 3) else r j) → RfO E M (nI 3) ty re H → XI E (M + 1) 1670 σ H → XI E (M + 2) 6680 v H → Out (fun q => q = M ∨ q = M + 2) s.heap H → va_S (fun q => q = M ∨ q = M + 2) s.heap H locs → lv_has ls 2 [(1, .int (nI k)), (0, .ref M)] → W p l e rm_X8_changes s m args below meth c H locs 0 0 Q (F0 m 51 ls []) := by
            intro d51
            induction d51 using Nat.strongRecOn with
            | ind d51 ih51 =>
              intro k v H locs ls hd51 hk hv ho hs hp hO hS hl
              refine lv_iload_n S.1 S.2.1 dX8_changes_51 rfl (lv_at hl 0 rfl) ?_
              refine lv_sipush (v := (nI 1670)) S.1 S.2.1 dX8_changes_52 (by decide) ?_
              refine lv_icmp_ge (tgt := 85) S.1 S.2.1 dX8_changes_55 rfl (fun h4 => ?_) (fun h4 => ?_)
              · have hge2 : k = 1670 := (by have := ge_of_le (by omega) (by omega) h4; omega)
                refine lv_aload_n S.1 S.2.1 dX8_changes_85 rfl (lv_at hl 1 rfl) ?_
                refine lv_dup S.1 S.2.1 dX8_changes_86 rfl ?_
                refine x_get S hE (ho) (C := RX8) (T := TX8) (N := 10) rfl inlX8 3 (by decide) (v := .int (nI 3)) rfl kw13_6 rfl dX8_changes_87 ?_
                refine lv_iconst (v := (nI 1)) S.1 S.2.1 dX8_changes_90 (by decide) ?_
                refine lv_iadd S.1 S.2.1 dX8_changes_91 ?_
                refine x_top (y := (nI 4)) (nI_add 3 1) ?_
                refine x_put S hE hS (Or.inl rfl) (ho) (C := RX8) (T := TX8) (N := 10) rfl inlX8 tyX8 tyX8_ok nmX8 3 (by decide) (Nat.le_of_ble_eq_true rfl) kw13_6 rfl rfl (v := .int (nI 4)) rfl rfl dX8_changes_92 (fun H locs hX hO1 hS => ?_)
                have hO := hO.tr hO1 (fun q h => Or.inl h)
                have ho := hX
                have hs := va_at.kept hs (hO1.2 (M + 1) (fun z => by have z : M + 1 = M := z; omega))
                have hp := va_at.kept hp (hO1.2 (M + 2) (fun z => by have z : M + 2 = M := z; omega))
                subst hQ
                refine x_retV S hr hlk hS hO ?_ dX8_changes_95
                exact ⟨by rw [hiLen, if_pos rfl]; exact ho, xi_ext hp (fun j hj => past_full (hge ▸ hrw) (hge2 ▸ hv) j hj)⟩
              · have hlt : k < 1670 := lt_of_nle (by omega) (by omega) h4
                refine lv_aload_n S.1 S.2.1 dX8_changes_58 rfl (lv_at hl 1 rfl) ?_
                refine x_get S hE (ho) (C := RX8) (T := TX8) (N := 10) rfl inlX8 1 (by decide) (v := .ref (M + 2)) rfl kw7_7 rfl dX8_changes_59 ?_
                refine lv_sipush (v := (nI 1670)) S.1 S.2.1 dX8_changes_62 (by decide) ?_
                refine lv_aload_n S.1 S.2.1 dX8_changes_65 rfl (lv_at hl 1 rfl) ?_
                refine x_get S hE (ho) (C := RX8) (T := TX8) (N := 10) rfl inlX8 3 (by decide) (v := .int (nI 3)) rfl kw13_6 rfl dX8_changes_66 ?_
                refine lv_imul S.1 S.2.1 dX8_changes_69 ?_
                refine x_top (y := (nI (1670 * 3))) (pk_mul 1670 3) ?_
                refine lv_iload_n S.1 S.2.1 dX8_changes_70 rfl (lv_at hl 0 rfl) ?_
                refine lv_iadd S.1 S.2.1 dX8_changes_71 ?_
                refine x_top (y := (nI ((1670 * 3) + k))) (nI_add (1670 * 3) k) ?_
                refine lv_aload_n S.1 S.2.1 dX8_changes_72 rfl (lv_at hl 1 rfl) ?_
                refine x_get S hE (ho) (C := RX8) (T := TX8) (N := 10) rfl inlX8 0 (by decide) (v := .ref (M + 1)) rfl kw7_6 rfl dX8_changes_73 ?_
                refine lv_iload_n S.1 S.2.1 dX8_changes_76 rfl (lv_at hl 0 rfl) ?_
                refine x_iald S hE (hs) k rfl (by omega) (by decide) dX8_changes_77 ?_
                refine x_iast S hE hS (Or.inr rfl) (hp) ((1670 * 3) + k) rfl (by omega) (by decide) dX8_changes_78 (fun H locs hX hO1 hS => ?_)
                have hO := hO.tr hO1 (fun q h => Or.inr h)
                have ho := va_at.kept ho (hO1.2 M (fun z => by have z : M = M + 2 := z; omega))
                have hs := va_at.kept hs (hO1.2 (M + 1) (fun z => by have z : M + 1 = M + 2 := z; omega))
                have hp := hX
                refine lv_iinc (k := 0) (v := (nI (k + 1))) S.1 S.2.1 dX8_changes_79 hl rfl (iincP k 1) (by decide) rfl (fun ls hl => ?_)
                have hl : lv_has ls 2 [(1, .int (nI (k + 1))), (0, .ref M)] := hl
                refine lv_goto (tgt := 51) S.1 S.2.1 dX8_changes_82 rfl ?_
                exact ih51 _ (by omega) (k + 1) (upd v (1670 * 3 + k) (σ k)) _ _ ls rfl (by omega) (upd_win hv) (ho) (hs) (hp) (hO) (hS) (lv_sub hl [0, 1] rfl)
          exact hloop51 _ 0 r _ _ ls rfl (Nat.zero_le _) (fun j => (if_neg (by omega)).symm) (ho) (hs) (hp) (hO) (hS) (lv_sub hl [0, 1] rfl)
        · have hlt : i < 5010 := lt_of_nle (by omega) (by omega) h3
          refine lv_aload_n S.1 S.2.1 dX8_changes_17 rfl (lv_at hl 1 rfl) ?_
          refine x_get S hE (ho) (C := RX8) (T := TX8) (N := 10) rfl inlX8 1 (by decide) (v := .ref (M + 2)) rfl kw7_7 rfl dX8_changes_18 ?_
          refine lv_iload_n S.1 S.2.1 dX8_changes_21 rfl (lv_at hl 0 rfl) ?_
          refine lv_aload_n S.1 S.2.1 dX8_changes_22 rfl (lv_at hl 1 rfl) ?_
          refine x_get S hE (ho) (C := RX8) (T := TX8) (N := 10) rfl inlX8 1 (by decide) (v := .ref (M + 2)) rfl kw7_7 rfl dX8_changes_23 ?_
          refine lv_iload_n S.1 S.2.1 dX8_changes_26 rfl (lv_at hl 0 rfl) ?_
          refine lv_sipush (v := (nI 1670)) S.1 S.2.1 dX8_changes_27 (by decide) ?_
          refine lv_iadd S.1 S.2.1 dX8_changes_30 ?_
          refine x_top (y := (nI (i + 1670))) (nI_add i 1670) ?_
          refine x_iald S hE (hp) (i + 1670) rfl (by omega) (by decide) dX8_changes_31 ?_
          refine x_top (y := (rfFl η (i + 1670))) (by rw [hrw (i + 1670)]; exact if_neg (by omega)) ?_
          refine x_iast S hE hS (Or.inr rfl) (hp) i rfl (by omega) (by decide) dX8_changes_32 (fun H locs hX hO1 hS => ?_)
          have hO := hO.tr hO1 (fun q h => Or.inr h)
          have ho := va_at.kept ho (hO1.2 M (fun z => by have z : M = M + 2 := z; omega))
          have hs := va_at.kept hs (hO1.2 (M + 1) (fun z => by have z : M + 1 = M + 2 := z; omega))
          have hp := hX
          refine lv_iinc (k := 0) (v := (nI (i + 1))) S.1 S.2.1 dX8_changes_33 hl rfl (iincP i 1) (by decide) rfl (fun ls hl => ?_)
          have hl : lv_has ls 2 [(1, .int (nI (i + 1))), (0, .ref M)] := hl
          refine lv_goto (tgt := 10) S.1 S.2.1 dX8_changes_36 rfl ?_
          exact ih10 _ (by omega) (i + 1) (upd r i (rfFl η (i + 1670))) _ _ ls rfl (by omega) (upd_row (f := fun j => rfFl η (j + 1670)) hrw) (ho) (hs) (hp) (hO) (hS) (lv_sub hl [0, 1] rfl)
    exact hloop10 _ 0 (rfFl η) _ _ ls rfl (Nat.zero_le _) (fun j => (if_neg (by omega)).symm) (ho) (hs) (hp) (hO) (hS) (lv_sub hl [0, 1] rfl)
