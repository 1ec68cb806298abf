/-! 21.refb: walks, by program -/
abbrev RS : Type := (Nat → Int32) × ((Nat → Nat → Int32) × Nat) × ((Nat → Int32) × Nat)
/-- the reference's box at M (8 cells): notes and counts, the past, the text; the other rows hold anything -/
def RfP (E : XE) (M : Nat) (μ : RS) (H : Heap) : Prop :=
  ∃ re, RfO E M (nI μ.2.1.2) (nI μ.2.2.2) re H ∧ XI E (M + 1) 1670 μ.1 H ∧ XI E (M + 2) 6680 (rfFl μ.2.1.1) H ∧ (∃ f, XI E (M + 3) 1670 f H) ∧ XI E (M + 4) 60 μ.2.2.1 H ∧ (∃ f, XI E (M + 5) 4 f H) ∧ (∃ f, XI E (M + 6) 7 f H) ∧ ∃ f, XI E (M + 7) 7 f H
theorem hiLen_le {np : Nat} (h : np ≤ 4) : hiLen np ≤ 4 := by
  unfold hiLen; by_cases c : np = 4
  · rw [if_pos c]; exact Nat.le_refl 4
  · rw [if_neg c]; omega
theorem upd_win {v b σ : Nat → Int32} {q k : Nat} (hv : ∀ j, v j = if 1670 * q ≤ j ∧ j < 1670 * q + k then σ (j - 1670 * q) else b j) : ∀ j, upd v (1670 * q + k) (σ k) j = if 1670 * q ≤ j ∧ j < 1670 * q + (k + 1) then σ (j - 1670 * q) else b j := by
  intro j
  by_cases c : j = 1670 * q + k
  · subst c; rw [pk_us, if_pos (by omega), show 1670 * q + k - 1670 * q = k from by omega]
  · rw [pk_un c, hv j]
    by_cases d : 1670 * q ≤ j ∧ j < 1670 * q + k
    · rw [if_pos d, if_pos (by omega)]
    · rw [if_neg d, if_neg (by omega)]
theorem past_new {v σ : Nat → Int32} {η : Nat → Nat → Int32} {np : Nat} (hne : ¬ np = 4) (hv : ∀ j, v j = if 1670 * np ≤ j ∧ j < 1670 * np + 1670 then σ (j - 1670 * np) else rfFl η j) (j : Nat) : v j = rfFl (rfRec η np σ) j := by
  rw [hv j, rfRec, if_neg hne]
  unfold rfFl
  by_cases c : j / 1670 = np
  · rw [if_pos (by omega)]; show _ = (if j / 1670 = np then σ else η (j / 1670)) (j % 1670); rw [if_pos c]; exact congrArg σ (by omega)
  · rw [if_neg (by omega)]; show _ = (if j / 1670 = np then σ else η (j / 1670)) (j % 1670); rw [if_neg c]
theorem past_full {v r σ : Nat → Int32} {η : Nat → Nat → Int32} (hr : ∀ j, r j = if j < 5010 then rfFl η (j + 1670) else rfFl η j) (hv : ∀ j, v j = if 1670 * 3 ≤ j ∧ j < 1670 * 3 + 1670 then σ (j - 1670 * 3) else r j) (j : Nat) (hj : j < 6680) : v j = rfFl (rfRec η 4 σ) j := by
  rw [hv j, rfRec, if_pos rfl]
  unfold rfFl
  by_cases c : j / 1670 = 3
  · rw [if_pos (by omega)]; show _ = (if j / 1670 = 3 then σ else η (j / 1670 + 1)) (j % 1670); rw [if_pos c]; exact congrArg σ (by omega)
  · rw [if_neg (by omega)]; show _ = (if j / 1670 = 3 then σ else η (j / 1670 + 1)) (j % 1670); rw [if_neg c, hr j, if_pos (by omega)]
    unfold rfFl
    rw [show (j + 1670) / 1670 = j / 1670 + 1 from by omega, show (j + 1670) % 1670 = j % 1670 from by omega]
theorem bkM {M q k : Nat} (h : q = M + k) (hk : k < 8) : bk M 8 q := ⟨by omega, by omega⟩
abbrev KR : Type := (Nat → Int32) × Int32 × Bool
def rfMu (σ : Nat → Int32) (η : Nat → Nat → Int32) (np : Nat) (tx : Nat → Int32) (ty : Nat) (r : KR) : RS := match r.2.2 with
  | true => (r.1, (rfRec η np σ, hiLen np), (tx, ty))
  | false => (σ, (η, np), (tx, ty))
def rfNew0 (σ : Nat → Int32) (n : Nat) (pa qa za : Int32) : Nat → Int32 := nset (nset (nset (nset (nset (nset σ n 0 pa) n 1 qa) n 2 za) n 3 (nI 0)) n 4 (nI 0)) n 6 (nI 0)
def rfNew (σ : Nat → Int32) (n : Nat) (pa qa za : Int32) : Nat → Int32 := upd (rfNew0 σ n pa qa za) 0 (nI (n + 1))
def rfSent0 (σ : Nat → Int32) (j : Nat) : Nat → Int32 := nset (nset (nset σ j 3 (nI 5)) j 5 (nf (nset σ j 3 (nI 5)) j 4)) j 6 (nI 0)
def rfSent (σ : Nat → Int32) (j : Nat) : Nat → Int32 := upd (rfSent0 σ j) 3 (rfSent0 σ j 3 + nI 1)
def rfLv (σ : Nat → Int32) (n : Nat) : Option Nat := if rfPlc σ n < σ 6 then none else if rfMany σ (nI 5) n = nI 4 then none else rfNx σ n
def rfKnN (σ : Nat → Int32) (n : Nat) (pa qa za : Int32) : KR := if n = 200 then (σ, (-3), false) else if rfPlc σ n < σ 6 then (rfSings (rfNew σ n pa qa za) n, nI n, true) else match rfLv σ n with
  | some j => (rfSings (rfSent (rfNew σ n pa qa za) j) n, nI n, true)
  | none => if rfMany σ (nI 0) n = nI 6 then (σ, (-3), false) else (rfNew σ n pa qa za, nI n, true)
def rfKn (σ : Nat → Int32) (n : Nat) (pa qa za : Int32) : KR := if (nI 0 ≤ pa ∧ pa ≤ nI 3) ∧ (nI 0 ≤ qa ∧ qa ≤ nI 127) ∧ (nI 1 ≤ za ∧ za ≤ nI 127) then (match rfV σ pa qa n with
  | some j => (rfAnew σ j za, nI j, true)
  | none => rfKnN σ n pa qa za) else (σ, (-1), false)
def rfWt (σ : Nat → Int32) (pa qa : Int32) : Nat → Nat → Option Nat
  | 0, _ => none
  | f + 1, k => if nf σ k 3 = 0 ∧ nf σ k 0 = pa ∧ nf σ k 1 = qa then some k else rfWt σ pa qa f (k + 1)
def rfRlW (σ : Nat → Int32) (n : Nat) (pa qa : Int32) : KR := match rfWt σ pa qa n 0 with
  | some k => (nset σ k 3 (nI 6), nI k, true)
  | none => (σ, (-2), false)
def rfRl (σ : Nat → Int32) (n : Nat) (pa qa : Int32) : KR := if (nI 0 ≤ pa ∧ pa ≤ nI 3) ∧ (nI 0 ≤ qa ∧ qa ≤ nI 127) then (match rfV σ pa qa n with
  | some j => if ¬ nf σ j 3 = nI 4 ∧ nf σ j 6 = 0 then (if σ 2 = nI 1 then (nset σ j 6 (nI 1), nI j, true) else (rfFades σ j, nI j, true)) else rfRlW σ n pa qa
  | none => rfRlW σ n pa qa) else (σ, (-1), false)
def rfPd (σ : Nat → Int32) (n : Nat) (da : Int32) : KR := if nI 0 ≤ da ∧ da ≤ nI 1 then (if σ 2 = da then (σ, (-2), false) else if da = nI 1 then (upd σ 2 da, nI 0, true) else ((rfLN (upd σ 2 da) n).1, (rfLN (upd σ 2 da) n).2, true)) else (σ, (-1), false)
def rfIt (σ : Nat → Int32) (n : Nat) : Nat → Nat → Int32
  | 0 => σ
  | t + 1 => rfTick (rfIt σ n t) n
theorem rfIt_0 {σ : Nat → Int32} {n j : Nat} (h : j < 4) (h2 : ¬ j = 1) : ∀ t, rfIt σ n t j = σ j := by
  intro t
  induction t with
  | zero => rfl
  | succ t ih => exact (rfTick_0 h h2).trans ih
def rfTk (σ : Nat → Int32) (n : Nat) (ta : Int32) : KR := if nI 1 ≤ ta ∧ ta ≤ nI 100 then (if σ 1 + ta ≤ nI 50000 then (rfIt σ n ta.toNatClampNeg, rfSum (rfIt σ n ta.toNatClampNeg) n, true) else (σ, (-3), false)) else (σ, (-1), false)
def rfSt (σ : Nat → Int32) (wa va : Int32) : KR :=
  if wa = 0 then (if nI 1 ≤ va ∧ va ≤ nI 8 then (upd σ 6 va, σ 6, true) else (σ, (-1), false)) else
  if wa = nI 1 then (if nI 0 ≤ va ∧ va ≤ nI 2 then (upd σ 7 va, σ 7, true) else (σ, (-1), false)) else
  if wa = nI 2 then (if nI 100 ≤ va ∧ va ≤ nI 8000 then (upd σ 8 va, σ 8, true) else (σ, (-1), false)) else (σ, (-1), false)
theorem rfNx_lt {σ : Nat → Int32} {n j : Nat} (h : rfNx σ n = some j) : j < n := by
  unfold rfNx at h
  by_cases c : σ 7 < nI 2
  · rw [if_pos c] at h; exact rfSH_lt h
  · rw [if_neg c] at h; cases h
theorem i_nat {x : Int32} {n : Nat} (hn : n < 2 ^ 31) (h0 : nI 0 ≤ x) (h1 : x ≤ nI n) : ∃ k, k ≤ n ∧ x = nI k := by
  refine ⟨x.toNatClampNeg, xcl_le hn h1, ?_⟩
  have h0 : 0 ≤ x.toInt := Int32.le_iff_toInt_le.mp h0
  apply Int32.toInt.inj
  have hx : x.toNatClampNeg = x.toInt.toNat := rfl
  have hl := xcl_le hn h1
  rw [hx] at hl
  rw [hx, nI_toInt (show x.toInt.toNat < 2 ^ 31 by omega)]
  omega
abbrev rm_X8_changes : Room := ({ frames := 0, cells := 0, slots := 0, locals := 0 } : Room)
set_option maxRecDepth 100000 in
set_option maxHeartbeats 600000 in
theorem c_X8_changes (l : Launch) (E : XE) (M : Nat) (ty re : Int32) (np : Nat) (σ : Nat → Int32) (η : Nat → Nat → Int32) (H : Heap) (ho : RfO E M (nI np) ty re H) (hs : XI E (M + 1) 1670 σ H) (hp : XI E (M + 2) 6680 (rfFl η) H) (hnp : np ≤ 4) : Wv l E yX8_changes cX8_changes 2 rm_X8_changes [.ref M] H (fun q => q = M ∨ q = M + 2) (fun H1 => RfO E M (nI (hiLen np)) ty re H1 ∧ XI E (M + 2) 6680 (rfFl (rfRec η np σ)) H1) := by
  refine met_of (by decide) (Nat.le_of_ble_eq_true rfl) (fun p e s m args below meth c hBD Q hQ ls hl => ?_)
  obtain ⟨S, hr, hlk, hnm, hE, hH⟩ := hBD
  subst hH
  have hl : lv_has ls 2 [(0, .ref M)] := hl
  have hO : Out (fun q => q = M ∨ q = M + 2) s.heap s.heap := Out.rf
  have hS : va_S (fun q => q = M ∨ q = M + 2) s.heap s.heap [] := va_S.rf
  refine lv_aload_n S.1 S.2.1 dX8_changes_0 rfl (lv_at hl 0 rfl) ?_
  refine x_get S hE (ho) (C := RX8) (T := TX8) (N := 10) rfl inlX8 3 (by decide) (v := .int (nI np)) rfl kw13_6 rfl dX8_changes_1 ?_
  refine lv_iconst (v := (nI 4)) S.1 S.2.1 dX8_changes_4 (by decide) ?_
  refine lv_icmp_ne (tgt := 49) S.1 S.2.1 dX8_changes_5 rfl (fun h1 => ?_) (fun h1 => ?_)
  · have hne : ¬ np = 4 := fun z => h1 (by rw [z])
    refine lv_iconst (v := (nI 0)) S.1 S.2.1 dX8_changes_49 (by decide) ?_
    refine lv_istore_n S.1 S.2.1 dX8_changes_50 rfl hl (by decide) rfl (fun ls hl => ?_)
    have hl : lv_has ls 2 [(1, .int (nI 0)), (0, .ref M)] := hl
    have hloop51 : ∀ (d : Nat) (k : Nat) (v : Nat → Int32) (H : Heap) (locs : List Loc) (ls : Array Slot), 1670 - k = d → k ≤ 1670 → (∀ j, v j = if 1670 * np ≤ j ∧ j < 1670 * np + k then σ (j - 1670 * np) else (rfFl η) j) → RfO E M (nI np) ty re H → XI E (M + 1) 1670 σ H → XI E (M + 2) 6680 v H → Out (fun q => q = M ∨ q = M + 2) s.heap H → va_S (fun q => q = M ∨ q = M + 2) s.heap H locs → lv_has ls 2 [(1, .int (nI k)), (0, .ref M)] → W p l e rm_X8_changes s m args below meth c H locs 0 0 Q (F0 m 51 ls []) := by
      intro d51
      induction d51 using Nat.strongRecOn with
      | ind d51 ih51 =>
        intro k v H locs ls hd51 hk hv ho hs hp hO hS hl
        refine lv_iload_n S.1 S.2.1 dX8_changes_51 rfl (lv_at hl 0 rfl) ?_
        refine lv_sipush (v := (nI 1670)) S.1 S.2.1 dX8_changes_52 (by decide) ?_
        refine lv_icmp_ge (tgt := 85) S.1 S.2.1 dX8_changes_55 rfl (fun h2 => ?_) (fun h2 => ?_)
        · have hge2 : k = 1670 := (by have := ge_of_le (by omega) (by omega) h2; omega)
          refine lv_aload_n S.1 S.2.1 dX8_changes_85 rfl (lv_at hl 1 rfl) ?_
          refine lv_dup S.1 S.2.1 dX8_changes_86 rfl ?_
          refine x_get S hE (ho) (C := RX8) (T := TX8) (N := 10) rfl inlX8 3 (by decide) (v := .int (nI np)) rfl kw13_6 rfl dX8_changes_87 ?_
          refine lv_iconst (v := (nI 1)) S.1 S.2.1 dX8_changes_90 (by decide) ?_
          refine lv_iadd S.1 S.2.1 dX8_changes_91 ?_
          refine x_top (y := (nI (np + 1))) (nI_add np 1) ?_
          refine x_put S hE hS (Or.inl rfl) (ho) (C := RX8) (T := TX8) (N := 10) rfl inlX8 tyX8 tyX8_ok nmX8 3 (by decide) (Nat.le_of_ble_eq_true rfl) kw13_6 rfl rfl (v := .int (nI (np + 1))) rfl rfl dX8_changes_92 (fun H locs hX hO1 hS => ?_)
          have hO := hO.tr hO1 (fun q h => Or.inl h)
          have ho := hX
          have hs := va_at.kept hs (hO1.2 (M + 1) (fun z => by have z : M + 1 = M := z; omega))
          have hp := va_at.kept hp (hO1.2 (M + 2) (fun z => by have z : M + 2 = M := z; omega))
          subst hQ
          refine x_retV S hr hlk hS hO ?_ dX8_changes_95
          exact ⟨by rw [hiLen, if_neg hne]; exact ho, xi_ext hp (fun j _ => past_new hne (hge2 ▸ hv) j)⟩
        · have hlt : k < 1670 := lt_of_nle (by omega) (by omega) h2
          refine lv_aload_n S.1 S.2.1 dX8_changes_58 rfl (lv_at hl 1 rfl) ?_
          refine x_get S hE (ho) (C := RX8) (T := TX8) (N := 10) rfl inlX8 1 (by decide) (v := .ref (M + 2)) rfl kw7_7 rfl dX8_changes_59 ?_
          refine lv_sipush (v := (nI 1670)) S.1 S.2.1 dX8_changes_62 (by decide) ?_
          refine lv_aload_n S.1 S.2.1 dX8_changes_65 rfl (lv_at hl 1 rfl) ?_
          refine x_get S hE (ho) (C := RX8) (T := TX8) (N := 10) rfl inlX8 3 (by decide) (v := .int (nI np)) rfl kw13_6 rfl dX8_changes_66 ?_
          refine lv_imul S.1 S.2.1 dX8_changes_69 ?_
          refine x_top (y := (nI (1670 * np))) (pk_mul 1670 np) ?_
          refine lv_iload_n S.1 S.2.1 dX8_changes_70 rfl (lv_at hl 0 rfl) ?_
          refine lv_iadd S.1 S.2.1 dX8_changes_71 ?_
          refine x_top (y := (nI ((1670 * np) + k))) (nI_add (1670 * np) k) ?_
          refine lv_aload_n S.1 S.2.1 dX8_changes_72 rfl (lv_at hl 1 rfl) ?_
          refine x_get S hE (ho) (C := RX8) (T := TX8) (N := 10) rfl inlX8 0 (by decide) (v := .ref (M + 1)) rfl kw7_6 rfl dX8_changes_73 ?_
          refine lv_iload_n S.1 S.2.1 dX8_changes_76 rfl (lv_at hl 0 rfl) ?_
          refine x_iald S hE (hs) k rfl (by omega) (by decide) dX8_changes_77 ?_
          refine x_iast S hE hS (Or.inr rfl) (hp) ((1670 * np) + k) rfl (by omega) (by decide) dX8_changes_78 (fun H locs hX hO1 hS => ?_)
          have hO := hO.tr hO1 (fun q h => Or.inr h)
          have ho := va_at.kept ho (hO1.2 M (fun z => by have z : M = M + 2 := z; omega))
          have hs := va_at.kept hs (hO1.2 (M + 1) (fun z => by have z : M + 1 = M + 2 := z; omega))
          have hp := hX
          refine lv_iinc (k := 0) (v := (nI (k + 1))) S.1 S.2.1 dX8_changes_79 hl rfl (iincP k 1) (by decide) rfl (fun ls hl => ?_)
          have hl : lv_has ls 2 [(1, .int (nI (k + 1))), (0, .ref M)] := hl
          refine lv_goto (tgt := 51) S.1 S.2.1 dX8_changes_82 rfl ?_
          exact ih51 _ (by omega) (k + 1) (upd v (1670 * np + k) (σ k)) _ _ ls rfl (by omega) (upd_win hv) (ho) (hs) (hp) (hO) (hS) (lv_sub hl [0, 1] rfl)
    exact hloop51 _ 0 (rfFl η) _ _ ls rfl (Nat.zero_le _) (fun j => (if_neg (by omega)).symm) (ho) (hs) (hp) (hO) (hS) (lv_sub hl [0, 1] rfl)
  · have h4 : np = 4 := (nI_eq (by omega) (by decide)).mp h1
    subst h4
    refine lv_iconst (v := (nI 0)) S.1 S.2.1 dX8_changes_8 (by decide) ?_
    refine lv_istore_n S.1 S.2.1 dX8_changes_9 rfl hl (by decide) rfl (fun ls hl => ?_)
    have hl : lv_has ls 2 [(1, .int (nI 0)), (0, .ref M)] := hl
    have hloop10 : ∀ (d : Nat) (i : Nat) (r : Nat → Int32) (H : Heap) (locs : List Loc) (ls : Array Slot), 5010 - i = d → i ≤ 5010 → (∀ j, r j = if j < i then rfFl η (j + 1670) else rfFl η j) → RfO E M (nI 4) ty re H → XI E (M + 1) 1670 σ H → XI E (M + 2) 6680 r H → Out (fun q => q = M ∨ q = M + 2) s.heap H → va_S (fun q => q = M ∨ q = M + 2) s.heap H locs → lv_has ls 2 [(1, .int (nI i)), (0, .ref M)] → W p l e rm_X8_changes s m args below meth c H locs 0 0 Q (F0 m 10 ls []) := by
      intro d10
      induction d10 using Nat.strongRecOn with
      | ind d10 ih10 =>
        intro i r H locs ls hd10 hi hrw ho hs hp hO hS hl
        refine lv_iload_n S.1 S.2.1 dX8_changes_10 rfl (lv_at hl 0 rfl) ?_
        refine lv_sipush (v := (nI 5010)) S.1 S.2.1 dX8_changes_11 (by decide) ?_
        refine lv_icmp_ge (tgt := 39) S.1 S.2.1 dX8_changes_14 rfl (fun h3 => ?_) (fun h3 => ?_)
        · have hge : i = 5010 := (by have := ge_of_le (by omega) (by omega) h3; omega)
          refine lv_aload_n S.1 S.2.1 dX8_changes_39 rfl (lv_at hl 1 rfl) ?_
          refine lv_dup S.1 S.2.1 dX8_changes_40 rfl ?_
          refine x_get S hE (ho) (C := RX8) (T := TX8) (N := 10) rfl inlX8 3 (by decide) (v := .int (nI 4)) rfl kw13_6 rfl dX8_changes_41 ?_
          refine lv_iconst (v := (nI 1)) S.1 S.2.1 dX8_changes_44 (by decide) ?_
          refine lv_isub S.1 S.2.1 dX8_changes_45 ?_
          refine x_top (y := (nI 3)) (by decide) ?_
          refine x_put S hE hS (Or.inl rfl) (ho) (C := RX8) (T := TX8) (N := 10) rfl inlX8 tyX8 tyX8_ok nmX8 3 (by decide) (Nat.le_of_ble_eq_true rfl) kw13_6 rfl rfl (v := .int (nI 3)) rfl rfl dX8_changes_46 (fun H locs hX hO1 hS => ?_)
          have hO := hO.tr hO1 (fun q h => Or.inl h)
          have ho := hX
          have hs := va_at.kept hs (hO1.2 (M + 1) (fun z => by have z : M + 1 = M := z; omega))
          have hp := va_at.kept hp (hO1.2 (M + 2) (fun z => by have z : M + 2 = M := z; omega))
          refine lv_iconst (v := (nI 0)) S.1 S.2.1 dX8_changes_49 (by decide) ?_
          refine lv_istore_n S.1 S.2.1 dX8_changes_50 rfl hl (by decide) rfl (fun ls hl => ?_)
          have hl : lv_has ls 2 [(1, .int (nI 0)), (0, .ref M)] := hl
          have hloop51 : ∀ (d : Nat) (k : Nat) (v : Nat → Int32) (H : Heap) (locs : List Loc) (ls : Array Slot), 1670 - k = d → k ≤ 1670 → (∀ j, v j = if 1670 * 3 ≤ j ∧ j < 1670 * 3 + k then σ (j - 1670 * 3) else r j) → RfO E M (nI 3) ty re H → XI E (M + 1) 1670 σ H → XI E (M + 2) 6680 v H → Out (fun q => q = M ∨ q = M + 2) s.heap H → va_S (fun q => q = M ∨ q = M + 2) s.heap H locs → lv_has ls 2 [(1, .int (nI k)), (0, .ref M)] → W p l e rm_X8_changes s m args below meth c H locs 0 0 Q (F0 m 51 ls []) := by
            intro d51
            induction d51 using Nat.strongRecOn with
            | ind d51 ih51 =>
              intro k v H locs ls hd51 hk hv ho hs hp hO hS hl
              refine lv_iload_n S.1 S.2.1 dX8_changes_51 rfl (lv_at hl 0 rfl) ?_
              refine lv_sipush (v := (nI 1670)) S.1 S.2.1 dX8_changes_52 (by decide) ?_
              refine lv_icmp_ge (tgt := 85) S.1 S.2.1 dX8_changes_55 rfl (fun h4 => ?_) (fun h4 => ?_)
              · have hge2 : k = 1670 := (by have := ge_of_le (by omega) (by omega) h4; omega)
                refine lv_aload_n S.1 S.2.1 dX8_changes_85 rfl (lv_at hl 1 rfl) ?_
                refine lv_dup S.1 S.2.1 dX8_changes_86 rfl ?_
                refine x_get S hE (ho) (C := RX8) (T := TX8) (N := 10) rfl inlX8 3 (by decide) (v := .int (nI 3)) rfl kw13_6 rfl dX8_changes_87 ?_
                refine lv_iconst (v := (nI 1)) S.1 S.2.1 dX8_changes_90 (by decide) ?_
                refine lv_iadd S.1 S.2.1 dX8_changes_91 ?_
                refine x_top (y := (nI 4)) (nI_add 3 1) ?_
                refine x_put S hE hS (Or.inl rfl) (ho) (C := RX8) (T := TX8) (N := 10) rfl inlX8 tyX8 tyX8_ok nmX8 3 (by decide) (Nat.le_of_ble_eq_true rfl) kw13_6 rfl rfl (v := .int (nI 4)) rfl rfl dX8_changes_92 (fun H locs hX hO1 hS => ?_)
                have hO := hO.tr hO1 (fun q h => Or.inl h)
                have ho := hX
                have hs := va_at.kept hs (hO1.2 (M + 1) (fun z => by have z : M + 1 = M := z; omega))
                have hp := va_at.kept hp (hO1.2 (M + 2) (fun z => by have z : M + 2 = M := z; omega))
                subst hQ
                refine x_retV S hr hlk hS hO ?_ dX8_changes_95
                exact ⟨by rw [hiLen, if_pos rfl]; exact ho, xi_ext hp (fun j hj => past_full (hge ▸ hrw) (hge2 ▸ hv) j hj)⟩
              · have hlt : k < 1670 := lt_of_nle (by omega) (by omega) h4
                refine lv_aload_n S.1 S.2.1 dX8_changes_58 rfl (lv_at hl 1 rfl) ?_
                refine x_get S hE (ho) (C := RX8) (T := TX8) (N := 10) rfl inlX8 1 (by decide) (v := .ref (M + 2)) rfl kw7_7 rfl dX8_changes_59 ?_
                refine lv_sipush (v := (nI 1670)) S.1 S.2.1 dX8_changes_62 (by decide) ?_
                refine lv_aload_n S.1 S.2.1 dX8_changes_65 rfl (lv_at hl 1 rfl) ?_
                refine x_get S hE (ho) (C := RX8) (T := TX8) (N := 10) rfl inlX8 3 (by decide) (v := .int (nI 3)) rfl kw13_6 rfl dX8_changes_66 ?_
                refine lv_imul S.1 S.2.1 dX8_changes_69 ?_
                refine x_top (y := (nI (1670 * 3))) (pk_mul 1670 3) ?_
                refine lv_iload_n S.1 S.2.1 dX8_changes_70 rfl (lv_at hl 0 rfl) ?_
                refine lv_iadd S.1 S.2.1 dX8_changes_71 ?_
                refine x_top (y := (nI ((1670 * 3) + k))) (nI_add (1670 * 3) k) ?_
                refine lv_aload_n S.1 S.2.1 dX8_changes_72 rfl (lv_at hl 1 rfl) ?_
                refine x_get S hE (ho) (C := RX8) (T := TX8) (N := 10) rfl inlX8 0 (by decide) (v := .ref (M + 1)) rfl kw7_6 rfl dX8_changes_73 ?_
                refine lv_iload_n S.1 S.2.1 dX8_changes_76 rfl (lv_at hl 0 rfl) ?_
                refine x_iald S hE (hs) k rfl (by omega) (by decide) dX8_changes_77 ?_
                refine x_iast S hE hS (Or.inr rfl) (hp) ((1670 * 3) + k) rfl (by omega) (by decide) dX8_changes_78 (fun H locs hX hO1 hS => ?_)
                have hO := hO.tr hO1 (fun q h => Or.inr h)
                have ho := va_at.kept ho (hO1.2 M (fun z => by have z : M = M + 2 := z; omega))
                have hs := va_at.kept hs (hO1.2 (M + 1) (fun z => by have z : M + 1 = M + 2 := z; omega))
                have hp := hX
                refine lv_iinc (k := 0) (v := (nI (k + 1))) S.1 S.2.1 dX8_changes_79 hl rfl (iincP k 1) (by decide) rfl (fun ls hl => ?_)
                have hl : lv_has ls 2 [(1, .int (nI (k + 1))), (0, .ref M)] := hl
                refine lv_goto (tgt := 51) S.1 S.2.1 dX8_changes_82 rfl ?_
                exact ih51 _ (by omega) (k + 1) (upd v (1670 * 3 + k) (σ k)) _ _ ls rfl (by omega) (upd_win hv) (ho) (hs) (hp) (hO) (hS) (lv_sub hl [0, 1] rfl)
          exact hloop51 _ 0 r _ _ ls rfl (Nat.zero_le _) (fun j => (if_neg (by omega)).symm) (ho) (hs) (hp) (hO) (hS) (lv_sub hl [0, 1] rfl)
        · have hlt : i < 5010 := lt_of_nle (by omega) (by omega) h3
          refine lv_aload_n S.1 S.2.1 dX8_changes_17 rfl (lv_at hl 1 rfl) ?_
          refine x_get S hE (ho) (C := RX8) (T := TX8) (N := 10) rfl inlX8 1 (by decide) (v := .ref (M + 2)) rfl kw7_7 rfl dX8_changes_18 ?_
          refine lv_iload_n S.1 S.2.1 dX8_changes_21 rfl (lv_at hl 0 rfl) ?_
          refine lv_aload_n S.1 S.2.1 dX8_changes_22 rfl (lv_at hl 1 rfl) ?_
          refine x_get S hE (ho) (C := RX8) (T := TX8) (N := 10) rfl inlX8 1 (by decide) (v := .ref (M + 2)) rfl kw7_7 rfl dX8_changes_23 ?_
          refine lv_iload_n S.1 S.2.1 dX8_changes_26 rfl (lv_at hl 0 rfl) ?_
          refine lv_sipush (v := (nI 1670)) S.1 S.2.1 dX8_changes_27 (by decide) ?_
          refine lv_iadd S.1 S.2.1 dX8_changes_30 ?_
          refine x_top (y := (nI (i + 1670))) (nI_add i 1670) ?_
          refine x_iald S hE (hp) (i + 1670) rfl (by omega) (by decide) dX8_changes_31 ?_
          refine x_top (y := (rfFl η (i + 1670))) (by rw [hrw (i + 1670)]; exact if_neg (by omega)) ?_
          refine x_iast S hE hS (Or.inr rfl) (hp) i rfl (by omega) (by decide) dX8_changes_32 (fun H locs hX hO1 hS => ?_)
          have hO := hO.tr hO1 (fun q h => Or.inr h)
          have ho := va_at.kept ho (hO1.2 M (fun z => by have z : M = M + 2 := z; omega))
          have hs := va_at.kept hs (hO1.2 (M + 1) (fun z => by have z : M + 1 = M + 2 := z; omega))
          have hp := hX
          refine lv_iinc (k := 0) (v := (nI (i + 1))) S.1 S.2.1 dX8_changes_33 hl rfl (iincP i 1) (by decide) rfl (fun ls hl => ?_)
          have hl : lv_has ls 2 [(1, .int (nI (i + 1))), (0, .ref M)] := hl
          refine lv_goto (tgt := 10) S.1 S.2.1 dX8_changes_36 rfl ?_
          exact ih10 _ (by omega) (i + 1) (upd r i (rfFl η (i + 1670))) _ _ ls rfl (by omega) (upd_row (f := fun j => rfFl η (j + 1670)) hrw) (ho) (hs) (hp) (hO) (hS) (lv_sub hl [0, 1] rfl)
    exact hloop10 _ 0 (rfFl η) _ _ ls rfl (Nat.zero_le _) (fun j => (if_neg (by omega)).symm) (ho) (hs) (hp) (hO) (hS) (lv_sub hl [0, 1] rfl)
abbrev rm_X8_knock : Room := ({ frames := 3, cells := 0, slots := 0, locals := 70 } : Room)
set_option maxRecDepth 100000 in
set_option maxHeartbeats 600000 in
theorem c_X8_knock (l : Launch) (E : XE) (M n : Nat) (σ : Nat → Int32) (η : Nat → Nat → Int32) (np : Nat) (tx : Nat → Int32) (ty : Nat) (pa : Int32) (qa : Int32) (za : Int32) (H : Heap) (hP : RfP E M (σ, (η, np), (tx, ty)) H) (hn : σ 0 = nI n) (hn2 : n ≤ 200) (hnp : np ≤ 4) : Wr l E yX8_knock cX8_knock 9 (some .int) rm_X8_knock [.ref M, .int pa, .int qa, .int za] H (bk M 8) (fun v H1 => v = (rfKn σ n pa qa za).2.1 ∧ RfP E M (rfMu σ η np tx ty (rfKn σ n pa qa za)) H1) := by
  refine met_of (by decide) (Nat.le_of_ble_eq_true rfl) (fun p e s m args below meth c hBD Q hQ ls hl => ?_)
  obtain ⟨S, hr, hlk, hnm, hE, hH⟩ := hBD
  subst hH
  have hl : lv_has ls 9 [(0, .ref M), (1, .int pa), (2, .int qa), (3, .int za)] := hl
  have hO : Out (bk M 8) s.heap s.heap := Out.rf
  have hS : va_S (bk M 8) s.heap s.heap [] := va_S.rf
  obtain ⟨re, ho, hs, hp, ⟨f3, hd3⟩, ht, ⟨f5, hq5⟩, ⟨f6, hq6⟩, ⟨f7, hq7⟩⟩ := hP
  have ho : RfO E M (nI np) (nI ty) re s.heap := ho
  have hs : XI E (M + 1) 1670 σ s.heap := hs
  have hp : XI E (M + 2) 6680 (rfFl η) s.heap := hp
  have ht : XI E (M + 4) 60 tx s.heap := ht
  refine lv_iload_n S.1 S.2.1 dX8_knock_0 rfl (lv_at hl 1 rfl) ?_
  refine lv_iconst (v := (nI 0)) S.1 S.2.1 dX8_knock_1 (by decide) ?_
  refine lv_iconst (v := (nI 3)) S.1 S.2.1 dX8_knock_2 (by decide) ?_
  refine xk_R (v := (bI ((nI 0) ≤ pa ∧ pa ≤ (nI 3)))) (x_runS (As := [.int pa, .int (nI 0), .int (nI 3)]) (rest := []) S hE hS (fun _ h => h.elim) (c_X8_in l E pa (nI 0) (nI 3) _) kv_X8_in kw12_11 kw12_12 ⟨Nat.le_of_ble_eq_true rfl, Nat.le_of_ble_eq_true rfl⟩ rfl rfl rfl hl.1 rfl (Nat.le_of_ble_eq_true rfl) dX8_knock_3 ⟨Nat.zero_le _, Nat.zero_le _⟩) ?_
  refine lv_if_eq (tgt := 29) S.1 S.2.1 dX8_knock_6 rfl (fun h1 => ?_) (fun h1 => ?_)
  · skip
    have h1 := bI_0 h1
    refine lv_iconst (v := (-1)) S.1 S.2.1 dX8_knock_29 (by decide) ?_
    subst hQ
    refine x_retW S hr hlk (rfl) hS hO ?_ dX8_knock_30
    exact (show rfKn σ n pa qa za = (σ, (-1), false) from by unfold rfKn; rw [if_neg (fun z => h1 z.1)]; first | done | rfl) ▸ ⟨rfl, ⟨_, ho, hs, hp, ⟨_, hd3⟩, ht, ⟨_, hq5⟩, ⟨_, hq6⟩, ⟨_, hq7⟩⟩⟩
  · skip
    have h1 := bI_n0 h1
    refine lv_iload_n S.1 S.2.1 dX8_knock_9 rfl (lv_at hl 2 rfl) ?_
    refine lv_iconst (v := (nI 0)) S.1 S.2.1 dX8_knock_10 (by decide) ?_
    refine lv_bipush (v := (nI 127)) S.1 S.2.1 dX8_knock_11 (by decide) ?_
    refine xk_R (v := (bI ((nI 0) ≤ qa ∧ qa ≤ (nI 127)))) (x_runS (As := [.int qa, .int (nI 0), .int (nI 127)]) (rest := []) S hE hS (fun _ h => h.elim) (c_X8_in l E qa (nI 0) (nI 127) _) kv_X8_in kw12_11 kw12_12 ⟨Nat.le_of_ble_eq_true rfl, Nat.le_of_ble_eq_true rfl⟩ rfl rfl rfl hl.1 rfl (Nat.le_of_ble_eq_true rfl) dX8_knock_13 ⟨Nat.zero_le _, Nat.zero_le _⟩) ?_
    refine lv_if_eq (tgt := 29) S.1 S.2.1 dX8_knock_16 rfl (fun h2 => ?_) (fun h2 => ?_)
    · skip
      have h2 := bI_0 h2
      refine lv_iconst (v := (-1)) S.1 S.2.1 dX8_knock_29 (by decide) ?_
      subst hQ
      refine x_retW S hr hlk (rfl) hS hO ?_ dX8_knock_30
      exact (show rfKn σ n pa qa za = (σ, (-1), false) from by unfold rfKn; rw [if_neg (fun z => h2 z.2.1)]; first | done | rfl) ▸ ⟨rfl, ⟨_, ho, hs, hp, ⟨_, hd3⟩, ht, ⟨_, hq5⟩, ⟨_, hq6⟩, ⟨_, hq7⟩⟩⟩
    · skip
      have h2 := bI_n0 h2
      refine lv_iload_n S.1 S.2.1 dX8_knock_19 rfl (lv_at hl 3 rfl) ?_
      refine lv_iconst (v := (nI 1)) S.1 S.2.1 dX8_knock_20 (by decide) ?_
      refine lv_bipush (v := (nI 127)) S.1 S.2.1 dX8_knock_21 (by decide) ?_
      refine xk_R (v := (bI ((nI 1) ≤ za ∧ za ≤ (nI 127)))) (x_runS (As := [.int za, .int (nI 1), .int (nI 127)]) (rest := []) S hE hS (fun _ h => h.elim) (c_X8_in l E za (nI 1) (nI 127) _) kv_X8_in kw12_11 kw12_12 ⟨Nat.le_of_ble_eq_true rfl, Nat.le_of_ble_eq_true rfl⟩ rfl rfl rfl hl.1 rfl (Nat.le_of_ble_eq_true rfl) dX8_knock_23 ⟨Nat.zero_le _, Nat.zero_le _⟩) ?_
      refine lv_if_ne (tgt := 31) S.1 S.2.1 dX8_knock_26 rfl (fun h3 => ?_) (fun h3 => ?_)
      · skip
        have h3 := bI_n0 h3
        refine lv_aload_n S.1 S.2.1 dX8_knock_31 rfl (lv_at hl 0 rfl) ?_
        refine lv_iload_n S.1 S.2.1 dX8_knock_32 rfl (lv_at hl 1 rfl) ?_
        refine lv_iload_n S.1 S.2.1 dX8_knock_33 rfl (lv_at hl 2 rfl) ?_
        refine xk_R (v := (oi (rfV σ pa qa n))) (x_runV (As := [.int pa, .int qa]) (rest := []) S hE hS (fun _ h => h.elim) (c_X8_voiceOf l E M (nI np) (nI ty) re σ pa qa n _ ho hs hn hn2) kv_X8_voiceOf kw12_14 kw12_15 kw12_16 (x_recv hE (ho) (ci := 8) rfl) ⟨Nat.le_of_ble_eq_true rfl, Nat.le_of_ble_eq_true rfl⟩ rfl rfl rfl hl.1 rfl (Nat.le_of_ble_eq_true rfl) dX8_knock_34 ⟨Nat.zero_le _, Nat.zero_le _⟩) ?_
        refine lv_istore S.1 S.2.1 dX8_knock_37 hl (by decide) rfl (fun ls hl => ?_)
        have hl : lv_has ls 9 [(4, .int (oi (rfV σ pa qa n))), (0, .ref M), (1, .int pa), (2, .int qa), (3, .int za)] := hl
        rcases hv1 : rfV σ pa qa n with _ | j1
        · rw [hv1] at hl
          have hl : lv_has ls 9 [(4, .int (-4)), (0, .ref M), (1, .int pa), (2, .int qa), (3, .int za)] := hl
          refine lv_iload S.1 S.2.1 dX8_knock_39 (lv_at hl 0 rfl) ?_
          refine lv_if_lt (tgt := 58) S.1 S.2.1 dX8_knock_41 rfl (fun h4 => ?_) (fun h4 => ?_)
          · skip
            refine lv_aload_n S.1 S.2.1 dX8_knock_58 rfl (lv_at hl 1 rfl) ?_
            refine xk_R (v := (rfPlc σ n)) (x_runV (As := []) (rest := []) S hE hS (fun _ h => h.elim) (c_X8_placed l E M (nI np) (nI ty) re σ n _ ho hs hn hn2) kv_X8_placed kw13_19 kw13_20 kw13_21 (x_recv hE (ho) (ci := 8) rfl) ⟨Nat.le_of_ble_eq_true rfl, Nat.le_of_ble_eq_true rfl⟩ rfl rfl rfl hl.1 rfl (Nat.le_of_ble_eq_true rfl) dX8_knock_59 ⟨Nat.zero_le _, Nat.zero_le _⟩) ?_
            refine lv_aload_n S.1 S.2.1 dX8_knock_62 rfl (lv_at hl 1 rfl) ?_
            refine x_get S hE (ho) (C := RX8) (T := TX8) (N := 10) rfl inlX8 0 (by decide) (v := .ref (M + 1)) rfl kw7_6 rfl dX8_knock_63 ?_
            refine lv_bipush (v := (nI 6)) S.1 S.2.1 dX8_knock_66 (by decide) ?_
            refine x_iald S hE (hs) 6 rfl (by decide) (by decide) dX8_knock_68 ?_
            refine lv_icmp_ge (tgt := 76) S.1 S.2.1 dX8_knock_69 rfl (fun h5 => ?_) (fun h5 => ?_)
            · skip
              refine lv_iconst (v := (nI 0)) S.1 S.2.1 dX8_knock_76 (by decide) ?_
              refine lv_istore S.1 S.2.1 dX8_knock_77 hl (by decide) rfl (fun ls hl => ?_)
              have hl : lv_has ls 9 [(5, .int (nI 0)), (4, .int (-4)), (0, .ref M), (1, .int pa), (2, .int qa), (3, .int za)] := hl
              refine lv_iload S.1 S.2.1 dX8_knock_79 (lv_at hl 0 rfl) ?_
              refine lv_if_ne (tgt := 93) S.1 S.2.1 dX8_knock_81 rfl (fun h6 => ?_) (fun h6 => ?_)
              · exact absurd h6 (by decide)
              · skip
                refine lv_aload_n S.1 S.2.1 dX8_knock_84 rfl (lv_at hl 2 rfl) ?_
                refine lv_iconst (v := (nI 5)) S.1 S.2.1 dX8_knock_85 (by decide) ?_
                refine xk_R (v := (rfMany σ (nI 5) n)) (x_runV (As := [.int (nI 5)]) (rest := []) S hE hS (fun _ h => h.elim) (c_X8_many l E M (nI np) (nI ty) re σ (nI 5) n _ ho hs hn hn2) kv_X8_many kw13_23 kw14_0 kw14_1 (x_recv hE (ho) (ci := 8) rfl) ⟨Nat.le_of_ble_eq_true rfl, Nat.le_of_ble_eq_true rfl⟩ rfl rfl rfl hl.1 rfl (Nat.le_of_ble_eq_true rfl) dX8_knock_86 ⟨Nat.zero_le _, Nat.zero_le _⟩) ?_
                refine lv_iconst (v := (nI 4)) S.1 S.2.1 dX8_knock_89 (by decide) ?_
                refine lv_icmp_ne (tgt := 98) S.1 S.2.1 dX8_knock_90 rfl (fun h7 => ?_) (fun h7 => ?_)
                · skip
                  refine lv_aload_n S.1 S.2.1 dX8_knock_98 rfl (lv_at hl 2 rfl) ?_
                  refine xk_R (v := (oi (rfNx σ n))) (x_runV (As := []) (rest := []) S hE hS (fun _ h => h.elim) (c_X8_sentHome l E M (nI np) (nI ty) re σ n _ ho hs hn hn2) kv_X8_sentHome kw14_3 kw14_4 kw14_5 (x_recv hE (ho) (ci := 8) rfl) ⟨Nat.le_of_ble_eq_true rfl, Nat.le_of_ble_eq_true rfl⟩ rfl rfl rfl hl.1 rfl (Nat.le_of_ble_eq_true rfl) dX8_knock_99 ⟨Nat.zero_le _, Nat.zero_le _⟩) ?_
                  refine lv_istore S.1 S.2.1 dX8_knock_102 hl (by decide) rfl (fun ls hl => ?_)
                  have hl : lv_has ls 9 [(6, .int (oi (rfNx σ n))), (5, .int (nI 0)), (4, .int (-4)), (0, .ref M), (1, .int pa), (2, .int qa), (3, .int za)] := hl
                  rcases hv2 : rfNx σ n with _ | j2
                  · rw [hv2] at hl
                    have hl : lv_has ls 9 [(6, .int (-4)), (5, .int (nI 0)), (4, .int (-4)), (0, .ref M), (1, .int pa), (2, .int qa), (3, .int za)] := hl
                    refine lv_iload S.1 S.2.1 dX8_knock_104 (lv_at hl 1 rfl) ?_
                    refine lv_if_ne (tgt := 118) S.1 S.2.1 dX8_knock_106 rfl (fun h8 => ?_) (fun h8 => ?_)
                    · exact absurd h8 (by decide)
                    · skip
                      refine lv_iload S.1 S.2.1 dX8_knock_109 (lv_at hl 0 rfl) ?_
                      refine lv_if_ge (tgt := 118) S.1 S.2.1 dX8_knock_111 rfl (fun h9 => ?_) (fun h9 => ?_)
                      · exact absurd h9 (by decide)
                      · skip
                        refine lv_iconst (v := (nI 1)) S.1 S.2.1 dX8_knock_114 (by decide) ?_
                        refine lv_goto (tgt := 119) S.1 S.2.1 dX8_knock_115 rfl ?_
                        refine lv_istore S.1 S.2.1 dX8_knock_119 hl (by decide) rfl (fun ls hl => ?_)
                        have hl : lv_has ls 9 [(7, .int (nI 1)), (6, .int (-4)), (5, .int (nI 0)), (4, .int (-4)), (0, .ref M), (1, .int pa), (2, .int qa), (3, .int za)] := hl
                        refine lv_aload_n S.1 S.2.1 dX8_knock_121 rfl (lv_at hl 4 rfl) ?_
                        refine x_get S hE (ho) (C := RX8) (T := TX8) (N := 10) rfl inlX8 0 (by decide) (v := .ref (M + 1)) rfl kw7_6 rfl dX8_knock_122 ?_
                        refine lv_iconst (v := (nI 0)) S.1 S.2.1 dX8_knock_125 (by decide) ?_
                        refine x_iald S hE (hs) 0 rfl (by decide) (by decide) dX8_knock_126 ?_
                        refine x_top (y := (nI n)) (hn) ?_
                        refine lv_sipush (v := (nI 200)) S.1 S.2.1 dX8_knock_127 (by decide) ?_
                        refine lv_icmp_eq (tgt := 148) S.1 S.2.1 dX8_knock_130 rfl (fun h10 => ?_) (fun h10 => ?_)
                        · skip
                          refine lv_bipush (v := (-3)) S.1 S.2.1 dX8_knock_148 (by decide) ?_
                          subst hQ
                          refine x_retW S hr hlk (rfl) hS hO ?_ dX8_knock_150
                          exact (show rfKn σ n pa qa za = (σ, (-3), false) from by unfold rfKn; rw [if_pos ⟨h1, h2, h3⟩, hv1]; show rfKnN σ n pa qa za = _; unfold rfKnN; rw [if_pos ((nI_eq (by omega) (by decide)).mp h10)]; first | done | rfl) ▸ ⟨rfl, ⟨_, ho, hs, hp, ⟨_, hd3⟩, ht, ⟨_, hq5⟩, ⟨_, hq6⟩, ⟨_, hq7⟩⟩⟩
                        · have hlt : n < 200 := by have : ¬ n = 200 := fun z => h10 (by rw [z]); omega
                          refine lv_iload S.1 S.2.1 dX8_knock_133 (lv_at hl 0 rfl) ?_
                          refine lv_if_eq (tgt := 151) S.1 S.2.1 dX8_knock_135 rfl (fun h11 => ?_) (fun h11 => ?_)
                          · exact absurd h11 (by decide)
                          · skip
                            refine lv_aload_n S.1 S.2.1 dX8_knock_138 rfl (lv_at hl 4 rfl) ?_
                            refine lv_iconst (v := (nI 0)) S.1 S.2.1 dX8_knock_139 (by decide) ?_
                            refine xk_R (v := (rfMany σ (nI 0) n)) (x_runV (As := [.int (nI 0)]) (rest := []) S hE hS (fun _ h => h.elim) (c_X8_many l E M (nI np) (nI ty) re σ (nI 0) n _ ho hs hn hn2) kv_X8_many kw13_23 kw14_0 kw14_1 (x_recv hE (ho) (ci := 8) rfl) ⟨Nat.le_of_ble_eq_true rfl, Nat.le_of_ble_eq_true rfl⟩ rfl rfl rfl hl.1 rfl (Nat.le_of_ble_eq_true rfl) dX8_knock_140 ⟨Nat.zero_le _, Nat.zero_le _⟩) ?_
                            refine lv_bipush (v := (nI 6)) S.1 S.2.1 dX8_knock_143 (by decide) ?_
                            refine lv_icmp_ne (tgt := 151) S.1 S.2.1 dX8_knock_145 rfl (fun h12 => ?_) (fun h12 => ?_)
                            · skip
                              refine lv_aload_n S.1 S.2.1 dX8_knock_151 rfl (lv_at hl 4 rfl) ?_
                              refine xk_V (x_runV (As := []) (rest := []) S hE hS (fun q h => h.elim (fun h => bkM (k := 0) h (by decide)) (fun h => bkM (k := 2) h (by decide))) (c_X8_changes l E M (nI ty) re np σ η _ ho hs hp hnp) kv_X8_changes kw13_2 kw13_3 kw13_4 (x_recv hE (ho) (ci := 8) rfl) ⟨Nat.le_of_ble_eq_true rfl, Nat.le_of_ble_eq_true rfl⟩ rfl rfl rfl hl.1 rfl (Nat.le_of_ble_eq_true rfl) dX8_knock_152 ⟨Nat.zero_le _, Nat.zero_le _⟩) hS (fun q h => h.elim (fun h => bkM (k := 0) h (by decide)) (fun h => bkM (k := 2) h (by decide))) (fun H locs hX hO1 hS => ?_)
                              have hO := hO.tr hO1 (fun q h => h.elim (fun h => bkM (k := 0) h (by decide)) (fun h => bkM (k := 2) h (by decide)))
                              have hs := va_at.kept hs (hO1.2 (M + 1) (fun z => by rcases z with z | z <;> omega))
                              have hd3 := va_at.kept hd3 (hO1.2 (M + 3) (fun z => by rcases z with z | z <;> omega))
                              have ht := va_at.kept ht (hO1.2 (M + 4) (fun z => by rcases z with z | z <;> omega))
                              have hq5 := va_at.kept hq5 (hO1.2 (M + 5) (fun z => by rcases z with z | z <;> omega))
                              have hq6 := va_at.kept hq6 (hO1.2 (M + 6) (fun z => by rcases z with z | z <;> omega))
                              have hq7 := va_at.kept hq7 (hO1.2 (M + 7) (fun z => by rcases z with z | z <;> omega))
                              obtain ⟨ho, hp⟩ := hX
                              refine lv_aload_n S.1 S.2.1 dX8_knock_155 rfl (lv_at hl 4 rfl) ?_
                              refine x_get S hE (ho) (C := RX8) (T := TX8) (N := 10) rfl inlX8 0 (by decide) (v := .ref (M + 1)) rfl kw7_6 rfl dX8_knock_156 ?_
                              refine lv_iconst (v := (nI 0)) S.1 S.2.1 dX8_knock_159 (by decide) ?_
                              refine x_iald S hE (hs) 0 rfl (by decide) (by decide) dX8_knock_160 ?_
                              refine x_top (y := (nI n)) (hn) ?_
                              refine lv_istore S.1 S.2.1 dX8_knock_161 hl (by decide) rfl (fun ls hl => ?_)
                              have hl : lv_has ls 9 [(8, .int (nI n)), (7, .int (nI 1)), (6, .int (-4)), (5, .int (nI 0)), (4, .int (-4)), (0, .ref M), (1, .int pa), (2, .int qa), (3, .int za)] := hl
                              refine lv_aload_n S.1 S.2.1 dX8_knock_163 rfl (lv_at hl 5 rfl) ?_
                              refine lv_iload S.1 S.2.1 dX8_knock_164 (lv_at hl 0 rfl) ?_
                              refine lv_iconst (v := (nI 0)) S.1 S.2.1 dX8_knock_166 (by decide) ?_
                              refine lv_iload_n S.1 S.2.1 dX8_knock_167 rfl (lv_at hl 6 rfl) ?_
                              refine xk_V (x_runV (As := [.int (nI n), .int (nI 0), .int pa]) (rest := []) S hE hS (fun q h => bkM (k := 1) h (by decide)) (c_X8_puts l E M (nI (hiLen np)) (nI ty) re σ n 0 pa _ ho hs (by omega) (by omega)) kv_X8_puts kw13_11 kw13_12 kw13_13 (x_recv hE (ho) (ci := 8) rfl) ⟨Nat.le_of_ble_eq_true rfl, Nat.le_of_ble_eq_true rfl⟩ rfl rfl rfl hl.1 rfl (Nat.le_of_ble_eq_true rfl) dX8_knock_168 ⟨Nat.zero_le _, Nat.zero_le _⟩) hS (fun q h => bkM (k := 1) h (by decide)) (fun H locs hX hO1 hS => ?_)
                              have hO := hO.tr hO1 (fun q h => bkM (k := 1) h (by decide))
                              have ho := va_at.kept ho (hO1.2 (M) (fun z => by have z : M = M + 1 := z; omega))
                              have hp := va_at.kept hp (hO1.2 (M + 2) (fun z => by have z : M + 2 = M + 1 := z; omega))
                              have hd3 := va_at.kept hd3 (hO1.2 (M + 3) (fun z => by have z : M + 3 = M + 1 := z; omega))
                              have ht := va_at.kept ht (hO1.2 (M + 4) (fun z => by have z : M + 4 = M + 1 := z; omega))
                              have hq5 := va_at.kept hq5 (hO1.2 (M + 5) (fun z => by have z : M + 5 = M + 1 := z; omega))
                              have hq6 := va_at.kept hq6 (hO1.2 (M + 6) (fun z => by have z : M + 6 = M + 1 := z; omega))
                              have hq7 := va_at.kept hq7 (hO1.2 (M + 7) (fun z => by have z : M + 7 = M + 1 := z; omega))
                              have hs : XI E (M + 1) 1670 (nset σ n 0 pa) H := hX
                              have hn : (nset σ n 0 pa) 0 = nI n := ((nset_lo (by decide))).trans hn
                              refine lv_aload_n S.1 S.2.1 dX8_knock_171 rfl (lv_at hl 5 rfl) ?_
                              refine lv_iload S.1 S.2.1 dX8_knock_172 (lv_at hl 0 rfl) ?_
                              refine lv_iconst (v := (nI 1)) S.1 S.2.1 dX8_knock_174 (by decide) ?_
                              refine lv_iload_n S.1 S.2.1 dX8_knock_175 rfl (lv_at hl 7 rfl) ?_
                              refine xk_V (x_runV (As := [.int (nI n), .int (nI 1), .int qa]) (rest := []) S hE hS (fun q h => bkM (k := 1) h (by decide)) (c_X8_puts l E M (nI (hiLen np)) (nI ty) re (nset σ n 0 pa) n 1 qa _ ho hs (by omega) (by omega)) kv_X8_puts kw13_11 kw13_12 kw13_13 (x_recv hE (ho) (ci := 8) rfl) ⟨Nat.le_of_ble_eq_true rfl, Nat.le_of_ble_eq_true rfl⟩ rfl rfl rfl hl.1 rfl (Nat.le_of_ble_eq_true rfl) dX8_knock_176 ⟨Nat.zero_le _, Nat.zero_le _⟩) hS (fun q h => bkM (k := 1) h (by decide)) (fun H locs hX hO1 hS => ?_)
                              have hO := hO.tr hO1 (fun q h => bkM (k := 1) h (by decide))
                              have ho := va_at.kept ho (hO1.2 (M) (fun z => by have z : M = M + 1 := z; omega))
                              have hp := va_at.kept hp (hO1.2 (M + 2) (fun z => by have z : M + 2 = M + 1 := z; omega))
                              have hd3 := va_at.kept hd3 (hO1.2 (M + 3) (fun z => by have z : M + 3 = M + 1 := z; omega))
                              have ht := va_at.kept ht (hO1.2 (M + 4) (fun z => by have z : M + 4 = M + 1 := z; omega))
                              have hq5 := va_at.kept hq5 (hO1.2 (M + 5) (fun z => by have z : M + 5 = M + 1 := z; omega))
                              have hq6 := va_at.kept hq6 (hO1.2 (M + 6) (fun z => by have z : M + 6 = M + 1 := z; omega))
                              have hq7 := va_at.kept hq7 (hO1.2 (M + 7) (fun z => by have z : M + 7 = M + 1 := z; omega))
                              have hs : XI E (M + 1) 1670 (nset (nset σ n 0 pa) n 1 qa) H := hX
                              have hn : (nset (nset σ n 0 pa) n 1 qa) 0 = nI n := ((nset_lo (by decide))).trans hn
                              refine lv_aload_n S.1 S.2.1 dX8_knock_179 rfl (lv_at hl 5 rfl) ?_
                              refine lv_iload S.1 S.2.1 dX8_knock_180 (lv_at hl 0 rfl) ?_
                              refine lv_iconst (v := (nI 2)) S.1 S.2.1 dX8_knock_182 (by decide) ?_
                              refine lv_iload_n S.1 S.2.1 dX8_knock_183 rfl (lv_at hl 8 rfl) ?_
                              refine xk_V (x_runV (As := [.int (nI n), .int (nI 2), .int za]) (rest := []) S hE hS (fun q h => bkM (k := 1) h (by decide)) (c_X8_puts l E M (nI (hiLen np)) (nI ty) re (nset (nset σ n 0 pa) n 1 qa) n 2 za _ ho hs (by omega) (by omega)) kv_X8_puts kw13_11 kw13_12 kw13_13 (x_recv hE (ho) (ci := 8) rfl) ⟨Nat.le_of_ble_eq_true rfl, Nat.le_of_ble_eq_true rfl⟩ rfl rfl rfl hl.1 rfl (Nat.le_of_ble_eq_true rfl) dX8_knock_184 ⟨Nat.zero_le _, Nat.zero_le _⟩) hS (fun q h => bkM (k := 1) h (by decide)) (fun H locs hX hO1 hS => ?_)
                              have hO := hO.tr hO1 (fun q h => bkM (k := 1) h (by decide))
                              have ho := va_at.kept ho (hO1.2 (M) (fun z => by have z : M = M + 1 := z; omega))
                              have hp := va_at.kept hp (hO1.2 (M + 2) (fun z => by have z : M + 2 = M + 1 := z; omega))
                              have hd3 := va_at.kept hd3 (hO1.2 (M + 3) (fun z => by have z : M + 3 = M + 1 := z; omega))
                              have ht := va_at.kept ht (hO1.2 (M + 4) (fun z => by have z : M + 4 = M + 1 := z; omega))
                              have hq5 := va_at.kept hq5 (hO1.2 (M + 5) (fun z => by have z : M + 5 = M + 1 := z; omega))
                              have hq6 := va_at.kept hq6 (hO1.2 (M + 6) (fun z => by have z : M + 6 = M + 1 := z; omega))
                              have hq7 := va_at.kept hq7 (hO1.2 (M + 7) (fun z => by have z : M + 7 = M + 1 := z; omega))
                              have hs : XI E (M + 1) 1670 (nset (nset (nset σ n 0 pa) n 1 qa) n 2 za) H := hX
                              have hn : (nset (nset (nset σ n 0 pa) n 1 qa) n 2 za) 0 = nI n := ((nset_lo (by decide))).trans hn
                              refine lv_aload_n S.1 S.2.1 dX8_knock_187 rfl (lv_at hl 5 rfl) ?_
                              refine lv_iload S.1 S.2.1 dX8_knock_188 (lv_at hl 0 rfl) ?_
                              refine lv_iconst (v := (nI 3)) S.1 S.2.1 dX8_knock_190 (by decide) ?_
                              refine lv_iconst (v := (nI 0)) S.1 S.2.1 dX8_knock_191 (by decide) ?_
                              refine xk_V (x_runV (As := [.int (nI n), .int (nI 3), .int (nI 0)]) (rest := []) S hE hS (fun q h => bkM (k := 1) h (by decide)) (c_X8_puts l E M (nI (hiLen np)) (nI ty) re (nset (nset (nset σ n 0 pa) n 1 qa) n 2 za) n 3 (nI 0) _ ho hs (by omega) (by omega)) kv_X8_puts kw13_11 kw13_12 kw13_13 (x_recv hE (ho) (ci := 8) rfl) ⟨Nat.le_of_ble_eq_true rfl, Nat.le_of_ble_eq_true rfl⟩ rfl rfl rfl hl.1 rfl (Nat.le_of_ble_eq_true rfl) dX8_knock_192 ⟨Nat.zero_le _, Nat.zero_le _⟩) hS (fun q h => bkM (k := 1) h (by decide)) (fun H locs hX hO1 hS => ?_)
                              have hO := hO.tr hO1 (fun q h => bkM (k := 1) h (by decide))
                              have ho := va_at.kept ho (hO1.2 (M) (fun z => by have z : M = M + 1 := z; omega))
                              have hp := va_at.kept hp (hO1.2 (M + 2) (fun z => by have z : M + 2 = M + 1 := z; omega))
                              have hd3 := va_at.kept hd3 (hO1.2 (M + 3) (fun z => by have z : M + 3 = M + 1 := z; omega))
                              have ht := va_at.kept ht (hO1.2 (M + 4) (fun z => by have z : M + 4 = M + 1 := z; omega))
                              have hq5 := va_at.kept hq5 (hO1.2 (M + 5) (fun z => by have z : M + 5 = M + 1 := z; omega))
                              have hq6 := va_at.kept hq6 (hO1.2 (M + 6) (fun z => by have z : M + 6 = M + 1 := z; omega))
                              have hq7 := va_at.kept hq7 (hO1.2 (M + 7) (fun z => by have z : M + 7 = M + 1 := z; omega))
                              have hs : XI E (M + 1) 1670 (nset (nset (nset (nset σ n 0 pa) n 1 qa) n 2 za) n 3 (nI 0)) H := hX
                              have hn : (nset (nset (nset (nset σ n 0 pa) n 1 qa) n 2 za) n 3 (nI 0)) 0 = nI n := ((nset_lo (by decide))).trans hn
                              refine lv_aload_n S.1 S.2.1 dX8_knock_195 rfl (lv_at hl 5 rfl) ?_
                              refine lv_iload S.1 S.2.1 dX8_knock_196 (lv_at hl 0 rfl) ?_
                              refine lv_iconst (v := (nI 4)) S.1 S.2.1 dX8_knock_198 (by decide) ?_
                              refine lv_iconst (v := (nI 0)) S.1 S.2.1 dX8_knock_199 (by decide) ?_
                              refine xk_V (x_runV (As := [.int (nI n), .int (nI 4), .int (nI 0)]) (rest := []) S hE hS (fun q h => bkM (k := 1) h (by decide)) (c_X8_puts l E M (nI (hiLen np)) (nI ty) re (nset (nset (nset (nset σ n 0 pa) n 1 qa) n 2 za) n 3 (nI 0)) n 4 (nI 0) _ ho hs (by omega) (by omega)) kv_X8_puts kw13_11 kw13_12 kw13_13 (x_recv hE (ho) (ci := 8) rfl) ⟨Nat.le_of_ble_eq_true rfl, Nat.le_of_ble_eq_true rfl⟩ rfl rfl rfl hl.1 rfl (Nat.le_of_ble_eq_true rfl) dX8_knock_200 ⟨Nat.zero_le _, Nat.zero_le _⟩) hS (fun q h => bkM (k := 1) h (by decide)) (fun H locs hX hO1 hS => ?_)
                              have hO := hO.tr hO1 (fun q h => bkM (k := 1) h (by decide))
                              have ho := va_at.kept ho (hO1.2 (M) (fun z => by have z : M = M + 1 := z; omega))
                              have hp := va_at.kept hp (hO1.2 (M + 2) (fun z => by have z : M + 2 = M + 1 := z; omega))
                              have hd3 := va_at.kept hd3 (hO1.2 (M + 3) (fun z => by have z : M + 3 = M + 1 := z; omega))
                              have ht := va_at.kept ht (hO1.2 (M + 4) (fun z => by have z : M + 4 = M + 1 := z; omega))
                              have hq5 := va_at.kept hq5 (hO1.2 (M + 5) (fun z => by have z : M + 5 = M + 1 := z; omega))
                              have hq6 := va_at.kept hq6 (hO1.2 (M + 6) (fun z => by have z : M + 6 = M + 1 := z; omega))
                              have hq7 := va_at.kept hq7 (hO1.2 (M + 7) (fun z => by have z : M + 7 = M + 1 := z; omega))
                              have hs : XI E (M + 1) 1670 (nset (nset (nset (nset (nset σ n 0 pa) n 1 qa) n 2 za) n 3 (nI 0)) n 4 (nI 0)) H := hX
                              have hn : (nset (nset (nset (nset (nset σ n 0 pa) n 1 qa) n 2 za) n 3 (nI 0)) n 4 (nI 0)) 0 = nI n := ((nset_lo (by decide))).trans hn
                              refine lv_aload_n S.1 S.2.1 dX8_knock_203 rfl (lv_at hl 5 rfl) ?_
                              refine lv_iload S.1 S.2.1 dX8_knock_204 (lv_at hl 0 rfl) ?_
                              refine lv_bipush (v := (nI 6)) S.1 S.2.1 dX8_knock_206 (by decide) ?_
                              refine lv_iconst (v := (nI 0)) S.1 S.2.1 dX8_knock_208 (by decide) ?_
                              refine xk_V (x_runV (As := [.int (nI n), .int (nI 6), .int (nI 0)]) (rest := []) S hE hS (fun q h => bkM (k := 1) h (by decide)) (c_X8_puts l E M (nI (hiLen np)) (nI ty) re (nset (nset (nset (nset (nset σ n 0 pa) n 1 qa) n 2 za) n 3 (nI 0)) n 4 (nI 0)) n 6 (nI 0) _ ho hs (by omega) (by omega)) kv_X8_puts kw13_11 kw13_12 kw13_13 (x_recv hE (ho) (ci := 8) rfl) ⟨Nat.le_of_ble_eq_true rfl, Nat.le_of_ble_eq_true rfl⟩ rfl rfl rfl hl.1 rfl (Nat.le_of_ble_eq_true rfl) dX8_knock_209 ⟨Nat.zero_le _, Nat.zero_le _⟩) hS (fun q h => bkM (k := 1) h (by decide)) (fun H locs hX hO1 hS => ?_)
                              have hO := hO.tr hO1 (fun q h => bkM (k := 1) h (by decide))
                              have ho := va_at.kept ho (hO1.2 (M) (fun z => by have z : M = M + 1 := z; omega))
                              have hp := va_at.kept hp (hO1.2 (M + 2) (fun z => by have z : M + 2 = M + 1 := z; omega))
                              have hd3 := va_at.kept hd3 (hO1.2 (M + 3) (fun z => by have z : M + 3 = M + 1 := z; omega))
                              have ht := va_at.kept ht (hO1.2 (M + 4) (fun z => by have z : M + 4 = M + 1 := z; omega))
                              have hq5 := va_at.kept hq5 (hO1.2 (M + 5) (fun z => by have z : M + 5 = M + 1 := z; omega))
                              have hq6 := va_at.kept hq6 (hO1.2 (M + 6) (fun z => by have z : M + 6 = M + 1 := z; omega))
                              have hq7 := va_at.kept hq7 (hO1.2 (M + 7) (fun z => by have z : M + 7 = M + 1 := z; omega))
                              have hs : XI E (M + 1) 1670 (nset (nset (nset (nset (nset (nset σ n 0 pa) n 1 qa) n 2 za) n 3 (nI 0)) n 4 (nI 0)) n 6 (nI 0)) H := hX
                              have hn : (nset (nset (nset (nset (nset (nset σ n 0 pa) n 1 qa) n 2 za) n 3 (nI 0)) n 4 (nI 0)) n 6 (nI 0)) 0 = nI n := ((nset_lo (by decide))).trans hn
                              refine lv_aload_n S.1 S.2.1 dX8_knock_212 rfl (lv_at hl 5 rfl) ?_
                              refine x_get S hE (ho) (C := RX8) (T := TX8) (N := 10) rfl inlX8 0 (by decide) (v := .ref (M + 1)) rfl kw7_6 rfl dX8_knock_213 ?_
                              refine lv_iconst (v := (nI 0)) S.1 S.2.1 dX8_knock_216 (by decide) ?_
                              refine lv_dup2_11 S.1 S.2.1 dX8_knock_217 rfl rfl ?_
                              refine x_iald S hE (hs) 0 rfl (by decide) (by decide) dX8_knock_218 ?_
                              refine x_top (y := (nI n)) (hn) ?_
                              refine lv_iconst (v := (nI 1)) S.1 S.2.1 dX8_knock_219 (by decide) ?_
                              refine lv_iadd S.1 S.2.1 dX8_knock_220 ?_
                              refine x_top (y := (nI (n + 1))) (nI_add n 1) ?_
                              refine x_iast S hE hS (bkM (k := 1) rfl (by decide)) (hs) 0 rfl (by decide) (by decide) dX8_knock_221 (fun H locs hX hO1 hS => ?_)
                              have hO := hO.tr hO1 (fun q h => bkM (k := 1) h (by decide))
                              have ho := va_at.kept ho (hO1.2 (M) (fun z => by have z : M = M + 1 := z; omega))
                              have hp := va_at.kept hp (hO1.2 (M + 2) (fun z => by have z : M + 2 = M + 1 := z; omega))
                              have hd3 := va_at.kept hd3 (hO1.2 (M + 3) (fun z => by have z : M + 3 = M + 1 := z; omega))
                              have ht := va_at.kept ht (hO1.2 (M + 4) (fun z => by have z : M + 4 = M + 1 := z; omega))
                              have hq5 := va_at.kept hq5 (hO1.2 (M + 5) (fun z => by have z : M + 5 = M + 1 := z; omega))
                              have hq6 := va_at.kept hq6 (hO1.2 (M + 6) (fun z => by have z : M + 6 = M + 1 := z; omega))
                              have hq7 := va_at.kept hq7 (hO1.2 (M + 7) (fun z => by have z : M + 7 = M + 1 := z; omega))
                              have hs : XI E (M + 1) 1670 (upd (nset (nset (nset (nset (nset (nset σ n 0 pa) n 1 qa) n 2 za) n 3 (nI 0)) n 4 (nI 0)) n 6 (nI 0)) 0 (nI (n + 1))) H := hX
                              refine lv_iload S.1 S.2.1 dX8_knock_222 (lv_at hl 2 rfl) ?_
                              refine lv_if_lt (tgt := 268) S.1 S.2.1 dX8_knock_224 rfl (fun h13 => ?_) (fun h13 => ?_)
                              · skip
                                refine lv_iload S.1 S.2.1 dX8_knock_268 (lv_at hl 1 rfl) ?_
                                refine lv_if_ne (tgt := 279) S.1 S.2.1 dX8_knock_270 rfl (fun h14 => ?_) (fun h14 => ?_)
                                · skip
                                  refine lv_iload S.1 S.2.1 dX8_knock_279 (lv_at hl 0 rfl) ?_
                                  subst hQ
                                  refine x_retW S hr hlk (rfl) hS hO ?_ dX8_knock_281
                                  exact (show rfKn σ n pa qa za = ((upd (nset (nset (nset (nset (nset (nset σ n 0 pa) n 1 qa) n 2 za) n 3 (nI 0)) n 4 (nI 0)) n 6 (nI 0)) 0 (nI (n + 1))), (nI n), true) from by unfold rfKn; rw [if_pos ⟨h1, h2, h3⟩, hv1]; show rfKnN σ n pa qa za = _; unfold rfKnN; rw [if_neg (fun z => h10 (by rw [z])), if_neg (Int32.not_lt.mpr h5), show rfLv σ n = none from by rw [rfLv, if_neg (Int32.not_lt.mpr h5), if_neg h7, hv2]]; show (if rfMany σ (nI 0) n = nI 6 then ((σ, (-3), false) : KR) else (rfNew σ n pa qa za, nI n, true)) = _; rw [if_neg h12]; first | done | rfl) ▸ ⟨rfl, ⟨_, ho, hs, hp, ⟨_, hd3⟩, ht, ⟨_, hq5⟩, ⟨_, hq6⟩, ⟨_, hq7⟩⟩⟩
                                · exact absurd h14 (by decide)
                              · exact absurd h13 (by decide)
                            · skip
                              refine lv_bipush (v := (-3)) S.1 S.2.1 dX8_knock_148 (by decide) ?_
                              subst hQ
                              refine x_retW S hr hlk (rfl) hS hO ?_ dX8_knock_150
                              exact (show rfKn σ n pa qa za = (σ, (-3), false) from by unfold rfKn; rw [if_pos ⟨h1, h2, h3⟩, hv1]; show rfKnN σ n pa qa za = _; unfold rfKnN; rw [if_neg (fun z => h10 (by rw [z])), if_neg (Int32.not_lt.mpr h5), show rfLv σ n = none from by rw [rfLv, if_neg (Int32.not_lt.mpr h5), if_neg h7, hv2]]; show (if rfMany σ (nI 0) n = nI 6 then ((σ, (-3), false) : KR) else (rfNew σ n pa qa za, nI n, true)) = _; rw [if_pos h12]; first | done | rfl) ▸ ⟨rfl, ⟨_, ho, hs, hp, ⟨_, hd3⟩, ht, ⟨_, hq5⟩, ⟨_, hq6⟩, ⟨_, hq7⟩⟩⟩
                  · rw [hv2] at hl
                    have hl : lv_has ls 9 [(6, .int (nI j2)), (5, .int (nI 0)), (4, .int (-4)), (0, .ref M), (1, .int pa), (2, .int qa), (3, .int za)] := hl
                    have j2b := rfNx_lt hv2
                    refine lv_iload S.1 S.2.1 dX8_knock_104 (lv_at hl 1 rfl) ?_
                    refine lv_if_ne (tgt := 118) S.1 S.2.1 dX8_knock_106 rfl (fun h15 => ?_) (fun h15 => ?_)
                    · exact absurd h15 (by decide)
                    · skip
                      refine lv_iload S.1 S.2.1 dX8_knock_109 (lv_at hl 0 rfl) ?_
                      refine lv_if_ge (tgt := 118) S.1 S.2.1 dX8_knock_111 rfl (fun h16 => ?_) (fun h16 => ?_)
                      · skip
                        refine lv_iconst (v := (nI 0)) S.1 S.2.1 dX8_knock_118 (by decide) ?_
                        refine lv_istore S.1 S.2.1 dX8_knock_119 hl (by decide) rfl (fun ls hl => ?_)
                        have hl : lv_has ls 9 [(7, .int (nI 0)), (6, .int (nI j2)), (5, .int (nI 0)), (4, .int (-4)), (0, .ref M), (1, .int pa), (2, .int qa), (3, .int za)] := hl
                        refine lv_aload_n S.1 S.2.1 dX8_knock_121 rfl (lv_at hl 4 rfl) ?_
                        refine x_get S hE (ho) (C := RX8) (T := TX8) (N := 10) rfl inlX8 0 (by decide) (v := .ref (M + 1)) rfl kw7_6 rfl dX8_knock_122 ?_
                        refine lv_iconst (v := (nI 0)) S.1 S.2.1 dX8_knock_125 (by decide) ?_
                        refine x_iald S hE (hs) 0 rfl (by decide) (by decide) dX8_knock_126 ?_
                        refine x_top (y := (nI n)) (hn) ?_
                        refine lv_sipush (v := (nI 200)) S.1 S.2.1 dX8_knock_127 (by decide) ?_
                        refine lv_icmp_eq (tgt := 148) S.1 S.2.1 dX8_knock_130 rfl (fun h17 => ?_) (fun h17 => ?_)
                        · skip
                          refine lv_bipush (v := (-3)) S.1 S.2.1 dX8_knock_148 (by decide) ?_
                          subst hQ
                          refine x_retW S hr hlk (rfl) hS hO ?_ dX8_knock_150
                          exact (show rfKn σ n pa qa za = (σ, (-3), false) from by unfold rfKn; rw [if_pos ⟨h1, h2, h3⟩, hv1]; show rfKnN σ n pa qa za = _; unfold rfKnN; rw [if_pos ((nI_eq (by omega) (by decide)).mp h17)]; first | done | rfl) ▸ ⟨rfl, ⟨_, ho, hs, hp, ⟨_, hd3⟩, ht, ⟨_, hq5⟩, ⟨_, hq6⟩, ⟨_, hq7⟩⟩⟩
                        · have hlt : n < 200 := by have : ¬ n = 200 := fun z => h17 (by rw [z]); omega
                          refine lv_iload S.1 S.2.1 dX8_knock_133 (lv_at hl 0 rfl) ?_
                          refine lv_if_eq (tgt := 151) S.1 S.2.1 dX8_knock_135 rfl (fun h18 => ?_) (fun h18 => ?_)
                          · skip
                            refine lv_aload_n S.1 S.2.1 dX8_knock_151 rfl (lv_at hl 4 rfl) ?_
                            refine xk_V (x_runV (As := []) (rest := []) S hE hS (fun q h => h.elim (fun h => bkM (k := 0) h (by decide)) (fun h => bkM (k := 2) h (by decide))) (c_X8_changes l E M (nI ty) re np σ η _ ho hs hp hnp) kv_X8_changes kw13_2 kw13_3 kw13_4 (x_recv hE (ho) (ci := 8) rfl) ⟨Nat.le_of_ble_eq_true rfl, Nat.le_of_ble_eq_true rfl⟩ rfl rfl rfl hl.1 rfl (Nat.le_of_ble_eq_true rfl) dX8_knock_152 ⟨Nat.zero_le _, Nat.zero_le _⟩) hS (fun q h => h.elim (fun h => bkM (k := 0) h (by decide)) (fun h => bkM (k := 2) h (by decide))) (fun H locs hX hO1 hS => ?_)
                            have hO := hO.tr hO1 (fun q h => h.elim (fun h => bkM (k := 0) h (by decide)) (fun h => bkM (k := 2) h (by decide)))
                            have hs := va_at.kept hs (hO1.2 (M + 1) (fun z => by rcases z with z | z <;> omega))
                            have hd3 := va_at.kept hd3 (hO1.2 (M + 3) (fun z => by rcases z with z | z <;> omega))
                            have ht := va_at.kept ht (hO1.2 (M + 4) (fun z => by rcases z with z | z <;> omega))
                            have hq5 := va_at.kept hq5 (hO1.2 (M + 5) (fun z => by rcases z with z | z <;> omega))
                            have hq6 := va_at.kept hq6 (hO1.2 (M + 6) (fun z => by rcases z with z | z <;> omega))
                            have hq7 := va_at.kept hq7 (hO1.2 (M + 7) (fun z => by rcases z with z | z <;> omega))
                            obtain ⟨ho, hp⟩ := hX
                            refine lv_aload_n S.1 S.2.1 dX8_knock_155 rfl (lv_at hl 4 rfl) ?_
                            refine x_get S hE (ho) (C := RX8) (T := TX8) (N := 10) rfl inlX8 0 (by decide) (v := .ref (M + 1)) rfl kw7_6 rfl dX8_knock_156 ?_
                            refine lv_iconst (v := (nI 0)) S.1 S.2.1 dX8_knock_159 (by decide) ?_
                            refine x_iald S hE (hs) 0 rfl (by decide) (by decide) dX8_knock_160 ?_
                            refine x_top (y := (nI n)) (hn) ?_
                            refine lv_istore S.1 S.2.1 dX8_knock_161 hl (by decide) rfl (fun ls hl => ?_)
                            have hl : lv_has ls 9 [(8, .int (nI n)), (7, .int (nI 0)), (6, .int (nI j2)), (5, .int (nI 0)), (4, .int (-4)), (0, .ref M), (1, .int pa), (2, .int qa), (3, .int za)] := hl
                            refine lv_aload_n S.1 S.2.1 dX8_knock_163 rfl (lv_at hl 5 rfl) ?_
                            refine lv_iload S.1 S.2.1 dX8_knock_164 (lv_at hl 0 rfl) ?_
                            refine lv_iconst (v := (nI 0)) S.1 S.2.1 dX8_knock_166 (by decide) ?_
                            refine lv_iload_n S.1 S.2.1 dX8_knock_167 rfl (lv_at hl 6 rfl) ?_
                            refine xk_V (x_runV (As := [.int (nI n), .int (nI 0), .int pa]) (rest := []) S hE hS (fun q h => bkM (k := 1) h (by decide)) (c_X8_puts l E M (nI (hiLen np)) (nI ty) re σ n 0 pa _ ho hs (by omega) (by omega)) kv_X8_puts kw13_11 kw13_12 kw13_13 (x_recv hE (ho) (ci := 8) rfl) ⟨Nat.le_of_ble_eq_true rfl, Nat.le_of_ble_eq_true rfl⟩ rfl rfl rfl hl.1 rfl (Nat.le_of_ble_eq_true rfl) dX8_knock_168 ⟨Nat.zero_le _, Nat.zero_le _⟩) hS (fun q h => bkM (k := 1) h (by decide)) (fun H locs hX hO1 hS => ?_)
                            have hO := hO.tr hO1 (fun q h => bkM (k := 1) h (by decide))
                            have ho := va_at.kept ho (hO1.2 (M) (fun z => by have z : M = M + 1 := z; omega))
                            have hp := va_at.kept hp (hO1.2 (M + 2) (fun z => by have z : M + 2 = M + 1 := z; omega))
                            have hd3 := va_at.kept hd3 (hO1.2 (M + 3) (fun z => by have z : M + 3 = M + 1 := z; omega))
                            have ht := va_at.kept ht (hO1.2 (M + 4) (fun z => by have z : M + 4 = M + 1 := z; omega))
                            have hq5 := va_at.kept hq5 (hO1.2 (M + 5) (fun z => by have z : M + 5 = M + 1 := z; omega))
                            have hq6 := va_at.kept hq6 (hO1.2 (M + 6) (fun z => by have z : M + 6 = M + 1 := z; omega))
                            have hq7 := va_at.kept hq7 (hO1.2 (M + 7) (fun z => by have z : M + 7 = M + 1 := z; omega))
                            have hs : XI E (M + 1) 1670 (nset σ n 0 pa) H := hX
                            have hn : (nset σ n 0 pa) 0 = nI n := ((nset_lo (by decide))).trans hn
                            refine lv_aload_n S.1 S.2.1 dX8_knock_171 rfl (lv_at hl 5 rfl) ?_
                            refine lv_iload S.1 S.2.1 dX8_knock_172 (lv_at hl 0 rfl) ?_
                            refine lv_iconst (v := (nI 1)) S.1 S.2.1 dX8_knock_174 (by decide) ?_
                            refine lv_iload_n S.1 S.2.1 dX8_knock_175 rfl (lv_at hl 7 rfl) ?_
                            refine xk_V (x_runV (As := [.int (nI n), .int (nI 1), .int qa]) (rest := []) S hE hS (fun q h => bkM (k := 1) h (by decide)) (c_X8_puts l E M (nI (hiLen np)) (nI ty) re (nset σ n 0 pa) n 1 qa _ ho hs (by omega) (by omega)) kv_X8_puts kw13_11 kw13_12 kw13_13 (x_recv hE (ho) (ci := 8) rfl) ⟨Nat.le_of_ble_eq_true rfl, Nat.le_of_ble_eq_true rfl⟩ rfl rfl rfl hl.1 rfl (Nat.le_of_ble_eq_true rfl) dX8_knock_176 ⟨Nat.zero_le _, Nat.zero_le _⟩) hS (fun q h => bkM (k := 1) h (by decide)) (fun H locs hX hO1 hS => ?_)
                            have hO := hO.tr hO1 (fun q h => bkM (k := 1) h (by decide))
                            have ho := va_at.kept ho (hO1.2 (M) (fun z => by have z : M = M + 1 := z; omega))
                            have hp := va_at.kept hp (hO1.2 (M + 2) (fun z => by have z : M + 2 = M + 1 := z; omega))
                            have hd3 := va_at.kept hd3 (hO1.2 (M + 3) (fun z => by have z : M + 3 = M + 1 := z; omega))
                            have ht := va_at.kept ht (hO1.2 (M + 4) (fun z => by have z : M + 4 = M + 1 := z; omega))
                            have hq5 := va_at.kept hq5 (hO1.2 (M + 5) (fun z => by have z : M + 5 = M + 1 := z; omega))
                            have hq6 := va_at.kept hq6 (hO1.2 (M + 6) (fun z => by have z : M + 6 = M + 1 := z; omega))
                            have hq7 := va_at.kept hq7 (hO1.2 (M + 7) (fun z => by have z : M + 7 = M + 1 := z; omega))
                            have hs : XI E (M + 1) 1670 (nset (nset σ n 0 pa) n 1 qa) H := hX
                            have hn : (nset (nset σ n 0 pa) n 1 qa) 0 = nI n := ((nset_lo (by decide))).trans hn
                            refine lv_aload_n S.1 S.2.1 dX8_knock_179 rfl (lv_at hl 5 rfl) ?_
                            refine lv_iload S.1 S.2.1 dX8_knock_180 (lv_at hl 0 rfl) ?_
                            refine lv_iconst (v := (nI 2)) S.1 S.2.1 dX8_knock_182 (by decide) ?_
                            refine lv_iload_n S.1 S.2.1 dX8_knock_183 rfl (lv_at hl 8 rfl) ?_
                            refine xk_V (x_runV (As := [.int (nI n), .int (nI 2), .int za]) (rest := []) S hE hS (fun q h => bkM (k := 1) h (by decide)) (c_X8_puts l E M (nI (hiLen np)) (nI ty) re (nset (nset σ n 0 pa) n 1 qa) n 2 za _ ho hs (by omega) (by omega)) kv_X8_puts kw13_11 kw13_12 kw13_13 (x_recv hE (ho) (ci := 8) rfl) ⟨Nat.le_of_ble_eq_true rfl, Nat.le_of_ble_eq_true rfl⟩ rfl rfl rfl hl.1 rfl (Nat.le_of_ble_eq_true rfl) dX8_knock_184 ⟨Nat.zero_le _, Nat.zero_le _⟩) hS (fun q h => bkM (k := 1) h (by decide)) (fun H locs hX hO1 hS => ?_)
                            have hO := hO.tr hO1 (fun q h => bkM (k := 1) h (by decide))
                            have ho := va_at.kept ho (hO1.2 (M) (fun z => by have z : M = M + 1 := z; omega))
                            have hp := va_at.kept hp (hO1.2 (M + 2) (fun z => by have z : M + 2 = M + 1 := z; omega))
                            have hd3 := va_at.kept hd3 (hO1.2 (M + 3) (fun z => by have z : M + 3 = M + 1 := z; omega))
                            have ht := va_at.kept ht (hO1.2 (M + 4) (fun z => by have z : M + 4 = M + 1 := z; omega))
                            have hq5 := va_at.kept hq5 (hO1.2 (M + 5) (fun z => by have z : M + 5 = M + 1 := z; omega))
                            have hq6 := va_at.kept hq6 (hO1.2 (M + 6) (fun z => by have z : M + 6 = M + 1 := z; omega))
                            have hq7 := va_at.kept hq7 (hO1.2 (M + 7) (fun z => by have z : M + 7 = M + 1 := z; omega))
                            have hs : XI E (M + 1) 1670 (nset (nset (nset σ n 0 pa) n 1 qa) n 2 za) H := hX
                            have hn : (nset (nset (nset σ n 0 pa) n 1 qa) n 2 za) 0 = nI n := ((nset_lo (by decide))).trans hn
                            refine lv_aload_n S.1 S.2.1 dX8_knock_187 rfl (lv_at hl 5 rfl) ?_
                            refine lv_iload S.1 S.2.1 dX8_knock_188 (lv_at hl 0 rfl) ?_
                            refine lv_iconst (v := (nI 3)) S.1 S.2.1 dX8_knock_190 (by decide) ?_
                            refine lv_iconst (v := (nI 0)) S.1 S.2.1 dX8_knock_191 (by decide) ?_
                            refine xk_V (x_runV (As := [.int (nI n), .int (nI 3), .int (nI 0)]) (rest := []) S hE hS (fun q h => bkM (k := 1) h (by decide)) (c_X8_puts l E M (nI (hiLen np)) (nI ty) re (nset (nset (nset σ n 0 pa) n 1 qa) n 2 za) n 3 (nI 0) _ ho hs (by omega) (by omega)) kv_X8_puts kw13_11 kw13_12 kw13_13 (x_recv hE (ho) (ci := 8) rfl) ⟨Nat.le_of_ble_eq_true rfl, Nat.le_of_ble_eq_true rfl⟩ rfl rfl rfl hl.1 rfl (Nat.le_of_ble_eq_true rfl) dX8_knock_192 ⟨Nat.zero_le _, Nat.zero_le _⟩) hS (fun q h => bkM (k := 1) h (by decide)) (fun H locs hX hO1 hS => ?_)
                            have hO := hO.tr hO1 (fun q h => bkM (k := 1) h (by decide))
                            have ho := va_at.kept ho (hO1.2 (M) (fun z => by have z : M = M + 1 := z; omega))
                            have hp := va_at.kept hp (hO1.2 (M + 2) (fun z => by have z : M + 2 = M + 1 := z; omega))
                            have hd3 := va_at.kept hd3 (hO1.2 (M + 3) (fun z => by have z : M + 3 = M + 1 := z; omega))
                            have ht := va_at.kept ht (hO1.2 (M + 4) (fun z => by have z : M + 4 = M + 1 := z; omega))
                            have hq5 := va_at.kept hq5 (hO1.2 (M + 5) (fun z => by have z : M + 5 = M + 1 := z; omega))
                            have hq6 := va_at.kept hq6 (hO1.2 (M + 6) (fun z => by have z : M + 6 = M + 1 := z; omega))
                            have hq7 := va_at.kept hq7 (hO1.2 (M + 7) (fun z => by have z : M + 7 = M + 1 := z; omega))
                            have hs : XI E (M + 1) 1670 (nset (nset (nset (nset σ n 0 pa) n 1 qa) n 2 za) n 3 (nI 0)) H := hX
                            have hn : (nset (nset (nset (nset σ n 0 pa) n 1 qa) n 2 za) n 3 (nI 0)) 0 = nI n := ((nset_lo (by decide))).trans hn
                            refine lv_aload_n S.1 S.2.1 dX8_knock_195 rfl (lv_at hl 5 rfl) ?_
                            refine lv_iload S.1 S.2.1 dX8_knock_196 (lv_at hl 0 rfl) ?_
                            refine lv_iconst (v := (nI 4)) S.1 S.2.1 dX8_knock_198 (by decide) ?_
                            refine lv_iconst (v := (nI 0)) S.1 S.2.1 dX8_knock_199 (by decide) ?_
                            refine xk_V (x_runV (As := [.int (nI n), .int (nI 4), .int (nI 0)]) (rest := []) S hE hS (fun q h => bkM (k := 1) h (by decide)) (c_X8_puts l E M (nI (hiLen np)) (nI ty) re (nset (nset (nset (nset σ n 0 pa) n 1 qa) n 2 za) n 3 (nI 0)) n 4 (nI 0) _ ho hs (by omega) (by omega)) kv_X8_puts kw13_11 kw13_12 kw13_13 (x_recv hE (ho) (ci := 8) rfl) ⟨Nat.le_of_ble_eq_true rfl, Nat.le_of_ble_eq_true rfl⟩ rfl rfl rfl hl.1 rfl (Nat.le_of_ble_eq_true rfl) dX8_knock_200 ⟨Nat.zero_le _, Nat.zero_le _⟩) hS (fun q h => bkM (k := 1) h (by decide)) (fun H locs hX hO1 hS => ?_)
                            have hO := hO.tr hO1 (fun q h => bkM (k := 1) h (by decide))
                            have ho := va_at.kept ho (hO1.2 (M) (fun z => by have z : M = M + 1 := z; omega))
                            have hp := va_at.kept hp (hO1.2 (M + 2) (fun z => by have z : M + 2 = M + 1 := z; omega))
                            have hd3 := va_at.kept hd3 (hO1.2 (M + 3) (fun z => by have z : M + 3 = M + 1 := z; omega))
                            have ht := va_at.kept ht (hO1.2 (M + 4) (fun z => by have z : M + 4 = M + 1 := z; omega))
                            have hq5 := va_at.kept hq5 (hO1.2 (M + 5) (fun z => by have z : M + 5 = M + 1 := z; omega))
                            have hq6 := va_at.kept hq6 (hO1.2 (M + 6) (fun z => by have z : M + 6 = M + 1 := z; omega))
                            have hq7 := va_at.kept hq7 (hO1.2 (M + 7) (fun z => by have z : M + 7 = M + 1 := z; omega))
                            have hs : XI E (M + 1) 1670 (nset (nset (nset (nset (nset σ n 0 pa) n 1 qa) n 2 za) n 3 (nI 0)) n 4 (nI 0)) H := hX
                            have hn : (nset (nset (nset (nset (nset σ n 0 pa) n 1 qa) n 2 za) n 3 (nI 0)) n 4 (nI 0)) 0 = nI n := ((nset_lo (by decide))).trans hn
                            refine lv_aload_n S.1 S.2.1 dX8_knock_203 rfl (lv_at hl 5 rfl) ?_
                            refine lv_iload S.1 S.2.1 dX8_knock_204 (lv_at hl 0 rfl) ?_
                            refine lv_bipush (v := (nI 6)) S.1 S.2.1 dX8_knock_206 (by decide) ?_
                            refine lv_iconst (v := (nI 0)) S.1 S.2.1 dX8_knock_208 (by decide) ?_
                            refine xk_V (x_runV (As := [.int (nI n), .int (nI 6), .int (nI 0)]) (rest := []) S hE hS (fun q h => bkM (k := 1) h (by decide)) (c_X8_puts l E M (nI (hiLen np)) (nI ty) re (nset (nset (nset (nset (nset σ n 0 pa) n 1 qa) n 2 za) n 3 (nI 0)) n 4 (nI 0)) n 6 (nI 0) _ ho hs (by omega) (by omega)) kv_X8_puts kw13_11 kw13_12 kw13_13 (x_recv hE (ho) (ci := 8) rfl) ⟨Nat.le_of_ble_eq_true rfl, Nat.le_of_ble_eq_true rfl⟩ rfl rfl rfl hl.1 rfl (Nat.le_of_ble_eq_true rfl) dX8_knock_209 ⟨Nat.zero_le _, Nat.zero_le _⟩) hS (fun q h => bkM (k := 1) h (by decide)) (fun H locs hX hO1 hS => ?_)
                            have hO := hO.tr hO1 (fun q h => bkM (k := 1) h (by decide))
                            have ho := va_at.kept ho (hO1.2 (M) (fun z => by have z : M = M + 1 := z; omega))
                            have hp := va_at.kept hp (hO1.2 (M + 2) (fun z => by have z : M + 2 = M + 1 := z; omega))
                            have hd3 := va_at.kept hd3 (hO1.2 (M + 3) (fun z => by have z : M + 3 = M + 1 := z; omega))
                            have ht := va_at.kept ht (hO1.2 (M + 4) (fun z => by have z : M + 4 = M + 1 := z; omega))
                            have hq5 := va_at.kept hq5 (hO1.2 (M + 5) (fun z => by have z : M + 5 = M + 1 := z; omega))
                            have hq6 := va_at.kept hq6 (hO1.2 (M + 6) (fun z => by have z : M + 6 = M + 1 := z; omega))
                            have hq7 := va_at.kept hq7 (hO1.2 (M + 7) (fun z => by have z : M + 7 = M + 1 := z; omega))
                            have hs : XI E (M + 1) 1670 (nset (nset (nset (nset (nset (nset σ n 0 pa) n 1 qa) n 2 za) n 3 (nI 0)) n 4 (nI 0)) n 6 (nI 0)) H := hX
                            have hn : (nset (nset (nset (nset (nset (nset σ n 0 pa) n 1 qa) n 2 za) n 3 (nI 0)) n 4 (nI 0)) n 6 (nI 0)) 0 = nI n := ((nset_lo (by decide))).trans hn
                            refine lv_aload_n S.1 S.2.1 dX8_knock_212 rfl (lv_at hl 5 rfl) ?_
                            refine x_get S hE (ho) (C := RX8) (T := TX8) (N := 10) rfl inlX8 0 (by decide) (v := .ref (M + 1)) rfl kw7_6 rfl dX8_knock_213 ?_
                            refine lv_iconst (v := (nI 0)) S.1 S.2.1 dX8_knock_216 (by decide) ?_
                            refine lv_dup2_11 S.1 S.2.1 dX8_knock_217 rfl rfl ?_
                            refine x_iald S hE (hs) 0 rfl (by decide) (by decide) dX8_knock_218 ?_
                            refine x_top (y := (nI n)) (hn) ?_
                            refine lv_iconst (v := (nI 1)) S.1 S.2.1 dX8_knock_219 (by decide) ?_
                            refine lv_iadd S.1 S.2.1 dX8_knock_220 ?_
                            refine x_top (y := (nI (n + 1))) (nI_add n 1) ?_
                            refine x_iast S hE hS (bkM (k := 1) rfl (by decide)) (hs) 0 rfl (by decide) (by decide) dX8_knock_221 (fun H locs hX hO1 hS => ?_)
                            have hO := hO.tr hO1 (fun q h => bkM (k := 1) h (by decide))
                            have ho := va_at.kept ho (hO1.2 (M) (fun z => by have z : M = M + 1 := z; omega))
                            have hp := va_at.kept hp (hO1.2 (M + 2) (fun z => by have z : M + 2 = M + 1 := z; omega))
                            have hd3 := va_at.kept hd3 (hO1.2 (M + 3) (fun z => by have z : M + 3 = M + 1 := z; omega))
                            have ht := va_at.kept ht (hO1.2 (M + 4) (fun z => by have z : M + 4 = M + 1 := z; omega))
                            have hq5 := va_at.kept hq5 (hO1.2 (M + 5) (fun z => by have z : M + 5 = M + 1 := z; omega))
                            have hq6 := va_at.kept hq6 (hO1.2 (M + 6) (fun z => by have z : M + 6 = M + 1 := z; omega))
                            have hq7 := va_at.kept hq7 (hO1.2 (M + 7) (fun z => by have z : M + 7 = M + 1 := z; omega))
                            have hs : XI E (M + 1) 1670 (upd (nset (nset (nset (nset (nset (nset σ n 0 pa) n 1 qa) n 2 za) n 3 (nI 0)) n 4 (nI 0)) n 6 (nI 0)) 0 (nI (n + 1))) H := hX
                            refine lv_iload S.1 S.2.1 dX8_knock_222 (lv_at hl 2 rfl) ?_
                            refine lv_if_lt (tgt := 268) S.1 S.2.1 dX8_knock_224 rfl (fun h19 => ?_) (fun h19 => ?_)
                            · exact absurd h19 (nI_pos (by omega))
                            · skip
                              refine lv_aload_n S.1 S.2.1 dX8_knock_227 rfl (lv_at hl 5 rfl) ?_
                              refine lv_iload S.1 S.2.1 dX8_knock_228 (lv_at hl 2 rfl) ?_
                              refine lv_iconst (v := (nI 3)) S.1 S.2.1 dX8_knock_230 (by decide) ?_
                              refine lv_iconst (v := (nI 5)) S.1 S.2.1 dX8_knock_231 (by decide) ?_
                              refine xk_V (x_runV (As := [.int (nI j2), .int (nI 3), .int (nI 5)]) (rest := []) S hE hS (fun q h => bkM (k := 1) h (by decide)) (c_X8_puts l E M (nI (hiLen np)) (nI ty) re (upd (nset (nset (nset (nset (nset (nset σ n 0 pa) n 1 qa) n 2 za) n 3 (nI 0)) n 4 (nI 0)) n 6 (nI 0)) 0 (nI (n + 1))) j2 3 (nI 5) _ ho hs (by omega) (by omega)) kv_X8_puts kw13_11 kw13_12 kw13_13 (x_recv hE (ho) (ci := 8) rfl) ⟨Nat.le_of_ble_eq_true rfl, Nat.le_of_ble_eq_true rfl⟩ rfl rfl rfl hl.1 rfl (Nat.le_of_ble_eq_true rfl) dX8_knock_232 ⟨Nat.zero_le _, Nat.zero_le _⟩) hS (fun q h => bkM (k := 1) h (by decide)) (fun H locs hX hO1 hS => ?_)
                              have hO := hO.tr hO1 (fun q h => bkM (k := 1) h (by decide))
                              have ho := va_at.kept ho (hO1.2 (M) (fun z => by have z : M = M + 1 := z; omega))
                              have hp := va_at.kept hp (hO1.2 (M + 2) (fun z => by have z : M + 2 = M + 1 := z; omega))
                              have hd3 := va_at.kept hd3 (hO1.2 (M + 3) (fun z => by have z : M + 3 = M + 1 := z; omega))
                              have ht := va_at.kept ht (hO1.2 (M + 4) (fun z => by have z : M + 4 = M + 1 := z; omega))
                              have hq5 := va_at.kept hq5 (hO1.2 (M + 5) (fun z => by have z : M + 5 = M + 1 := z; omega))
                              have hq6 := va_at.kept hq6 (hO1.2 (M + 6) (fun z => by have z : M + 6 = M + 1 := z; omega))
                              have hq7 := va_at.kept hq7 (hO1.2 (M + 7) (fun z => by have z : M + 7 = M + 1 := z; omega))
                              have hs : XI E (M + 1) 1670 (nset (upd (nset (nset (nset (nset (nset (nset σ n 0 pa) n 1 qa) n 2 za) n 3 (nI 0)) n 4 (nI 0)) n 6 (nI 0)) 0 (nI (n + 1))) j2 3 (nI 5)) H := hX
                              refine lv_aload_n S.1 S.2.1 dX8_knock_235 rfl (lv_at hl 5 rfl) ?_
                              refine lv_iload S.1 S.2.1 dX8_knock_236 (lv_at hl 2 rfl) ?_
                              refine lv_iconst (v := (nI 5)) S.1 S.2.1 dX8_knock_238 (by decide) ?_
                              refine lv_aload_n S.1 S.2.1 dX8_knock_239 rfl (lv_at hl 5 rfl) ?_
                              refine lv_iload S.1 S.2.1 dX8_knock_240 (lv_at hl 2 rfl) ?_
                              refine lv_iconst (v := (nI 4)) S.1 S.2.1 dX8_knock_242 (by decide) ?_
                              refine xk_R (v := (nf (nset (upd (nset (nset (nset (nset (nset (nset σ n 0 pa) n 1 qa) n 2 za) n 3 (nI 0)) n 4 (nI 0)) n 6 (nI 0)) 0 (nI (n + 1))) j2 3 (nI 5)) j2 4)) (x_runV (As := [.int (nI j2), .int (nI 4)]) (rest := [.int (nI 5), .int (nI j2), .ref M]) S hE hS (fun _ h => h.elim) (c_X8_of l E M (nI (hiLen np)) (nI ty) re (nset (upd (nset (nset (nset (nset (nset (nset σ n 0 pa) n 1 qa) n 2 za) n 3 (nI 0)) n 4 (nI 0)) n 6 (nI 0)) 0 (nI (n + 1))) j2 3 (nI 5)) j2 4 _ ho hs (by omega) (by omega)) kv_X8_of kw12_22 kw12_23 kw13_0 (x_recv hE (ho) (ci := 8) rfl) ⟨Nat.le_of_ble_eq_true rfl, Nat.le_of_ble_eq_true rfl⟩ rfl rfl rfl hl.1 rfl (Nat.le_of_ble_eq_true rfl) dX8_knock_243 ⟨Nat.zero_le _, Nat.zero_le _⟩) ?_
                              refine xk_V (x_runV (As := [.int (nI j2), .int (nI 5), .int (nf (nset (upd (nset (nset (nset (nset (nset (nset σ n 0 pa) n 1 qa) n 2 za) n 3 (nI 0)) n 4 (nI 0)) n 6 (nI 0)) 0 (nI (n + 1))) j2 3 (nI 5)) j2 4)]) (rest := []) S hE hS (fun q h => bkM (k := 1) h (by decide)) (c_X8_puts l E M (nI (hiLen np)) (nI ty) re (nset (upd (nset (nset (nset (nset (nset (nset σ n 0 pa) n 1 qa) n 2 za) n 3 (nI 0)) n 4 (nI 0)) n 6 (nI 0)) 0 (nI (n + 1))) j2 3 (nI 5)) j2 5 (nf (nset (upd (nset (nset (nset (nset (nset (nset σ n 0 pa) n 1 qa) n 2 za) n 3 (nI 0)) n 4 (nI 0)) n 6 (nI 0)) 0 (nI (n + 1))) j2 3 (nI 5)) j2 4) _ ho hs (by omega) (by omega)) kv_X8_puts kw13_11 kw13_12 kw13_13 (x_recv hE (ho) (ci := 8) rfl) ⟨Nat.le_of_ble_eq_true rfl, Nat.le_of_ble_eq_true rfl⟩ rfl rfl rfl hl.1 rfl (Nat.le_of_ble_eq_true rfl) dX8_knock_246 ⟨Nat.zero_le _, Nat.zero_le _⟩) hS (fun q h => bkM (k := 1) h (by decide)) (fun H locs hX hO1 hS => ?_)
                              have hO := hO.tr hO1 (fun q h => bkM (k := 1) h (by decide))
                              have ho := va_at.kept ho (hO1.2 (M) (fun z => by have z : M = M + 1 := z; omega))
                              have hp := va_at.kept hp (hO1.2 (M + 2) (fun z => by have z : M + 2 = M + 1 := z; omega))
                              have hd3 := va_at.kept hd3 (hO1.2 (M + 3) (fun z => by have z : M + 3 = M + 1 := z; omega))
                              have ht := va_at.kept ht (hO1.2 (M + 4) (fun z => by have z : M + 4 = M + 1 := z; omega))
                              have hq5 := va_at.kept hq5 (hO1.2 (M + 5) (fun z => by have z : M + 5 = M + 1 := z; omega))
                              have hq6 := va_at.kept hq6 (hO1.2 (M + 6) (fun z => by have z : M + 6 = M + 1 := z; omega))
                              have hq7 := va_at.kept hq7 (hO1.2 (M + 7) (fun z => by have z : M + 7 = M + 1 := z; omega))
                              have hs : XI E (M + 1) 1670 (nset (nset (upd (nset (nset (nset (nset (nset (nset σ n 0 pa) n 1 qa) n 2 za) n 3 (nI 0)) n 4 (nI 0)) n 6 (nI 0)) 0 (nI (n + 1))) j2 3 (nI 5)) j2 5 (nf (nset (upd (nset (nset (nset (nset (nset (nset σ n 0 pa) n 1 qa) n 2 za) n 3 (nI 0)) n 4 (nI 0)) n 6 (nI 0)) 0 (nI (n + 1))) j2 3 (nI 5)) j2 4)) H := hX
                              refine lv_aload_n S.1 S.2.1 dX8_knock_249 rfl (lv_at hl 5 rfl) ?_
                              refine lv_iload S.1 S.2.1 dX8_knock_250 (lv_at hl 2 rfl) ?_
                              refine lv_bipush (v := (nI 6)) S.1 S.2.1 dX8_knock_252 (by decide) ?_
                              refine lv_iconst (v := (nI 0)) S.1 S.2.1 dX8_knock_254 (by decide) ?_
                              refine xk_V (x_runV (As := [.int (nI j2), .int (nI 6), .int (nI 0)]) (rest := []) S hE hS (fun q h => bkM (k := 1) h (by decide)) (c_X8_puts l E M (nI (hiLen np)) (nI ty) re (nset (nset (upd (nset (nset (nset (nset (nset (nset σ n 0 pa) n 1 qa) n 2 za) n 3 (nI 0)) n 4 (nI 0)) n 6 (nI 0)) 0 (nI (n + 1))) j2 3 (nI 5)) j2 5 (nf (nset (upd (nset (nset (nset (nset (nset (nset σ n 0 pa) n 1 qa) n 2 za) n 3 (nI 0)) n 4 (nI 0)) n 6 (nI 0)) 0 (nI (n + 1))) j2 3 (nI 5)) j2 4)) j2 6 (nI 0) _ ho hs (by omega) (by omega)) kv_X8_puts kw13_11 kw13_12 kw13_13 (x_recv hE (ho) (ci := 8) rfl) ⟨Nat.le_of_ble_eq_true rfl, Nat.le_of_ble_eq_true rfl⟩ rfl rfl rfl hl.1 rfl (Nat.le_of_ble_eq_true rfl) dX8_knock_255 ⟨Nat.zero_le _, Nat.zero_le _⟩) hS (fun q h => bkM (k := 1) h (by decide)) (fun H locs hX hO1 hS => ?_)
                              have hO := hO.tr hO1 (fun q h => bkM (k := 1) h (by decide))
                              have ho := va_at.kept ho (hO1.2 (M) (fun z => by have z : M = M + 1 := z; omega))
                              have hp := va_at.kept hp (hO1.2 (M + 2) (fun z => by have z : M + 2 = M + 1 := z; omega))
                              have hd3 := va_at.kept hd3 (hO1.2 (M + 3) (fun z => by have z : M + 3 = M + 1 := z; omega))
                              have ht := va_at.kept ht (hO1.2 (M + 4) (fun z => by have z : M + 4 = M + 1 := z; omega))
                              have hq5 := va_at.kept hq5 (hO1.2 (M + 5) (fun z => by have z : M + 5 = M + 1 := z; omega))
                              have hq6 := va_at.kept hq6 (hO1.2 (M + 6) (fun z => by have z : M + 6 = M + 1 := z; omega))
                              have hq7 := va_at.kept hq7 (hO1.2 (M + 7) (fun z => by have z : M + 7 = M + 1 := z; omega))
                              have hs : XI E (M + 1) 1670 (nset (nset (nset (upd (nset (nset (nset (nset (nset (nset σ n 0 pa) n 1 qa) n 2 za) n 3 (nI 0)) n 4 (nI 0)) n 6 (nI 0)) 0 (nI (n + 1))) j2 3 (nI 5)) j2 5 (nf (nset (upd (nset (nset (nset (nset (nset (nset σ n 0 pa) n 1 qa) n 2 za) n 3 (nI 0)) n 4 (nI 0)) n 6 (nI 0)) 0 (nI (n + 1))) j2 3 (nI 5)) j2 4)) j2 6 (nI 0)) H := hX
                              refine lv_aload_n S.1 S.2.1 dX8_knock_258 rfl (lv_at hl 5 rfl) ?_
                              refine x_get S hE (ho) (C := RX8) (T := TX8) (N := 10) rfl inlX8 0 (by decide) (v := .ref (M + 1)) rfl kw7_6 rfl dX8_knock_259 ?_
                              refine lv_iconst (v := (nI 3)) S.1 S.2.1 dX8_knock_262 (by decide) ?_
                              refine lv_dup2_11 S.1 S.2.1 dX8_knock_263 rfl rfl ?_
                              refine x_iald S hE (hs) 3 rfl (by decide) (by decide) dX8_knock_264 ?_
                              refine lv_iconst (v := (nI 1)) S.1 S.2.1 dX8_knock_265 (by decide) ?_
                              refine lv_iadd S.1 S.2.1 dX8_knock_266 ?_
                              refine x_iast S hE hS (bkM (k := 1) rfl (by decide)) (hs) 3 rfl (by decide) (by decide) dX8_knock_267 (fun H locs hX hO1 hS => ?_)
                              have hO := hO.tr hO1 (fun q h => bkM (k := 1) h (by decide))
                              have ho := va_at.kept ho (hO1.2 (M) (fun z => by have z : M = M + 1 := z; omega))
                              have hp := va_at.kept hp (hO1.2 (M + 2) (fun z => by have z : M + 2 = M + 1 := z; omega))
                              have hd3 := va_at.kept hd3 (hO1.2 (M + 3) (fun z => by have z : M + 3 = M + 1 := z; omega))
                              have ht := va_at.kept ht (hO1.2 (M + 4) (fun z => by have z : M + 4 = M + 1 := z; omega))
                              have hq5 := va_at.kept hq5 (hO1.2 (M + 5) (fun z => by have z : M + 5 = M + 1 := z; omega))
                              have hq6 := va_at.kept hq6 (hO1.2 (M + 6) (fun z => by have z : M + 6 = M + 1 := z; omega))
                              have hq7 := va_at.kept hq7 (hO1.2 (M + 7) (fun z => by have z : M + 7 = M + 1 := z; omega))
                              have hs : XI E (M + 1) 1670 (upd (nset (nset (nset (upd (nset (nset (nset (nset (nset (nset σ n 0 pa) n 1 qa) n 2 za) n 3 (nI 0)) n 4 (nI 0)) n 6 (nI 0)) 0 (nI (n + 1))) j2 3 (nI 5)) j2 5 (nf (nset (upd (nset (nset (nset (nset (nset (nset σ n 0 pa) n 1 qa) n 2 za) n 3 (nI 0)) n 4 (nI 0)) n 6 (nI 0)) 0 (nI (n + 1))) j2 3 (nI 5)) j2 4)) j2 6 (nI 0)) 3 (((nset (nset (nset (upd (nset (nset (nset (nset (nset (nset σ n 0 pa) n 1 qa) n 2 za) n 3 (nI 0)) n 4 (nI 0)) n 6 (nI 0)) 0 (nI (n + 1))) j2 3 (nI 5)) j2 5 (nf (nset (upd (nset (nset (nset (nset (nset (nset σ n 0 pa) n 1 qa) n 2 za) n 3 (nI 0)) n 4 (nI 0)) n 6 (nI 0)) 0 (nI (n + 1))) j2 3 (nI 5)) j2 4)) j2 6 (nI 0)) 3) + (nI 1))) H := hX
                              refine lv_iload S.1 S.2.1 dX8_knock_268 (lv_at hl 1 rfl) ?_
                              refine lv_if_ne (tgt := 279) S.1 S.2.1 dX8_knock_270 rfl (fun h20 => ?_) (fun h20 => ?_)
                              · exact absurd h20 (by decide)
                              · skip
                                refine lv_aload_n S.1 S.2.1 dX8_knock_273 rfl (lv_at hl 5 rfl) ?_
                                refine lv_iload S.1 S.2.1 dX8_knock_274 (lv_at hl 0 rfl) ?_
                                refine xk_V (x_runV (As := [.int (nI n)]) (rest := []) S hE hS (fun q h => bkM (k := 1) h (by decide)) (c_X8_sings l E M (nI (hiLen np)) (nI ty) re (upd (nset (nset (nset (upd (nset (nset (nset (nset (nset (nset σ n 0 pa) n 1 qa) n 2 za) n 3 (nI 0)) n 4 (nI 0)) n 6 (nI 0)) 0 (nI (n + 1))) j2 3 (nI 5)) j2 5 (nf (nset (upd (nset (nset (nset (nset (nset (nset σ n 0 pa) n 1 qa) n 2 za) n 3 (nI 0)) n 4 (nI 0)) n 6 (nI 0)) 0 (nI (n + 1))) j2 3 (nI 5)) j2 4)) j2 6 (nI 0)) 3 (((nset (nset (nset (upd (nset (nset (nset (nset (nset (nset σ n 0 pa) n 1 qa) n 2 za) n 3 (nI 0)) n 4 (nI 0)) n 6 (nI 0)) 0 (nI (n + 1))) j2 3 (nI 5)) j2 5 (nf (nset (upd (nset (nset (nset (nset (nset (nset σ n 0 pa) n 1 qa) n 2 za) n 3 (nI 0)) n 4 (nI 0)) n 6 (nI 0)) 0 (nI (n + 1))) j2 3 (nI 5)) j2 4)) j2 6 (nI 0)) 3) + (nI 1))) n _ ho hs (by omega)) kv_X8_sings kw14_7 kw14_8 kw14_9 (x_recv hE (ho) (ci := 8) rfl) ⟨Nat.le_of_ble_eq_true rfl, Nat.le_of_ble_eq_true rfl⟩ rfl rfl rfl hl.1 rfl (Nat.le_of_ble_eq_true rfl) dX8_knock_276 ⟨Nat.zero_le _, Nat.zero_le _⟩) hS (fun q h => bkM (k := 1) h (by decide)) (fun H locs hX hO1 hS => ?_)
                                have hO := hO.tr hO1 (fun q h => bkM (k := 1) h (by decide))
                                have ho := va_at.kept ho (hO1.2 (M) (fun z => by have z : M = M + 1 := z; omega))
                                have hp := va_at.kept hp (hO1.2 (M + 2) (fun z => by have z : M + 2 = M + 1 := z; omega))
                                have hd3 := va_at.kept hd3 (hO1.2 (M + 3) (fun z => by have z : M + 3 = M + 1 := z; omega))
                                have ht := va_at.kept ht (hO1.2 (M + 4) (fun z => by have z : M + 4 = M + 1 := z; omega))
                                have hq5 := va_at.kept hq5 (hO1.2 (M + 5) (fun z => by have z : M + 5 = M + 1 := z; omega))
                                have hq6 := va_at.kept hq6 (hO1.2 (M + 6) (fun z => by have z : M + 6 = M + 1 := z; omega))
                                have hq7 := va_at.kept hq7 (hO1.2 (M + 7) (fun z => by have z : M + 7 = M + 1 := z; omega))
                                have hs : XI E (M + 1) 1670 (rfSings (upd (nset (nset (nset (upd (nset (nset (nset (nset (nset (nset σ n 0 pa) n 1 qa) n 2 za) n 3 (nI 0)) n 4 (nI 0)) n 6 (nI 0)) 0 (nI (n + 1))) j2 3 (nI 5)) j2 5 (nf (nset (upd (nset (nset (nset (nset (nset (nset σ n 0 pa) n 1 qa) n 2 za) n 3 (nI 0)) n 4 (nI 0)) n 6 (nI 0)) 0 (nI (n + 1))) j2 3 (nI 5)) j2 4)) j2 6 (nI 0)) 3 (((nset (nset (nset (upd (nset (nset (nset (nset (nset (nset σ n 0 pa) n 1 qa) n 2 za) n 3 (nI 0)) n 4 (nI 0)) n 6 (nI 0)) 0 (nI (n + 1))) j2 3 (nI 5)) j2 5 (nf (nset (upd (nset (nset (nset (nset (nset (nset σ n 0 pa) n 1 qa) n 2 za) n 3 (nI 0)) n 4 (nI 0)) n 6 (nI 0)) 0 (nI (n + 1))) j2 3 (nI 5)) j2 4)) j2 6 (nI 0)) 3) + (nI 1))) n) H := hX
                                refine lv_iload S.1 S.2.1 dX8_knock_279 (lv_at hl 0 rfl) ?_
                                subst hQ
                                refine x_retW S hr hlk (rfl) hS hO ?_ dX8_knock_281
                                exact (show rfKn σ n pa qa za = ((rfSings (upd (nset (nset (nset (upd (nset (nset (nset (nset (nset (nset σ n 0 pa) n 1 qa) n 2 za) n 3 (nI 0)) n 4 (nI 0)) n 6 (nI 0)) 0 (nI (n + 1))) j2 3 (nI 5)) j2 5 (nf (nset (upd (nset (nset (nset (nset (nset (nset σ n 0 pa) n 1 qa) n 2 za) n 3 (nI 0)) n 4 (nI 0)) n 6 (nI 0)) 0 (nI (n + 1))) j2 3 (nI 5)) j2 4)) j2 6 (nI 0)) 3 (((nset (nset (nset (upd (nset (nset (nset (nset (nset (nset σ n 0 pa) n 1 qa) n 2 za) n 3 (nI 0)) n 4 (nI 0)) n 6 (nI 0)) 0 (nI (n + 1))) j2 3 (nI 5)) j2 5 (nf (nset (upd (nset (nset (nset (nset (nset (nset σ n 0 pa) n 1 qa) n 2 za) n 3 (nI 0)) n 4 (nI 0)) n 6 (nI 0)) 0 (nI (n + 1))) j2 3 (nI 5)) j2 4)) j2 6 (nI 0)) 3) + (nI 1))) n), (nI n), true) from by unfold rfKn; rw [if_pos ⟨h1, h2, h3⟩, hv1]; show rfKnN σ n pa qa za = _; unfold rfKnN; rw [if_neg (fun z => h17 (by rw [z])), if_neg (Int32.not_lt.mpr h5), show rfLv σ n = some j2 from by rw [rfLv, if_neg (Int32.not_lt.mpr h5), if_neg h7, hv2]]; first | done | rfl) ▸ ⟨rfl, ⟨_, ho, hs, hp, ⟨_, hd3⟩, ht, ⟨_, hq5⟩, ⟨_, hq6⟩, ⟨_, hq7⟩⟩⟩
                          · exact absurd h18 (by decide)
                      · exact absurd (nI_pos' (by omega)) h16
                · skip
                  refine lv_bipush (v := (-4)) S.1 S.2.1 dX8_knock_93 (by decide) ?_
                  refine lv_goto (tgt := 102) S.1 S.2.1 dX8_knock_95 rfl ?_
                  refine lv_istore S.1 S.2.1 dX8_knock_102 hl (by decide) rfl (fun ls hl => ?_)
                  have hl : lv_has ls 9 [(6, .int (-4)), (5, .int (nI 0)), (4, .int (-4)), (0, .ref M), (1, .int pa), (2, .int qa), (3, .int za)] := hl
                  refine lv_iload S.1 S.2.1 dX8_knock_104 (lv_at hl 1 rfl) ?_
                  refine lv_if_ne (tgt := 118) S.1 S.2.1 dX8_knock_106 rfl (fun h21 => ?_) (fun h21 => ?_)
                  · exact absurd h21 (by decide)
                  · skip
                    refine lv_iload S.1 S.2.1 dX8_knock_109 (lv_at hl 0 rfl) ?_
                    refine lv_if_ge (tgt := 118) S.1 S.2.1 dX8_knock_111 rfl (fun h22 => ?_) (fun h22 => ?_)
                    · exact absurd h22 (by decide)
                    · skip
                      refine lv_iconst (v := (nI 1)) S.1 S.2.1 dX8_knock_114 (by decide) ?_
                      refine lv_goto (tgt := 119) S.1 S.2.1 dX8_knock_115 rfl ?_
                      refine lv_istore S.1 S.2.1 dX8_knock_119 hl (by decide) rfl (fun ls hl => ?_)
                      have hl : lv_has ls 9 [(7, .int (nI 1)), (6, .int (-4)), (5, .int (nI 0)), (4, .int (-4)), (0, .ref M), (1, .int pa), (2, .int qa), (3, .int za)] := hl
                      refine lv_aload_n S.1 S.2.1 dX8_knock_121 rfl (lv_at hl 4 rfl) ?_
                      refine x_get S hE (ho) (C := RX8) (T := TX8) (N := 10) rfl inlX8 0 (by decide) (v := .ref (M + 1)) rfl kw7_6 rfl dX8_knock_122 ?_
                      refine lv_iconst (v := (nI 0)) S.1 S.2.1 dX8_knock_125 (by decide) ?_
                      refine x_iald S hE (hs) 0 rfl (by decide) (by decide) dX8_knock_126 ?_
                      refine x_top (y := (nI n)) (hn) ?_
                      refine lv_sipush (v := (nI 200)) S.1 S.2.1 dX8_knock_127 (by decide) ?_
                      refine lv_icmp_eq (tgt := 148) S.1 S.2.1 dX8_knock_130 rfl (fun h23 => ?_) (fun h23 => ?_)
                      · skip
                        refine lv_bipush (v := (-3)) S.1 S.2.1 dX8_knock_148 (by decide) ?_
                        subst hQ
                        refine x_retW S hr hlk (rfl) hS hO ?_ dX8_knock_150
                        exact (show rfKn σ n pa qa za = (σ, (-3), false) from by unfold rfKn; rw [if_pos ⟨h1, h2, h3⟩, hv1]; show rfKnN σ n pa qa za = _; unfold rfKnN; rw [if_pos ((nI_eq (by omega) (by decide)).mp h23)]; first | done | rfl) ▸ ⟨rfl, ⟨_, ho, hs, hp, ⟨_, hd3⟩, ht, ⟨_, hq5⟩, ⟨_, hq6⟩, ⟨_, hq7⟩⟩⟩
                      · have hlt : n < 200 := by have : ¬ n = 200 := fun z => h23 (by rw [z]); omega
                        refine lv_iload S.1 S.2.1 dX8_knock_133 (lv_at hl 0 rfl) ?_
                        refine lv_if_eq (tgt := 151) S.1 S.2.1 dX8_knock_135 rfl (fun h24 => ?_) (fun h24 => ?_)
                        · exact absurd h24 (by decide)
                        · skip
                          refine lv_aload_n S.1 S.2.1 dX8_knock_138 rfl (lv_at hl 4 rfl) ?_
                          refine lv_iconst (v := (nI 0)) S.1 S.2.1 dX8_knock_139 (by decide) ?_
                          refine xk_R (v := (rfMany σ (nI 0) n)) (x_runV (As := [.int (nI 0)]) (rest := []) S hE hS (fun _ h => h.elim) (c_X8_many l E M (nI np) (nI ty) re σ (nI 0) n _ ho hs hn hn2) kv_X8_many kw13_23 kw14_0 kw14_1 (x_recv hE (ho) (ci := 8) rfl) ⟨Nat.le_of_ble_eq_true rfl, Nat.le_of_ble_eq_true rfl⟩ rfl rfl rfl hl.1 rfl (Nat.le_of_ble_eq_true rfl) dX8_knock_140 ⟨Nat.zero_le _, Nat.zero_le _⟩) ?_
                          refine lv_bipush (v := (nI 6)) S.1 S.2.1 dX8_knock_143 (by decide) ?_
                          refine lv_icmp_ne (tgt := 151) S.1 S.2.1 dX8_knock_145 rfl (fun h25 => ?_) (fun h25 => ?_)
                          · skip
                            refine lv_aload_n S.1 S.2.1 dX8_knock_151 rfl (lv_at hl 4 rfl) ?_
                            refine xk_V (x_runV (As := []) (rest := []) S hE hS (fun q h => h.elim (fun h => bkM (k := 0) h (by decide)) (fun h => bkM (k := 2) h (by decide))) (c_X8_changes l E M (nI ty) re np σ η _ ho hs hp hnp) kv_X8_changes kw13_2 kw13_3 kw13_4 (x_recv hE (ho) (ci := 8) rfl) ⟨Nat.le_of_ble_eq_true rfl, Nat.le_of_ble_eq_true rfl⟩ rfl rfl rfl hl.1 rfl (Nat.le_of_ble_eq_true rfl) dX8_knock_152 ⟨Nat.zero_le _, Nat.zero_le _⟩) hS (fun q h => h.elim (fun h => bkM (k := 0) h (by decide)) (fun h => bkM (k := 2) h (by decide))) (fun H locs hX hO1 hS => ?_)
                            have hO := hO.tr hO1 (fun q h => h.elim (fun h => bkM (k := 0) h (by decide)) (fun h => bkM (k := 2) h (by decide)))
                            have hs := va_at.kept hs (hO1.2 (M + 1) (fun z => by rcases z with z | z <;> omega))
                            have hd3 := va_at.kept hd3 (hO1.2 (M + 3) (fun z => by rcases z with z | z <;> omega))
                            have ht := va_at.kept ht (hO1.2 (M + 4) (fun z => by rcases z with z | z <;> omega))
                            have hq5 := va_at.kept hq5 (hO1.2 (M + 5) (fun z => by rcases z with z | z <;> omega))
                            have hq6 := va_at.kept hq6 (hO1.2 (M + 6) (fun z => by rcases z with z | z <;> omega))
                            have hq7 := va_at.kept hq7 (hO1.2 (M + 7) (fun z => by rcases z with z | z <;> omega))
                            obtain ⟨ho, hp⟩ := hX
                            refine lv_aload_n S.1 S.2.1 dX8_knock_155 rfl (lv_at hl 4 rfl) ?_
                            refine x_get S hE (ho) (C := RX8) (T := TX8) (N := 10) rfl inlX8 0 (by decide) (v := .ref (M + 1)) rfl kw7_6 rfl dX8_knock_156 ?_
                            refine lv_iconst (v := (nI 0)) S.1 S.2.1 dX8_knock_159 (by decide) ?_
                            refine x_iald S hE (hs) 0 rfl (by decide) (by decide) dX8_knock_160 ?_
                            refine x_top (y := (nI n)) (hn) ?_
                            refine lv_istore S.1 S.2.1 dX8_knock_161 hl (by decide) rfl (fun ls hl => ?_)
                            have hl : lv_has ls 9 [(8, .int (nI n)), (7, .int (nI 1)), (6, .int (-4)), (5, .int (nI 0)), (4, .int (-4)), (0, .ref M), (1, .int pa), (2, .int qa), (3, .int za)] := hl
                            refine lv_aload_n S.1 S.2.1 dX8_knock_163 rfl (lv_at hl 5 rfl) ?_
                            refine lv_iload S.1 S.2.1 dX8_knock_164 (lv_at hl 0 rfl) ?_
                            refine lv_iconst (v := (nI 0)) S.1 S.2.1 dX8_knock_166 (by decide) ?_
                            refine lv_iload_n S.1 S.2.1 dX8_knock_167 rfl (lv_at hl 6 rfl) ?_
                            refine xk_V (x_runV (As := [.int (nI n), .int (nI 0), .int pa]) (rest := []) S hE hS (fun q h => bkM (k := 1) h (by decide)) (c_X8_puts l E M (nI (hiLen np)) (nI ty) re σ n 0 pa _ ho hs (by omega) (by omega)) kv_X8_puts kw13_11 kw13_12 kw13_13 (x_recv hE (ho) (ci := 8) rfl) ⟨Nat.le_of_ble_eq_true rfl, Nat.le_of_ble_eq_true rfl⟩ rfl rfl rfl hl.1 rfl (Nat.le_of_ble_eq_true rfl) dX8_knock_168 ⟨Nat.zero_le _, Nat.zero_le _⟩) hS (fun q h => bkM (k := 1) h (by decide)) (fun H locs hX hO1 hS => ?_)
                            have hO := hO.tr hO1 (fun q h => bkM (k := 1) h (by decide))
                            have ho := va_at.kept ho (hO1.2 (M) (fun z => by have z : M = M + 1 := z; omega))
                            have hp := va_at.kept hp (hO1.2 (M + 2) (fun z => by have z : M + 2 = M + 1 := z; omega))
                            have hd3 := va_at.kept hd3 (hO1.2 (M + 3) (fun z => by have z : M + 3 = M + 1 := z; omega))
                            have ht := va_at.kept ht (hO1.2 (M + 4) (fun z => by have z : M + 4 = M + 1 := z; omega))
                            have hq5 := va_at.kept hq5 (hO1.2 (M + 5) (fun z => by have z : M + 5 = M + 1 := z; omega))
                            have hq6 := va_at.kept hq6 (hO1.2 (M + 6) (fun z => by have z : M + 6 = M + 1 := z; omega))
                            have hq7 := va_at.kept hq7 (hO1.2 (M + 7) (fun z => by have z : M + 7 = M + 1 := z; omega))
                            have hs : XI E (M + 1) 1670 (nset σ n 0 pa) H := hX
                            have hn : (nset σ n 0 pa) 0 = nI n := ((nset_lo (by decide))).trans hn
                            refine lv_aload_n S.1 S.2.1 dX8_knock_171 rfl (lv_at hl 5 rfl) ?_
                            refine lv_iload S.1 S.2.1 dX8_knock_172 (lv_at hl 0 rfl) ?_
                            refine lv_iconst (v := (nI 1)) S.1 S.2.1 dX8_knock_174 (by decide) ?_
                            refine lv_iload_n S.1 S.2.1 dX8_knock_175 rfl (lv_at hl 7 rfl) ?_
                            refine xk_V (x_runV (As := [.int (nI n), .int (nI 1), .int qa]) (rest := []) S hE hS (fun q h => bkM (k := 1) h (by decide)) (c_X8_puts l E M (nI (hiLen np)) (nI ty) re (nset σ n 0 pa) n 1 qa _ ho hs (by omega) (by omega)) kv_X8_puts kw13_11 kw13_12 kw13_13 (x_recv hE (ho) (ci := 8) rfl) ⟨Nat.le_of_ble_eq_true rfl, Nat.le_of_ble_eq_true rfl⟩ rfl rfl rfl hl.1 rfl (Nat.le_of_ble_eq_true rfl) dX8_knock_176 ⟨Nat.zero_le _, Nat.zero_le _⟩) hS (fun q h => bkM (k := 1) h (by decide)) (fun H locs hX hO1 hS => ?_)
                            have hO := hO.tr hO1 (fun q h => bkM (k := 1) h (by decide))
                            have ho := va_at.kept ho (hO1.2 (M) (fun z => by have z : M = M + 1 := z; omega))
                            have hp := va_at.kept hp (hO1.2 (M + 2) (fun z => by have z : M + 2 = M + 1 := z; omega))
                            have hd3 := va_at.kept hd3 (hO1.2 (M + 3) (fun z => by have z : M + 3 = M + 1 := z; omega))
                            have ht := va_at.kept ht (hO1.2 (M + 4) (fun z => by have z : M + 4 = M + 1 := z; omega))
                            have hq5 := va_at.kept hq5 (hO1.2 (M + 5) (fun z => by have z : M + 5 = M + 1 := z; omega))
                            have hq6 := va_at.kept hq6 (hO1.2 (M + 6) (fun z => by have z : M + 6 = M + 1 := z; omega))
                            have hq7 := va_at.kept hq7 (hO1.2 (M + 7) (fun z => by have z : M + 7 = M + 1 := z; omega))
                            have hs : XI E (M + 1) 1670 (nset (nset σ n 0 pa) n 1 qa) H := hX
                            have hn : (nset (nset σ n 0 pa) n 1 qa) 0 = nI n := ((nset_lo (by decide))).trans hn
                            refine lv_aload_n S.1 S.2.1 dX8_knock_179 rfl (lv_at hl 5 rfl) ?_
                            refine lv_iload S.1 S.2.1 dX8_knock_180 (lv_at hl 0 rfl) ?_
                            refine lv_iconst (v := (nI 2)) S.1 S.2.1 dX8_knock_182 (by decide) ?_
                            refine lv_iload_n S.1 S.2.1 dX8_knock_183 rfl (lv_at hl 8 rfl) ?_
                            refine xk_V (x_runV (As := [.int (nI n), .int (nI 2), .int za]) (rest := []) S hE hS (fun q h => bkM (k := 1) h (by decide)) (c_X8_puts l E M (nI (hiLen np)) (nI ty) re (nset (nset σ n 0 pa) n 1 qa) n 2 za _ ho hs (by omega) (by omega)) kv_X8_puts kw13_11 kw13_12 kw13_13 (x_recv hE (ho) (ci := 8) rfl) ⟨Nat.le_of_ble_eq_true rfl, Nat.le_of_ble_eq_true rfl⟩ rfl rfl rfl hl.1 rfl (Nat.le_of_ble_eq_true rfl) dX8_knock_184 ⟨Nat.zero_le _, Nat.zero_le _⟩) hS (fun q h => bkM (k := 1) h (by decide)) (fun H locs hX hO1 hS => ?_)
                            have hO := hO.tr hO1 (fun q h => bkM (k := 1) h (by decide))
                            have ho := va_at.kept ho (hO1.2 (M) (fun z => by have z : M = M + 1 := z; omega))
                            have hp := va_at.kept hp (hO1.2 (M + 2) (fun z => by have z : M + 2 = M + 1 := z; omega))
                            have hd3 := va_at.kept hd3 (hO1.2 (M + 3) (fun z => by have z : M + 3 = M + 1 := z; omega))
                            have ht := va_at.kept ht (hO1.2 (M + 4) (fun z => by have z : M + 4 = M + 1 := z; omega))
                            have hq5 := va_at.kept hq5 (hO1.2 (M + 5) (fun z => by have z : M + 5 = M + 1 := z; omega))
                            have hq6 := va_at.kept hq6 (hO1.2 (M + 6) (fun z => by have z : M + 6 = M + 1 := z; omega))
                            have hq7 := va_at.kept hq7 (hO1.2 (M + 7) (fun z => by have z : M + 7 = M + 1 := z; omega))
                            have hs : XI E (M + 1) 1670 (nset (nset (nset σ n 0 pa) n 1 qa) n 2 za) H := hX
                            have hn : (nset (nset (nset σ n 0 pa) n 1 qa) n 2 za) 0 = nI n := ((nset_lo (by decide))).trans hn
                            refine lv_aload_n S.1 S.2.1 dX8_knock_187 rfl (lv_at hl 5 rfl) ?_
                            refine lv_iload S.1 S.2.1 dX8_knock_188 (lv_at hl 0 rfl) ?_
                            refine lv_iconst (v := (nI 3)) S.1 S.2.1 dX8_knock_190 (by decide) ?_
                            refine lv_iconst (v := (nI 0)) S.1 S.2.1 dX8_knock_191 (by decide) ?_
                            refine xk_V (x_runV (As := [.int (nI n), .int (nI 3), .int (nI 0)]) (rest := []) S hE hS (fun q h => bkM (k := 1) h (by decide)) (c_X8_puts l E M (nI (hiLen np)) (nI ty) re (nset (nset (nset σ n 0 pa) n 1 qa) n 2 za) n 3 (nI 0) _ ho hs (by omega) (by omega)) kv_X8_puts kw13_11 kw13_12 kw13_13 (x_recv hE (ho) (ci := 8) rfl) ⟨Nat.le_of_ble_eq_true rfl, Nat.le_of_ble_eq_true rfl⟩ rfl rfl rfl hl.1 rfl (Nat.le_of_ble_eq_true rfl) dX8_knock_192 ⟨Nat.zero_le _, Nat.zero_le _⟩) hS (fun q h => bkM (k := 1) h (by decide)) (fun H locs hX hO1 hS => ?_)
                            have hO := hO.tr hO1 (fun q h => bkM (k := 1) h (by decide))
                            have ho := va_at.kept ho (hO1.2 (M) (fun z => by have z : M = M + 1 := z; omega))
                            have hp := va_at.kept hp (hO1.2 (M + 2) (fun z => by have z : M + 2 = M + 1 := z; omega))
                            have hd3 := va_at.kept hd3 (hO1.2 (M + 3) (fun z => by have z : M + 3 = M + 1 := z; omega))
                            have ht := va_at.kept ht (hO1.2 (M + 4) (fun z => by have z : M + 4 = M + 1 := z; omega))
                            have hq5 := va_at.kept hq5 (hO1.2 (M + 5) (fun z => by have z : M + 5 = M + 1 := z; omega))
                            have hq6 := va_at.kept hq6 (hO1.2 (M + 6) (fun z => by have z : M + 6 = M + 1 := z; omega))
                            have hq7 := va_at.kept hq7 (hO1.2 (M + 7) (fun z => by have z : M + 7 = M + 1 := z; omega))
                            have hs : XI E (M + 1) 1670 (nset (nset (nset (nset σ n 0 pa) n 1 qa) n 2 za) n 3 (nI 0)) H := hX
                            have hn : (nset (nset (nset (nset σ n 0 pa) n 1 qa) n 2 za) n 3 (nI 0)) 0 = nI n := ((nset_lo (by decide))).trans hn
                            refine lv_aload_n S.1 S.2.1 dX8_knock_195 rfl (lv_at hl 5 rfl) ?_
                            refine lv_iload S.1 S.2.1 dX8_knock_196 (lv_at hl 0 rfl) ?_
                            refine lv_iconst (v := (nI 4)) S.1 S.2.1 dX8_knock_198 (by decide) ?_
                            refine lv_iconst (v := (nI 0)) S.1 S.2.1 dX8_knock_199 (by decide) ?_
                            refine xk_V (x_runV (As := [.int (nI n), .int (nI 4), .int (nI 0)]) (rest := []) S hE hS (fun q h => bkM (k := 1) h (by decide)) (c_X8_puts l E M (nI (hiLen np)) (nI ty) re (nset (nset (nset (nset σ n 0 pa) n 1 qa) n 2 za) n 3 (nI 0)) n 4 (nI 0) _ ho hs (by omega) (by omega)) kv_X8_puts kw13_11 kw13_12 kw13_13 (x_recv hE (ho) (ci := 8) rfl) ⟨Nat.le_of_ble_eq_true rfl, Nat.le_of_ble_eq_true rfl⟩ rfl rfl rfl hl.1 rfl (Nat.le_of_ble_eq_true rfl) dX8_knock_200 ⟨Nat.zero_le _, Nat.zero_le _⟩) hS (fun q h => bkM (k := 1) h (by decide)) (fun H locs hX hO1 hS => ?_)
                            have hO := hO.tr hO1 (fun q h => bkM (k := 1) h (by decide))
                            have ho := va_at.kept ho (hO1.2 (M) (fun z => by have z : M = M + 1 := z; omega))
                            have hp := va_at.kept hp (hO1.2 (M + 2) (fun z => by have z : M + 2 = M + 1 := z; omega))
                            have hd3 := va_at.kept hd3 (hO1.2 (M + 3) (fun z => by have z : M + 3 = M + 1 := z; omega))
                            have ht := va_at.kept ht (hO1.2 (M + 4) (fun z => by have z : M + 4 = M + 1 := z; omega))
                            have hq5 := va_at.kept hq5 (hO1.2 (M + 5) (fun z => by have z : M + 5 = M + 1 := z; omega))
                            have hq6 := va_at.kept hq6 (hO1.2 (M + 6) (fun z => by have z : M + 6 = M + 1 := z; omega))
                            have hq7 := va_at.kept hq7 (hO1.2 (M + 7) (fun z => by have z : M + 7 = M + 1 := z; omega))
                            have hs : XI E (M + 1) 1670 (nset (nset (nset (nset (nset σ n 0 pa) n 1 qa) n 2 za) n 3 (nI 0)) n 4 (nI 0)) H := hX
                            have hn : (nset (nset (nset (nset (nset σ n 0 pa) n 1 qa) n 2 za) n 3 (nI 0)) n 4 (nI 0)) 0 = nI n := ((nset_lo (by decide))).trans hn
                            refine lv_aload_n S.1 S.2.1 dX8_knock_203 rfl (lv_at hl 5 rfl) ?_
                            refine lv_iload S.1 S.2.1 dX8_knock_204 (lv_at hl 0 rfl) ?_
                            refine lv_bipush (v := (nI 6)) S.1 S.2.1 dX8_knock_206 (by decide) ?_
                            refine lv_iconst (v := (nI 0)) S.1 S.2.1 dX8_knock_208 (by decide) ?_
                            refine xk_V (x_runV (As := [.int (nI n), .int (nI 6), .int (nI 0)]) (rest := []) S hE hS (fun q h => bkM (k := 1) h (by decide)) (c_X8_puts l E M (nI (hiLen np)) (nI ty) re (nset (nset (nset (nset (nset σ n 0 pa) n 1 qa) n 2 za) n 3 (nI 0)) n 4 (nI 0)) n 6 (nI 0) _ ho hs (by omega) (by omega)) kv_X8_puts kw13_11 kw13_12 kw13_13 (x_recv hE (ho) (ci := 8) rfl) ⟨Nat.le_of_ble_eq_true rfl, Nat.le_of_ble_eq_true rfl⟩ rfl rfl rfl hl.1 rfl (Nat.le_of_ble_eq_true rfl) dX8_knock_209 ⟨Nat.zero_le _, Nat.zero_le _⟩) hS (fun q h => bkM (k := 1) h (by decide)) (fun H locs hX hO1 hS => ?_)
                            have hO := hO.tr hO1 (fun q h => bkM (k := 1) h (by decide))
                            have ho := va_at.kept ho (hO1.2 (M) (fun z => by have z : M = M + 1 := z; omega))
                            have hp := va_at.kept hp (hO1.2 (M + 2) (fun z => by have z : M + 2 = M + 1 := z; omega))
                            have hd3 := va_at.kept hd3 (hO1.2 (M + 3) (fun z => by have z : M + 3 = M + 1 := z; omega))
                            have ht := va_at.kept ht (hO1.2 (M + 4) (fun z => by have z : M + 4 = M + 1 := z; omega))
                            have hq5 := va_at.kept hq5 (hO1.2 (M + 5) (fun z => by have z : M + 5 = M + 1 := z; omega))
                            have hq6 := va_at.kept hq6 (hO1.2 (M + 6) (fun z => by have z : M + 6 = M + 1 := z; omega))
                            have hq7 := va_at.kept hq7 (hO1.2 (M + 7) (fun z => by have z : M + 7 = M + 1 := z; omega))
                            have hs : XI E (M + 1) 1670 (nset (nset (nset (nset (nset (nset σ n 0 pa) n 1 qa) n 2 za) n 3 (nI 0)) n 4 (nI 0)) n 6 (nI 0)) H := hX
                            have hn : (nset (nset (nset (nset (nset (nset σ n 0 pa) n 1 qa) n 2 za) n 3 (nI 0)) n 4 (nI 0)) n 6 (nI 0)) 0 = nI n := ((nset_lo (by decide))).trans hn
                            refine lv_aload_n S.1 S.2.1 dX8_knock_212 rfl (lv_at hl 5 rfl) ?_
                            refine x_get S hE (ho) (C := RX8) (T := TX8) (N := 10) rfl inlX8 0 (by decide) (v := .ref (M + 1)) rfl kw7_6 rfl dX8_knock_213 ?_
                            refine lv_iconst (v := (nI 0)) S.1 S.2.1 dX8_knock_216 (by decide) ?_
                            refine lv_dup2_11 S.1 S.2.1 dX8_knock_217 rfl rfl ?_
                            refine x_iald S hE (hs) 0 rfl (by decide) (by decide) dX8_knock_218 ?_
                            refine x_top (y := (nI n)) (hn) ?_
                            refine lv_iconst (v := (nI 1)) S.1 S.2.1 dX8_knock_219 (by decide) ?_
                            refine lv_iadd S.1 S.2.1 dX8_knock_220 ?_
                            refine x_top (y := (nI (n + 1))) (nI_add n 1) ?_
                            refine x_iast S hE hS (bkM (k := 1) rfl (by decide)) (hs) 0 rfl (by decide) (by decide) dX8_knock_221 (fun H locs hX hO1 hS => ?_)
                            have hO := hO.tr hO1 (fun q h => bkM (k := 1) h (by decide))
                            have ho := va_at.kept ho (hO1.2 (M) (fun z => by have z : M = M + 1 := z; omega))
                            have hp := va_at.kept hp (hO1.2 (M + 2) (fun z => by have z : M + 2 = M + 1 := z; omega))
                            have hd3 := va_at.kept hd3 (hO1.2 (M + 3) (fun z => by have z : M + 3 = M + 1 := z; omega))
                            have ht := va_at.kept ht (hO1.2 (M + 4) (fun z => by have z : M + 4 = M + 1 := z; omega))
                            have hq5 := va_at.kept hq5 (hO1.2 (M + 5) (fun z => by have z : M + 5 = M + 1 := z; omega))
                            have hq6 := va_at.kept hq6 (hO1.2 (M + 6) (fun z => by have z : M + 6 = M + 1 := z; omega))
                            have hq7 := va_at.kept hq7 (hO1.2 (M + 7) (fun z => by have z : M + 7 = M + 1 := z; omega))
                            have hs : XI E (M + 1) 1670 (upd (nset (nset (nset (nset (nset (nset σ n 0 pa) n 1 qa) n 2 za) n 3 (nI 0)) n 4 (nI 0)) n 6 (nI 0)) 0 (nI (n + 1))) H := hX
                            refine lv_iload S.1 S.2.1 dX8_knock_222 (lv_at hl 2 rfl) ?_
                            refine lv_if_lt (tgt := 268) S.1 S.2.1 dX8_knock_224 rfl (fun h26 => ?_) (fun h26 => ?_)
                            · skip
                              refine lv_iload S.1 S.2.1 dX8_knock_268 (lv_at hl 1 rfl) ?_
                              refine lv_if_ne (tgt := 279) S.1 S.2.1 dX8_knock_270 rfl (fun h27 => ?_) (fun h27 => ?_)
                              · skip
                                refine lv_iload S.1 S.2.1 dX8_knock_279 (lv_at hl 0 rfl) ?_
                                subst hQ
                                refine x_retW S hr hlk (rfl) hS hO ?_ dX8_knock_281
                                exact (show rfKn σ n pa qa za = ((upd (nset (nset (nset (nset (nset (nset σ n 0 pa) n 1 qa) n 2 za) n 3 (nI 0)) n 4 (nI 0)) n 6 (nI 0)) 0 (nI (n + 1))), (nI n), true) from by unfold rfKn; rw [if_pos ⟨h1, h2, h3⟩, hv1]; show rfKnN σ n pa qa za = _; unfold rfKnN; rw [if_neg (fun z => h23 (by rw [z])), if_neg (Int32.not_lt.mpr h5), show rfLv σ n = none from by rw [rfLv, if_neg (Int32.not_lt.mpr h5), if_pos h7]]; show (if rfMany σ (nI 0) n = nI 6 then ((σ, (-3), false) : KR) else (rfNew σ n pa qa za, nI n, true)) = _; rw [if_neg h25]; first | done | rfl) ▸ ⟨rfl, ⟨_, ho, hs, hp, ⟨_, hd3⟩, ht, ⟨_, hq5⟩, ⟨_, hq6⟩, ⟨_, hq7⟩⟩⟩
                              · exact absurd h27 (by decide)
                            · exact absurd h26 (by decide)
                          · skip
                            refine lv_bipush (v := (-3)) S.1 S.2.1 dX8_knock_148 (by decide) ?_
                            subst hQ
                            refine x_retW S hr hlk (rfl) hS hO ?_ dX8_knock_150
                            exact (show rfKn σ n pa qa za = (σ, (-3), false) from by unfold rfKn; rw [if_pos ⟨h1, h2, h3⟩, hv1]; show rfKnN σ n pa qa za = _; unfold rfKnN; rw [if_neg (fun z => h23 (by rw [z])), if_neg (Int32.not_lt.mpr h5), show rfLv σ n = none from by rw [rfLv, if_neg (Int32.not_lt.mpr h5), if_pos h7]]; show (if rfMany σ (nI 0) n = nI 6 then ((σ, (-3), false) : KR) else (rfNew σ n pa qa za, nI n, true)) = _; rw [if_pos h25]; first | done | rfl) ▸ ⟨rfl, ⟨_, ho, hs, hp, ⟨_, hd3⟩, ht, ⟨_, hq5⟩, ⟨_, hq6⟩, ⟨_, hq7⟩⟩⟩
            · skip
              refine lv_iconst (v := (nI 1)) S.1 S.2.1 dX8_knock_72 (by decide) ?_
              refine lv_goto (tgt := 77) S.1 S.2.1 dX8_knock_73 rfl ?_
              refine lv_istore S.1 S.2.1 dX8_knock_77 hl (by decide) rfl (fun ls hl => ?_)
              have hl : lv_has ls 9 [(5, .int (nI 1)), (4, .int (-4)), (0, .ref M), (1, .int pa), (2, .int qa), (3, .int za)] := hl
              refine lv_iload S.1 S.2.1 dX8_knock_79 (lv_at hl 0 rfl) ?_
              refine lv_if_ne (tgt := 93) S.1 S.2.1 dX8_knock_81 rfl (fun h28 => ?_) (fun h28 => ?_)
              · skip
                refine lv_bipush (v := (-4)) S.1 S.2.1 dX8_knock_93 (by decide) ?_
                refine lv_goto (tgt := 102) S.1 S.2.1 dX8_knock_95 rfl ?_
                refine lv_istore S.1 S.2.1 dX8_knock_102 hl (by decide) rfl (fun ls hl => ?_)
                have hl : lv_has ls 9 [(6, .int (-4)), (5, .int (nI 1)), (4, .int (-4)), (0, .ref M), (1, .int pa), (2, .int qa), (3, .int za)] := hl
                refine lv_iload S.1 S.2.1 dX8_knock_104 (lv_at hl 1 rfl) ?_
                refine lv_if_ne (tgt := 118) S.1 S.2.1 dX8_knock_106 rfl (fun h29 => ?_) (fun h29 => ?_)
                · skip
                  refine lv_iconst (v := (nI 0)) S.1 S.2.1 dX8_knock_118 (by decide) ?_
                  refine lv_istore S.1 S.2.1 dX8_knock_119 hl (by decide) rfl (fun ls hl => ?_)
                  have hl : lv_has ls 9 [(7, .int (nI 0)), (6, .int (-4)), (5, .int (nI 1)), (4, .int (-4)), (0, .ref M), (1, .int pa), (2, .int qa), (3, .int za)] := hl
                  refine lv_aload_n S.1 S.2.1 dX8_knock_121 rfl (lv_at hl 4 rfl) ?_
                  refine x_get S hE (ho) (C := RX8) (T := TX8) (N := 10) rfl inlX8 0 (by decide) (v := .ref (M + 1)) rfl kw7_6 rfl dX8_knock_122 ?_
                  refine lv_iconst (v := (nI 0)) S.1 S.2.1 dX8_knock_125 (by decide) ?_
                  refine x_iald S hE (hs) 0 rfl (by decide) (by decide) dX8_knock_126 ?_
                  refine x_top (y := (nI n)) (hn) ?_
                  refine lv_sipush (v := (nI 200)) S.1 S.2.1 dX8_knock_127 (by decide) ?_
                  refine lv_icmp_eq (tgt := 148) S.1 S.2.1 dX8_knock_130 rfl (fun h30 => ?_) (fun h30 => ?_)
                  · skip
                    refine lv_bipush (v := (-3)) S.1 S.2.1 dX8_knock_148 (by decide) ?_
                    subst hQ
                    refine x_retW S hr hlk (rfl) hS hO ?_ dX8_knock_150
                    exact (show rfKn σ n pa qa za = (σ, (-3), false) from by unfold rfKn; rw [if_pos ⟨h1, h2, h3⟩, hv1]; show rfKnN σ n pa qa za = _; unfold rfKnN; rw [if_pos ((nI_eq (by omega) (by decide)).mp h30)]; first | done | rfl) ▸ ⟨rfl, ⟨_, ho, hs, hp, ⟨_, hd3⟩, ht, ⟨_, hq5⟩, ⟨_, hq6⟩, ⟨_, hq7⟩⟩⟩
                  · have hlt : n < 200 := by have : ¬ n = 200 := fun z => h30 (by rw [z]); omega
                    refine lv_iload S.1 S.2.1 dX8_knock_133 (lv_at hl 0 rfl) ?_
                    refine lv_if_eq (tgt := 151) S.1 S.2.1 dX8_knock_135 rfl (fun h31 => ?_) (fun h31 => ?_)
                    · skip
                      refine lv_aload_n S.1 S.2.1 dX8_knock_151 rfl (lv_at hl 4 rfl) ?_
                      refine xk_V (x_runV (As := []) (rest := []) S hE hS (fun q h => h.elim (fun h => bkM (k := 0) h (by decide)) (fun h => bkM (k := 2) h (by decide))) (c_X8_changes l E M (nI ty) re np σ η _ ho hs hp hnp) kv_X8_changes kw13_2 kw13_3 kw13_4 (x_recv hE (ho) (ci := 8) rfl) ⟨Nat.le_of_ble_eq_true rfl, Nat.le_of_ble_eq_true rfl⟩ rfl rfl rfl hl.1 rfl (Nat.le_of_ble_eq_true rfl) dX8_knock_152 ⟨Nat.zero_le _, Nat.zero_le _⟩) hS (fun q h => h.elim (fun h => bkM (k := 0) h (by decide)) (fun h => bkM (k := 2) h (by decide))) (fun H locs hX hO1 hS => ?_)
                      have hO := hO.tr hO1 (fun q h => h.elim (fun h => bkM (k := 0) h (by decide)) (fun h => bkM (k := 2) h (by decide)))
                      have hs := va_at.kept hs (hO1.2 (M + 1) (fun z => by rcases z with z | z <;> omega))
                      have hd3 := va_at.kept hd3 (hO1.2 (M + 3) (fun z => by rcases z with z | z <;> omega))
                      have ht := va_at.kept ht (hO1.2 (M + 4) (fun z => by rcases z with z | z <;> omega))
                      have hq5 := va_at.kept hq5 (hO1.2 (M + 5) (fun z => by rcases z with z | z <;> omega))
                      have hq6 := va_at.kept hq6 (hO1.2 (M + 6) (fun z => by rcases z with z | z <;> omega))
                      have hq7 := va_at.kept hq7 (hO1.2 (M + 7) (fun z => by rcases z with z | z <;> omega))
                      obtain ⟨ho, hp⟩ := hX
                      refine lv_aload_n S.1 S.2.1 dX8_knock_155 rfl (lv_at hl 4 rfl) ?_
                      refine x_get S hE (ho) (C := RX8) (T := TX8) (N := 10) rfl inlX8 0 (by decide) (v := .ref (M + 1)) rfl kw7_6 rfl dX8_knock_156 ?_
                      refine lv_iconst (v := (nI 0)) S.1 S.2.1 dX8_knock_159 (by decide) ?_
                      refine x_iald S hE (hs) 0 rfl (by decide) (by decide) dX8_knock_160 ?_
                      refine x_top (y := (nI n)) (hn) ?_
                      refine lv_istore S.1 S.2.1 dX8_knock_161 hl (by decide) rfl (fun ls hl => ?_)
                      have hl : lv_has ls 9 [(8, .int (nI n)), (7, .int (nI 0)), (6, .int (-4)), (5, .int (nI 1)), (4, .int (-4)), (0, .ref M), (1, .int pa), (2, .int qa), (3, .int za)] := hl
                      refine lv_aload_n S.1 S.2.1 dX8_knock_163 rfl (lv_at hl 5 rfl) ?_
                      refine lv_iload S.1 S.2.1 dX8_knock_164 (lv_at hl 0 rfl) ?_
                      refine lv_iconst (v := (nI 0)) S.1 S.2.1 dX8_knock_166 (by decide) ?_
                      refine lv_iload_n S.1 S.2.1 dX8_knock_167 rfl (lv_at hl 6 rfl) ?_
                      refine xk_V (x_runV (As := [.int (nI n), .int (nI 0), .int pa]) (rest := []) S hE hS (fun q h => bkM (k := 1) h (by decide)) (c_X8_puts l E M (nI (hiLen np)) (nI ty) re σ n 0 pa _ ho hs (by omega) (by omega)) kv_X8_puts kw13_11 kw13_12 kw13_13 (x_recv hE (ho) (ci := 8) rfl) ⟨Nat.le_of_ble_eq_true rfl, Nat.le_of_ble_eq_true rfl⟩ rfl rfl rfl hl.1 rfl (Nat.le_of_ble_eq_true rfl) dX8_knock_168 ⟨Nat.zero_le _, Nat.zero_le _⟩) hS (fun q h => bkM (k := 1) h (by decide)) (fun H locs hX hO1 hS => ?_)
                      have hO := hO.tr hO1 (fun q h => bkM (k := 1) h (by decide))
                      have ho := va_at.kept ho (hO1.2 (M) (fun z => by have z : M = M + 1 := z; omega))
                      have hp := va_at.kept hp (hO1.2 (M + 2) (fun z => by have z : M + 2 = M + 1 := z; omega))
                      have hd3 := va_at.kept hd3 (hO1.2 (M + 3) (fun z => by have z : M + 3 = M + 1 := z; omega))
                      have ht := va_at.kept ht (hO1.2 (M + 4) (fun z => by have z : M + 4 = M + 1 := z; omega))
                      have hq5 := va_at.kept hq5 (hO1.2 (M + 5) (fun z => by have z : M + 5 = M + 1 := z; omega))
                      have hq6 := va_at.kept hq6 (hO1.2 (M + 6) (fun z => by have z : M + 6 = M + 1 := z; omega))
                      have hq7 := va_at.kept hq7 (hO1.2 (M + 7) (fun z => by have z : M + 7 = M + 1 := z; omega))
                      have hs : XI E (M + 1) 1670 (nset σ n 0 pa) H := hX
                      have hn : (nset σ n 0 pa) 0 = nI n := ((nset_lo (by decide))).trans hn
                      refine lv_aload_n S.1 S.2.1 dX8_knock_171 rfl (lv_at hl 5 rfl) ?_
                      refine lv_iload S.1 S.2.1 dX8_knock_172 (lv_at hl 0 rfl) ?_
                      refine lv_iconst (v := (nI 1)) S.1 S.2.1 dX8_knock_174 (by decide) ?_
                      refine lv_iload_n S.1 S.2.1 dX8_knock_175 rfl (lv_at hl 7 rfl) ?_
                      refine xk_V (x_runV (As := [.int (nI n), .int (nI 1), .int qa]) (rest := []) S hE hS (fun q h => bkM (k := 1) h (by decide)) (c_X8_puts l E M (nI (hiLen np)) (nI ty) re (nset σ n 0 pa) n 1 qa _ ho hs (by omega) (by omega)) kv_X8_puts kw13_11 kw13_12 kw13_13 (x_recv hE (ho) (ci := 8) rfl) ⟨Nat.le_of_ble_eq_true rfl, Nat.le_of_ble_eq_true rfl⟩ rfl rfl rfl hl.1 rfl (Nat.le_of_ble_eq_true rfl) dX8_knock_176 ⟨Nat.zero_le _, Nat.zero_le _⟩) hS (fun q h => bkM (k := 1) h (by decide)) (fun H locs hX hO1 hS => ?_)
                      have hO := hO.tr hO1 (fun q h => bkM (k := 1) h (by decide))
                      have ho := va_at.kept ho (hO1.2 (M) (fun z => by have z : M = M + 1 := z; omega))
                      have hp := va_at.kept hp (hO1.2 (M + 2) (fun z => by have z : M + 2 = M + 1 := z; omega))
                      have hd3 := va_at.kept hd3 (hO1.2 (M + 3) (fun z => by have z : M + 3 = M + 1 := z; omega))
                      have ht := va_at.kept ht (hO1.2 (M + 4) (fun z => by have z : M + 4 = M + 1 := z; omega))
                      have hq5 := va_at.kept hq5 (hO1.2 (M + 5) (fun z => by have z : M + 5 = M + 1 := z; omega))
                      have hq6 := va_at.kept hq6 (hO1.2 (M + 6) (fun z => by have z : M + 6 = M + 1 := z; omega))
                      have hq7 := va_at.kept hq7 (hO1.2 (M + 7) (fun z => by have z : M + 7 = M + 1 := z; omega))
                      have hs : XI E (M + 1) 1670 (nset (nset σ n 0 pa) n 1 qa) H := hX
                      have hn : (nset (nset σ n 0 pa) n 1 qa) 0 = nI n := ((nset_lo (by decide))).trans hn
                      refine lv_aload_n S.1 S.2.1 dX8_knock_179 rfl (lv_at hl 5 rfl) ?_
                      refine lv_iload S.1 S.2.1 dX8_knock_180 (lv_at hl 0 rfl) ?_
                      refine lv_iconst (v := (nI 2)) S.1 S.2.1 dX8_knock_182 (by decide) ?_
                      refine lv_iload_n S.1 S.2.1 dX8_knock_183 rfl (lv_at hl 8 rfl) ?_
                      refine xk_V (x_runV (As := [.int (nI n), .int (nI 2), .int za]) (rest := []) S hE hS (fun q h => bkM (k := 1) h (by decide)) (c_X8_puts l E M (nI (hiLen np)) (nI ty) re (nset (nset σ n 0 pa) n 1 qa) n 2 za _ ho hs (by omega) (by omega)) kv_X8_puts kw13_11 kw13_12 kw13_13 (x_recv hE (ho) (ci := 8) rfl) ⟨Nat.le_of_ble_eq_true rfl, Nat.le_of_ble_eq_true rfl⟩ rfl rfl rfl hl.1 rfl (Nat.le_of_ble_eq_true rfl) dX8_knock_184 ⟨Nat.zero_le _, Nat.zero_le _⟩) hS (fun q h => bkM (k := 1) h (by decide)) (fun H locs hX hO1 hS => ?_)
                      have hO := hO.tr hO1 (fun q h => bkM (k := 1) h (by decide))
                      have ho := va_at.kept ho (hO1.2 (M) (fun z => by have z : M = M + 1 := z; omega))
                      have hp := va_at.kept hp (hO1.2 (M + 2) (fun z => by have z : M + 2 = M + 1 := z; omega))
                      have hd3 := va_at.kept hd3 (hO1.2 (M + 3) (fun z => by have z : M + 3 = M + 1 := z; omega))
                      have ht := va_at.kept ht (hO1.2 (M + 4) (fun z => by have z : M + 4 = M + 1 := z; omega))
                      have hq5 := va_at.kept hq5 (hO1.2 (M + 5) (fun z => by have z : M + 5 = M + 1 := z; omega))
                      have hq6 := va_at.kept hq6 (hO1.2 (M + 6) (fun z => by have z : M + 6 = M + 1 := z; omega))
                      have hq7 := va_at.kept hq7 (hO1.2 (M + 7) (fun z => by have z : M + 7 = M + 1 := z; omega))
                      have hs : XI E (M + 1) 1670 (nset (nset (nset σ n 0 pa) n 1 qa) n 2 za) H := hX
                      have hn : (nset (nset (nset σ n 0 pa) n 1 qa) n 2 za) 0 = nI n := ((nset_lo (by decide))).trans hn
                      refine lv_aload_n S.1 S.2.1 dX8_knock_187 rfl (lv_at hl 5 rfl) ?_
                      refine lv_iload S.1 S.2.1 dX8_knock_188 (lv_at hl 0 rfl) ?_
                      refine lv_iconst (v := (nI 3)) S.1 S.2.1 dX8_knock_190 (by decide) ?_
                      refine lv_iconst (v := (nI 0)) S.1 S.2.1 dX8_knock_191 (by decide) ?_
                      refine xk_V (x_runV (As := [.int (nI n), .int (nI 3), .int (nI 0)]) (rest := []) S hE hS (fun q h => bkM (k := 1) h (by decide)) (c_X8_puts l E M (nI (hiLen np)) (nI ty) re (nset (nset (nset σ n 0 pa) n 1 qa) n 2 za) n 3 (nI 0) _ ho hs (by omega) (by omega)) kv_X8_puts kw13_11 kw13_12 kw13_13 (x_recv hE (ho) (ci := 8) rfl) ⟨Nat.le_of_ble_eq_true rfl, Nat.le_of_ble_eq_true rfl⟩ rfl rfl rfl hl.1 rfl (Nat.le_of_ble_eq_true rfl) dX8_knock_192 ⟨Nat.zero_le _, Nat.zero_le _⟩) hS (fun q h => bkM (k := 1) h (by decide)) (fun H locs hX hO1 hS => ?_)
                      have hO := hO.tr hO1 (fun q h => bkM (k := 1) h (by decide))
                      have ho := va_at.kept ho (hO1.2 (M) (fun z => by have z : M = M + 1 := z; omega))
                      have hp := va_at.kept hp (hO1.2 (M + 2) (fun z => by have z : M + 2 = M + 1 := z; omega))
                      have hd3 := va_at.kept hd3 (hO1.2 (M + 3) (fun z => by have z : M + 3 = M + 1 := z; omega))
                      have ht := va_at.kept ht (hO1.2 (M + 4) (fun z => by have z : M + 4 = M + 1 := z; omega))
                      have hq5 := va_at.kept hq5 (hO1.2 (M + 5) (fun z => by have z : M + 5 = M + 1 := z; omega))
                      have hq6 := va_at.kept hq6 (hO1.2 (M + 6) (fun z => by have z : M + 6 = M + 1 := z; omega))
                      have hq7 := va_at.kept hq7 (hO1.2 (M + 7) (fun z => by have z : M + 7 = M + 1 := z; omega))
                      have hs : XI E (M + 1) 1670 (nset (nset (nset (nset σ n 0 pa) n 1 qa) n 2 za) n 3 (nI 0)) H := hX
                      have hn : (nset (nset (nset (nset σ n 0 pa) n 1 qa) n 2 za) n 3 (nI 0)) 0 = nI n := ((nset_lo (by decide))).trans hn
                      refine lv_aload_n S.1 S.2.1 dX8_knock_195 rfl (lv_at hl 5 rfl) ?_
                      refine lv_iload S.1 S.2.1 dX8_knock_196 (lv_at hl 0 rfl) ?_
                      refine lv_iconst (v := (nI 4)) S.1 S.2.1 dX8_knock_198 (by decide) ?_
                      refine lv_iconst (v := (nI 0)) S.1 S.2.1 dX8_knock_199 (by decide) ?_
                      refine xk_V (x_runV (As := [.int (nI n), .int (nI 4), .int (nI 0)]) (rest := []) S hE hS (fun q h => bkM (k := 1) h (by decide)) (c_X8_puts l E M (nI (hiLen np)) (nI ty) re (nset (nset (nset (nset σ n 0 pa) n 1 qa) n 2 za) n 3 (nI 0)) n 4 (nI 0) _ ho hs (by omega) (by omega)) kv_X8_puts kw13_11 kw13_12 kw13_13 (x_recv hE (ho) (ci := 8) rfl) ⟨Nat.le_of_ble_eq_true rfl, Nat.le_of_ble_eq_true rfl⟩ rfl rfl rfl hl.1 rfl (Nat.le_of_ble_eq_true rfl) dX8_knock_200 ⟨Nat.zero_le _, Nat.zero_le _⟩) hS (fun q h => bkM (k := 1) h (by decide)) (fun H locs hX hO1 hS => ?_)
                      have hO := hO.tr hO1 (fun q h => bkM (k := 1) h (by decide))
                      have ho := va_at.kept ho (hO1.2 (M) (fun z => by have z : M = M + 1 := z; omega))
                      have hp := va_at.kept hp (hO1.2 (M + 2) (fun z => by have z : M + 2 = M + 1 := z; omega))
                      have hd3 := va_at.kept hd3 (hO1.2 (M + 3) (fun z => by have z : M + 3 = M + 1 := z; omega))
                      have ht := va_at.kept ht (hO1.2 (M + 4) (fun z => by have z : M + 4 = M + 1 := z; omega))
                      have hq5 := va_at.kept hq5 (hO1.2 (M + 5) (fun z => by have z : M + 5 = M + 1 := z; omega))
                      have hq6 := va_at.kept hq6 (hO1.2 (M + 6) (fun z => by have z : M + 6 = M + 1 := z; omega))
                      have hq7 := va_at.kept hq7 (hO1.2 (M + 7) (fun z => by have z : M + 7 = M + 1 := z; omega))
                      have hs : XI E (M + 1) 1670 (nset (nset (nset (nset (nset σ n 0 pa) n 1 qa) n 2 za) n 3 (nI 0)) n 4 (nI 0)) H := hX
                      have hn : (nset (nset (nset (nset (nset σ n 0 pa) n 1 qa) n 2 za) n 3 (nI 0)) n 4 (nI 0)) 0 = nI n := ((nset_lo (by decide))).trans hn
                      refine lv_aload_n S.1 S.2.1 dX8_knock_203 rfl (lv_at hl 5 rfl) ?_
                      refine lv_iload S.1 S.2.1 dX8_knock_204 (lv_at hl 0 rfl) ?_
                      refine lv_bipush (v := (nI 6)) S.1 S.2.1 dX8_knock_206 (by decide) ?_
                      refine lv_iconst (v := (nI 0)) S.1 S.2.1 dX8_knock_208 (by decide) ?_
                      refine xk_V (x_runV (As := [.int (nI n), .int (nI 6), .int (nI 0)]) (rest := []) S hE hS (fun q h => bkM (k := 1) h (by decide)) (c_X8_puts l E M (nI (hiLen np)) (nI ty) re (nset (nset (nset (nset (nset σ n 0 pa) n 1 qa) n 2 za) n 3 (nI 0)) n 4 (nI 0)) n 6 (nI 0) _ ho hs (by omega) (by omega)) kv_X8_puts kw13_11 kw13_12 kw13_13 (x_recv hE (ho) (ci := 8) rfl) ⟨Nat.le_of_ble_eq_true rfl, Nat.le_of_ble_eq_true rfl⟩ rfl rfl rfl hl.1 rfl (Nat.le_of_ble_eq_true rfl) dX8_knock_209 ⟨Nat.zero_le _, Nat.zero_le _⟩) hS (fun q h => bkM (k := 1) h (by decide)) (fun H locs hX hO1 hS => ?_)
                      have hO := hO.tr hO1 (fun q h => bkM (k := 1) h (by decide))
                      have ho := va_at.kept ho (hO1.2 (M) (fun z => by have z : M = M + 1 := z; omega))
                      have hp := va_at.kept hp (hO1.2 (M + 2) (fun z => by have z : M + 2 = M + 1 := z; omega))
                      have hd3 := va_at.kept hd3 (hO1.2 (M + 3) (fun z => by have z : M + 3 = M + 1 := z; omega))
                      have ht := va_at.kept ht (hO1.2 (M + 4) (fun z => by have z : M + 4 = M + 1 := z; omega))
                      have hq5 := va_at.kept hq5 (hO1.2 (M + 5) (fun z => by have z : M + 5 = M + 1 := z; omega))
                      have hq6 := va_at.kept hq6 (hO1.2 (M + 6) (fun z => by have z : M + 6 = M + 1 := z; omega))
                      have hq7 := va_at.kept hq7 (hO1.2 (M + 7) (fun z => by have z : M + 7 = M + 1 := z; omega))
                      have hs : XI E (M + 1) 1670 (nset (nset (nset (nset (nset (nset σ n 0 pa) n 1 qa) n 2 za) n 3 (nI 0)) n 4 (nI 0)) n 6 (nI 0)) H := hX
                      have hn : (nset (nset (nset (nset (nset (nset σ n 0 pa) n 1 qa) n 2 za) n 3 (nI 0)) n 4 (nI 0)) n 6 (nI 0)) 0 = nI n := ((nset_lo (by decide))).trans hn
                      refine lv_aload_n S.1 S.2.1 dX8_knock_212 rfl (lv_at hl 5 rfl) ?_
                      refine x_get S hE (ho) (C := RX8) (T := TX8) (N := 10) rfl inlX8 0 (by decide) (v := .ref (M + 1)) rfl kw7_6 rfl dX8_knock_213 ?_
                      refine lv_iconst (v := (nI 0)) S.1 S.2.1 dX8_knock_216 (by decide) ?_
                      refine lv_dup2_11 S.1 S.2.1 dX8_knock_217 rfl rfl ?_
                      refine x_iald S hE (hs) 0 rfl (by decide) (by decide) dX8_knock_218 ?_
                      refine x_top (y := (nI n)) (hn) ?_
                      refine lv_iconst (v := (nI 1)) S.1 S.2.1 dX8_knock_219 (by decide) ?_
                      refine lv_iadd S.1 S.2.1 dX8_knock_220 ?_
                      refine x_top (y := (nI (n + 1))) (nI_add n 1) ?_
                      refine x_iast S hE hS (bkM (k := 1) rfl (by decide)) (hs) 0 rfl (by decide) (by decide) dX8_knock_221 (fun H locs hX hO1 hS => ?_)
                      have hO := hO.tr hO1 (fun q h => bkM (k := 1) h (by decide))
                      have ho := va_at.kept ho (hO1.2 (M) (fun z => by have z : M = M + 1 := z; omega))
                      have hp := va_at.kept hp (hO1.2 (M + 2) (fun z => by have z : M + 2 = M + 1 := z; omega))
                      have hd3 := va_at.kept hd3 (hO1.2 (M + 3) (fun z => by have z : M + 3 = M + 1 := z; omega))
                      have ht := va_at.kept ht (hO1.2 (M + 4) (fun z => by have z : M + 4 = M + 1 := z; omega))
                      have hq5 := va_at.kept hq5 (hO1.2 (M + 5) (fun z => by have z : M + 5 = M + 1 := z; omega))
                      have hq6 := va_at.kept hq6 (hO1.2 (M + 6) (fun z => by have z : M + 6 = M + 1 := z; omega))
                      have hq7 := va_at.kept hq7 (hO1.2 (M + 7) (fun z => by have z : M + 7 = M + 1 := z; omega))
                      have hs : XI E (M + 1) 1670 (upd (nset (nset (nset (nset (nset (nset σ n 0 pa) n 1 qa) n 2 za) n 3 (nI 0)) n 4 (nI 0)) n 6 (nI 0)) 0 (nI (n + 1))) H := hX
                      refine lv_iload S.1 S.2.1 dX8_knock_222 (lv_at hl 2 rfl) ?_
                      refine lv_if_lt (tgt := 268) S.1 S.2.1 dX8_knock_224 rfl (fun h32 => ?_) (fun h32 => ?_)
                      · skip
                        refine lv_iload S.1 S.2.1 dX8_knock_268 (lv_at hl 1 rfl) ?_
                        refine lv_if_ne (tgt := 279) S.1 S.2.1 dX8_knock_270 rfl (fun h33 => ?_) (fun h33 => ?_)
                        · exact absurd h33 (by decide)
                        · skip
                          refine lv_aload_n S.1 S.2.1 dX8_knock_273 rfl (lv_at hl 5 rfl) ?_
                          refine lv_iload S.1 S.2.1 dX8_knock_274 (lv_at hl 0 rfl) ?_
                          refine xk_V (x_runV (As := [.int (nI n)]) (rest := []) S hE hS (fun q h => bkM (k := 1) h (by decide)) (c_X8_sings l E M (nI (hiLen np)) (nI ty) re (upd (nset (nset (nset (nset (nset (nset σ n 0 pa) n 1 qa) n 2 za) n 3 (nI 0)) n 4 (nI 0)) n 6 (nI 0)) 0 (nI (n + 1))) n _ ho hs (by omega)) kv_X8_sings kw14_7 kw14_8 kw14_9 (x_recv hE (ho) (ci := 8) rfl) ⟨Nat.le_of_ble_eq_true rfl, Nat.le_of_ble_eq_true rfl⟩ rfl rfl rfl hl.1 rfl (Nat.le_of_ble_eq_true rfl) dX8_knock_276 ⟨Nat.zero_le _, Nat.zero_le _⟩) hS (fun q h => bkM (k := 1) h (by decide)) (fun H locs hX hO1 hS => ?_)
                          have hO := hO.tr hO1 (fun q h => bkM (k := 1) h (by decide))
                          have ho := va_at.kept ho (hO1.2 (M) (fun z => by have z : M = M + 1 := z; omega))
                          have hp := va_at.kept hp (hO1.2 (M + 2) (fun z => by have z : M + 2 = M + 1 := z; omega))
                          have hd3 := va_at.kept hd3 (hO1.2 (M + 3) (fun z => by have z : M + 3 = M + 1 := z; omega))
                          have ht := va_at.kept ht (hO1.2 (M + 4) (fun z => by have z : M + 4 = M + 1 := z; omega))
                          have hq5 := va_at.kept hq5 (hO1.2 (M + 5) (fun z => by have z : M + 5 = M + 1 := z; omega))
                          have hq6 := va_at.kept hq6 (hO1.2 (M + 6) (fun z => by have z : M + 6 = M + 1 := z; omega))
                          have hq7 := va_at.kept hq7 (hO1.2 (M + 7) (fun z => by have z : M + 7 = M + 1 := z; omega))
                          have hs : XI E (M + 1) 1670 (rfSings (upd (nset (nset (nset (nset (nset (nset σ n 0 pa) n 1 qa) n 2 za) n 3 (nI 0)) n 4 (nI 0)) n 6 (nI 0)) 0 (nI (n + 1))) n) H := hX
                          refine lv_iload S.1 S.2.1 dX8_knock_279 (lv_at hl 0 rfl) ?_
                          subst hQ
                          refine x_retW S hr hlk (rfl) hS hO ?_ dX8_knock_281
                          exact (show rfKn σ n pa qa za = ((rfSings (upd (nset (nset (nset (nset (nset (nset σ n 0 pa) n 1 qa) n 2 za) n 3 (nI 0)) n 4 (nI 0)) n 6 (nI 0)) 0 (nI (n + 1))) n), (nI n), true) from by unfold rfKn; rw [if_pos ⟨h1, h2, h3⟩, hv1]; show rfKnN σ n pa qa za = _; unfold rfKnN; rw [if_neg (fun z => h30 (by rw [z])), if_pos (i_nle h5)]; first | done | rfl) ▸ ⟨rfl, ⟨_, ho, hs, hp, ⟨_, hd3⟩, ht, ⟨_, hq5⟩, ⟨_, hq6⟩, ⟨_, hq7⟩⟩⟩
                      · exact absurd h32 (by decide)
                    · exact absurd h31 (by decide)
                · exact absurd h29 (by decide)
              · exact absurd h28 (by decide)
          · exact absurd h4 (by decide)
        · rw [hv1] at hl
          have hl : lv_has ls 9 [(4, .int (nI j1)), (0, .ref M), (1, .int pa), (2, .int qa), (3, .int za)] := hl
          have j1b := rfV_lt hv1
          refine lv_iload S.1 S.2.1 dX8_knock_39 (lv_at hl 0 rfl) ?_
          refine lv_if_lt (tgt := 58) S.1 S.2.1 dX8_knock_41 rfl (fun h34 => ?_) (fun h34 => ?_)
          · exact absurd h34 (nI_pos (by omega))
          · skip
            refine lv_aload_n S.1 S.2.1 dX8_knock_44 rfl (lv_at hl 1 rfl) ?_
            refine xk_V (x_runV (As := []) (rest := []) S hE hS (fun q h => h.elim (fun h => bkM (k := 0) h (by decide)) (fun h => bkM (k := 2) h (by decide))) (c_X8_changes l E M (nI ty) re np σ η _ ho hs hp hnp) kv_X8_changes kw13_2 kw13_3 kw13_4 (x_recv hE (ho) (ci := 8) rfl) ⟨Nat.le_of_ble_eq_true rfl, Nat.le_of_ble_eq_true rfl⟩ rfl rfl rfl hl.1 rfl (Nat.le_of_ble_eq_true rfl) dX8_knock_45 ⟨Nat.zero_le _, Nat.zero_le _⟩) hS (fun q h => h.elim (fun h => bkM (k := 0) h (by decide)) (fun h => bkM (k := 2) h (by decide))) (fun H locs hX hO1 hS => ?_)
            have hO := hO.tr hO1 (fun q h => h.elim (fun h => bkM (k := 0) h (by decide)) (fun h => bkM (k := 2) h (by decide)))
            have hs := va_at.kept hs (hO1.2 (M + 1) (fun z => by rcases z with z | z <;> omega))
            have hd3 := va_at.kept hd3 (hO1.2 (M + 3) (fun z => by rcases z with z | z <;> omega))
            have ht := va_at.kept ht (hO1.2 (M + 4) (fun z => by rcases z with z | z <;> omega))
            have hq5 := va_at.kept hq5 (hO1.2 (M + 5) (fun z => by rcases z with z | z <;> omega))
            have hq6 := va_at.kept hq6 (hO1.2 (M + 6) (fun z => by rcases z with z | z <;> omega))
            have hq7 := va_at.kept hq7 (hO1.2 (M + 7) (fun z => by rcases z with z | z <;> omega))
            obtain ⟨ho, hp⟩ := hX
            refine lv_aload_n S.1 S.2.1 dX8_knock_48 rfl (lv_at hl 1 rfl) ?_
            refine lv_iload S.1 S.2.1 dX8_knock_49 (lv_at hl 0 rfl) ?_
            refine lv_iload_n S.1 S.2.1 dX8_knock_51 rfl (lv_at hl 4 rfl) ?_
            refine xk_V (x_runV (As := [.int (nI j1), .int za]) (rest := []) S hE hS (fun q h => bkM (k := 1) h (by decide)) (c_X8_anew l E M (nI (hiLen np)) (nI ty) re σ j1 za _ ho hs (by omega)) kv_X8_anew kw13_7 kw13_8 kw13_9 (x_recv hE (ho) (ci := 8) rfl) ⟨Nat.le_of_ble_eq_true rfl, Nat.le_of_ble_eq_true rfl⟩ rfl rfl rfl hl.1 rfl (Nat.le_of_ble_eq_true rfl) dX8_knock_52 ⟨Nat.zero_le _, Nat.zero_le _⟩) hS (fun q h => bkM (k := 1) h (by decide)) (fun H locs hX hO1 hS => ?_)
            have hO := hO.tr hO1 (fun q h => bkM (k := 1) h (by decide))
            have ho := va_at.kept ho (hO1.2 (M) (fun z => by have z : M = M + 1 := z; omega))
            have hp := va_at.kept hp (hO1.2 (M + 2) (fun z => by have z : M + 2 = M + 1 := z; omega))
            have hd3 := va_at.kept hd3 (hO1.2 (M + 3) (fun z => by have z : M + 3 = M + 1 := z; omega))
            have ht := va_at.kept ht (hO1.2 (M + 4) (fun z => by have z : M + 4 = M + 1 := z; omega))
            have hq5 := va_at.kept hq5 (hO1.2 (M + 5) (fun z => by have z : M + 5 = M + 1 := z; omega))
            have hq6 := va_at.kept hq6 (hO1.2 (M + 6) (fun z => by have z : M + 6 = M + 1 := z; omega))
            have hq7 := va_at.kept hq7 (hO1.2 (M + 7) (fun z => by have z : M + 7 = M + 1 := z; omega))
            have hs : XI E (M + 1) 1670 (rfAnew σ j1 za) H := hX
            have hn : (rfAnew σ j1 za) 0 = nI n := (rfAnew_0 (by decide)).trans hn
            refine lv_iload S.1 S.2.1 dX8_knock_55 (lv_at hl 0 rfl) ?_
            subst hQ
            refine x_retW S hr hlk (rfl) hS hO ?_ dX8_knock_57
            exact (show rfKn σ n pa qa za = ((rfAnew σ j1 za), (nI j1), true) from by unfold rfKn; rw [if_pos ⟨h1, h2, h3⟩, hv1]; first | done | rfl) ▸ ⟨rfl, ⟨_, ho, hs, hp, ⟨_, hd3⟩, ht, ⟨_, hq5⟩, ⟨_, hq6⟩, ⟨_, hq7⟩⟩⟩
      · skip
        have h3 := bI_0 h3
        refine lv_iconst (v := (-1)) S.1 S.2.1 dX8_knock_29 (by decide) ?_
        subst hQ
        refine x_retW S hr hlk (rfl) hS hO ?_ dX8_knock_30
        exact (show rfKn σ n pa qa za = (σ, (-1), false) from by unfold rfKn; rw [if_neg (fun z => h3 z.2.2)]; first | done | rfl) ▸ ⟨rfl, ⟨_, ho, hs, hp, ⟨_, hd3⟩, ht, ⟨_, hq5⟩, ⟨_, hq6⟩, ⟨_, hq7⟩⟩⟩
abbrev rm_X8_release : Room := ({ frames := 3, cells := 0, slots := 0, locals := 67 } : Room)
set_option maxRecDepth 100000 in
set_option maxHeartbeats 600000 in
theorem c_X8_release (l : Launch) (E : XE) (M n : Nat) (σ : Nat → Int32) (η : Nat → Nat → Int32) (np : Nat) (tx : Nat → Int32) (ty : Nat) (pa : Int32) (qa : Int32) (H : Heap) (hP : RfP E M (σ, (η, np), (tx, ty)) H) (hn : σ 0 = nI n) (hn2 : n ≤ 200) (hnp : np ≤ 4) : Wr l E yX8_release cX8_release 5 (some .int) rm_X8_release [.ref M, .int pa, .int qa] H (bk M 8) (fun v H1 => v = (rfRl σ n pa qa).2.1 ∧ RfP E M (rfMu σ η np tx ty (rfRl σ n pa qa)) H1) := by
  refine met_of (by decide) (Nat.le_of_ble_eq_true rfl) (fun p e s m args below meth c hBD Q hQ ls hl => ?_)
  obtain ⟨S, hr, hlk, hnm, hE, hH⟩ := hBD
  subst hH
  have hl : lv_has ls 5 [(0, .ref M), (1, .int pa), (2, .int qa)] := hl
  have hO : Out (bk M 8) s.heap s.heap := Out.rf
  have hS : va_S (bk M 8) s.heap s.heap [] := va_S.rf
  obtain ⟨re, ho, hs, hp, ⟨f3, hd3⟩, ht, ⟨f5, hq5⟩, ⟨f6, hq6⟩, ⟨f7, hq7⟩⟩ := hP
  have ho : RfO E M (nI np) (nI ty) re s.heap := ho
  have hs : XI E (M + 1) 1670 σ s.heap := hs
  have hp : XI E (M + 2) 6680 (rfFl η) s.heap := hp
  have ht : XI E (M + 4) 60 tx s.heap := ht
  refine lv_iload_n S.1 S.2.1 dX8_release_0 rfl (lv_at hl 1 rfl) ?_
  refine lv_iconst (v := (nI 0)) S.1 S.2.1 dX8_release_1 (by decide) ?_
  refine lv_iconst (v := (nI 3)) S.1 S.2.1 dX8_release_2 (by decide) ?_
  refine xk_R (v := (bI ((nI 0) ≤ pa ∧ pa ≤ (nI 3)))) (x_runS (As := [.int pa, .int (nI 0), .int (nI 3)]) (rest := []) S hE hS (fun _ h => h.elim) (c_X8_in l E pa (nI 0) (nI 3) _) kv_X8_in kw12_11 kw12_12 ⟨Nat.le_of_ble_eq_true rfl, Nat.le_of_ble_eq_true rfl⟩ rfl rfl rfl hl.1 rfl (Nat.le_of_ble_eq_true rfl) dX8_release_3 ⟨Nat.zero_le _, Nat.zero_le _⟩) ?_
  refine lv_if_eq (tgt := 19) S.1 S.2.1 dX8_release_6 rfl (fun h1 => ?_) (fun h1 => ?_)
  · skip
    have h1 := bI_0 h1
    refine lv_iconst (v := (-1)) S.1 S.2.1 dX8_release_19 (by decide) ?_
    subst hQ
    refine x_retW S hr hlk (rfl) hS hO ?_ dX8_release_20
    exact (show rfRl σ n pa qa = (σ, (-1), false) from by unfold rfRl; rw [if_neg (fun z => h1 z.1)]; first | done | rfl) ▸ ⟨rfl, ⟨_, ho, hs, hp, ⟨_, hd3⟩, ht, ⟨_, hq5⟩, ⟨_, hq6⟩, ⟨_, hq7⟩⟩⟩
  · skip
    have h1 := bI_n0 h1
    refine lv_iload_n S.1 S.2.1 dX8_release_9 rfl (lv_at hl 2 rfl) ?_
    refine lv_iconst (v := (nI 0)) S.1 S.2.1 dX8_release_10 (by decide) ?_
    refine lv_bipush (v := (nI 127)) S.1 S.2.1 dX8_release_11 (by decide) ?_
    refine xk_R (v := (bI ((nI 0) ≤ qa ∧ qa ≤ (nI 127)))) (x_runS (As := [.int qa, .int (nI 0), .int (nI 127)]) (rest := []) S hE hS (fun _ h => h.elim) (c_X8_in l E qa (nI 0) (nI 127) _) kv_X8_in kw12_11 kw12_12 ⟨Nat.le_of_ble_eq_true rfl, Nat.le_of_ble_eq_true rfl⟩ rfl rfl rfl hl.1 rfl (Nat.le_of_ble_eq_true rfl) dX8_release_13 ⟨Nat.zero_le _, Nat.zero_le _⟩) ?_
    refine lv_if_ne (tgt := 21) S.1 S.2.1 dX8_release_16 rfl (fun h2 => ?_) (fun h2 => ?_)
    · skip
      have h2 := bI_n0 h2
      refine lv_aload_n S.1 S.2.1 dX8_release_21 rfl (lv_at hl 0 rfl) ?_
      refine lv_iload_n S.1 S.2.1 dX8_release_22 rfl (lv_at hl 1 rfl) ?_
      refine lv_iload_n S.1 S.2.1 dX8_release_23 rfl (lv_at hl 2 rfl) ?_
      refine xk_R (v := (oi (rfV σ pa qa n))) (x_runV (As := [.int pa, .int qa]) (rest := []) S hE hS (fun _ h => h.elim) (c_X8_voiceOf l E M (nI np) (nI ty) re σ pa qa n _ ho hs hn hn2) kv_X8_voiceOf kw12_14 kw12_15 kw12_16 (x_recv hE (ho) (ci := 8) rfl) ⟨Nat.le_of_ble_eq_true rfl, Nat.le_of_ble_eq_true rfl⟩ rfl rfl rfl hl.1 rfl (Nat.le_of_ble_eq_true rfl) dX8_release_24 ⟨Nat.zero_le _, Nat.zero_le _⟩) ?_
      refine lv_istore_n S.1 S.2.1 dX8_release_27 rfl hl (by decide) rfl (fun ls hl => ?_)
      have hl : lv_has ls 5 [(3, .int (oi (rfV σ pa qa n))), (0, .ref M), (1, .int pa), (2, .int qa)] := hl
      rcases hv1 : rfV σ pa qa n with _ | j1
      · rw [hv1] at hl
        have hl : lv_has ls 5 [(3, .int (-4)), (0, .ref M), (1, .int pa), (2, .int qa)] := hl
        refine lv_iload_n S.1 S.2.1 dX8_release_28 rfl (lv_at hl 0 rfl) ?_
        refine lv_if_lt (tgt := 84) S.1 S.2.1 dX8_release_29 rfl (fun h3 => ?_) (fun h3 => ?_)
        · skip
          refine lv_iconst (v := (nI 0)) S.1 S.2.1 dX8_release_84 (by decide) ?_
          refine lv_istore S.1 S.2.1 dX8_release_85 hl (by decide) rfl (fun ls hl => ?_)
          have hl : lv_has ls 5 [(4, .int (nI 0)), (3, .int (-4)), (0, .ref M), (1, .int pa), (2, .int qa)] := hl
          have hloop87 : ∀ (d : Nat) (i : Nat) (H : Heap) (locs : List Loc) (ls : Array Slot), n - i = d → i ≤ n → rfWt σ pa qa (n - i) i = rfWt σ pa qa n 0 → RfO E M (nI np) (nI ty) re H → XI E (M + 1) 1670 σ H → XI E (M + 2) 6680 (rfFl η) H → XI E (M + 3) 1670 f3 H → XI E (M + 4) 60 tx H → XI E (M + 5) 4 f5 H → XI E (M + 6) 7 f6 H → XI E (M + 7) 7 f7 H → Out (bk M 8) s.heap H → va_S (bk M 8) s.heap H locs → lv_has ls 5 [(4, .int (nI i)), (0, .ref M), (1, .int pa), (2, .int qa)] → W p l e rm_X8_release s m args below meth c H locs 0 0 Q (F0 m 87 ls []) := by
            intro d
            induction d using Nat.strongRecOn with
            | ind d ih =>
              intro i H locs ls hd hi hRi ho hs hp hd3 ht hq5 hq6 hq7 hO hS hl
              refine lv_iload S.1 S.2.1 dX8_release_87 (lv_at hl 0 rfl) ?_
              refine lv_aload_n S.1 S.2.1 dX8_release_89 rfl (lv_at hl 1 rfl) ?_
              refine x_get S hE (ho) (C := RX8) (T := TX8) (N := 10) rfl inlX8 0 (by decide) (v := .ref (M + 1)) rfl kw7_6 rfl dX8_release_90 ?_
              refine lv_iconst (v := (nI 0)) S.1 S.2.1 dX8_release_93 (by decide) ?_
              refine x_iald S hE (hs) 0 rfl (by decide) (by decide) dX8_release_94 ?_
              refine x_top (y := (nI n)) (hn) ?_
              refine lv_icmp_ge (tgt := 152) S.1 S.2.1 dX8_release_95 rfl (fun h4 => ?_) (fun h4 => ?_)
              · have hge : i = n := (by have := ge_of_le (by omega) (by omega) h4; omega)
                have hR : rfWt σ pa qa n 0 = none := by rw [← hRi, hge, Nat.sub_self]; rfl
                refine lv_bipush (v := (-2)) S.1 S.2.1 dX8_release_152 (by decide) ?_
                subst hQ
                refine x_retW S hr hlk (rfl) hS hO ?_ dX8_release_154
                exact (show rfRl σ n pa qa = (σ, (-2), false) from by unfold rfRl; rw [if_pos ⟨h1, h2⟩, hv1]; show rfRlW σ n pa qa = _; unfold rfRlW; rw [hR]; first | done | rfl) ▸ ⟨rfl, ⟨_, ho, hs, hp, ⟨_, hd3⟩, ht, ⟨_, hq5⟩, ⟨_, hq6⟩, ⟨_, hq7⟩⟩⟩
              · have hlt : i < n := lt_of_nle (by omega) (by omega) h4
                refine lv_aload_n S.1 S.2.1 dX8_release_98 rfl (lv_at hl 1 rfl) ?_
                refine lv_iload S.1 S.2.1 dX8_release_99 (lv_at hl 0 rfl) ?_
                refine lv_iconst (v := (nI 3)) S.1 S.2.1 dX8_release_101 (by decide) ?_
                refine xk_R (v := (nf σ i 3)) (x_runV (As := [.int (nI i), .int (nI 3)]) (rest := []) S hE hS (fun _ h => h.elim) (c_X8_of l E M (nI np) (nI ty) re σ i 3 _ ho hs (by omega) (by omega)) kv_X8_of kw12_22 kw12_23 kw13_0 (x_recv hE (ho) (ci := 8) rfl) ⟨Nat.le_of_ble_eq_true rfl, Nat.le_of_ble_eq_true rfl⟩ rfl rfl rfl hl.1 rfl (Nat.le_of_ble_eq_true rfl) dX8_release_102 ⟨Nat.zero_le _, Nat.zero_le _⟩) ?_
                refine lv_if_ne (tgt := 146) S.1 S.2.1 dX8_release_105 rfl (fun h5 => ?_) (fun h5 => ?_)
                · skip
                  refine lv_iinc (k := 0) (v := (nI (i + 1))) S.1 S.2.1 dX8_release_146 hl rfl (iincP i 1) (by decide) rfl (fun ls hl => ?_)
                  have hl : lv_has ls 5 [(4, .int (nI (i + 1))), (0, .ref M), (1, .int pa), (2, .int qa)] := hl
                  refine lv_goto (tgt := 87) S.1 S.2.1 dX8_release_149 rfl ?_
                  have hR1 : rfWt σ pa qa (n - (i + 1)) (i + 1) = rfWt σ pa qa n 0 := by rw [← hRi, show n - i = (n - (i + 1)) + 1 from by omega, rfWt, if_neg (fun z => h5 z.1)]
                  exact ih _ (by omega) (i + 1) _ _ ls rfl (by omega) (hR1) (ho) (hs) (hp) (hd3) (ht) (hq5) (hq6) (hq7) (hO) (hS) (lv_sub hl [0, 1, 2, 3] rfl)
                · skip
                  refine lv_aload_n S.1 S.2.1 dX8_release_108 rfl (lv_at hl 1 rfl) ?_
                  refine lv_iload S.1 S.2.1 dX8_release_109 (lv_at hl 0 rfl) ?_
                  refine lv_iconst (v := (nI 0)) S.1 S.2.1 dX8_release_111 (by decide) ?_
                  refine xk_R (v := (nf σ i 0)) (x_runV (As := [.int (nI i), .int (nI 0)]) (rest := []) S hE hS (fun _ h => h.elim) (c_X8_of l E M (nI np) (nI ty) re σ i 0 _ ho hs (by omega) (by omega)) kv_X8_of kw12_22 kw12_23 kw13_0 (x_recv hE (ho) (ci := 8) rfl) ⟨Nat.le_of_ble_eq_true rfl, Nat.le_of_ble_eq_true rfl⟩ rfl rfl rfl hl.1 rfl (Nat.le_of_ble_eq_true rfl) dX8_release_112 ⟨Nat.zero_le _, Nat.zero_le _⟩) ?_
                  refine lv_iload_n S.1 S.2.1 dX8_release_115 rfl (lv_at hl 2 rfl) ?_
                  refine lv_icmp_ne (tgt := 146) S.1 S.2.1 dX8_release_116 rfl (fun h6 => ?_) (fun h6 => ?_)
                  · skip
                    refine lv_iinc (k := 0) (v := (nI (i + 1))) S.1 S.2.1 dX8_release_146 hl rfl (iincP i 1) (by decide) rfl (fun ls hl => ?_)
                    have hl : lv_has ls 5 [(4, .int (nI (i + 1))), (0, .ref M), (1, .int pa), (2, .int qa)] := hl
                    refine lv_goto (tgt := 87) S.1 S.2.1 dX8_release_149 rfl ?_
                    have hR1 : rfWt σ pa qa (n - (i + 1)) (i + 1) = rfWt σ pa qa n 0 := by rw [← hRi, show n - i = (n - (i + 1)) + 1 from by omega, rfWt, if_neg (fun z => h6 z.2.1)]
                    exact ih _ (by omega) (i + 1) _ _ ls rfl (by omega) (hR1) (ho) (hs) (hp) (hd3) (ht) (hq5) (hq6) (hq7) (hO) (hS) (lv_sub hl [0, 1, 2, 3] rfl)
                  · skip
                    refine lv_aload_n S.1 S.2.1 dX8_release_119 rfl (lv_at hl 1 rfl) ?_
                    refine lv_iload S.1 S.2.1 dX8_release_120 (lv_at hl 0 rfl) ?_
                    refine lv_iconst (v := (nI 1)) S.1 S.2.1 dX8_release_122 (by decide) ?_
                    refine xk_R (v := (nf σ i 1)) (x_runV (As := [.int (nI i), .int (nI 1)]) (rest := []) S hE hS (fun _ h => h.elim) (c_X8_of l E M (nI np) (nI ty) re σ i 1 _ ho hs (by omega) (by omega)) kv_X8_of kw12_22 kw12_23 kw13_0 (x_recv hE (ho) (ci := 8) rfl) ⟨Nat.le_of_ble_eq_true rfl, Nat.le_of_ble_eq_true rfl⟩ rfl rfl rfl hl.1 rfl (Nat.le_of_ble_eq_true rfl) dX8_release_123 ⟨Nat.zero_le _, Nat.zero_le _⟩) ?_
                    refine lv_iload_n S.1 S.2.1 dX8_release_126 rfl (lv_at hl 3 rfl) ?_
                    refine lv_icmp_ne (tgt := 146) S.1 S.2.1 dX8_release_127 rfl (fun h7 => ?_) (fun h7 => ?_)
                    · skip
                      refine lv_iinc (k := 0) (v := (nI (i + 1))) S.1 S.2.1 dX8_release_146 hl rfl (iincP i 1) (by decide) rfl (fun ls hl => ?_)
                      have hl : lv_has ls 5 [(4, .int (nI (i + 1))), (0, .ref M), (1, .int pa), (2, .int qa)] := hl
                      refine lv_goto (tgt := 87) S.1 S.2.1 dX8_release_149 rfl ?_
                      have hR1 : rfWt σ pa qa (n - (i + 1)) (i + 1) = rfWt σ pa qa n 0 := by rw [← hRi, show n - i = (n - (i + 1)) + 1 from by omega, rfWt, if_neg (fun z => h7 z.2.2)]
                      exact ih _ (by omega) (i + 1) _ _ ls rfl (by omega) (hR1) (ho) (hs) (hp) (hd3) (ht) (hq5) (hq6) (hq7) (hO) (hS) (lv_sub hl [0, 1, 2, 3] rfl)
                    · have hR : rfWt σ pa qa n 0 = some i := by rw [← hRi, show n - i = (n - (i + 1)) + 1 from by omega, rfWt, if_pos ⟨h5, h6, h7⟩]
                      refine lv_aload_n S.1 S.2.1 dX8_release_130 rfl (lv_at hl 1 rfl) ?_
                      refine xk_V (x_runV (As := []) (rest := []) S hE hS (fun q h => h.elim (fun h => bkM (k := 0) h (by decide)) (fun h => bkM (k := 2) h (by decide))) (c_X8_changes l E M (nI ty) re np σ η _ ho hs hp hnp) kv_X8_changes kw13_2 kw13_3 kw13_4 (x_recv hE (ho) (ci := 8) rfl) ⟨Nat.le_of_ble_eq_true rfl, Nat.le_of_ble_eq_true rfl⟩ rfl rfl rfl hl.1 rfl (Nat.le_of_ble_eq_true rfl) dX8_release_131 ⟨Nat.zero_le _, Nat.zero_le _⟩) hS (fun q h => h.elim (fun h => bkM (k := 0) h (by decide)) (fun h => bkM (k := 2) h (by decide))) (fun H locs hX hO1 hS => ?_)
                      have hO := hO.tr hO1 (fun q h => h.elim (fun h => bkM (k := 0) h (by decide)) (fun h => bkM (k := 2) h (by decide)))
                      have hs := va_at.kept hs (hO1.2 (M + 1) (fun z => by rcases z with z | z <;> omega))
                      have hd3 := va_at.kept hd3 (hO1.2 (M + 3) (fun z => by rcases z with z | z <;> omega))
                      have ht := va_at.kept ht (hO1.2 (M + 4) (fun z => by rcases z with z | z <;> omega))
                      have hq5 := va_at.kept hq5 (hO1.2 (M + 5) (fun z => by rcases z with z | z <;> omega))
                      have hq6 := va_at.kept hq6 (hO1.2 (M + 6) (fun z => by rcases z with z | z <;> omega))
                      have hq7 := va_at.kept hq7 (hO1.2 (M + 7) (fun z => by rcases z with z | z <;> omega))
                      obtain ⟨ho, hp⟩ := hX
                      refine lv_aload_n S.1 S.2.1 dX8_release_134 rfl (lv_at hl 1 rfl) ?_
                      refine lv_iload S.1 S.2.1 dX8_release_135 (lv_at hl 0 rfl) ?_
                      refine lv_iconst (v := (nI 3)) S.1 S.2.1 dX8_release_137 (by decide) ?_
                      refine lv_bipush (v := (nI 6)) S.1 S.2.1 dX8_release_138 (by decide) ?_
                      refine xk_V (x_runV (As := [.int (nI i), .int (nI 3), .int (nI 6)]) (rest := []) S hE hS (fun q h => bkM (k := 1) h (by decide)) (c_X8_puts l E M (nI (hiLen np)) (nI ty) re σ i 3 (nI 6) _ ho hs (by omega) (by omega)) kv_X8_puts kw13_11 kw13_12 kw13_13 (x_recv hE (ho) (ci := 8) rfl) ⟨Nat.le_of_ble_eq_true rfl, Nat.le_of_ble_eq_true rfl⟩ rfl rfl rfl hl.1 rfl (Nat.le_of_ble_eq_true rfl) dX8_release_140 ⟨Nat.zero_le _, Nat.zero_le _⟩) hS (fun q h => bkM (k := 1) h (by decide)) (fun H locs hX hO1 hS => ?_)
                      have hO := hO.tr hO1 (fun q h => bkM (k := 1) h (by decide))
                      have ho := va_at.kept ho (hO1.2 (M) (fun z => by have z : M = M + 1 := z; omega))
                      have hp := va_at.kept hp (hO1.2 (M + 2) (fun z => by have z : M + 2 = M + 1 := z; omega))
                      have hd3 := va_at.kept hd3 (hO1.2 (M + 3) (fun z => by have z : M + 3 = M + 1 := z; omega))
                      have ht := va_at.kept ht (hO1.2 (M + 4) (fun z => by have z : M + 4 = M + 1 := z; omega))
                      have hq5 := va_at.kept hq5 (hO1.2 (M + 5) (fun z => by have z : M + 5 = M + 1 := z; omega))
                      have hq6 := va_at.kept hq6 (hO1.2 (M + 6) (fun z => by have z : M + 6 = M + 1 := z; omega))
                      have hq7 := va_at.kept hq7 (hO1.2 (M + 7) (fun z => by have z : M + 7 = M + 1 := z; omega))
                      have hs : XI E (M + 1) 1670 (nset σ i 3 (nI 6)) H := hX
                      have hn : (nset σ i 3 (nI 6)) 0 = nI n := ((nset_lo (by decide))).trans hn
                      refine lv_iload S.1 S.2.1 dX8_release_143 (lv_at hl 0 rfl) ?_
                      subst hQ
                      refine x_retW S hr hlk (rfl) hS hO ?_ dX8_release_145
                      exact (show rfRl σ n pa qa = ((nset σ i 3 (nI 6)), (nI i), true) from by unfold rfRl; rw [if_pos ⟨h1, h2⟩, hv1]; show rfRlW σ n pa qa = _; unfold rfRlW; rw [hR]; first | done | rfl) ▸ ⟨rfl, ⟨_, ho, hs, hp, ⟨_, hd3⟩, ht, ⟨_, hq5⟩, ⟨_, hq6⟩, ⟨_, hq7⟩⟩⟩
          exact hloop87 _ 0 _ _ ls rfl (Nat.zero_le _) (rfl) (ho) (hs) (hp) (hd3) (ht) (hq5) (hq6) (hq7) (hO) (hS) (lv_sub hl [0, 2, 3, 4] rfl)
        · exact absurd h3 (by decide)
      · rw [hv1] at hl
        have hl : lv_has ls 5 [(3, .int (nI j1)), (0, .ref M), (1, .int pa), (2, .int qa)] := hl
        have j1b := rfV_lt hv1
        refine lv_iload_n S.1 S.2.1 dX8_release_28 rfl (lv_at hl 0 rfl) ?_
        refine lv_if_lt (tgt := 84) S.1 S.2.1 dX8_release_29 rfl (fun h8 => ?_) (fun h8 => ?_)
        · exact absurd h8 (nI_pos (by omega))
        · skip
          refine lv_aload_n S.1 S.2.1 dX8_release_32 rfl (lv_at hl 1 rfl) ?_
          refine lv_iload_n S.1 S.2.1 dX8_release_33 rfl (lv_at hl 0 rfl) ?_
          refine lv_iconst (v := (nI 3)) S.1 S.2.1 dX8_release_34 (by decide) ?_
          refine xk_R (v := (nf σ j1 3)) (x_runV (As := [.int (nI j1), .int (nI 3)]) (rest := []) S hE hS (fun _ h => h.elim) (c_X8_of l E M (nI np) (nI ty) re σ j1 3 _ ho hs (by omega) (by omega)) kv_X8_of kw12_22 kw12_23 kw13_0 (x_recv hE (ho) (ci := 8) rfl) ⟨Nat.le_of_ble_eq_true rfl, Nat.le_of_ble_eq_true rfl⟩ rfl rfl rfl hl.1 rfl (Nat.le_of_ble_eq_true rfl) dX8_release_35 ⟨Nat.zero_le _, Nat.zero_le _⟩) ?_
          refine lv_iconst (v := (nI 4)) S.1 S.2.1 dX8_release_38 (by decide) ?_
          refine lv_icmp_eq (tgt := 84) S.1 S.2.1 dX8_release_39 rfl (fun h9 => ?_) (fun h9 => ?_)
          · skip
            refine lv_iconst (v := (nI 0)) S.1 S.2.1 dX8_release_84 (by decide) ?_
            refine lv_istore S.1 S.2.1 dX8_release_85 hl (by decide) rfl (fun ls hl => ?_)
            have hl : lv_has ls 5 [(4, .int (nI 0)), (3, .int (nI j1)), (0, .ref M), (1, .int pa), (2, .int qa)] := hl
            have hloop87 : ∀ (d : Nat) (i : Nat) (H : Heap) (locs : List Loc) (ls : Array Slot), n - i = d → i ≤ n → rfWt σ pa qa (n - i) i = rfWt σ pa qa n 0 → RfO E M (nI np) (nI ty) re H → XI E (M + 1) 1670 σ H → XI E (M + 2) 6680 (rfFl η) H → XI E (M + 3) 1670 f3 H → XI E (M + 4) 60 tx H → XI E (M + 5) 4 f5 H → XI E (M + 6) 7 f6 H → XI E (M + 7) 7 f7 H → Out (bk M 8) s.heap H → va_S (bk M 8) s.heap H locs → lv_has ls 5 [(4, .int (nI i)), (0, .ref M), (1, .int pa), (2, .int qa)] → W p l e rm_X8_release s m args below meth c H locs 0 0 Q (F0 m 87 ls []) := by
              intro d
              induction d using Nat.strongRecOn with
              | ind d ih =>
                intro i H locs ls hd hi hRi ho hs hp hd3 ht hq5 hq6 hq7 hO hS hl
                refine lv_iload S.1 S.2.1 dX8_release_87 (lv_at hl 0 rfl) ?_
                refine lv_aload_n S.1 S.2.1 dX8_release_89 rfl (lv_at hl 1 rfl) ?_
                refine x_get S hE (ho) (C := RX8) (T := TX8) (N := 10) rfl inlX8 0 (by decide) (v := .ref (M + 1)) rfl kw7_6 rfl dX8_release_90 ?_
                refine lv_iconst (v := (nI 0)) S.1 S.2.1 dX8_release_93 (by decide) ?_
                refine x_iald S hE (hs) 0 rfl (by decide) (by decide) dX8_release_94 ?_
                refine x_top (y := (nI n)) (hn) ?_
                refine lv_icmp_ge (tgt := 152) S.1 S.2.1 dX8_release_95 rfl (fun h10 => ?_) (fun h10 => ?_)
                · have hge : i = n := (by have := ge_of_le (by omega) (by omega) h10; omega)
                  have hR : rfWt σ pa qa n 0 = none := by rw [← hRi, hge, Nat.sub_self]; rfl
                  refine lv_bipush (v := (-2)) S.1 S.2.1 dX8_release_152 (by decide) ?_
                  subst hQ
                  refine x_retW S hr hlk (rfl) hS hO ?_ dX8_release_154
                  exact (show rfRl σ n pa qa = (σ, (-2), false) from by unfold rfRl; rw [if_pos ⟨h1, h2⟩, hv1]; show (if ¬ nf σ j1 3 = nI 4 ∧ nf σ j1 6 = 0 then (if σ 2 = nI 1 then ((nset σ j1 6 (nI 1), nI j1, true) : KR) else (rfFades σ j1, nI j1, true)) else rfRlW σ n pa qa) = _; rw [if_neg (fun z => z.1 h9)]; show rfRlW σ n pa qa = _; unfold rfRlW; rw [hR]; first | done | rfl) ▸ ⟨rfl, ⟨_, ho, hs, hp, ⟨_, hd3⟩, ht, ⟨_, hq5⟩, ⟨_, hq6⟩, ⟨_, hq7⟩⟩⟩
                · have hlt : i < n := lt_of_nle (by omega) (by omega) h10
                  refine lv_aload_n S.1 S.2.1 dX8_release_98 rfl (lv_at hl 1 rfl) ?_
                  refine lv_iload S.1 S.2.1 dX8_release_99 (lv_at hl 0 rfl) ?_
                  refine lv_iconst (v := (nI 3)) S.1 S.2.1 dX8_release_101 (by decide) ?_
                  refine xk_R (v := (nf σ i 3)) (x_runV (As := [.int (nI i), .int (nI 3)]) (rest := []) S hE hS (fun _ h => h.elim) (c_X8_of l E M (nI np) (nI ty) re σ i 3 _ ho hs (by omega) (by omega)) kv_X8_of kw12_22 kw12_23 kw13_0 (x_recv hE (ho) (ci := 8) rfl) ⟨Nat.le_of_ble_eq_true rfl, Nat.le_of_ble_eq_true rfl⟩ rfl rfl rfl hl.1 rfl (Nat.le_of_ble_eq_true rfl) dX8_release_102 ⟨Nat.zero_le _, Nat.zero_le _⟩) ?_
                  refine lv_if_ne (tgt := 146) S.1 S.2.1 dX8_release_105 rfl (fun h11 => ?_) (fun h11 => ?_)
                  · skip
                    refine lv_iinc (k := 0) (v := (nI (i + 1))) S.1 S.2.1 dX8_release_146 hl rfl (iincP i 1) (by decide) rfl (fun ls hl => ?_)
                    have hl : lv_has ls 5 [(4, .int (nI (i + 1))), (0, .ref M), (1, .int pa), (2, .int qa)] := hl
                    refine lv_goto (tgt := 87) S.1 S.2.1 dX8_release_149 rfl ?_
                    have hR1 : rfWt σ pa qa (n - (i + 1)) (i + 1) = rfWt σ pa qa n 0 := by rw [← hRi, show n - i = (n - (i + 1)) + 1 from by omega, rfWt, if_neg (fun z => h11 z.1)]
                    exact ih _ (by omega) (i + 1) _ _ ls rfl (by omega) (hR1) (ho) (hs) (hp) (hd3) (ht) (hq5) (hq6) (hq7) (hO) (hS) (lv_sub hl [0, 1, 2, 3] rfl)
                  · skip
                    refine lv_aload_n S.1 S.2.1 dX8_release_108 rfl (lv_at hl 1 rfl) ?_
                    refine lv_iload S.1 S.2.1 dX8_release_109 (lv_at hl 0 rfl) ?_
                    refine lv_iconst (v := (nI 0)) S.1 S.2.1 dX8_release_111 (by decide) ?_
                    refine xk_R (v := (nf σ i 0)) (x_runV (As := [.int (nI i), .int (nI 0)]) (rest := []) S hE hS (fun _ h => h.elim) (c_X8_of l E M (nI np) (nI ty) re σ i 0 _ ho hs (by omega) (by omega)) kv_X8_of kw12_22 kw12_23 kw13_0 (x_recv hE (ho) (ci := 8) rfl) ⟨Nat.le_of_ble_eq_true rfl, Nat.le_of_ble_eq_true rfl⟩ rfl rfl rfl hl.1 rfl (Nat.le_of_ble_eq_true rfl) dX8_release_112 ⟨Nat.zero_le _, Nat.zero_le _⟩) ?_
                    refine lv_iload_n S.1 S.2.1 dX8_release_115 rfl (lv_at hl 2 rfl) ?_
                    refine lv_icmp_ne (tgt := 146) S.1 S.2.1 dX8_release_116 rfl (fun h12 => ?_) (fun h12 => ?_)
                    · skip
                      refine lv_iinc (k := 0) (v := (nI (i + 1))) S.1 S.2.1 dX8_release_146 hl rfl (iincP i 1) (by decide) rfl (fun ls hl => ?_)
                      have hl : lv_has ls 5 [(4, .int (nI (i + 1))), (0, .ref M), (1, .int pa), (2, .int qa)] := hl
                      refine lv_goto (tgt := 87) S.1 S.2.1 dX8_release_149 rfl ?_
                      have hR1 : rfWt σ pa qa (n - (i + 1)) (i + 1) = rfWt σ pa qa n 0 := by rw [← hRi, show n - i = (n - (i + 1)) + 1 from by omega, rfWt, if_neg (fun z => h12 z.2.1)]
                      exact ih _ (by omega) (i + 1) _ _ ls rfl (by omega) (hR1) (ho) (hs) (hp) (hd3) (ht) (hq5) (hq6) (hq7) (hO) (hS) (lv_sub hl [0, 1, 2, 3] rfl)
                    · skip
                      refine lv_aload_n S.1 S.2.1 dX8_release_119 rfl (lv_at hl 1 rfl) ?_
                      refine lv_iload S.1 S.2.1 dX8_release_120 (lv_at hl 0 rfl) ?_
                      refine lv_iconst (v := (nI 1)) S.1 S.2.1 dX8_release_122 (by decide) ?_
                      refine xk_R (v := (nf σ i 1)) (x_runV (As := [.int (nI i), .int (nI 1)]) (rest := []) S hE hS (fun _ h => h.elim) (c_X8_of l E M (nI np) (nI ty) re σ i 1 _ ho hs (by omega) (by omega)) kv_X8_of kw12_22 kw12_23 kw13_0 (x_recv hE (ho) (ci := 8) rfl) ⟨Nat.le_of_ble_eq_true rfl, Nat.le_of_ble_eq_true rfl⟩ rfl rfl rfl hl.1 rfl (Nat.le_of_ble_eq_true rfl) dX8_release_123 ⟨Nat.zero_le _, Nat.zero_le _⟩) ?_
                      refine lv_iload_n S.1 S.2.1 dX8_release_126 rfl (lv_at hl 3 rfl) ?_
                      refine lv_icmp_ne (tgt := 146) S.1 S.2.1 dX8_release_127 rfl (fun h13 => ?_) (fun h13 => ?_)
                      · skip
                        refine lv_iinc (k := 0) (v := (nI (i + 1))) S.1 S.2.1 dX8_release_146 hl rfl (iincP i 1) (by decide) rfl (fun ls hl => ?_)
                        have hl : lv_has ls 5 [(4, .int (nI (i + 1))), (0, .ref M), (1, .int pa), (2, .int qa)] := hl
                        refine lv_goto (tgt := 87) S.1 S.2.1 dX8_release_149 rfl ?_
                        have hR1 : rfWt σ pa qa (n - (i + 1)) (i + 1) = rfWt σ pa qa n 0 := by rw [← hRi, show n - i = (n - (i + 1)) + 1 from by omega, rfWt, if_neg (fun z => h13 z.2.2)]
                        exact ih _ (by omega) (i + 1) _ _ ls rfl (by omega) (hR1) (ho) (hs) (hp) (hd3) (ht) (hq5) (hq6) (hq7) (hO) (hS) (lv_sub hl [0, 1, 2, 3] rfl)
                      · have hR : rfWt σ pa qa n 0 = some i := by rw [← hRi, show n - i = (n - (i + 1)) + 1 from by omega, rfWt, if_pos ⟨h11, h12, h13⟩]
                        refine lv_aload_n S.1 S.2.1 dX8_release_130 rfl (lv_at hl 1 rfl) ?_
                        refine xk_V (x_runV (As := []) (rest := []) S hE hS (fun q h => h.elim (fun h => bkM (k := 0) h (by decide)) (fun h => bkM (k := 2) h (by decide))) (c_X8_changes l E M (nI ty) re np σ η _ ho hs hp hnp) kv_X8_changes kw13_2 kw13_3 kw13_4 (x_recv hE (ho) (ci := 8) rfl) ⟨Nat.le_of_ble_eq_true rfl, Nat.le_of_ble_eq_true rfl⟩ rfl rfl rfl hl.1 rfl (Nat.le_of_ble_eq_true rfl) dX8_release_131 ⟨Nat.zero_le _, Nat.zero_le _⟩) hS (fun q h => h.elim (fun h => bkM (k := 0) h (by decide)) (fun h => bkM (k := 2) h (by decide))) (fun H locs hX hO1 hS => ?_)
                        have hO := hO.tr hO1 (fun q h => h.elim (fun h => bkM (k := 0) h (by decide)) (fun h => bkM (k := 2) h (by decide)))
                        have hs := va_at.kept hs (hO1.2 (M + 1) (fun z => by rcases z with z | z <;> omega))
                        have hd3 := va_at.kept hd3 (hO1.2 (M + 3) (fun z => by rcases z with z | z <;> omega))
                        have ht := va_at.kept ht (hO1.2 (M + 4) (fun z => by rcases z with z | z <;> omega))
                        have hq5 := va_at.kept hq5 (hO1.2 (M + 5) (fun z => by rcases z with z | z <;> omega))
                        have hq6 := va_at.kept hq6 (hO1.2 (M + 6) (fun z => by rcases z with z | z <;> omega))
                        have hq7 := va_at.kept hq7 (hO1.2 (M + 7) (fun z => by rcases z with z | z <;> omega))
                        obtain ⟨ho, hp⟩ := hX
                        refine lv_aload_n S.1 S.2.1 dX8_release_134 rfl (lv_at hl 1 rfl) ?_
                        refine lv_iload S.1 S.2.1 dX8_release_135 (lv_at hl 0 rfl) ?_
                        refine lv_iconst (v := (nI 3)) S.1 S.2.1 dX8_release_137 (by decide) ?_
                        refine lv_bipush (v := (nI 6)) S.1 S.2.1 dX8_release_138 (by decide) ?_
                        refine xk_V (x_runV (As := [.int (nI i), .int (nI 3), .int (nI 6)]) (rest := []) S hE hS (fun q h => bkM (k := 1) h (by decide)) (c_X8_puts l E M (nI (hiLen np)) (nI ty) re σ i 3 (nI 6) _ ho hs (by omega) (by omega)) kv_X8_puts kw13_11 kw13_12 kw13_13 (x_recv hE (ho) (ci := 8) rfl) ⟨Nat.le_of_ble_eq_true rfl, Nat.le_of_ble_eq_true rfl⟩ rfl rfl rfl hl.1 rfl (Nat.le_of_ble_eq_true rfl) dX8_release_140 ⟨Nat.zero_le _, Nat.zero_le _⟩) hS (fun q h => bkM (k := 1) h (by decide)) (fun H locs hX hO1 hS => ?_)
                        have hO := hO.tr hO1 (fun q h => bkM (k := 1) h (by decide))
                        have ho := va_at.kept ho (hO1.2 (M) (fun z => by have z : M = M + 1 := z; omega))
                        have hp := va_at.kept hp (hO1.2 (M + 2) (fun z => by have z : M + 2 = M + 1 := z; omega))
                        have hd3 := va_at.kept hd3 (hO1.2 (M + 3) (fun z => by have z : M + 3 = M + 1 := z; omega))
                        have ht := va_at.kept ht (hO1.2 (M + 4) (fun z => by have z : M + 4 = M + 1 := z; omega))
                        have hq5 := va_at.kept hq5 (hO1.2 (M + 5) (fun z => by have z : M + 5 = M + 1 := z; omega))
                        have hq6 := va_at.kept hq6 (hO1.2 (M + 6) (fun z => by have z : M + 6 = M + 1 := z; omega))
                        have hq7 := va_at.kept hq7 (hO1.2 (M + 7) (fun z => by have z : M + 7 = M + 1 := z; omega))
                        have hs : XI E (M + 1) 1670 (nset σ i 3 (nI 6)) H := hX
                        have hn : (nset σ i 3 (nI 6)) 0 = nI n := ((nset_lo (by decide))).trans hn
                        refine lv_iload S.1 S.2.1 dX8_release_143 (lv_at hl 0 rfl) ?_
                        subst hQ
                        refine x_retW S hr hlk (rfl) hS hO ?_ dX8_release_145
                        exact (show rfRl σ n pa qa = ((nset σ i 3 (nI 6)), (nI i), true) from by unfold rfRl; rw [if_pos ⟨h1, h2⟩, hv1]; show (if ¬ nf σ j1 3 = nI 4 ∧ nf σ j1 6 = 0 then (if σ 2 = nI 1 then ((nset σ j1 6 (nI 1), nI j1, true) : KR) else (rfFades σ j1, nI j1, true)) else rfRlW σ n pa qa) = _; rw [if_neg (fun z => z.1 h9)]; show rfRlW σ n pa qa = _; unfold rfRlW; rw [hR]; first | done | rfl) ▸ ⟨rfl, ⟨_, ho, hs, hp, ⟨_, hd3⟩, ht, ⟨_, hq5⟩, ⟨_, hq6⟩, ⟨_, hq7⟩⟩⟩
            exact hloop87 _ 0 _ _ ls rfl (Nat.zero_le _) (rfl) (ho) (hs) (hp) (hd3) (ht) (hq5) (hq6) (hq7) (hO) (hS) (lv_sub hl [0, 2, 3, 4] rfl)
          · skip
            refine lv_aload_n S.1 S.2.1 dX8_release_42 rfl (lv_at hl 1 rfl) ?_
            refine lv_iload_n S.1 S.2.1 dX8_release_43 rfl (lv_at hl 0 rfl) ?_
            refine lv_bipush (v := (nI 6)) S.1 S.2.1 dX8_release_44 (by decide) ?_
            refine xk_R (v := (nf σ j1 6)) (x_runV (As := [.int (nI j1), .int (nI 6)]) (rest := []) S hE hS (fun _ h => h.elim) (c_X8_of l E M (nI np) (nI ty) re σ j1 6 _ ho hs (by omega) (by omega)) kv_X8_of kw12_22 kw12_23 kw13_0 (x_recv hE (ho) (ci := 8) rfl) ⟨Nat.le_of_ble_eq_true rfl, Nat.le_of_ble_eq_true rfl⟩ rfl rfl rfl hl.1 rfl (Nat.le_of_ble_eq_true rfl) dX8_release_46 ⟨Nat.zero_le _, Nat.zero_le _⟩) ?_
            refine lv_if_ne (tgt := 84) S.1 S.2.1 dX8_release_49 rfl (fun h14 => ?_) (fun h14 => ?_)
            · skip
              refine lv_iconst (v := (nI 0)) S.1 S.2.1 dX8_release_84 (by decide) ?_
              refine lv_istore S.1 S.2.1 dX8_release_85 hl (by decide) rfl (fun ls hl => ?_)
              have hl : lv_has ls 5 [(4, .int (nI 0)), (3, .int (nI j1)), (0, .ref M), (1, .int pa), (2, .int qa)] := hl
              have hloop87 : ∀ (d : Nat) (i : Nat) (H : Heap) (locs : List Loc) (ls : Array Slot), n - i = d → i ≤ n → rfWt σ pa qa (n - i) i = rfWt σ pa qa n 0 → RfO E M (nI np) (nI ty) re H → XI E (M + 1) 1670 σ H → XI E (M + 2) 6680 (rfFl η) H → XI E (M + 3) 1670 f3 H → XI E (M + 4) 60 tx H → XI E (M + 5) 4 f5 H → XI E (M + 6) 7 f6 H → XI E (M + 7) 7 f7 H → Out (bk M 8) s.heap H → va_S (bk M 8) s.heap H locs → lv_has ls 5 [(4, .int (nI i)), (0, .ref M), (1, .int pa), (2, .int qa)] → W p l e rm_X8_release s m args below meth c H locs 0 0 Q (F0 m 87 ls []) := by
                intro d
                induction d using Nat.strongRecOn with
                | ind d ih =>
                  intro i H locs ls hd hi hRi ho hs hp hd3 ht hq5 hq6 hq7 hO hS hl
                  refine lv_iload S.1 S.2.1 dX8_release_87 (lv_at hl 0 rfl) ?_
                  refine lv_aload_n S.1 S.2.1 dX8_release_89 rfl (lv_at hl 1 rfl) ?_
                  refine x_get S hE (ho) (C := RX8) (T := TX8) (N := 10) rfl inlX8 0 (by decide) (v := .ref (M + 1)) rfl kw7_6 rfl dX8_release_90 ?_
                  refine lv_iconst (v := (nI 0)) S.1 S.2.1 dX8_release_93 (by decide) ?_
                  refine x_iald S hE (hs) 0 rfl (by decide) (by decide) dX8_release_94 ?_
                  refine x_top (y := (nI n)) (hn) ?_
                  refine lv_icmp_ge (tgt := 152) S.1 S.2.1 dX8_release_95 rfl (fun h15 => ?_) (fun h15 => ?_)
                  · have hge : i = n := (by have := ge_of_le (by omega) (by omega) h15; omega)
                    have hR : rfWt σ pa qa n 0 = none := by rw [← hRi, hge, Nat.sub_self]; rfl
                    refine lv_bipush (v := (-2)) S.1 S.2.1 dX8_release_152 (by decide) ?_
                    subst hQ
                    refine x_retW S hr hlk (rfl) hS hO ?_ dX8_release_154
                    exact (show rfRl σ n pa qa = (σ, (-2), false) from by unfold rfRl; rw [if_pos ⟨h1, h2⟩, hv1]; show (if ¬ nf σ j1 3 = nI 4 ∧ nf σ j1 6 = 0 then (if σ 2 = nI 1 then ((nset σ j1 6 (nI 1), nI j1, true) : KR) else (rfFades σ j1, nI j1, true)) else rfRlW σ n pa qa) = _; rw [if_neg (fun z => h14 z.2)]; show rfRlW σ n pa qa = _; unfold rfRlW; rw [hR]; first | done | rfl) ▸ ⟨rfl, ⟨_, ho, hs, hp, ⟨_, hd3⟩, ht, ⟨_, hq5⟩, ⟨_, hq6⟩, ⟨_, hq7⟩⟩⟩
                  · have hlt : i < n := lt_of_nle (by omega) (by omega) h15
                    refine lv_aload_n S.1 S.2.1 dX8_release_98 rfl (lv_at hl 1 rfl) ?_
                    refine lv_iload S.1 S.2.1 dX8_release_99 (lv_at hl 0 rfl) ?_
                    refine lv_iconst (v := (nI 3)) S.1 S.2.1 dX8_release_101 (by decide) ?_
                    refine xk_R (v := (nf σ i 3)) (x_runV (As := [.int (nI i), .int (nI 3)]) (rest := []) S hE hS (fun _ h => h.elim) (c_X8_of l E M (nI np) (nI ty) re σ i 3 _ ho hs (by omega) (by omega)) kv_X8_of kw12_22 kw12_23 kw13_0 (x_recv hE (ho) (ci := 8) rfl) ⟨Nat.le_of_ble_eq_true rfl, Nat.le_of_ble_eq_true rfl⟩ rfl rfl rfl hl.1 rfl (Nat.le_of_ble_eq_true rfl) dX8_release_102 ⟨Nat.zero_le _, Nat.zero_le _⟩) ?_
                    refine lv_if_ne (tgt := 146) S.1 S.2.1 dX8_release_105 rfl (fun h16 => ?_) (fun h16 => ?_)
                    · skip
                      refine lv_iinc (k := 0) (v := (nI (i + 1))) S.1 S.2.1 dX8_release_146 hl rfl (iincP i 1) (by decide) rfl (fun ls hl => ?_)
                      have hl : lv_has ls 5 [(4, .int (nI (i + 1))), (0, .ref M), (1, .int pa), (2, .int qa)] := hl
                      refine lv_goto (tgt := 87) S.1 S.2.1 dX8_release_149 rfl ?_
                      have hR1 : rfWt σ pa qa (n - (i + 1)) (i + 1) = rfWt σ pa qa n 0 := by rw [← hRi, show n - i = (n - (i + 1)) + 1 from by omega, rfWt, if_neg (fun z => h16 z.1)]
                      exact ih _ (by omega) (i + 1) _ _ ls rfl (by omega) (hR1) (ho) (hs) (hp) (hd3) (ht) (hq5) (hq6) (hq7) (hO) (hS) (lv_sub hl [0, 1, 2, 3] rfl)
                    · skip
                      refine lv_aload_n S.1 S.2.1 dX8_release_108 rfl (lv_at hl 1 rfl) ?_
                      refine lv_iload S.1 S.2.1 dX8_release_109 (lv_at hl 0 rfl) ?_
                      refine lv_iconst (v := (nI 0)) S.1 S.2.1 dX8_release_111 (by decide) ?_
                      refine xk_R (v := (nf σ i 0)) (x_runV (As := [.int (nI i), .int (nI 0)]) (rest := []) S hE hS (fun _ h => h.elim) (c_X8_of l E M (nI np) (nI ty) re σ i 0 _ ho hs (by omega) (by omega)) kv_X8_of kw12_22 kw12_23 kw13_0 (x_recv hE (ho) (ci := 8) rfl) ⟨Nat.le_of_ble_eq_true rfl, Nat.le_of_ble_eq_true rfl⟩ rfl rfl rfl hl.1 rfl (Nat.le_of_ble_eq_true rfl) dX8_release_112 ⟨Nat.zero_le _, Nat.zero_le _⟩) ?_
                      refine lv_iload_n S.1 S.2.1 dX8_release_115 rfl (lv_at hl 2 rfl) ?_
                      refine lv_icmp_ne (tgt := 146) S.1 S.2.1 dX8_release_116 rfl (fun h17 => ?_) (fun h17 => ?_)
                      · skip
                        refine lv_iinc (k := 0) (v := (nI (i + 1))) S.1 S.2.1 dX8_release_146 hl rfl (iincP i 1) (by decide) rfl (fun ls hl => ?_)
                        have hl : lv_has ls 5 [(4, .int (nI (i + 1))), (0, .ref M), (1, .int pa), (2, .int qa)] := hl
                        refine lv_goto (tgt := 87) S.1 S.2.1 dX8_release_149 rfl ?_
                        have hR1 : rfWt σ pa qa (n - (i + 1)) (i + 1) = rfWt σ pa qa n 0 := by rw [← hRi, show n - i = (n - (i + 1)) + 1 from by omega, rfWt, if_neg (fun z => h17 z.2.1)]
                        exact ih _ (by omega) (i + 1) _ _ ls rfl (by omega) (hR1) (ho) (hs) (hp) (hd3) (ht) (hq5) (hq6) (hq7) (hO) (hS) (lv_sub hl [0, 1, 2, 3] rfl)
                      · skip
                        refine lv_aload_n S.1 S.2.1 dX8_release_119 rfl (lv_at hl 1 rfl) ?_
                        refine lv_iload S.1 S.2.1 dX8_release_120 (lv_at hl 0 rfl) ?_
                        refine lv_iconst (v := (nI 1)) S.1 S.2.1 dX8_release_122 (by decide) ?_
                        refine xk_R (v := (nf σ i 1)) (x_runV (As := [.int (nI i), .int (nI 1)]) (rest := []) S hE hS (fun _ h => h.elim) (c_X8_of l E M (nI np) (nI ty) re σ i 1 _ ho hs (by omega) (by omega)) kv_X8_of kw12_22 kw12_23 kw13_0 (x_recv hE (ho) (ci := 8) rfl) ⟨Nat.le_of_ble_eq_true rfl, Nat.le_of_ble_eq_true rfl⟩ rfl rfl rfl hl.1 rfl (Nat.le_of_ble_eq_true rfl) dX8_release_123 ⟨Nat.zero_le _, Nat.zero_le _⟩) ?_
                        refine lv_iload_n S.1 S.2.1 dX8_release_126 rfl (lv_at hl 3 rfl) ?_
                        refine lv_icmp_ne (tgt := 146) S.1 S.2.1 dX8_release_127 rfl (fun h18 => ?_) (fun h18 => ?_)
                        · skip
                          refine lv_iinc (k := 0) (v := (nI (i + 1))) S.1 S.2.1 dX8_release_146 hl rfl (iincP i 1) (by decide) rfl (fun ls hl => ?_)
                          have hl : lv_has ls 5 [(4, .int (nI (i + 1))), (0, .ref M), (1, .int pa), (2, .int qa)] := hl
                          refine lv_goto (tgt := 87) S.1 S.2.1 dX8_release_149 rfl ?_
                          have hR1 : rfWt σ pa qa (n - (i + 1)) (i + 1) = rfWt σ pa qa n 0 := by rw [← hRi, show n - i = (n - (i + 1)) + 1 from by omega, rfWt, if_neg (fun z => h18 z.2.2)]
                          exact ih _ (by omega) (i + 1) _ _ ls rfl (by omega) (hR1) (ho) (hs) (hp) (hd3) (ht) (hq5) (hq6) (hq7) (hO) (hS) (lv_sub hl [0, 1, 2, 3] rfl)
                        · have hR : rfWt σ pa qa n 0 = some i := by rw [← hRi, show n - i = (n - (i + 1)) + 1 from by omega, rfWt, if_pos ⟨h16, h17, h18⟩]
                          refine lv_aload_n S.1 S.2.1 dX8_release_130 rfl (lv_at hl 1 rfl) ?_
                          refine xk_V (x_runV (As := []) (rest := []) S hE hS (fun q h => h.elim (fun h => bkM (k := 0) h (by decide)) (fun h => bkM (k := 2) h (by decide))) (c_X8_changes l E M (nI ty) re np σ η _ ho hs hp hnp) kv_X8_changes kw13_2 kw13_3 kw13_4 (x_recv hE (ho) (ci := 8) rfl) ⟨Nat.le_of_ble_eq_true rfl, Nat.le_of_ble_eq_true rfl⟩ rfl rfl rfl hl.1 rfl (Nat.le_of_ble_eq_true rfl) dX8_release_131 ⟨Nat.zero_le _, Nat.zero_le _⟩) hS (fun q h => h.elim (fun h => bkM (k := 0) h (by decide)) (fun h => bkM (k := 2) h (by decide))) (fun H locs hX hO1 hS => ?_)
                          have hO := hO.tr hO1 (fun q h => h.elim (fun h => bkM (k := 0) h (by decide)) (fun h => bkM (k := 2) h (by decide)))
                          have hs := va_at.kept hs (hO1.2 (M + 1) (fun z => by rcases z with z | z <;> omega))
                          have hd3 := va_at.kept hd3 (hO1.2 (M + 3) (fun z => by rcases z with z | z <;> omega))
                          have ht := va_at.kept ht (hO1.2 (M + 4) (fun z => by rcases z with z | z <;> omega))
                          have hq5 := va_at.kept hq5 (hO1.2 (M + 5) (fun z => by rcases z with z | z <;> omega))
                          have hq6 := va_at.kept hq6 (hO1.2 (M + 6) (fun z => by rcases z with z | z <;> omega))
                          have hq7 := va_at.kept hq7 (hO1.2 (M + 7) (fun z => by rcases z with z | z <;> omega))
                          obtain ⟨ho, hp⟩ := hX
                          refine lv_aload_n S.1 S.2.1 dX8_release_134 rfl (lv_at hl 1 rfl) ?_
                          refine lv_iload S.1 S.2.1 dX8_release_135 (lv_at hl 0 rfl) ?_
                          refine lv_iconst (v := (nI 3)) S.1 S.2.1 dX8_release_137 (by decide) ?_
                          refine lv_bipush (v := (nI 6)) S.1 S.2.1 dX8_release_138 (by decide) ?_
                          refine xk_V (x_runV (As := [.int (nI i), .int (nI 3), .int (nI 6)]) (rest := []) S hE hS (fun q h => bkM (k := 1) h (by decide)) (c_X8_puts l E M (nI (hiLen np)) (nI ty) re σ i 3 (nI 6) _ ho hs (by omega) (by omega)) kv_X8_puts kw13_11 kw13_12 kw13_13 (x_recv hE (ho) (ci := 8) rfl) ⟨Nat.le_of_ble_eq_true rfl, Nat.le_of_ble_eq_true rfl⟩ rfl rfl rfl hl.1 rfl (Nat.le_of_ble_eq_true rfl) dX8_release_140 ⟨Nat.zero_le _, Nat.zero_le _⟩) hS (fun q h => bkM (k := 1) h (by decide)) (fun H locs hX hO1 hS => ?_)
                          have hO := hO.tr hO1 (fun q h => bkM (k := 1) h (by decide))
                          have ho := va_at.kept ho (hO1.2 (M) (fun z => by have z : M = M + 1 := z; omega))
                          have hp := va_at.kept hp (hO1.2 (M + 2) (fun z => by have z : M + 2 = M + 1 := z; omega))
                          have hd3 := va_at.kept hd3 (hO1.2 (M + 3) (fun z => by have z : M + 3 = M + 1 := z; omega))
                          have ht := va_at.kept ht (hO1.2 (M + 4) (fun z => by have z : M + 4 = M + 1 := z; omega))
                          have hq5 := va_at.kept hq5 (hO1.2 (M + 5) (fun z => by have z : M + 5 = M + 1 := z; omega))
                          have hq6 := va_at.kept hq6 (hO1.2 (M + 6) (fun z => by have z : M + 6 = M + 1 := z; omega))
                          have hq7 := va_at.kept hq7 (hO1.2 (M + 7) (fun z => by have z : M + 7 = M + 1 := z; omega))
                          have hs : XI E (M + 1) 1670 (nset σ i 3 (nI 6)) H := hX
                          have hn : (nset σ i 3 (nI 6)) 0 = nI n := ((nset_lo (by decide))).trans hn
                          refine lv_iload S.1 S.2.1 dX8_release_143 (lv_at hl 0 rfl) ?_
                          subst hQ
                          refine x_retW S hr hlk (rfl) hS hO ?_ dX8_release_145
                          exact (show rfRl σ n pa qa = ((nset σ i 3 (nI 6)), (nI i), true) from by unfold rfRl; rw [if_pos ⟨h1, h2⟩, hv1]; show (if ¬ nf σ j1 3 = nI 4 ∧ nf σ j1 6 = 0 then (if σ 2 = nI 1 then ((nset σ j1 6 (nI 1), nI j1, true) : KR) else (rfFades σ j1, nI j1, true)) else rfRlW σ n pa qa) = _; rw [if_neg (fun z => h14 z.2)]; show rfRlW σ n pa qa = _; unfold rfRlW; rw [hR]; first | done | rfl) ▸ ⟨rfl, ⟨_, ho, hs, hp, ⟨_, hd3⟩, ht, ⟨_, hq5⟩, ⟨_, hq6⟩, ⟨_, hq7⟩⟩⟩
              exact hloop87 _ 0 _ _ ls rfl (Nat.zero_le _) (rfl) (ho) (hs) (hp) (hd3) (ht) (hq5) (hq6) (hq7) (hO) (hS) (lv_sub hl [0, 2, 3, 4] rfl)
            · skip
              refine lv_aload_n S.1 S.2.1 dX8_release_52 rfl (lv_at hl 1 rfl) ?_
              refine xk_V (x_runV (As := []) (rest := []) S hE hS (fun q h => h.elim (fun h => bkM (k := 0) h (by decide)) (fun h => bkM (k := 2) h (by decide))) (c_X8_changes l E M (nI ty) re np σ η _ ho hs hp hnp) kv_X8_changes kw13_2 kw13_3 kw13_4 (x_recv hE (ho) (ci := 8) rfl) ⟨Nat.le_of_ble_eq_true rfl, Nat.le_of_ble_eq_true rfl⟩ rfl rfl rfl hl.1 rfl (Nat.le_of_ble_eq_true rfl) dX8_release_53 ⟨Nat.zero_le _, Nat.zero_le _⟩) hS (fun q h => h.elim (fun h => bkM (k := 0) h (by decide)) (fun h => bkM (k := 2) h (by decide))) (fun H locs hX hO1 hS => ?_)
              have hO := hO.tr hO1 (fun q h => h.elim (fun h => bkM (k := 0) h (by decide)) (fun h => bkM (k := 2) h (by decide)))
              have hs := va_at.kept hs (hO1.2 (M + 1) (fun z => by rcases z with z | z <;> omega))
              have hd3 := va_at.kept hd3 (hO1.2 (M + 3) (fun z => by rcases z with z | z <;> omega))
              have ht := va_at.kept ht (hO1.2 (M + 4) (fun z => by rcases z with z | z <;> omega))
              have hq5 := va_at.kept hq5 (hO1.2 (M + 5) (fun z => by rcases z with z | z <;> omega))
              have hq6 := va_at.kept hq6 (hO1.2 (M + 6) (fun z => by rcases z with z | z <;> omega))
              have hq7 := va_at.kept hq7 (hO1.2 (M + 7) (fun z => by rcases z with z | z <;> omega))
              obtain ⟨ho, hp⟩ := hX
              refine lv_aload_n S.1 S.2.1 dX8_release_56 rfl (lv_at hl 1 rfl) ?_
              refine x_get S hE (ho) (C := RX8) (T := TX8) (N := 10) rfl inlX8 0 (by decide) (v := .ref (M + 1)) rfl kw7_6 rfl dX8_release_57 ?_
              refine lv_iconst (v := (nI 2)) S.1 S.2.1 dX8_release_60 (by decide) ?_
              refine x_iald S hE (hs) 2 rfl (by decide) (by decide) dX8_release_61 ?_
              refine lv_iconst (v := (nI 1)) S.1 S.2.1 dX8_release_62 (by decide) ?_
              refine lv_icmp_ne (tgt := 77) S.1 S.2.1 dX8_release_63 rfl (fun h19 => ?_) (fun h19 => ?_)
              · skip
                refine lv_aload_n S.1 S.2.1 dX8_release_77 rfl (lv_at hl 1 rfl) ?_
                refine lv_iload_n S.1 S.2.1 dX8_release_78 rfl (lv_at hl 0 rfl) ?_
                refine xk_V (x_runV (As := [.int (nI j1)]) (rest := []) S hE hS (fun q h => bkM (k := 1) h (by decide)) (c_X8_fades l E M (nI (hiLen np)) (nI ty) re σ j1 _ ho hs (by omega)) kv_X8_fades kw15_8 kw15_9 kw15_10 (x_recv hE (ho) (ci := 8) rfl) ⟨Nat.le_of_ble_eq_true rfl, Nat.le_of_ble_eq_true rfl⟩ rfl rfl rfl hl.1 rfl (Nat.le_of_ble_eq_true rfl) dX8_release_79 ⟨Nat.zero_le _, Nat.zero_le _⟩) hS (fun q h => bkM (k := 1) h (by decide)) (fun H locs hX hO1 hS => ?_)
                have hO := hO.tr hO1 (fun q h => bkM (k := 1) h (by decide))
                have ho := va_at.kept ho (hO1.2 (M) (fun z => by have z : M = M + 1 := z; omega))
                have hp := va_at.kept hp (hO1.2 (M + 2) (fun z => by have z : M + 2 = M + 1 := z; omega))
                have hd3 := va_at.kept hd3 (hO1.2 (M + 3) (fun z => by have z : M + 3 = M + 1 := z; omega))
                have ht := va_at.kept ht (hO1.2 (M + 4) (fun z => by have z : M + 4 = M + 1 := z; omega))
                have hq5 := va_at.kept hq5 (hO1.2 (M + 5) (fun z => by have z : M + 5 = M + 1 := z; omega))
                have hq6 := va_at.kept hq6 (hO1.2 (M + 6) (fun z => by have z : M + 6 = M + 1 := z; omega))
                have hq7 := va_at.kept hq7 (hO1.2 (M + 7) (fun z => by have z : M + 7 = M + 1 := z; omega))
                have hs : XI E (M + 1) 1670 (rfFades σ j1) H := hX
                have hn : (rfFades σ j1) 0 = nI n := (rfFades_0 (by decide)).trans hn
                refine lv_iload_n S.1 S.2.1 dX8_release_82 rfl (lv_at hl 0 rfl) ?_
                subst hQ
                refine x_retW S hr hlk (rfl) hS hO ?_ dX8_release_83
                exact (show rfRl σ n pa qa = ((rfFades σ j1), (nI j1), true) from by unfold rfRl; rw [if_pos ⟨h1, h2⟩, hv1]; show (if ¬ nf σ j1 3 = nI 4 ∧ nf σ j1 6 = 0 then (if σ 2 = nI 1 then ((nset σ j1 6 (nI 1), nI j1, true) : KR) else (rfFades σ j1, nI j1, true)) else rfRlW σ n pa qa) = _; rw [if_pos ⟨h9, h14⟩, if_neg h19]; first | done | rfl) ▸ ⟨rfl, ⟨_, ho, hs, hp, ⟨_, hd3⟩, ht, ⟨_, hq5⟩, ⟨_, hq6⟩, ⟨_, hq7⟩⟩⟩
              · skip
                refine lv_aload_n S.1 S.2.1 dX8_release_66 rfl (lv_at hl 1 rfl) ?_
                refine lv_iload_n S.1 S.2.1 dX8_release_67 rfl (lv_at hl 0 rfl) ?_
                refine lv_bipush (v := (nI 6)) S.1 S.2.1 dX8_release_68 (by decide) ?_
                refine lv_iconst (v := (nI 1)) S.1 S.2.1 dX8_release_70 (by decide) ?_
                refine xk_V (x_runV (As := [.int (nI j1), .int (nI 6), .int (nI 1)]) (rest := []) S hE hS (fun q h => bkM (k := 1) h (by decide)) (c_X8_puts l E M (nI (hiLen np)) (nI ty) re σ j1 6 (nI 1) _ ho hs (by omega) (by omega)) kv_X8_puts kw13_11 kw13_12 kw13_13 (x_recv hE (ho) (ci := 8) rfl) ⟨Nat.le_of_ble_eq_true rfl, Nat.le_of_ble_eq_true rfl⟩ rfl rfl rfl hl.1 rfl (Nat.le_of_ble_eq_true rfl) dX8_release_71 ⟨Nat.zero_le _, Nat.zero_le _⟩) hS (fun q h => bkM (k := 1) h (by decide)) (fun H locs hX hO1 hS => ?_)
                have hO := hO.tr hO1 (fun q h => bkM (k := 1) h (by decide))
                have ho := va_at.kept ho (hO1.2 (M) (fun z => by have z : M = M + 1 := z; omega))
                have hp := va_at.kept hp (hO1.2 (M + 2) (fun z => by have z : M + 2 = M + 1 := z; omega))
                have hd3 := va_at.kept hd3 (hO1.2 (M + 3) (fun z => by have z : M + 3 = M + 1 := z; omega))
                have ht := va_at.kept ht (hO1.2 (M + 4) (fun z => by have z : M + 4 = M + 1 := z; omega))
                have hq5 := va_at.kept hq5 (hO1.2 (M + 5) (fun z => by have z : M + 5 = M + 1 := z; omega))
                have hq6 := va_at.kept hq6 (hO1.2 (M + 6) (fun z => by have z : M + 6 = M + 1 := z; omega))
                have hq7 := va_at.kept hq7 (hO1.2 (M + 7) (fun z => by have z : M + 7 = M + 1 := z; omega))
                have hs : XI E (M + 1) 1670 (nset σ j1 6 (nI 1)) H := hX
                have hn : (nset σ j1 6 (nI 1)) 0 = nI n := ((nset_lo (by decide))).trans hn
                refine lv_goto (tgt := 82) S.1 S.2.1 dX8_release_74 rfl ?_
                refine lv_iload_n S.1 S.2.1 dX8_release_82 rfl (lv_at hl 0 rfl) ?_
                subst hQ
                refine x_retW S hr hlk (rfl) hS hO ?_ dX8_release_83
                exact (show rfRl σ n pa qa = ((nset σ j1 6 (nI 1)), (nI j1), true) from by unfold rfRl; rw [if_pos ⟨h1, h2⟩, hv1]; show (if ¬ nf σ j1 3 = nI 4 ∧ nf σ j1 6 = 0 then (if σ 2 = nI 1 then ((nset σ j1 6 (nI 1), nI j1, true) : KR) else (rfFades σ j1, nI j1, true)) else rfRlW σ n pa qa) = _; rw [if_pos ⟨h9, h14⟩, if_pos h19]; first | done | rfl) ▸ ⟨rfl, ⟨_, ho, hs, hp, ⟨_, hd3⟩, ht, ⟨_, hq5⟩, ⟨_, hq6⟩, ⟨_, hq7⟩⟩⟩
    · skip
      have h2 := bI_0 h2
      refine lv_iconst (v := (-1)) S.1 S.2.1 dX8_release_19 (by decide) ?_
      subst hQ
      refine x_retW S hr hlk (rfl) hS hO ?_ dX8_release_20
      exact (show rfRl σ n pa qa = (σ, (-1), false) from by unfold rfRl; rw [if_neg (fun z => h2 z.2)]; first | done | rfl) ▸ ⟨rfl, ⟨_, ho, hs, hp, ⟨_, hd3⟩, ht, ⟨_, hq5⟩, ⟨_, hq6⟩, ⟨_, hq7⟩⟩⟩
abbrev rm_X8_pedal : Room := ({ frames := 3, cells := 0, slots := 0, locals := 66 } : Room)
set_option maxRecDepth 100000 in
set_option maxHeartbeats 600000 in
theorem c_X8_pedal (l : Launch) (E : XE) (M n : Nat) (σ : Nat → Int32) (η : Nat → Nat → Int32) (np : Nat) (tx : Nat → Int32) (ty : Nat) (da : Int32) (H : Heap) (hP : RfP E M (σ, (η, np), (tx, ty)) H) (hn : σ 0 = nI n) (hn2 : n ≤ 200) (hnp : np ≤ 4) : Wr l E yX8_pedal cX8_pedal 2 (some .int) rm_X8_pedal [.ref M, .int da] H (bk M 8) (fun v H1 => v = (rfPd σ n da).2.1 ∧ RfP E M (rfMu σ η np tx ty (rfPd σ n da)) H1) := by
  refine met_of (by decide) (Nat.le_of_ble_eq_true rfl) (fun p e s m args below meth c hBD Q hQ ls hl => ?_)
  obtain ⟨S, hr, hlk, hnm, hE, hH⟩ := hBD
  subst hH
  have hl : lv_has ls 2 [(0, .ref M), (1, .int da)] := hl
  have hO : Out (bk M 8) s.heap s.heap := Out.rf
  have hS : va_S (bk M 8) s.heap s.heap [] := va_S.rf
  obtain ⟨re, ho, hs, hp, ⟨f3, hd3⟩, ht, ⟨f5, hq5⟩, ⟨f6, hq6⟩, ⟨f7, hq7⟩⟩ := hP
  have ho : RfO E M (nI np) (nI ty) re s.heap := ho
  have hs : XI E (M + 1) 1670 σ s.heap := hs
  have hp : XI E (M + 2) 6680 (rfFl η) s.heap := hp
  have ht : XI E (M + 4) 60 tx s.heap := ht
  refine lv_iload_n S.1 S.2.1 dX8_pedal_0 rfl (lv_at hl 1 rfl) ?_
  refine lv_iconst (v := (nI 0)) S.1 S.2.1 dX8_pedal_1 (by decide) ?_
  refine lv_iconst (v := (nI 1)) S.1 S.2.1 dX8_pedal_2 (by decide) ?_
  refine xk_R (v := (bI ((nI 0) ≤ da ∧ da ≤ (nI 1)))) (x_runS (As := [.int da, .int (nI 0), .int (nI 1)]) (rest := []) S hE hS (fun _ h => h.elim) (c_X8_in l E da (nI 0) (nI 1) _) kv_X8_in kw12_11 kw12_12 ⟨Nat.le_of_ble_eq_true rfl, Nat.le_of_ble_eq_true rfl⟩ rfl rfl rfl hl.1 rfl (Nat.le_of_ble_eq_true rfl) dX8_pedal_3 ⟨Nat.zero_le _, Nat.zero_le _⟩) ?_
  refine lv_if_ne (tgt := 11) S.1 S.2.1 dX8_pedal_6 rfl (fun h1 => ?_) (fun h1 => ?_)
  · skip
    have h1 := bI_n0 h1
    refine lv_aload_n S.1 S.2.1 dX8_pedal_11 rfl (lv_at hl 0 rfl) ?_
    refine x_get S hE (ho) (C := RX8) (T := TX8) (N := 10) rfl inlX8 0 (by decide) (v := .ref (M + 1)) rfl kw7_6 rfl dX8_pedal_12 ?_
    refine lv_iconst (v := (nI 2)) S.1 S.2.1 dX8_pedal_15 (by decide) ?_
    refine x_iald S hE (hs) 2 rfl (by decide) (by decide) dX8_pedal_16 ?_
    refine lv_iload_n S.1 S.2.1 dX8_pedal_17 rfl (lv_at hl 1 rfl) ?_
    refine lv_icmp_ne (tgt := 24) S.1 S.2.1 dX8_pedal_18 rfl (fun h2 => ?_) (fun h2 => ?_)
    · skip
      refine lv_aload_n S.1 S.2.1 dX8_pedal_24 rfl (lv_at hl 0 rfl) ?_
      refine xk_V (x_runV (As := []) (rest := []) S hE hS (fun q h => h.elim (fun h => bkM (k := 0) h (by decide)) (fun h => bkM (k := 2) h (by decide))) (c_X8_changes l E M (nI ty) re np σ η _ ho hs hp hnp) kv_X8_changes kw13_2 kw13_3 kw13_4 (x_recv hE (ho) (ci := 8) rfl) ⟨Nat.le_of_ble_eq_true rfl, Nat.le_of_ble_eq_true rfl⟩ rfl rfl rfl hl.1 rfl (Nat.le_of_ble_eq_true rfl) dX8_pedal_25 ⟨Nat.zero_le _, Nat.zero_le _⟩) hS (fun q h => h.elim (fun h => bkM (k := 0) h (by decide)) (fun h => bkM (k := 2) h (by decide))) (fun H locs hX hO1 hS => ?_)
      have hO := hO.tr hO1 (fun q h => h.elim (fun h => bkM (k := 0) h (by decide)) (fun h => bkM (k := 2) h (by decide)))
      have hs := va_at.kept hs (hO1.2 (M + 1) (fun z => by rcases z with z | z <;> omega))
      have hd3 := va_at.kept hd3 (hO1.2 (M + 3) (fun z => by rcases z with z | z <;> omega))
      have ht := va_at.kept ht (hO1.2 (M + 4) (fun z => by rcases z with z | z <;> omega))
      have hq5 := va_at.kept hq5 (hO1.2 (M + 5) (fun z => by rcases z with z | z <;> omega))
      have hq6 := va_at.kept hq6 (hO1.2 (M + 6) (fun z => by rcases z with z | z <;> omega))
      have hq7 := va_at.kept hq7 (hO1.2 (M + 7) (fun z => by rcases z with z | z <;> omega))
      obtain ⟨ho, hp⟩ := hX
      refine lv_aload_n S.1 S.2.1 dX8_pedal_28 rfl (lv_at hl 0 rfl) ?_
      refine x_get S hE (ho) (C := RX8) (T := TX8) (N := 10) rfl inlX8 0 (by decide) (v := .ref (M + 1)) rfl kw7_6 rfl dX8_pedal_29 ?_
      refine lv_iconst (v := (nI 2)) S.1 S.2.1 dX8_pedal_32 (by decide) ?_
      refine lv_iload_n S.1 S.2.1 dX8_pedal_33 rfl (lv_at hl 1 rfl) ?_
      refine x_iast S hE hS (bkM (k := 1) rfl (by decide)) (hs) 2 rfl (by decide) (by decide) dX8_pedal_34 (fun H locs hX hO1 hS => ?_)
      have hO := hO.tr hO1 (fun q h => bkM (k := 1) h (by decide))
      have ho := va_at.kept ho (hO1.2 (M) (fun z => by have z : M = M + 1 := z; omega))
      have hp := va_at.kept hp (hO1.2 (M + 2) (fun z => by have z : M + 2 = M + 1 := z; omega))
      have hd3 := va_at.kept hd3 (hO1.2 (M + 3) (fun z => by have z : M + 3 = M + 1 := z; omega))
      have ht := va_at.kept ht (hO1.2 (M + 4) (fun z => by have z : M + 4 = M + 1 := z; omega))
      have hq5 := va_at.kept hq5 (hO1.2 (M + 5) (fun z => by have z : M + 5 = M + 1 := z; omega))
      have hq6 := va_at.kept hq6 (hO1.2 (M + 6) (fun z => by have z : M + 6 = M + 1 := z; omega))
      have hq7 := va_at.kept hq7 (hO1.2 (M + 7) (fun z => by have z : M + 7 = M + 1 := z; omega))
      have hs : XI E (M + 1) 1670 (upd σ 2 da) H := hX
      have hn : (upd σ 2 da) 0 = nI n := ((pk_un (by decide))).trans hn
      refine lv_iload_n S.1 S.2.1 dX8_pedal_35 rfl (lv_at hl 1 rfl) ?_
      refine lv_iconst (v := (nI 1)) S.1 S.2.1 dX8_pedal_36 (by decide) ?_
      refine lv_icmp_ne (tgt := 44) S.1 S.2.1 dX8_pedal_37 rfl (fun h3 => ?_) (fun h3 => ?_)
      · skip
        refine lv_aload_n S.1 S.2.1 dX8_pedal_44 rfl (lv_at hl 0 rfl) ?_
        refine xk_W (x_runV (As := []) (rest := []) S hE hS (fun q h => bkM (k := 1) h (by decide)) (c_X8_lifts l E M (nI (hiLen np)) (nI ty) re (upd σ 2 da) n _ ho hs hn hn2) kv_X8_lifts kw15_23 kw16_0 kw16_1 (x_recv hE (ho) (ci := 8) rfl) ⟨Nat.le_of_ble_eq_true rfl, Nat.le_of_ble_eq_true rfl⟩ rfl rfl rfl hl.1 rfl (Nat.le_of_ble_eq_true rfl) dX8_pedal_45 ⟨Nat.zero_le _, Nat.zero_le _⟩) hS (fun q h => bkM (k := 1) h (by decide)) (fun v0 H locs hX hO1 hS => ?_)
        obtain ⟨hv0, hX⟩ := hX
        subst hv0
        have hO := hO.tr hO1 (fun q h => bkM (k := 1) h (by decide))
        have ho := va_at.kept ho (hO1.2 (M) (fun z => by have z : M = M + 1 := z; omega))
        have hp := va_at.kept hp (hO1.2 (M + 2) (fun z => by have z : M + 2 = M + 1 := z; omega))
        have hd3 := va_at.kept hd3 (hO1.2 (M + 3) (fun z => by have z : M + 3 = M + 1 := z; omega))
        have ht := va_at.kept ht (hO1.2 (M + 4) (fun z => by have z : M + 4 = M + 1 := z; omega))
        have hq5 := va_at.kept hq5 (hO1.2 (M + 5) (fun z => by have z : M + 5 = M + 1 := z; omega))
        have hq6 := va_at.kept hq6 (hO1.2 (M + 6) (fun z => by have z : M + 6 = M + 1 := z; omega))
        have hq7 := va_at.kept hq7 (hO1.2 (M + 7) (fun z => by have z : M + 7 = M + 1 := z; omega))
        have hs : XI E (M + 1) 1670 (rfLN (upd σ 2 da) n).1 H := hX
        have hn : (rfLN (upd σ 2 da) n).1 0 = nI n := (rfLN_0 (by decide) (by decide)).trans hn
        subst hQ
        refine x_retW S hr hlk (rfl) hS hO ?_ dX8_pedal_48
        exact (show rfPd σ n da = ((rfLN (upd σ 2 da) n).1, (rfLN (upd σ 2 da) n).2, true) from by unfold rfPd; rw [if_pos h1, if_neg h2, if_neg h3]; first | done | rfl) ▸ ⟨rfl, ⟨_, ho, hs, hp, ⟨_, hd3⟩, ht, ⟨_, hq5⟩, ⟨_, hq6⟩, ⟨_, hq7⟩⟩⟩
      · skip
        refine lv_iconst (v := (nI 0)) S.1 S.2.1 dX8_pedal_40 (by decide) ?_
        refine lv_goto (tgt := 48) S.1 S.2.1 dX8_pedal_41 rfl ?_
        subst hQ
        refine x_retW S hr hlk (rfl) hS hO ?_ dX8_pedal_48
        exact (show rfPd σ n da = ((upd σ 2 da), (nI 0), true) from by unfold rfPd; rw [if_pos h1, if_neg h2, if_pos h3]; first | done | rfl) ▸ ⟨rfl, ⟨_, ho, hs, hp, ⟨_, hd3⟩, ht, ⟨_, hq5⟩, ⟨_, hq6⟩, ⟨_, hq7⟩⟩⟩
    · skip
      refine lv_bipush (v := (-2)) S.1 S.2.1 dX8_pedal_21 (by decide) ?_
      subst hQ
      refine x_retW S hr hlk (rfl) hS hO ?_ dX8_pedal_23
      exact (show rfPd σ n da = (σ, (-2), false) from by unfold rfPd; rw [if_pos h1, if_pos h2]; first | done | rfl) ▸ ⟨rfl, ⟨_, ho, hs, hp, ⟨_, hd3⟩, ht, ⟨_, hq5⟩, ⟨_, hq6⟩, ⟨_, hq7⟩⟩⟩
  · skip
    have h1 := bI_0 h1
    refine lv_iconst (v := (-1)) S.1 S.2.1 dX8_pedal_9 (by decide) ?_
    subst hQ
    refine x_retW S hr hlk (rfl) hS hO ?_ dX8_pedal_10
    exact (show rfPd σ n da = (σ, (-1), false) from by unfold rfPd; rw [if_neg h1]; first | done | rfl) ▸ ⟨rfl, ⟨_, ho, hs, hp, ⟨_, hd3⟩, ht, ⟨_, hq5⟩, ⟨_, hq6⟩, ⟨_, hq7⟩⟩⟩
abbrev rm_X8_tick : Room := ({ frames := 5, cells := 0, slots := 0, locals := 111 } : Room)
set_option maxRecDepth 100000 in
set_option maxHeartbeats 600000 in
theorem c_X8_tick (l : Launch) (E : XE) (M n : Nat) (σ : Nat → Int32) (η : Nat → Nat → Int32) (np : Nat) (tx : Nat → Int32) (ty : Nat) (ta : Int32) (H : Heap) (hP : RfP E M (σ, (η, np), (tx, ty)) H) (hn : σ 0 = nI n) (hn2 : n ≤ 200) (hnp : np ≤ 4) : Wr l E yX8_tick cX8_tick 3 (some .int) rm_X8_tick [.ref M, .int ta] H (bk M 8) (fun v H1 => v = (rfTk σ n ta).2.1 ∧ RfP E M (rfMu σ η np tx ty (rfTk σ n ta)) H1) := by
  refine met_of (by decide) (Nat.le_of_ble_eq_true rfl) (fun p e s m args below meth c hBD Q hQ ls hl => ?_)
  obtain ⟨S, hr, hlk, hnm, hE, hH⟩ := hBD
  subst hH
  have hl : lv_has ls 3 [(0, .ref M), (1, .int ta)] := hl
  have hO : Out (bk M 8) s.heap s.heap := Out.rf
  have hS : va_S (bk M 8) s.heap s.heap [] := va_S.rf
  obtain ⟨re, ho, hs, hp, ⟨f3, hd3⟩, ht, ⟨f5, hq5⟩, ⟨f6, hq6⟩, ⟨f7, hq7⟩⟩ := hP
  have ho : RfO E M (nI np) (nI ty) re s.heap := ho
  have hs : XI E (M + 1) 1670 σ s.heap := hs
  have hp : XI E (M + 2) 6680 (rfFl η) s.heap := hp
  have ht : XI E (M + 4) 60 tx s.heap := ht
  refine lv_iload_n S.1 S.2.1 dX8_tick_0 rfl (lv_at hl 1 rfl) ?_
  refine lv_iconst (v := (nI 1)) S.1 S.2.1 dX8_tick_1 (by decide) ?_
  refine lv_bipush (v := (nI 100)) S.1 S.2.1 dX8_tick_2 (by decide) ?_
  refine xk_R (v := (bI ((nI 1) ≤ ta ∧ ta ≤ (nI 100)))) (x_runS (As := [.int ta, .int (nI 1), .int (nI 100)]) (rest := []) S hE hS (fun _ h => h.elim) (c_X8_in l E ta (nI 1) (nI 100) _) kv_X8_in kw12_11 kw12_12 ⟨Nat.le_of_ble_eq_true rfl, Nat.le_of_ble_eq_true rfl⟩ rfl rfl rfl hl.1 rfl (Nat.le_of_ble_eq_true rfl) dX8_tick_4 ⟨Nat.zero_le _, Nat.zero_le _⟩) ?_
  refine lv_if_ne (tgt := 12) S.1 S.2.1 dX8_tick_7 rfl (fun h1 => ?_) (fun h1 => ?_)
  · have h1 := bI_n0 h1
    obtain ⟨k, hk, rfl⟩ := i_nat (by decide) (Int32.le_trans (show nI 0 ≤ nI 1 by decide) h1.1) h1.2
    refine lv_aload_n S.1 S.2.1 dX8_tick_12 rfl (lv_at hl 0 rfl) ?_
    refine x_get S hE (ho) (C := RX8) (T := TX8) (N := 10) rfl inlX8 0 (by decide) (v := .ref (M + 1)) rfl kw7_6 rfl dX8_tick_13 ?_
    refine lv_iconst (v := (nI 1)) S.1 S.2.1 dX8_tick_16 (by decide) ?_
    refine x_iald S hE (hs) 1 rfl (by decide) (by decide) dX8_tick_17 ?_
    refine lv_iload_n S.1 S.2.1 dX8_tick_18 rfl (lv_at hl 1 rfl) ?_
    refine lv_iadd S.1 S.2.1 dX8_tick_19 ?_
    refine lv_ldc (v := 50000) S.1 S.2.1 S.2.2.2.1 (S.2.2.2.2 _ kw18_10) dX8_tick_20 ?_
    refine x_top (y := (nI 50000)) (by decide) ?_
    refine lv_icmp_le (tgt := 28) S.1 S.2.1 dX8_tick_22 rfl (fun h2 => ?_) (fun h2 => ?_)
    · skip
      refine lv_aload_n S.1 S.2.1 dX8_tick_28 rfl (lv_at hl 0 rfl) ?_
      refine xk_V (x_runV (As := []) (rest := []) S hE hS (fun q h => h.elim (fun h => bkM (k := 0) h (by decide)) (fun h => bkM (k := 2) h (by decide))) (c_X8_changes l E M (nI ty) re np σ η _ ho hs hp hnp) kv_X8_changes kw13_2 kw13_3 kw13_4 (x_recv hE (ho) (ci := 8) rfl) ⟨Nat.le_of_ble_eq_true rfl, Nat.le_of_ble_eq_true rfl⟩ rfl rfl rfl hl.1 rfl (Nat.le_of_ble_eq_true rfl) dX8_tick_29 ⟨Nat.zero_le _, Nat.zero_le _⟩) hS (fun q h => h.elim (fun h => bkM (k := 0) h (by decide)) (fun h => bkM (k := 2) h (by decide))) (fun H locs hX hO1 hS => ?_)
      have hO := hO.tr hO1 (fun q h => h.elim (fun h => bkM (k := 0) h (by decide)) (fun h => bkM (k := 2) h (by decide)))
      have hs := va_at.kept hs (hO1.2 (M + 1) (fun z => by rcases z with z | z <;> omega))
      have hd3 := va_at.kept hd3 (hO1.2 (M + 3) (fun z => by rcases z with z | z <;> omega))
      have ht := va_at.kept ht (hO1.2 (M + 4) (fun z => by rcases z with z | z <;> omega))
      have hq5 := va_at.kept hq5 (hO1.2 (M + 5) (fun z => by rcases z with z | z <;> omega))
      have hq6 := va_at.kept hq6 (hO1.2 (M + 6) (fun z => by rcases z with z | z <;> omega))
      have hq7 := va_at.kept hq7 (hO1.2 (M + 7) (fun z => by rcases z with z | z <;> omega))
      obtain ⟨ho, hp⟩ := hX
      refine lv_iconst (v := (nI 0)) S.1 S.2.1 dX8_tick_32 (by decide) ?_
      refine lv_istore_n S.1 S.2.1 dX8_tick_33 rfl hl (by decide) rfl (fun ls hl => ?_)
      have hl : lv_has ls 3 [(2, .int (nI 0)), (0, .ref M), (1, .int (nI k))] := hl
      have hloop34 : ∀ (d : Nat) (i : Nat) (H : Heap) (locs : List Loc) (ls : Array Slot), k - i = d → i ≤ k → rfIt σ n i 0 = nI n → RfO E M (nI (hiLen np)) (nI ty) re H → XI E (M + 1) 1670 (rfIt σ n i) H → XI E (M + 2) 6680 (rfFl (rfRec η np σ)) H → XI E (M + 3) 1670 f3 H → XI E (M + 4) 60 tx H → XI E (M + 5) 4 f5 H → XI E (M + 6) 7 f6 H → XI E (M + 7) 7 f7 H → Out (bk M 8) s.heap H → va_S (bk M 8) s.heap H locs → lv_has ls 3 [(2, .int (nI i)), (0, .ref M), (1, .int (nI k))] → W p l e rm_X8_tick s m args below meth c H locs 0 0 Q (F0 m 34 ls []) := by
        intro d
        induction d using Nat.strongRecOn with
        | ind d ih =>
          intro i H locs ls hd hi hn ho hs hp hd3 ht hq5 hq6 hq7 hO hS hl
          refine lv_iload_n S.1 S.2.1 dX8_tick_34 rfl (lv_at hl 0 rfl) ?_
          refine lv_iload_n S.1 S.2.1 dX8_tick_35 rfl (lv_at hl 2 rfl) ?_
          refine lv_icmp_ge (tgt := 49) S.1 S.2.1 dX8_tick_36 rfl (fun h3 => ?_) (fun h3 => ?_)
          · have hge : i = k := (by have := ge_of_le (by omega) (by omega) h3; omega)
            have hs : XI E (M + 1) 1670 (rfIt σ n k) H := hge ▸ hs
            have hn : rfIt σ n k 0 = nI n := hge ▸ hn
            refine lv_aload_n S.1 S.2.1 dX8_tick_49 rfl (lv_at hl 1 rfl) ?_
            refine xk_R (v := (rfSum (rfIt σ n k) n)) (x_runV (As := []) (rest := []) S hE hS (fun _ h => h.elim) (c_X8_sum l E M (nI (hiLen np)) (nI ty) re (rfIt σ n k) n _ ho hs hn hn2) kv_X8_sum kw19_15 kw19_16 kw19_17 (x_recv hE (ho) (ci := 8) rfl) ⟨Nat.le_of_ble_eq_true rfl, Nat.le_of_ble_eq_true rfl⟩ rfl rfl rfl hl.1 rfl (Nat.le_of_ble_eq_true rfl) dX8_tick_50 ⟨Nat.zero_le _, Nat.zero_le _⟩) ?_
            subst hQ
            refine x_retW S hr hlk (rfl) hS hO ?_ dX8_tick_53
            exact (show rfTk σ n (nI k) = ((rfIt σ n k), (rfSum (rfIt σ n k) n), true) from by unfold rfTk; rw [if_pos h1, if_pos h2, nI_clamp (by omega)]; first | done | rfl) ▸ ⟨rfl, ⟨_, ho, hs, hp, ⟨_, hd3⟩, ht, ⟨_, hq5⟩, ⟨_, hq6⟩, ⟨_, hq7⟩⟩⟩
          · have hlt : i < k := lt_of_nle (by omega) (by omega) h3
            refine lv_aload_n S.1 S.2.1 dX8_tick_39 rfl (lv_at hl 1 rfl) ?_
            refine xk_V (x_runV (As := []) (rest := []) S hE hS (fun q h => bkM (k := 1) h (by decide)) (c_X8_ticks l E M (nI (hiLen np)) (nI ty) re (rfIt σ n i) n _ ho hs hn hn2) kv_X8_ticks kw18_11 kw18_12 kw18_13 (x_recv hE (ho) (ci := 8) rfl) ⟨Nat.le_of_ble_eq_true rfl, Nat.le_of_ble_eq_true rfl⟩ rfl rfl rfl hl.1 rfl (Nat.le_of_ble_eq_true rfl) dX8_tick_40 ⟨Nat.zero_le _, Nat.zero_le _⟩) hS (fun q h => bkM (k := 1) h (by decide)) (fun H locs hX hO1 hS => ?_)
            have hO := hO.tr hO1 (fun q h => bkM (k := 1) h (by decide))
            have ho := va_at.kept ho (hO1.2 (M) (fun z => by have z : M = M + 1 := z; omega))
            have hp := va_at.kept hp (hO1.2 (M + 2) (fun z => by have z : M + 2 = M + 1 := z; omega))
            have hd3 := va_at.kept hd3 (hO1.2 (M + 3) (fun z => by have z : M + 3 = M + 1 := z; omega))
            have ht := va_at.kept ht (hO1.2 (M + 4) (fun z => by have z : M + 4 = M + 1 := z; omega))
            have hq5 := va_at.kept hq5 (hO1.2 (M + 5) (fun z => by have z : M + 5 = M + 1 := z; omega))
            have hq6 := va_at.kept hq6 (hO1.2 (M + 6) (fun z => by have z : M + 6 = M + 1 := z; omega))
            have hq7 := va_at.kept hq7 (hO1.2 (M + 7) (fun z => by have z : M + 7 = M + 1 := z; omega))
            have hs : XI E (M + 1) 1670 (rfTick (rfIt σ n i) n) H := hX
            have hn : (rfTick (rfIt σ n i) n) 0 = nI n := (rfTick_0 (by decide) (by decide)).trans hn
            refine lv_iinc (k := 0) (v := (nI (i + 1))) S.1 S.2.1 dX8_tick_43 hl rfl (iincP i 1) (by decide) rfl (fun ls hl => ?_)
            have hl : lv_has ls 3 [(2, .int (nI (i + 1))), (0, .ref M), (1, .int (nI k))] := hl
            refine lv_goto (tgt := 34) S.1 S.2.1 dX8_tick_46 rfl ?_
            exact ih _ (by omega) (i + 1) _ _ ls rfl (by omega) (hn) (ho) (hs) (hp) (hd3) (ht) (hq5) (hq6) (hq7) (hO) (hS) (lv_sub hl [0, 1, 2] rfl)
      exact hloop34 _ 0 _ _ ls rfl (Nat.zero_le _) (hn) (ho) (hs) (hp) (hd3) (ht) (hq5) (hq6) (hq7) (hO) (hS) (lv_sub hl [0, 1, 2] rfl)
    · skip
      refine lv_bipush (v := (-3)) S.1 S.2.1 dX8_tick_25 (by decide) ?_
      subst hQ
      refine x_retW S hr hlk (rfl) hS hO ?_ dX8_tick_27
      exact (show rfTk σ n (nI k) = (σ, (-3), false) from by unfold rfTk; rw [if_pos h1, if_neg h2]; first | done | rfl) ▸ ⟨rfl, ⟨_, ho, hs, hp, ⟨_, hd3⟩, ht, ⟨_, hq5⟩, ⟨_, hq6⟩, ⟨_, hq7⟩⟩⟩
  · have h1 := bI_0 h1
    refine lv_iconst (v := (-1)) S.1 S.2.1 dX8_tick_10 (by decide) ?_
    subst hQ
    refine x_retW S hr hlk (rfl) hS hO ?_ dX8_tick_11
    exact (show rfTk σ n ta = (σ, (-1), false) from by unfold rfTk; rw [if_neg h1]; first | done | rfl) ▸ ⟨rfl, ⟨_, ho, hs, hp, ⟨_, hd3⟩, ht, ⟨_, hq5⟩, ⟨_, hq6⟩, ⟨_, hq7⟩⟩⟩
abbrev rm_X8_set : Room := ({ frames := 1, cells := 0, slots := 0, locals := 22 } : Room)
set_option maxRecDepth 100000 in
set_option maxHeartbeats 600000 in
theorem c_X8_set (l : Launch) (E : XE) (M n : Nat) (σ : Nat → Int32) (η : Nat → Nat → Int32) (np : Nat) (tx : Nat → Int32) (ty : Nat) (wa : Int32) (va : Int32) (H : Heap) (hP : RfP E M (σ, (η, np), (tx, ty)) H) (hn : σ 0 = nI n) (hn2 : n ≤ 200) (hnp : np ≤ 4) : Wr l E yX8_set cX8_set 5 (some .int) rm_X8_set [.ref M, .int wa, .int va] H (bk M 8) (fun v H1 => v = (rfSt σ wa va).2.1 ∧ RfP E M (rfMu σ η np tx ty (rfSt σ wa va)) H1) := by
  refine met_of (by decide) (Nat.le_of_ble_eq_true rfl) (fun p e s m args below meth c hBD Q hQ ls hl => ?_)
  obtain ⟨S, hr, hlk, hnm, hE, hH⟩ := hBD
  subst hH
  have hl : lv_has ls 5 [(0, .ref M), (1, .int wa), (2, .int va)] := hl
  have hO : Out (bk M 8) s.heap s.heap := Out.rf
  have hS : va_S (bk M 8) s.heap s.heap [] := va_S.rf
  obtain ⟨re, ho, hs, hp, ⟨f3, hd3⟩, ht, ⟨f5, hq5⟩, ⟨f6, hq6⟩, ⟨f7, hq7⟩⟩ := hP
  have ho : RfO E M (nI np) (nI ty) re s.heap := ho
  have hs : XI E (M + 1) 1670 σ s.heap := hs
  have hp : XI E (M + 2) 6680 (rfFl η) s.heap := hp
  have ht : XI E (M + 4) 60 tx s.heap := ht
  refine lv_iload_n S.1 S.2.1 dX8_set_0 rfl (lv_at hl 1 rfl) ?_
  refine lv_if_ne (tgt := 14) S.1 S.2.1 dX8_set_1 rfl (fun h1 => ?_) (fun h1 => ?_)
  · skip
    refine lv_iload_n S.1 S.2.1 dX8_set_14 rfl (lv_at hl 1 rfl) ?_
    refine lv_iconst (v := (nI 1)) S.1 S.2.1 dX8_set_15 (by decide) ?_
    refine lv_icmp_ne (tgt := 28) S.1 S.2.1 dX8_set_16 rfl (fun h2 => ?_) (fun h2 => ?_)
    · skip
      refine lv_iload_n S.1 S.2.1 dX8_set_28 rfl (lv_at hl 1 rfl) ?_
      refine lv_iconst (v := (nI 2)) S.1 S.2.1 dX8_set_29 (by decide) ?_
      refine lv_icmp_ne (tgt := 49) S.1 S.2.1 dX8_set_30 rfl (fun h3 => ?_) (fun h3 => ?_)
      · skip
        refine lv_iconst (v := (nI 0)) S.1 S.2.1 dX8_set_49 (by decide) ?_
        refine lv_istore_n S.1 S.2.1 dX8_set_50 rfl hl (by decide) rfl (fun ls hl => ?_)
        have hl : lv_has ls 5 [(3, .int (nI 0)), (0, .ref M), (1, .int wa), (2, .int va)] := hl
        refine lv_iload_n S.1 S.2.1 dX8_set_51 rfl (lv_at hl 0 rfl) ?_
        refine lv_if_ne (tgt := 57) S.1 S.2.1 dX8_set_52 rfl (fun h4 => ?_) (fun h4 => ?_)
        · exact absurd h4 (by decide)
        · skip
          refine lv_iconst (v := (-1)) S.1 S.2.1 dX8_set_55 (by decide) ?_
          subst hQ
          refine x_retW S hr hlk (rfl) hS hO ?_ dX8_set_56
          exact (show rfSt σ wa va = (σ, (-1), false) from by unfold rfSt; rw [if_neg h1, if_neg h2, if_neg h3]; first | done | rfl) ▸ ⟨rfl, ⟨_, ho, hs, hp, ⟨_, hd3⟩, ht, ⟨_, hq5⟩, ⟨_, hq6⟩, ⟨_, hq7⟩⟩⟩
      · skip
        refine lv_iload_n S.1 S.2.1 dX8_set_33 rfl (lv_at hl 2 rfl) ?_
        refine lv_bipush (v := (nI 100)) S.1 S.2.1 dX8_set_34 (by decide) ?_
        refine lv_sipush (v := (nI 8000)) S.1 S.2.1 dX8_set_36 (by decide) ?_
        refine xk_R (v := (bI ((nI 100) ≤ va ∧ va ≤ (nI 8000)))) (x_runS (As := [.int va, .int (nI 100), .int (nI 8000)]) (rest := []) S hE hS (fun _ h => h.elim) (c_X8_in l E va (nI 100) (nI 8000) _) kv_X8_in kw12_11 kw12_12 ⟨Nat.le_of_ble_eq_true rfl, Nat.le_of_ble_eq_true rfl⟩ rfl rfl rfl hl.1 rfl (Nat.le_of_ble_eq_true rfl) dX8_set_39 ⟨Nat.zero_le _, Nat.zero_le _⟩) ?_
        refine lv_if_eq (tgt := 49) S.1 S.2.1 dX8_set_42 rfl (fun h5 => ?_) (fun h5 => ?_)
        · skip
          have h5 := bI_0 h5
          refine lv_iconst (v := (nI 0)) S.1 S.2.1 dX8_set_49 (by decide) ?_
          refine lv_istore_n S.1 S.2.1 dX8_set_50 rfl hl (by decide) rfl (fun ls hl => ?_)
          have hl : lv_has ls 5 [(3, .int (nI 0)), (0, .ref M), (1, .int wa), (2, .int va)] := hl
          refine lv_iload_n S.1 S.2.1 dX8_set_51 rfl (lv_at hl 0 rfl) ?_
          refine lv_if_ne (tgt := 57) S.1 S.2.1 dX8_set_52 rfl (fun h6 => ?_) (fun h6 => ?_)
          · exact absurd h6 (by decide)
          · skip
            refine lv_iconst (v := (-1)) S.1 S.2.1 dX8_set_55 (by decide) ?_
            subst hQ
            refine x_retW S hr hlk (rfl) hS hO ?_ dX8_set_56
            exact (show rfSt σ wa va = (σ, (-1), false) from by unfold rfSt; rw [if_neg h1, if_neg h2, if_pos h3, if_neg h5]; first | done | rfl) ▸ ⟨rfl, ⟨_, ho, hs, hp, ⟨_, hd3⟩, ht, ⟨_, hq5⟩, ⟨_, hq6⟩, ⟨_, hq7⟩⟩⟩
        · skip
          have h5 := bI_n0 h5
          refine lv_iconst (v := (nI 1)) S.1 S.2.1 dX8_set_45 (by decide) ?_
          refine lv_goto (tgt := 50) S.1 S.2.1 dX8_set_46 rfl ?_
          refine lv_istore_n S.1 S.2.1 dX8_set_50 rfl hl (by decide) rfl (fun ls hl => ?_)
          have hl : lv_has ls 5 [(3, .int (nI 1)), (0, .ref M), (1, .int wa), (2, .int va)] := hl
          refine lv_iload_n S.1 S.2.1 dX8_set_51 rfl (lv_at hl 0 rfl) ?_
          refine lv_if_ne (tgt := 57) S.1 S.2.1 dX8_set_52 rfl (fun h7 => ?_) (fun h7 => ?_)
          · skip
            refine lv_aload_n S.1 S.2.1 dX8_set_57 rfl (lv_at hl 1 rfl) ?_
            refine xk_V (x_runV (As := []) (rest := []) S hE hS (fun q h => h.elim (fun h => bkM (k := 0) h (by decide)) (fun h => bkM (k := 2) h (by decide))) (c_X8_changes l E M (nI ty) re np σ η _ ho hs hp hnp) kv_X8_changes kw13_2 kw13_3 kw13_4 (x_recv hE (ho) (ci := 8) rfl) ⟨Nat.le_of_ble_eq_true rfl, Nat.le_of_ble_eq_true rfl⟩ rfl rfl rfl hl.1 rfl (Nat.le_of_ble_eq_true rfl) dX8_set_58 ⟨Nat.zero_le _, Nat.zero_le _⟩) hS (fun q h => h.elim (fun h => bkM (k := 0) h (by decide)) (fun h => bkM (k := 2) h (by decide))) (fun H locs hX hO1 hS => ?_)
            have hO := hO.tr hO1 (fun q h => h.elim (fun h => bkM (k := 0) h (by decide)) (fun h => bkM (k := 2) h (by decide)))
            have hs := va_at.kept hs (hO1.2 (M + 1) (fun z => by rcases z with z | z <;> omega))
            have hd3 := va_at.kept hd3 (hO1.2 (M + 3) (fun z => by rcases z with z | z <;> omega))
            have ht := va_at.kept ht (hO1.2 (M + 4) (fun z => by rcases z with z | z <;> omega))
            have hq5 := va_at.kept hq5 (hO1.2 (M + 5) (fun z => by rcases z with z | z <;> omega))
            have hq6 := va_at.kept hq6 (hO1.2 (M + 6) (fun z => by rcases z with z | z <;> omega))
            have hq7 := va_at.kept hq7 (hO1.2 (M + 7) (fun z => by rcases z with z | z <;> omega))
            obtain ⟨ho, hp⟩ := hX
            refine lv_aload_n S.1 S.2.1 dX8_set_61 rfl (lv_at hl 1 rfl) ?_
            refine x_get S hE (ho) (C := RX8) (T := TX8) (N := 10) rfl inlX8 0 (by decide) (v := .ref (M + 1)) rfl kw7_6 rfl dX8_set_62 ?_
            refine lv_bipush (v := (nI 6)) S.1 S.2.1 dX8_set_65 (by decide) ?_
            refine lv_iload_n S.1 S.2.1 dX8_set_67 rfl (lv_at hl 2 rfl) ?_
            refine lv_iadd S.1 S.2.1 dX8_set_68 ?_
            refine x_top (y := (nI 8)) (by rw [h3]; decide) ?_
            refine x_iald S hE (hs) 8 rfl (by decide) (by decide) dX8_set_69 ?_
            refine lv_istore S.1 S.2.1 dX8_set_70 hl (by decide) rfl (fun ls hl => ?_)
            have hl : lv_has ls 5 [(4, .int (σ 8)), (3, .int (nI 1)), (0, .ref M), (1, .int wa), (2, .int va)] := hl
            refine lv_aload_n S.1 S.2.1 dX8_set_72 rfl (lv_at hl 2 rfl) ?_
            refine x_get S hE (ho) (C := RX8) (T := TX8) (N := 10) rfl inlX8 0 (by decide) (v := .ref (M + 1)) rfl kw7_6 rfl dX8_set_73 ?_
            refine lv_bipush (v := (nI 6)) S.1 S.2.1 dX8_set_76 (by decide) ?_
            refine lv_iload_n S.1 S.2.1 dX8_set_78 rfl (lv_at hl 3 rfl) ?_
            refine lv_iadd S.1 S.2.1 dX8_set_79 ?_
            refine x_top (y := (nI 8)) (by rw [h3]; decide) ?_
            refine lv_iload_n S.1 S.2.1 dX8_set_80 rfl (lv_at hl 4 rfl) ?_
            refine x_iast S hE hS (bkM (k := 1) rfl (by decide)) (hs) 8 rfl (by decide) (by decide) dX8_set_81 (fun H locs hX hO1 hS => ?_)
            have hO := hO.tr hO1 (fun q h => bkM (k := 1) h (by decide))
            have ho := va_at.kept ho (hO1.2 (M) (fun z => by have z : M = M + 1 := z; omega))
            have hp := va_at.kept hp (hO1.2 (M + 2) (fun z => by have z : M + 2 = M + 1 := z; omega))
            have hd3 := va_at.kept hd3 (hO1.2 (M + 3) (fun z => by have z : M + 3 = M + 1 := z; omega))
            have ht := va_at.kept ht (hO1.2 (M + 4) (fun z => by have z : M + 4 = M + 1 := z; omega))
            have hq5 := va_at.kept hq5 (hO1.2 (M + 5) (fun z => by have z : M + 5 = M + 1 := z; omega))
            have hq6 := va_at.kept hq6 (hO1.2 (M + 6) (fun z => by have z : M + 6 = M + 1 := z; omega))
            have hq7 := va_at.kept hq7 (hO1.2 (M + 7) (fun z => by have z : M + 7 = M + 1 := z; omega))
            have hs : XI E (M + 1) 1670 (upd σ 8 va) H := hX
            have hn : (upd σ 8 va) 0 = nI n := ((pk_un (by decide))).trans hn
            refine lv_iload S.1 S.2.1 dX8_set_82 (lv_at hl 0 rfl) ?_
            subst hQ
            refine x_retW S hr hlk (rfl) hS hO ?_ dX8_set_84
            exact (show rfSt σ wa va = ((upd σ 8 va), (σ 8), true) from by unfold rfSt; rw [if_neg h1, if_neg h2, if_pos h3, if_pos h5]; first | done | rfl) ▸ ⟨rfl, ⟨_, ho, hs, hp, ⟨_, hd3⟩, ht, ⟨_, hq5⟩, ⟨_, hq6⟩, ⟨_, hq7⟩⟩⟩
          · exact absurd h7 (by decide)
    · skip
      refine lv_iload_n S.1 S.2.1 dX8_set_19 rfl (lv_at hl 2 rfl) ?_
      refine lv_iconst (v := (nI 0)) S.1 S.2.1 dX8_set_20 (by decide) ?_
      refine lv_iconst (v := (nI 2)) S.1 S.2.1 dX8_set_21 (by decide) ?_
      refine xk_R (v := (bI ((nI 0) ≤ va ∧ va ≤ (nI 2)))) (x_runS (As := [.int va, .int (nI 0), .int (nI 2)]) (rest := []) S hE hS (fun _ h => h.elim) (c_X8_in l E va (nI 0) (nI 2) _) kv_X8_in kw12_11 kw12_12 ⟨Nat.le_of_ble_eq_true rfl, Nat.le_of_ble_eq_true rfl⟩ rfl rfl rfl hl.1 rfl (Nat.le_of_ble_eq_true rfl) dX8_set_22 ⟨Nat.zero_le _, Nat.zero_le _⟩) ?_
      refine lv_goto (tgt := 50) S.1 S.2.1 dX8_set_25 rfl ?_
      refine lv_istore_n S.1 S.2.1 dX8_set_50 rfl hl (by decide) rfl (fun ls hl => ?_)
      have hl : lv_has ls 5 [(3, .int (bI ((nI 0) ≤ va ∧ va ≤ (nI 2)))), (0, .ref M), (1, .int wa), (2, .int va)] := hl
      refine lv_iload_n S.1 S.2.1 dX8_set_51 rfl (lv_at hl 0 rfl) ?_
      refine lv_if_ne (tgt := 57) S.1 S.2.1 dX8_set_52 rfl (fun h8 => ?_) (fun h8 => ?_)
      · skip
        have h8 := bI_n0 h8
        refine lv_aload_n S.1 S.2.1 dX8_set_57 rfl (lv_at hl 1 rfl) ?_
        refine xk_V (x_runV (As := []) (rest := []) S hE hS (fun q h => h.elim (fun h => bkM (k := 0) h (by decide)) (fun h => bkM (k := 2) h (by decide))) (c_X8_changes l E M (nI ty) re np σ η _ ho hs hp hnp) kv_X8_changes kw13_2 kw13_3 kw13_4 (x_recv hE (ho) (ci := 8) rfl) ⟨Nat.le_of_ble_eq_true rfl, Nat.le_of_ble_eq_true rfl⟩ rfl rfl rfl hl.1 rfl (Nat.le_of_ble_eq_true rfl) dX8_set_58 ⟨Nat.zero_le _, Nat.zero_le _⟩) hS (fun q h => h.elim (fun h => bkM (k := 0) h (by decide)) (fun h => bkM (k := 2) h (by decide))) (fun H locs hX hO1 hS => ?_)
        have hO := hO.tr hO1 (fun q h => h.elim (fun h => bkM (k := 0) h (by decide)) (fun h => bkM (k := 2) h (by decide)))
        have hs := va_at.kept hs (hO1.2 (M + 1) (fun z => by rcases z with z | z <;> omega))
        have hd3 := va_at.kept hd3 (hO1.2 (M + 3) (fun z => by rcases z with z | z <;> omega))
        have ht := va_at.kept ht (hO1.2 (M + 4) (fun z => by rcases z with z | z <;> omega))
        have hq5 := va_at.kept hq5 (hO1.2 (M + 5) (fun z => by rcases z with z | z <;> omega))
        have hq6 := va_at.kept hq6 (hO1.2 (M + 6) (fun z => by rcases z with z | z <;> omega))
        have hq7 := va_at.kept hq7 (hO1.2 (M + 7) (fun z => by rcases z with z | z <;> omega))
        obtain ⟨ho, hp⟩ := hX
        refine lv_aload_n S.1 S.2.1 dX8_set_61 rfl (lv_at hl 1 rfl) ?_
        refine x_get S hE (ho) (C := RX8) (T := TX8) (N := 10) rfl inlX8 0 (by decide) (v := .ref (M + 1)) rfl kw7_6 rfl dX8_set_62 ?_
        refine lv_bipush (v := (nI 6)) S.1 S.2.1 dX8_set_65 (by decide) ?_
        refine lv_iload_n S.1 S.2.1 dX8_set_67 rfl (lv_at hl 2 rfl) ?_
        refine lv_iadd S.1 S.2.1 dX8_set_68 ?_
        refine x_top (y := (nI 7)) (by rw [h2]; decide) ?_
        refine x_iald S hE (hs) 7 rfl (by decide) (by decide) dX8_set_69 ?_
        refine lv_istore S.1 S.2.1 dX8_set_70 hl (by decide) rfl (fun ls hl => ?_)
        have hl : lv_has ls 5 [(4, .int (σ 7)), (3, .int (bI ((nI 0) ≤ va ∧ va ≤ (nI 2)))), (0, .ref M), (1, .int wa), (2, .int va)] := hl
        refine lv_aload_n S.1 S.2.1 dX8_set_72 rfl (lv_at hl 2 rfl) ?_
        refine x_get S hE (ho) (C := RX8) (T := TX8) (N := 10) rfl inlX8 0 (by decide) (v := .ref (M + 1)) rfl kw7_6 rfl dX8_set_73 ?_
        refine lv_bipush (v := (nI 6)) S.1 S.2.1 dX8_set_76 (by decide) ?_
        refine lv_iload_n S.1 S.2.1 dX8_set_78 rfl (lv_at hl 3 rfl) ?_
        refine lv_iadd S.1 S.2.1 dX8_set_79 ?_
        refine x_top (y := (nI 7)) (by rw [h2]; decide) ?_
        refine lv_iload_n S.1 S.2.1 dX8_set_80 rfl (lv_at hl 4 rfl) ?_
        refine x_iast S hE hS (bkM (k := 1) rfl (by decide)) (hs) 7 rfl (by decide) (by decide) dX8_set_81 (fun H locs hX hO1 hS => ?_)
        have hO := hO.tr hO1 (fun q h => bkM (k := 1) h (by decide))
        have ho := va_at.kept ho (hO1.2 (M) (fun z => by have z : M = M + 1 := z; omega))
        have hp := va_at.kept hp (hO1.2 (M + 2) (fun z => by have z : M + 2 = M + 1 := z; omega))
        have hd3 := va_at.kept hd3 (hO1.2 (M + 3) (fun z => by have z : M + 3 = M + 1 := z; omega))
        have ht := va_at.kept ht (hO1.2 (M + 4) (fun z => by have z : M + 4 = M + 1 := z; omega))
        have hq5 := va_at.kept hq5 (hO1.2 (M + 5) (fun z => by have z : M + 5 = M + 1 := z; omega))
        have hq6 := va_at.kept hq6 (hO1.2 (M + 6) (fun z => by have z : M + 6 = M + 1 := z; omega))
        have hq7 := va_at.kept hq7 (hO1.2 (M + 7) (fun z => by have z : M + 7 = M + 1 := z; omega))
        have hs : XI E (M + 1) 1670 (upd σ 7 va) H := hX
        have hn : (upd σ 7 va) 0 = nI n := ((pk_un (by decide))).trans hn
        refine lv_iload S.1 S.2.1 dX8_set_82 (lv_at hl 0 rfl) ?_
        subst hQ
        refine x_retW S hr hlk (rfl) hS hO ?_ dX8_set_84
        exact (show rfSt σ wa va = ((upd σ 7 va), (σ 7), true) from by unfold rfSt; rw [if_neg h1, if_pos h2, if_pos h8]; first | done | rfl) ▸ ⟨rfl, ⟨_, ho, hs, hp, ⟨_, hd3⟩, ht, ⟨_, hq5⟩, ⟨_, hq6⟩, ⟨_, hq7⟩⟩⟩
      · skip
        have h8 := bI_0 h8
        refine lv_iconst (v := (-1)) S.1 S.2.1 dX8_set_55 (by decide) ?_
        subst hQ
        refine x_retW S hr hlk (rfl) hS hO ?_ dX8_set_56
        exact (show rfSt σ wa va = (σ, (-1), false) from by unfold rfSt; rw [if_neg h1, if_pos h2, if_neg h8]; first | done | rfl) ▸ ⟨rfl, ⟨_, ho, hs, hp, ⟨_, hd3⟩, ht, ⟨_, hq5⟩, ⟨_, hq6⟩, ⟨_, hq7⟩⟩⟩
  · skip
    refine lv_iload_n S.1 S.2.1 dX8_set_4 rfl (lv_at hl 2 rfl) ?_
    refine lv_iconst (v := (nI 1)) S.1 S.2.1 dX8_set_5 (by decide) ?_
    refine lv_bipush (v := (nI 8)) S.1 S.2.1 dX8_set_6 (by decide) ?_
    refine xk_R (v := (bI ((nI 1) ≤ va ∧ va ≤ (nI 8)))) (x_runS (As := [.int va, .int (nI 1), .int (nI 8)]) (rest := []) S hE hS (fun _ h => h.elim) (c_X8_in l E va (nI 1) (nI 8) _) kv_X8_in kw12_11 kw12_12 ⟨Nat.le_of_ble_eq_true rfl, Nat.le_of_ble_eq_true rfl⟩ rfl rfl rfl hl.1 rfl (Nat.le_of_ble_eq_true rfl) dX8_set_8 ⟨Nat.zero_le _, Nat.zero_le _⟩) ?_
    refine lv_goto (tgt := 50) S.1 S.2.1 dX8_set_11 rfl ?_
    refine lv_istore_n S.1 S.2.1 dX8_set_50 rfl hl (by decide) rfl (fun ls hl => ?_)
    have hl : lv_has ls 5 [(3, .int (bI ((nI 1) ≤ va ∧ va ≤ (nI 8)))), (0, .ref M), (1, .int wa), (2, .int va)] := hl
    refine lv_iload_n S.1 S.2.1 dX8_set_51 rfl (lv_at hl 0 rfl) ?_
    refine lv_if_ne (tgt := 57) S.1 S.2.1 dX8_set_52 rfl (fun h9 => ?_) (fun h9 => ?_)
    · skip
      have h9 := bI_n0 h9
      refine lv_aload_n S.1 S.2.1 dX8_set_57 rfl (lv_at hl 1 rfl) ?_
      refine xk_V (x_runV (As := []) (rest := []) S hE hS (fun q h => h.elim (fun h => bkM (k := 0) h (by decide)) (fun h => bkM (k := 2) h (by decide))) (c_X8_changes l E M (nI ty) re np σ η _ ho hs hp hnp) kv_X8_changes kw13_2 kw13_3 kw13_4 (x_recv hE (ho) (ci := 8) rfl) ⟨Nat.le_of_ble_eq_true rfl, Nat.le_of_ble_eq_true rfl⟩ rfl rfl rfl hl.1 rfl (Nat.le_of_ble_eq_true rfl) dX8_set_58 ⟨Nat.zero_le _, Nat.zero_le _⟩) hS (fun q h => h.elim (fun h => bkM (k := 0) h (by decide)) (fun h => bkM (k := 2) h (by decide))) (fun H locs hX hO1 hS => ?_)
      have hO := hO.tr hO1 (fun q h => h.elim (fun h => bkM (k := 0) h (by decide)) (fun h => bkM (k := 2) h (by decide)))
      have hs := va_at.kept hs (hO1.2 (M + 1) (fun z => by rcases z with z | z <;> omega))
      have hd3 := va_at.kept hd3 (hO1.2 (M + 3) (fun z => by rcases z with z | z <;> omega))
      have ht := va_at.kept ht (hO1.2 (M + 4) (fun z => by rcases z with z | z <;> omega))
      have hq5 := va_at.kept hq5 (hO1.2 (M + 5) (fun z => by rcases z with z | z <;> omega))
      have hq6 := va_at.kept hq6 (hO1.2 (M + 6) (fun z => by rcases z with z | z <;> omega))
      have hq7 := va_at.kept hq7 (hO1.2 (M + 7) (fun z => by rcases z with z | z <;> omega))
      obtain ⟨ho, hp⟩ := hX
      refine lv_aload_n S.1 S.2.1 dX8_set_61 rfl (lv_at hl 1 rfl) ?_
      refine x_get S hE (ho) (C := RX8) (T := TX8) (N := 10) rfl inlX8 0 (by decide) (v := .ref (M + 1)) rfl kw7_6 rfl dX8_set_62 ?_
      refine lv_bipush (v := (nI 6)) S.1 S.2.1 dX8_set_65 (by decide) ?_
      refine lv_iload_n S.1 S.2.1 dX8_set_67 rfl (lv_at hl 2 rfl) ?_
      refine lv_iadd S.1 S.2.1 dX8_set_68 ?_
      refine x_top (y := (nI 6)) (by rw [h1]; decide) ?_
      refine x_iald S hE (hs) 6 rfl (by decide) (by decide) dX8_set_69 ?_
      refine lv_istore S.1 S.2.1 dX8_set_70 hl (by decide) rfl (fun ls hl => ?_)
      have hl : lv_has ls 5 [(4, .int (σ 6)), (3, .int (bI ((nI 1) ≤ va ∧ va ≤ (nI 8)))), (0, .ref M), (1, .int wa), (2, .int va)] := hl
      refine lv_aload_n S.1 S.2.1 dX8_set_72 rfl (lv_at hl 2 rfl) ?_
      refine x_get S hE (ho) (C := RX8) (T := TX8) (N := 10) rfl inlX8 0 (by decide) (v := .ref (M + 1)) rfl kw7_6 rfl dX8_set_73 ?_
      refine lv_bipush (v := (nI 6)) S.1 S.2.1 dX8_set_76 (by decide) ?_
      refine lv_iload_n S.1 S.2.1 dX8_set_78 rfl (lv_at hl 3 rfl) ?_
      refine lv_iadd S.1 S.2.1 dX8_set_79 ?_
      refine x_top (y := (nI 6)) (by rw [h1]; decide) ?_
      refine lv_iload_n S.1 S.2.1 dX8_set_80 rfl (lv_at hl 4 rfl) ?_
      refine x_iast S hE hS (bkM (k := 1) rfl (by decide)) (hs) 6 rfl (by decide) (by decide) dX8_set_81 (fun H locs hX hO1 hS => ?_)
      have hO := hO.tr hO1 (fun q h => bkM (k := 1) h (by decide))
      have ho := va_at.kept ho (hO1.2 (M) (fun z => by have z : M = M + 1 := z; omega))
      have hp := va_at.kept hp (hO1.2 (M + 2) (fun z => by have z : M + 2 = M + 1 := z; omega))
      have hd3 := va_at.kept hd3 (hO1.2 (M + 3) (fun z => by have z : M + 3 = M + 1 := z; omega))
      have ht := va_at.kept ht (hO1.2 (M + 4) (fun z => by have z : M + 4 = M + 1 := z; omega))
      have hq5 := va_at.kept hq5 (hO1.2 (M + 5) (fun z => by have z : M + 5 = M + 1 := z; omega))
      have hq6 := va_at.kept hq6 (hO1.2 (M + 6) (fun z => by have z : M + 6 = M + 1 := z; omega))
      have hq7 := va_at.kept hq7 (hO1.2 (M + 7) (fun z => by have z : M + 7 = M + 1 := z; omega))
      have hs : XI E (M + 1) 1670 (upd σ 6 va) H := hX
      have hn : (upd σ 6 va) 0 = nI n := ((pk_un (by decide))).trans hn
      refine lv_iload S.1 S.2.1 dX8_set_82 (lv_at hl 0 rfl) ?_
      subst hQ
      refine x_retW S hr hlk (rfl) hS hO ?_ dX8_set_84
      exact (show rfSt σ wa va = ((upd σ 6 va), (σ 6), true) from by unfold rfSt; rw [if_pos h1, if_pos h9]; first | done | rfl) ▸ ⟨rfl, ⟨_, ho, hs, hp, ⟨_, hd3⟩, ht, ⟨_, hq5⟩, ⟨_, hq6⟩, ⟨_, hq7⟩⟩⟩
    · skip
      have h9 := bI_0 h9
      refine lv_iconst (v := (-1)) S.1 S.2.1 dX8_set_55 (by decide) ?_
      subst hQ
      refine x_retW S hr hlk (rfl) hS hO ?_ dX8_set_56
      exact (show rfSt σ wa va = (σ, (-1), false) from by unfold rfSt; rw [if_pos h1, if_neg h9]; first | done | rfl) ▸ ⟨rfl, ⟨_, ho, hs, hp, ⟨_, hd3⟩, ht, ⟨_, hq5⟩, ⟨_, hq6⟩, ⟨_, hq7⟩⟩⟩
