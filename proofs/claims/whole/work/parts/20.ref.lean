/-! 20.ref: walks, by program -/
abbrev RfO (E : XE) (M : Nat) (ps ty re : Int32) (H : Heap) : Prop := XO E M 8 [.ref (M + 1), .ref (M + 2), .ref (M + 3), .int ps, .ref (M + 4), .int ty, .int re, .ref (M + 5), .ref (M + 6), .ref (M + 7)] H
def oi : Option Nat → Int32
  | none => (-4)
  | some k => nI k
def nf (σ : Nat → Int32) (k w : Nat) : Int32 := σ (70 + 8 * k + w)
def nset (σ : Nat → Int32) (k w : Nat) (v : Int32) : Nat → Int32 := upd σ (70 + 8 * k + w) v
theorem nset_lo {σ : Nat → Int32} {k w : Nat} {v : Int32} {j : Nat} (h : j < 70) : nset σ k w v j = σ j := pk_un (by omega)
abbrev rfPl (σ : Nat → Int32) (k : Nat) : Prop := nI 1 ≤ nf σ k 3 ∧ nf σ k 3 ≤ nI 4
abbrev rfVo (σ : Nat → Int32) (k : Nat) : Prop := nI 1 ≤ nf σ k 3 ∧ nf σ k 3 ≤ nI 5
def rfRise (p : Int32) : Int32 := if p = 0 then nI 2 else if p = nI 1 then nI 4 else if p = nI 2 then nI 5 else nI 8
def rfSink (p : Int32) : Int32 := if p = 0 then nI 10 else if p = nI 1 then nI 8 else if p = nI 2 then nI 12 else nI 6
def rfFade (p : Int32) : Int32 := if p = 0 then nI 6 else if p = nI 1 then nI 8 else if p = nI 2 then nI 10 else nI 16
def rfPeak (σ : Nat → Int32) (k : Nat) : Int32 := nI 8 * nf σ k 2
def rfRest (σ : Nat → Int32) (k : Nat) : Int32 := rfPeak σ k * (nI 600 + nI 100 * nf σ k 0) / nI 1000
def rfUp (v b : Int32) : Int32 := (v + b - nI 1) / b
def rfMany (σ : Nat → Int32) (z : Int32) : Nat → Int32
  | 0 => nI 0
  | i + 1 => rfMany σ z i + (if nf σ i 3 = z then nI 1 else nI 0)
def rfPlc (σ : Nat → Int32) : Nat → Int32
  | 0 => nI 0
  | i + 1 => rfPlc σ i + (if rfPl σ i then nI 1 else nI 0)
def rfV (σ : Nat → Int32) (p q : Int32) : Nat → Option Nat
  | 0 => none
  | i + 1 => if rfPl σ i ∧ nf σ i 0 = p ∧ nf σ i 1 = q then some i else rfV σ p q i
theorem rfV_lt {σ : Nat → Int32} {p q : Int32} {n j : Nat} (h : rfV σ p q n = some j) : j < n := by
  induction n with
  | zero => cases h
  | succ i ih =>
    rw [rfV] at h
    by_cases c : rfPl σ i ∧ nf σ i 0 = p ∧ nf σ i 1 = q
    · rw [if_pos c] at h; cases h; omega
    · rw [if_neg c] at h; have := ih h; omega
theorem upd_row {r f g : Nat → Int32} {i : Nat} (hr : ∀ j, r j = if j < i then f j else g j) : ∀ j, upd r i (f i) j = if j < i + 1 then f j else g j := by
  intro j
  by_cases c : j = i
  · subst c; rw [pk_us, if_pos (by omega)]
  · rw [pk_un (by omega), hr j]
    by_cases d : j < i
    · rw [if_pos d, if_pos (by omega)]
    · rw [if_neg d, if_neg (by omega)]
theorem xi_ext {E : XE} {a n : Nat} {f g : Nat → Int32} {H : Heap} (h : XI E a n f H) (e : ∀ k, k < n → f k = g k) : XI E a n g H := by
  have h : H[a]? = some (vp_cell (E.2.1 0) (n, .inl f)) := h
  show H[a]? = some (vp_cell (E.2.1 0) (n, .inl g))
  rw [h]
  have q : Array.ofFn (n := n) (fun j => Value.int (f j.1)) = Array.ofFn (n := n) (fun j => Value.int (g j.1)) := by
    congr 1; funext j; rw [e j.1 j.2]
  exact congrArg (fun v => some ({ cls := E.2.1 0, slots := v, vm := .none } : Cell)) q
def rfFl (η : Nat → Nat → Int32) (j : Nat) : Int32 := η (j / 1670) (j % 1670)
def rfRec (η : Nat → Nat → Int32) (np : Nat) (σ : Nat → Int32) : Nat → Nat → Int32 := if np = 4 then (fun i => if i = 3 then σ else η (i + 1)) else (fun i => if i = np then σ else η i)
def rfStamp (σ : Nat → Int32) (k : Nat) : Nat → Int32 := upd (nset σ k 7 (σ 5)) 5 ((nset σ k 7 (σ 5)) 5 + nI 1)
def rfSings (σ : Nat → Int32) (k : Nat) : Nat → Int32 := rfStamp (nset (nset (nset σ k 3 (nI 1)) k 4 (nI 0)) k 6 (nI 0)) k
def rfAn (σ : Nat → Int32) (k : Nat) (z : Int32) : Nat → Int32 := if nf (nset σ k 2 z) k 4 < rfPeak (nset σ k 2 z) k then nset (nset σ k 2 z) k 3 (nI 1) else nset (nset σ k 2 z) k 3 (nI 2)
def rfAnew (σ : Nat → Int32) (k : Nat) (z : Int32) : Nat → Int32 := upd (rfStamp (nset (rfAn σ k z) k 6 (nI 0)) k) 4 ((rfStamp (nset (rfAn σ k z) k 6 (nI 0)) k) 4 + nI 1)
def rfFades (σ : Nat → Int32) (k : Nat) : Nat → Int32 := nset (nset (nset σ k 3 (nI 4)) k 5 (nf (nset σ k 3 (nI 4)) k 4)) k 6 (nI 0)
theorem rfStamp_0 {σ : Nat → Int32} {k j : Nat} (h : j < 5) : rfStamp σ k j = σ j := by
  rw [rfStamp, pk_un (by omega), nset_lo (by omega)]
theorem rfSings_0 {σ : Nat → Int32} {k j : Nat} (h : j < 5) : rfSings σ k j = σ j := by
  rw [rfSings, rfStamp_0 h, nset_lo (by omega), nset_lo (by omega), nset_lo (by omega)]
theorem rfAn_0 {σ : Nat → Int32} {k j : Nat} {z : Int32} (h : j < 70) : rfAn σ k z j = σ j := by
  unfold rfAn
  by_cases c : nf (nset σ k 2 z) k 4 < rfPeak (nset σ k 2 z) k
  · rw [if_pos c, nset_lo h, nset_lo h]
  · rw [if_neg c, nset_lo h, nset_lo h]
theorem rfAnew_0 {σ : Nat → Int32} {k j : Nat} {z : Int32} (h : j < 4) : rfAnew σ k z j = σ j := by
  rw [rfAnew, pk_un (by omega), rfStamp_0 (by omega), nset_lo (by omega), rfAn_0 (by omega)]
theorem rfFades_0 {σ : Nat → Int32} {k j : Nat} (h : j < 70) : rfFades σ k j = σ j := by
  rw [rfFades, nset_lo h, nset_lo h, nset_lo h]
def yMin (a b : Int32) : Int32 := if a ≤ b then a else b
def yMax (a b : Int32) : Int32 := if b ≤ a then a else b
def rfRs (σ : Nat → Int32) (k : Nat) : Int32 := yMin (nf σ k 4 + rfUp (rfPeak σ k) (rfRise (nf σ k 0))) (rfPeak σ k)
def rfSk (σ : Nat → Int32) (k : Nat) : Int32 := yMax (nf σ k 4 - rfUp (rfPeak σ k - rfRest σ k) (rfSink (nf σ k 0))) (rfRest σ k)
def rfDn (σ : Nat → Int32) (k : Nat) (b : Int32) : Int32 := yMax (nf σ k 4 - rfUp (nf σ k 5) b) 0
def rfMv (σ : Nat → Int32) (k : Nat) : Nat → Int32 :=
  if nf σ k 3 = nI 1 then nset (nset σ k 3 (if rfRs σ k = rfPeak σ k then nI 2 else nI 1)) k 4 (rfRs σ k) else
  if nf σ k 3 = nI 2 then nset (nset σ k 3 (if rfSk σ k = rfRest σ k then nI 3 else nI 2)) k 4 (rfSk σ k) else
  if nf σ k 3 = nI 4 then nset (nset σ k 3 (if rfDn σ k (rfFade (nf σ k 0)) = 0 then nI 6 else nI 4)) k 4 (rfDn σ k (rfFade (nf σ k 0))) else
  if nf σ k 3 = nI 5 then nset (nset σ k 3 (if rfDn σ k (nI 3) = 0 then nI 6 else nI 5)) k 4 (rfDn σ k (nI 3)) else nset σ k 4 (nf σ k 4)
theorem rfMv_0 {σ : Nat → Int32} {k j : Nat} (h : j < 70) : rfMv σ k j = σ j := by
  unfold rfMv
  by_cases c1 : nf σ k 3 = nI 1
  · rw [if_pos c1, nset_lo h, nset_lo h]
  rw [if_neg c1]
  by_cases c2 : nf σ k 3 = nI 2
  · rw [if_pos c2, nset_lo h, nset_lo h]
  rw [if_neg c2]
  by_cases c3 : nf σ k 3 = nI 4
  · rw [if_pos c3, nset_lo h, nset_lo h]
  rw [if_neg c3]
  by_cases c4 : nf σ k 3 = nI 5
  · rw [if_pos c4, nset_lo h, nset_lo h]
  rw [if_neg c4, nset_lo h]
def rfSum (σ : Nat → Int32) : Nat → Int32
  | 0 => nI 0
  | i + 1 => rfSum σ i + (if rfVo σ i then nf σ i 4 else nI 0)
def rfHrd (σ : Nat → Int32) (n k : Nat) : Int32 := if rfSum σ n ≤ σ 8 then nf σ k 4 else nf σ k 4 * σ 8 / rfSum σ n
def rfAhd (σ : Nat → Int32) : Nat → Int32
  | 0 => nI 0
  | i + 1 => rfAhd σ i + (if nf σ i 3 = 0 then nI 1 else nI 0)
def rfHrO (σ : Nat → Int32) (n : Nat) (p : Int32) : Nat → Int32
  | 0 => nI 0
  | i + 1 => rfHrO σ n p i + (if rfVo σ i then (if nf σ i 0 = p then rfHrd σ n i else nI 0) else nI 0)
def rfHrA (σ : Nat → Int32) (n : Nat) : Int32 := rfHrO σ n (nI 0) n + rfHrO σ n (nI 1) n + rfHrO σ n (nI 2) n + rfHrO σ n (nI 3) n
def rfFree (σ : Nat → Int32) (n : Nat) : Int32 := if 0 ≤ σ 6 - rfPlc σ n then σ 6 - rfPlc σ n else nI 0
def rfLN (σ : Nat → Int32) : Nat → (Nat → Int32) × Int32
  | 0 => (upd σ 2 (nI 0), nI 0)
  | i + 1 => if rfPl (rfLN σ i).1 i ∧ nf (rfLN σ i).1 i 6 = nI 1 then (rfFades (rfLN σ i).1 i, (rfLN σ i).2 + nI 1) else rfLN σ i
theorem rfLN_0 {σ : Nat → Int32} {i j : Nat} (h : j < 70) (h2 : ¬ j = 2) : (rfLN σ i).1 j = σ j := by
  induction i with
  | zero => exact pk_un h2
  | succ i ih =>
    rw [rfLN]
    by_cases c : rfPl (rfLN σ i).1 i ∧ nf (rfLN σ i).1 i 6 = nI 1
    · rw [if_pos c]; exact (rfFades_0 h).trans ih
    · rw [if_neg c]; exact ih
def rfMvN (σ : Nat → Int32) : Nat → Nat → Int32
  | 0 => upd σ 1 (σ 1 + nI 1)
  | i + 1 => rfMv (rfMvN σ i) i
theorem rfMvN_0 {σ : Nat → Int32} {i j : Nat} (h : j < 70) (h2 : ¬ j = 1) : rfMvN σ i j = σ j := by
  induction i with
  | zero => exact pk_un h2
  | succ i ih => exact (rfMv_0 h).trans ih
def rfCi (n : Nat) : Nat → Nat → (Nat → Int32) → (Nat → Int32)
  | 0, _, σ => σ
  | f + 1, k, σ => if nf σ k 3 = 0 then (match rfV σ (nf σ k 0) (nf σ k 1) n with
      | some j => rfCi n f (k + 1) (rfAnew (nset σ k 3 (nI 6)) j (nf (nset σ k 3 (nI 6)) k 2))
      | none => if rfPlc σ n < σ 6 then rfCi n f (k + 1) (rfSings σ k) else σ) else rfCi n f (k + 1) σ
def rfTick (σ : Nat → Int32) (n : Nat) : Nat → Int32 := rfCi n n 0 (rfMvN σ n)
theorem rfCi_0 {n j : Nat} (h : j < 4) : ∀ (f k : Nat) (σ : Nat → Int32), rfCi n f k σ j = σ j := by
  intro f
  induction f with
  | zero => intro k σ; rfl
  | succ f ih =>
    intro k σ
    rw [rfCi]
    by_cases c : nf σ k 3 = 0
    · rw [if_pos c]
      cases hv : rfV σ (nf σ k 0) (nf σ k 1) n with
      | some v => simp only []; rw [ih, rfAnew_0 h, nset_lo (by omega)]
      | none =>
        simp only []
        by_cases c2 : rfPlc σ n < σ 6
        · rw [if_pos c2, ih, rfSings_0 (by omega)]
        · rw [if_neg c2]
    · rw [if_neg c, ih]
theorem rfTick_0 {n j : Nat} {σ : Nat → Int32} (h : j < 4) (h2 : ¬ j = 1) : rfTick σ n j = σ j := by
  rw [rfTick, rfCi_0 h, rfMvN_0 (by omega) h2]
theorem nz_of {a b : Int32} (h0 : 0 ≤ a) (h : a < b) : ¬ b = 0 := by
  intro z; subst z; exact absurd h (Int32.not_lt.mpr h0)
def rfBt (σ : Nat → Int32) (i j : Nat) : Bool := decide (σ 7 = 0) && decide (nf σ i 4 < nf σ j 4) || (decide (σ 7 = nI 1) || decide (nf σ i 4 = nf σ j 4)) && decide (nf σ i 7 < nf σ j 7)
abbrev rfMay (σ : Nat → Int32) (z : Int32) (i : Nat) : Prop := (z = 0 ∧ rfPl σ i) ∨ (¬ z = 0 ∧ nf σ i 3 = nI 4)
def rfSH (σ : Nat → Int32) (z : Int32) : Nat → Option Nat
  | 0 => none
  | i + 1 => if rfMay σ z i then (match rfSH σ z i with
      | none => some i
      | some j => if rfBt σ i j = true then some i else some j) else rfSH σ z i
theorem rfSH_lt {σ : Nat → Int32} {z : Int32} {n j : Nat} (h : rfSH σ z n = some j) : j < n := by
  induction n generalizing j with
  | zero => cases h
  | succ i ih =>
    rw [rfSH] at h
    by_cases c : rfMay σ z i
    · rw [if_pos c] at h
      cases hv : rfSH σ z i with
      | none => rw [hv] at h; cases h; omega
      | some v =>
        rw [hv] at h
        have h : (if rfBt σ i v = true then some i else some v) = some j := h
        have := ih hv
        by_cases d : rfBt σ i v = true
        · rw [if_pos d] at h; cases h; omega
        · rw [if_neg d] at h; cases h; omega
    · rw [if_neg c] at h; have := ih h; omega
theorem rfSH_no {σ : Nat → Int32} {z : Int32} {i : Nat} (h : rfMay σ z i) (hv : rfSH σ z i = none) : rfSH σ z (i + 1) = some i := by
  rw [rfSH, if_pos h, hv]
theorem rfSH_yes {σ : Nat → Int32} {z : Int32} {i j : Nat} (h : rfMay σ z i) (hv : rfSH σ z i = some j) (c : rfBt σ i j = true) : rfSH σ z (i + 1) = some i := by
  rw [rfSH, if_pos h, hv]; exact if_pos c
theorem rfSH_nay {σ : Nat → Int32} {z : Int32} {i j : Nat} (h : rfMay σ z i) (hv : rfSH σ z i = some j) (c : rfBt σ i j = false) : rfSH σ z (i + 1) = some j := by
  rw [rfSH, if_pos h, hv]; exact if_neg (by rw [c]; decide)
def rfSz (σ : Nat → Int32) (n : Nat) : Int32 := if rfMany σ (nI 4) n ≤ 0 then nI 0 else nI 1
def rfNx (σ : Nat → Int32) (n : Nat) : Option Nat := if σ 7 < nI 2 then rfSH σ (rfSz σ n) n else none
theorem rfNx_a {σ : Nat → Int32} {n : Nat} {z : Int32} (hz : rfSz σ n = z) (h : n = 0 ∨ σ 7 < nI 2) : rfSH σ z n = rfNx σ n := by
  subst hz
  unfold rfNx
  by_cases c : σ 7 < nI 2
  · rw [if_pos c]
  · rw [if_neg c]
    rcases h with h | h
    · subst h; rfl
    · exact absurd h c
theorem rfNx_b {σ : Nat → Int32} {n i : Nat} {z : Int32} (h : i = 0 ∨ σ 7 < nI 2) (hg : nI 2 ≤ σ 7) : rfSH σ z i = rfNx σ n := by
  unfold rfNx
  rw [if_neg (Int32.not_lt.mpr hg)]
  rcases h with h | h
  · subst h; rfl
  · exact absurd h (Int32.not_lt.mpr hg)
theorem rise_nz (p : Int32) : ¬ rfRise p = 0 := by
  unfold rfRise; by_cases h0 : p = 0
  · rw [if_pos h0]; decide
  rw [if_neg h0]; by_cases h1 : p = nI 1
  · rw [if_pos h1]; decide
  rw [if_neg h1]; by_cases h2 : p = nI 2
  · rw [if_pos h2]; decide
  rw [if_neg h2]; decide
theorem sink_nz (p : Int32) : ¬ rfSink p = 0 := by
  unfold rfSink; by_cases h0 : p = 0
  · rw [if_pos h0]; decide
  rw [if_neg h0]; by_cases h1 : p = nI 1
  · rw [if_pos h1]; decide
  rw [if_neg h1]; by_cases h2 : p = nI 2
  · rw [if_pos h2]; decide
  rw [if_neg h2]; decide
theorem fade_nz (p : Int32) : ¬ rfFade p = 0 := by
  unfold rfFade; by_cases h0 : p = 0
  · rw [if_pos h0]; decide
  rw [if_neg h0]; by_cases h1 : p = nI 1
  · rw [if_pos h1]; decide
  rw [if_neg h1]; by_cases h2 : p = nI 2
  · rw [if_pos h2]; decide
  rw [if_neg h2]; decide
abbrev rm_X8_in : Room := ({ frames := 0, cells := 0, slots := 0, locals := 0 } : Room)
set_option maxRecDepth 100000 in
set_option maxHeartbeats 600000 in
theorem c_X8_in (l : Launch) (E : XE) (va la ma : Int32) (H : Heap) : Rd l E yX8_in cX8_in 3 (some .boolean) rm_X8_in [.int va, .int la, .int ma] H (bI (la ≤ va ∧ va ≤ ma)) := by
  refine met_of (by decide) (Nat.le_of_ble_eq_true rfl) (fun p e s m args below meth c hBD Q hQ ls hl => ?_)
  obtain ⟨S, hr, hlk, hnm, hE, hH⟩ := hBD
  subst hH
  have hl : lv_has ls 3 [(0, .int va), (1, .int la), (2, .int ma)] := hl
  have hS : va_S (fun _ => False) s.heap s.heap [] := va_S.rf
  refine lv_iload_n S.1 S.2.1 dX8_in_0 rfl (lv_at hl 0 rfl) ?_
  refine lv_iload_n S.1 S.2.1 dX8_in_1 rfl (lv_at hl 1 rfl) ?_
  refine lv_icmp_lt (tgt := 14) S.1 S.2.1 dX8_in_2 rfl (fun h1 => ?_) (fun h1 => ?_)
  · skip
    refine lv_iconst (v := (nI 0)) S.1 S.2.1 dX8_in_14 (by decide) ?_
    subst hQ
    exact x_retR S hr hlk (by first | rfl | decide | exact bI_nar _) (bI_f (fun z => by first | exact absurd z.1 (Int32.not_le.mpr h1) | exact absurd z.2 (Int32.not_le.mpr h2))) dX8_in_15
  · skip
    refine lv_iload_n S.1 S.2.1 dX8_in_5 rfl (lv_at hl 0 rfl) ?_
    refine lv_iload_n S.1 S.2.1 dX8_in_6 rfl (lv_at hl 2 rfl) ?_
    refine lv_icmp_gt (tgt := 14) S.1 S.2.1 dX8_in_7 rfl (fun h2 => ?_) (fun h2 => ?_)
    · skip
      refine lv_iconst (v := (nI 0)) S.1 S.2.1 dX8_in_14 (by decide) ?_
      subst hQ
      exact x_retR S hr hlk (by first | rfl | decide | exact bI_nar _) (bI_f (fun z => by first | exact absurd z.1 (Int32.not_le.mpr h1) | exact absurd z.2 (Int32.not_le.mpr h2))) dX8_in_15
    · skip
      refine lv_iconst (v := (nI 1)) S.1 S.2.1 dX8_in_10 (by decide) ?_
      refine lv_goto (tgt := 15) S.1 S.2.1 dX8_in_11 rfl ?_
      subst hQ
      exact x_retR S hr hlk (by first | rfl | decide | exact bI_nar _) (bI_t ⟨i_nlt h1, i_nlt h2⟩) dX8_in_15
abbrev rm_X8_of : Room := ({ frames := 0, cells := 0, slots := 0, locals := 0 } : Room)
set_option maxRecDepth 100000 in
set_option maxHeartbeats 600000 in
theorem c_X8_of (l : Launch) (E : XE) (M : Nat) (ps ty re : Int32) (σ : Nat → Int32) (k w : Nat) (H : Heap) (ho : RfO E M ps ty re H) (hs : XI E (M + 1) 1670 σ H) (hk : k < 200) (hw : w < 8) : Rd l E yX8_of cX8_of 3 (some .int) rm_X8_of [.ref M, .int (nI k), .int (nI w)] H (nf σ k w) := by
  refine met_of (by decide) (Nat.le_of_ble_eq_true rfl) (fun p e s m args below meth c hBD Q hQ ls hl => ?_)
  obtain ⟨S, hr, hlk, hnm, hE, hH⟩ := hBD
  subst hH
  have hl : lv_has ls 3 [(0, .ref M), (1, .int (nI k)), (2, .int (nI w))] := hl
  have hS : va_S (fun _ => False) s.heap s.heap [] := va_S.rf
  refine lv_aload_n S.1 S.2.1 dX8_of_0 rfl (lv_at hl 0 rfl) ?_
  refine x_get S hE (ho) (C := RX8) (T := TX8) (N := 10) rfl inlX8 0 (by decide) (v := .ref (M + 1)) rfl kw7_6 rfl dX8_of_1 ?_
  refine lv_bipush (v := (nI 70)) S.1 S.2.1 dX8_of_4 (by decide) ?_
  refine lv_bipush (v := (nI 8)) S.1 S.2.1 dX8_of_6 (by decide) ?_
  refine lv_iload_n S.1 S.2.1 dX8_of_8 rfl (lv_at hl 1 rfl) ?_
  refine lv_imul S.1 S.2.1 dX8_of_9 ?_
  refine x_top (y := (nI (8 * k))) (pk_mul 8 k) ?_
  refine lv_iadd S.1 S.2.1 dX8_of_10 ?_
  refine x_top (y := (nI (70 + (8 * k)))) (nI_add 70 (8 * k)) ?_
  refine lv_iload_n S.1 S.2.1 dX8_of_11 rfl (lv_at hl 2 rfl) ?_
  refine lv_iadd S.1 S.2.1 dX8_of_12 ?_
  refine x_top (y := (nI ((70 + (8 * k)) + w))) (nI_add (70 + (8 * k)) w) ?_
  refine x_iald S hE (hs) ((70 + (8 * k)) + w) rfl (by omega) (by decide) dX8_of_13 ?_
  subst hQ
  exact x_retR S hr hlk (rfl) (rfl) dX8_of_14
abbrev rm_X8_puts : Room := ({ frames := 0, cells := 0, slots := 0, locals := 0 } : Room)
set_option maxRecDepth 100000 in
set_option maxHeartbeats 600000 in
theorem c_X8_puts (l : Launch) (E : XE) (M : Nat) (ps ty re : Int32) (σ : Nat → Int32) (k w : Nat) (va : Int32) (H : Heap) (ho : RfO E M ps ty re H) (hs : XI E (M + 1) 1670 σ H) (hk : k < 200) (hw : w < 8) : Wv l E yX8_puts cX8_puts 4 rm_X8_puts [.ref M, .int (nI k), .int (nI w), .int va] H (fun q => q = M + 1) (XI E (M + 1) 1670 (nset σ k w va)) := by
  refine met_of (by decide) (Nat.le_of_ble_eq_true rfl) (fun p e s m args below meth c hBD Q hQ ls hl => ?_)
  obtain ⟨S, hr, hlk, hnm, hE, hH⟩ := hBD
  subst hH
  have hl : lv_has ls 4 [(0, .ref M), (1, .int (nI k)), (2, .int (nI w)), (3, .int va)] := hl
  have hO : Out (fun q => q = M + 1) s.heap s.heap := Out.rf
  have hS : va_S (fun q => q = M + 1) s.heap s.heap [] := va_S.rf
  refine lv_aload_n S.1 S.2.1 dX8_puts_0 rfl (lv_at hl 0 rfl) ?_
  refine x_get S hE (ho) (C := RX8) (T := TX8) (N := 10) rfl inlX8 0 (by decide) (v := .ref (M + 1)) rfl kw7_6 rfl dX8_puts_1 ?_
  refine lv_bipush (v := (nI 70)) S.1 S.2.1 dX8_puts_4 (by decide) ?_
  refine lv_bipush (v := (nI 8)) S.1 S.2.1 dX8_puts_6 (by decide) ?_
  refine lv_iload_n S.1 S.2.1 dX8_puts_8 rfl (lv_at hl 1 rfl) ?_
  refine lv_imul S.1 S.2.1 dX8_puts_9 ?_
  refine x_top (y := (nI (8 * k))) (pk_mul 8 k) ?_
  refine lv_iadd S.1 S.2.1 dX8_puts_10 ?_
  refine x_top (y := (nI (70 + (8 * k)))) (nI_add 70 (8 * k)) ?_
  refine lv_iload_n S.1 S.2.1 dX8_puts_11 rfl (lv_at hl 2 rfl) ?_
  refine lv_iadd S.1 S.2.1 dX8_puts_12 ?_
  refine x_top (y := (nI ((70 + (8 * k)) + w))) (nI_add (70 + (8 * k)) w) ?_
  refine lv_iload_n S.1 S.2.1 dX8_puts_13 rfl (lv_at hl 3 rfl) ?_
  refine x_iast S hE hS (rfl) (hs) ((70 + (8 * k)) + w) rfl (by omega) (by decide) dX8_puts_14 (fun H locs hX hO1 hS => ?_)
  have hO := hO.tr hO1 (fun q h => h)
  have ho := va_at.kept ho (hO1.2 _ (fun z => by have z : M = M + 1 := z; omega))
  have hs : XI E (M + 1) 1670 (upd σ ((70 + (8 * k)) + w) va) H := hX
  subst hQ
  refine x_retV S hr hlk hS hO ?_ dX8_puts_15
  exact hs
abbrev rm_X8_hasPlace : Room := ({ frames := 1, cells := 0, slots := 0, locals := 22 } : Room)
set_option maxRecDepth 100000 in
set_option maxHeartbeats 600000 in
theorem c_X8_hasPlace (l : Launch) (E : XE) (M : Nat) (ps ty re : Int32) (σ : Nat → Int32) (k : Nat) (H : Heap) (ho : RfO E M ps ty re H) (hs : XI E (M + 1) 1670 σ H) (hk : k < 200) : Rd l E yX8_hasPlace cX8_hasPlace 2 (some .boolean) rm_X8_hasPlace [.ref M, .int (nI k)] H (bI (rfPl σ k)) := by
  refine met_of (by decide) (Nat.le_of_ble_eq_true rfl) (fun p e s m args below meth c hBD Q hQ ls hl => ?_)
  obtain ⟨S, hr, hlk, hnm, hE, hH⟩ := hBD
  subst hH
  have hl : lv_has ls 2 [(0, .ref M), (1, .int (nI k))] := hl
  have hS : va_S (fun _ => False) s.heap s.heap [] := va_S.rf
  refine lv_aload_n S.1 S.2.1 dX8_hasPlace_0 rfl (lv_at hl 0 rfl) ?_
  refine lv_iload_n S.1 S.2.1 dX8_hasPlace_1 rfl (lv_at hl 1 rfl) ?_
  refine lv_iconst (v := (nI 3)) S.1 S.2.1 dX8_hasPlace_2 (by decide) ?_
  refine xk_R (v := (nf σ k 3)) (x_runV (As := [.int (nI k), .int (nI 3)]) (rest := []) S hE hS (fun _ h => h.elim) (c_X8_of l E M ps ty re σ k 3 _ ho hs (by omega) (by omega)) kv_X8_of kw12_22 kw12_23 kw13_0 (x_recv hE (ho) (ci := 8) rfl) ⟨Nat.le_of_ble_eq_true rfl, Nat.le_of_ble_eq_true rfl⟩ rfl rfl rfl hl.1 rfl (Nat.le_of_ble_eq_true rfl) dX8_hasPlace_3 ⟨Nat.zero_le _, Nat.zero_le _⟩) ?_
  refine lv_iconst (v := (nI 1)) S.1 S.2.1 dX8_hasPlace_6 (by decide) ?_
  refine lv_iconst (v := (nI 4)) S.1 S.2.1 dX8_hasPlace_7 (by decide) ?_
  refine xk_R (v := (bI ((nI 1) ≤ (nf σ k 3) ∧ (nf σ k 3) ≤ (nI 4)))) (x_runS (As := [.int (nf σ k 3), .int (nI 1), .int (nI 4)]) (rest := []) S hE hS (fun _ h => h.elim) (c_X8_in l E (nf σ k 3) (nI 1) (nI 4) _) kv_X8_in kw12_11 kw12_12 ⟨Nat.le_of_ble_eq_true rfl, Nat.le_of_ble_eq_true rfl⟩ rfl rfl rfl hl.1 rfl (Nat.le_of_ble_eq_true rfl) dX8_hasPlace_8 ⟨Nat.zero_le _, Nat.zero_le _⟩) ?_
  subst hQ
  exact x_retR S hr hlk (bI_nar) (rfl) dX8_hasPlace_11
abbrev rm_X8_isVoice : Room := ({ frames := 1, cells := 0, slots := 0, locals := 22 } : Room)
set_option maxRecDepth 100000 in
set_option maxHeartbeats 600000 in
theorem c_X8_isVoice (l : Launch) (E : XE) (M : Nat) (ps ty re : Int32) (σ : Nat → Int32) (k : Nat) (H : Heap) (ho : RfO E M ps ty re H) (hs : XI E (M + 1) 1670 σ H) (hk : k < 200) : Rd l E yX8_isVoice cX8_isVoice 2 (some .boolean) rm_X8_isVoice [.ref M, .int (nI k)] H (bI (rfVo σ k)) := by
  refine met_of (by decide) (Nat.le_of_ble_eq_true rfl) (fun p e s m args below meth c hBD Q hQ ls hl => ?_)
  obtain ⟨S, hr, hlk, hnm, hE, hH⟩ := hBD
  subst hH
  have hl : lv_has ls 2 [(0, .ref M), (1, .int (nI k))] := hl
  have hS : va_S (fun _ => False) s.heap s.heap [] := va_S.rf
  refine lv_aload_n S.1 S.2.1 dX8_isVoice_0 rfl (lv_at hl 0 rfl) ?_
  refine lv_iload_n S.1 S.2.1 dX8_isVoice_1 rfl (lv_at hl 1 rfl) ?_
  refine lv_iconst (v := (nI 3)) S.1 S.2.1 dX8_isVoice_2 (by decide) ?_
  refine xk_R (v := (nf σ k 3)) (x_runV (As := [.int (nI k), .int (nI 3)]) (rest := []) S hE hS (fun _ h => h.elim) (c_X8_of l E M ps ty re σ k 3 _ ho hs (by omega) (by omega)) kv_X8_of kw12_22 kw12_23 kw13_0 (x_recv hE (ho) (ci := 8) rfl) ⟨Nat.le_of_ble_eq_true rfl, Nat.le_of_ble_eq_true rfl⟩ rfl rfl rfl hl.1 rfl (Nat.le_of_ble_eq_true rfl) dX8_isVoice_3 ⟨Nat.zero_le _, Nat.zero_le _⟩) ?_
  refine lv_iconst (v := (nI 1)) S.1 S.2.1 dX8_isVoice_6 (by decide) ?_
  refine lv_iconst (v := (nI 5)) S.1 S.2.1 dX8_isVoice_7 (by decide) ?_
  refine xk_R (v := (bI ((nI 1) ≤ (nf σ k 3) ∧ (nf σ k 3) ≤ (nI 5)))) (x_runS (As := [.int (nf σ k 3), .int (nI 1), .int (nI 5)]) (rest := []) S hE hS (fun _ h => h.elim) (c_X8_in l E (nf σ k 3) (nI 1) (nI 5) _) kv_X8_in kw12_11 kw12_12 ⟨Nat.le_of_ble_eq_true rfl, Nat.le_of_ble_eq_true rfl⟩ rfl rfl rfl hl.1 rfl (Nat.le_of_ble_eq_true rfl) dX8_isVoice_8 ⟨Nat.zero_le _, Nat.zero_le _⟩) ?_
  subst hQ
  exact x_retR S hr hlk (bI_nar) (rfl) dX8_isVoice_11
abbrev rm_X8_rise : Room := ({ frames := 0, cells := 0, slots := 0, locals := 0 } : Room)
set_option maxRecDepth 100000 in
set_option maxHeartbeats 600000 in
theorem c_X8_rise (l : Launch) (E : XE) (pa : Int32) (H : Heap) : Rd l E yX8_rise cX8_rise 1 (some .int) rm_X8_rise [.int pa] H (rfRise pa) := by
  refine met_of (by decide) (Nat.le_of_ble_eq_true rfl) (fun p e s m args below meth c hBD Q hQ ls hl => ?_)
  obtain ⟨S, hr, hlk, hnm, hE, hH⟩ := hBD
  subst hH
  have hl : lv_has ls 1 [(0, .int pa)] := hl
  have hS : va_S (fun _ => False) s.heap s.heap [] := va_S.rf
  refine lv_iload_n S.1 S.2.1 dX8_rise_0 rfl (lv_at hl 0 rfl) ?_
  refine lv_if_ne (tgt := 8) S.1 S.2.1 dX8_rise_1 rfl (fun h1 => ?_) (fun h1 => ?_)
  · skip
    refine lv_iload_n S.1 S.2.1 dX8_rise_8 rfl (lv_at hl 0 rfl) ?_
    refine lv_iconst (v := (nI 1)) S.1 S.2.1 dX8_rise_9 (by decide) ?_
    refine lv_icmp_ne (tgt := 17) S.1 S.2.1 dX8_rise_10 rfl (fun h2 => ?_) (fun h2 => ?_)
    · skip
      refine lv_iload_n S.1 S.2.1 dX8_rise_17 rfl (lv_at hl 0 rfl) ?_
      refine lv_iconst (v := (nI 2)) S.1 S.2.1 dX8_rise_18 (by decide) ?_
      refine lv_icmp_ne (tgt := 26) S.1 S.2.1 dX8_rise_19 rfl (fun h3 => ?_) (fun h3 => ?_)
      · skip
        refine lv_bipush (v := (nI 8)) S.1 S.2.1 dX8_rise_26 (by decide) ?_
        subst hQ
        exact x_retR S hr hlk (rfl) (by rw [rfRise]; first | rw [if_pos h1] | rw [if_neg h1, if_pos h2] | rw [if_neg h1, if_neg h2, if_pos h3] | rw [if_neg h1, if_neg h2, if_neg h3]) dX8_rise_28
      · skip
        refine lv_iconst (v := (nI 5)) S.1 S.2.1 dX8_rise_22 (by decide) ?_
        refine lv_goto (tgt := 28) S.1 S.2.1 dX8_rise_23 rfl ?_
        subst hQ
        exact x_retR S hr hlk (rfl) (by rw [rfRise]; first | rw [if_pos h1] | rw [if_neg h1, if_pos h2] | rw [if_neg h1, if_neg h2, if_pos h3] | rw [if_neg h1, if_neg h2, if_neg h3]) dX8_rise_28
    · skip
      refine lv_iconst (v := (nI 4)) S.1 S.2.1 dX8_rise_13 (by decide) ?_
      refine lv_goto (tgt := 28) S.1 S.2.1 dX8_rise_14 rfl ?_
      subst hQ
      exact x_retR S hr hlk (rfl) (by rw [rfRise]; first | rw [if_pos h1] | rw [if_neg h1, if_pos h2] | rw [if_neg h1, if_neg h2, if_pos h3] | rw [if_neg h1, if_neg h2, if_neg h3]) dX8_rise_28
  · skip
    refine lv_iconst (v := (nI 2)) S.1 S.2.1 dX8_rise_4 (by decide) ?_
    refine lv_goto (tgt := 28) S.1 S.2.1 dX8_rise_5 rfl ?_
    subst hQ
    exact x_retR S hr hlk (rfl) (by rw [rfRise]; first | rw [if_pos h1] | rw [if_neg h1, if_pos h2] | rw [if_neg h1, if_neg h2, if_pos h3] | rw [if_neg h1, if_neg h2, if_neg h3]) dX8_rise_28
abbrev rm_X8_sink : Room := ({ frames := 0, cells := 0, slots := 0, locals := 0 } : Room)
set_option maxRecDepth 100000 in
set_option maxHeartbeats 600000 in
theorem c_X8_sink (l : Launch) (E : XE) (pa : Int32) (H : Heap) : Rd l E yX8_sink cX8_sink 1 (some .int) rm_X8_sink [.int pa] H (rfSink pa) := by
  refine met_of (by decide) (Nat.le_of_ble_eq_true rfl) (fun p e s m args below meth c hBD Q hQ ls hl => ?_)
  obtain ⟨S, hr, hlk, hnm, hE, hH⟩ := hBD
  subst hH
  have hl : lv_has ls 1 [(0, .int pa)] := hl
  have hS : va_S (fun _ => False) s.heap s.heap [] := va_S.rf
  refine lv_iload_n S.1 S.2.1 dX8_sink_0 rfl (lv_at hl 0 rfl) ?_
  refine lv_if_ne (tgt := 9) S.1 S.2.1 dX8_sink_1 rfl (fun h1 => ?_) (fun h1 => ?_)
  · skip
    refine lv_iload_n S.1 S.2.1 dX8_sink_9 rfl (lv_at hl 0 rfl) ?_
    refine lv_iconst (v := (nI 1)) S.1 S.2.1 dX8_sink_10 (by decide) ?_
    refine lv_icmp_ne (tgt := 19) S.1 S.2.1 dX8_sink_11 rfl (fun h2 => ?_) (fun h2 => ?_)
    · skip
      refine lv_iload_n S.1 S.2.1 dX8_sink_19 rfl (lv_at hl 0 rfl) ?_
      refine lv_iconst (v := (nI 2)) S.1 S.2.1 dX8_sink_20 (by decide) ?_
      refine lv_icmp_ne (tgt := 29) S.1 S.2.1 dX8_sink_21 rfl (fun h3 => ?_) (fun h3 => ?_)
      · skip
        refine lv_bipush (v := (nI 6)) S.1 S.2.1 dX8_sink_29 (by decide) ?_
        subst hQ
        exact x_retR S hr hlk (rfl) (by rw [rfSink]; first | rw [if_pos h1] | rw [if_neg h1, if_pos h2] | rw [if_neg h1, if_neg h2, if_pos h3] | rw [if_neg h1, if_neg h2, if_neg h3]) dX8_sink_31
      · skip
        refine lv_bipush (v := (nI 12)) S.1 S.2.1 dX8_sink_24 (by decide) ?_
        refine lv_goto (tgt := 31) S.1 S.2.1 dX8_sink_26 rfl ?_
        subst hQ
        exact x_retR S hr hlk (rfl) (by rw [rfSink]; first | rw [if_pos h1] | rw [if_neg h1, if_pos h2] | rw [if_neg h1, if_neg h2, if_pos h3] | rw [if_neg h1, if_neg h2, if_neg h3]) dX8_sink_31
    · skip
      refine lv_bipush (v := (nI 8)) S.1 S.2.1 dX8_sink_14 (by decide) ?_
      refine lv_goto (tgt := 31) S.1 S.2.1 dX8_sink_16 rfl ?_
      subst hQ
      exact x_retR S hr hlk (rfl) (by rw [rfSink]; first | rw [if_pos h1] | rw [if_neg h1, if_pos h2] | rw [if_neg h1, if_neg h2, if_pos h3] | rw [if_neg h1, if_neg h2, if_neg h3]) dX8_sink_31
  · skip
    refine lv_bipush (v := (nI 10)) S.1 S.2.1 dX8_sink_4 (by decide) ?_
    refine lv_goto (tgt := 31) S.1 S.2.1 dX8_sink_6 rfl ?_
    subst hQ
    exact x_retR S hr hlk (rfl) (by rw [rfSink]; first | rw [if_pos h1] | rw [if_neg h1, if_pos h2] | rw [if_neg h1, if_neg h2, if_pos h3] | rw [if_neg h1, if_neg h2, if_neg h3]) dX8_sink_31
abbrev rm_X8_fade : Room := ({ frames := 0, cells := 0, slots := 0, locals := 0 } : Room)
set_option maxRecDepth 100000 in
set_option maxHeartbeats 600000 in
theorem c_X8_fade (l : Launch) (E : XE) (pa : Int32) (H : Heap) : Rd l E yX8_fade cX8_fade 1 (some .int) rm_X8_fade [.int pa] H (rfFade pa) := by
  refine met_of (by decide) (Nat.le_of_ble_eq_true rfl) (fun p e s m args below meth c hBD Q hQ ls hl => ?_)
  obtain ⟨S, hr, hlk, hnm, hE, hH⟩ := hBD
  subst hH
  have hl : lv_has ls 1 [(0, .int pa)] := hl
  have hS : va_S (fun _ => False) s.heap s.heap [] := va_S.rf
  refine lv_iload_n S.1 S.2.1 dX8_fade_0 rfl (lv_at hl 0 rfl) ?_
  refine lv_if_ne (tgt := 9) S.1 S.2.1 dX8_fade_1 rfl (fun h1 => ?_) (fun h1 => ?_)
  · skip
    refine lv_iload_n S.1 S.2.1 dX8_fade_9 rfl (lv_at hl 0 rfl) ?_
    refine lv_iconst (v := (nI 1)) S.1 S.2.1 dX8_fade_10 (by decide) ?_
    refine lv_icmp_ne (tgt := 19) S.1 S.2.1 dX8_fade_11 rfl (fun h2 => ?_) (fun h2 => ?_)
    · skip
      refine lv_iload_n S.1 S.2.1 dX8_fade_19 rfl (lv_at hl 0 rfl) ?_
      refine lv_iconst (v := (nI 2)) S.1 S.2.1 dX8_fade_20 (by decide) ?_
      refine lv_icmp_ne (tgt := 29) S.1 S.2.1 dX8_fade_21 rfl (fun h3 => ?_) (fun h3 => ?_)
      · skip
        refine lv_bipush (v := (nI 16)) S.1 S.2.1 dX8_fade_29 (by decide) ?_
        subst hQ
        exact x_retR S hr hlk (rfl) (by rw [rfFade]; first | rw [if_pos h1] | rw [if_neg h1, if_pos h2] | rw [if_neg h1, if_neg h2, if_pos h3] | rw [if_neg h1, if_neg h2, if_neg h3]) dX8_fade_31
      · skip
        refine lv_bipush (v := (nI 10)) S.1 S.2.1 dX8_fade_24 (by decide) ?_
        refine lv_goto (tgt := 31) S.1 S.2.1 dX8_fade_26 rfl ?_
        subst hQ
        exact x_retR S hr hlk (rfl) (by rw [rfFade]; first | rw [if_pos h1] | rw [if_neg h1, if_pos h2] | rw [if_neg h1, if_neg h2, if_pos h3] | rw [if_neg h1, if_neg h2, if_neg h3]) dX8_fade_31
    · skip
      refine lv_bipush (v := (nI 8)) S.1 S.2.1 dX8_fade_14 (by decide) ?_
      refine lv_goto (tgt := 31) S.1 S.2.1 dX8_fade_16 rfl ?_
      subst hQ
      exact x_retR S hr hlk (rfl) (by rw [rfFade]; first | rw [if_pos h1] | rw [if_neg h1, if_pos h2] | rw [if_neg h1, if_neg h2, if_pos h3] | rw [if_neg h1, if_neg h2, if_neg h3]) dX8_fade_31
  · skip
    refine lv_bipush (v := (nI 6)) S.1 S.2.1 dX8_fade_4 (by decide) ?_
    refine lv_goto (tgt := 31) S.1 S.2.1 dX8_fade_6 rfl ?_
    subst hQ
    exact x_retR S hr hlk (rfl) (by rw [rfFade]; first | rw [if_pos h1] | rw [if_neg h1, if_pos h2] | rw [if_neg h1, if_neg h2, if_pos h3] | rw [if_neg h1, if_neg h2, if_neg h3]) dX8_fade_31
abbrev rm_X8_peakOf : Room := ({ frames := 1, cells := 0, slots := 0, locals := 22 } : Room)
set_option maxRecDepth 100000 in
set_option maxHeartbeats 600000 in
theorem c_X8_peakOf (l : Launch) (E : XE) (M : Nat) (ps ty re : Int32) (σ : Nat → Int32) (k : Nat) (H : Heap) (ho : RfO E M ps ty re H) (hs : XI E (M + 1) 1670 σ H) (hk : k < 200) : Rd l E yX8_peakOf cX8_peakOf 2 (some .int) rm_X8_peakOf [.ref M, .int (nI k)] H (rfPeak σ k) := by
  refine met_of (by decide) (Nat.le_of_ble_eq_true rfl) (fun p e s m args below meth c hBD Q hQ ls hl => ?_)
  obtain ⟨S, hr, hlk, hnm, hE, hH⟩ := hBD
  subst hH
  have hl : lv_has ls 2 [(0, .ref M), (1, .int (nI k))] := hl
  have hS : va_S (fun _ => False) s.heap s.heap [] := va_S.rf
  refine lv_bipush (v := (nI 8)) S.1 S.2.1 dX8_peakOf_0 (by decide) ?_
  refine lv_aload_n S.1 S.2.1 dX8_peakOf_2 rfl (lv_at hl 0 rfl) ?_
  refine lv_iload_n S.1 S.2.1 dX8_peakOf_3 rfl (lv_at hl 1 rfl) ?_
  refine lv_iconst (v := (nI 2)) S.1 S.2.1 dX8_peakOf_4 (by decide) ?_
  refine xk_R (v := (nf σ k 2)) (x_runV (As := [.int (nI k), .int (nI 2)]) (rest := [.int (nI 8)]) S hE hS (fun _ h => h.elim) (c_X8_of l E M ps ty re σ k 2 _ ho hs (by omega) (by omega)) kv_X8_of kw12_22 kw12_23 kw13_0 (x_recv hE (ho) (ci := 8) rfl) ⟨Nat.le_of_ble_eq_true rfl, Nat.le_of_ble_eq_true rfl⟩ rfl rfl rfl hl.1 rfl (Nat.le_of_ble_eq_true rfl) dX8_peakOf_5 ⟨Nat.zero_le _, Nat.zero_le _⟩) ?_
  refine lv_imul S.1 S.2.1 dX8_peakOf_8 ?_
  subst hQ
  exact x_retR S hr hlk (rfl) (rfl) dX8_peakOf_9
abbrev rm_X8_restOf : Room := ({ frames := 2, cells := 0, slots := 0, locals := 43 } : Room)
set_option maxRecDepth 100000 in
set_option maxHeartbeats 600000 in
theorem c_X8_restOf (l : Launch) (E : XE) (M : Nat) (ps ty re : Int32) (σ : Nat → Int32) (k : Nat) (H : Heap) (ho : RfO E M ps ty re H) (hs : XI E (M + 1) 1670 σ H) (hk : k < 200) : Rd l E yX8_restOf cX8_restOf 2 (some .int) rm_X8_restOf [.ref M, .int (nI k)] H (rfRest σ k) := by
  refine met_of (by decide) (Nat.le_of_ble_eq_true rfl) (fun p e s m args below meth c hBD Q hQ ls hl => ?_)
  obtain ⟨S, hr, hlk, hnm, hE, hH⟩ := hBD
  subst hH
  have hl : lv_has ls 2 [(0, .ref M), (1, .int (nI k))] := hl
  have hS : va_S (fun _ => False) s.heap s.heap [] := va_S.rf
  refine lv_aload_n S.1 S.2.1 dX8_restOf_0 rfl (lv_at hl 0 rfl) ?_
  refine lv_iload_n S.1 S.2.1 dX8_restOf_1 rfl (lv_at hl 1 rfl) ?_
  refine xk_R (v := (rfPeak σ k)) (x_runV (As := [.int (nI k)]) (rest := []) S hE hS (fun _ h => h.elim) (c_X8_peakOf l E M ps ty re σ k _ ho hs (by omega)) kv_X8_peakOf kw13_15 kw13_16 kw13_17 (x_recv hE (ho) (ci := 8) rfl) ⟨Nat.le_of_ble_eq_true rfl, Nat.le_of_ble_eq_true rfl⟩ rfl rfl rfl hl.1 rfl (Nat.le_of_ble_eq_true rfl) dX8_restOf_2 ⟨Nat.zero_le _, Nat.zero_le _⟩) ?_
  refine lv_sipush (v := (nI 600)) S.1 S.2.1 dX8_restOf_5 (by decide) ?_
  refine lv_bipush (v := (nI 100)) S.1 S.2.1 dX8_restOf_8 (by decide) ?_
  refine lv_aload_n S.1 S.2.1 dX8_restOf_10 rfl (lv_at hl 0 rfl) ?_
  refine lv_iload_n S.1 S.2.1 dX8_restOf_11 rfl (lv_at hl 1 rfl) ?_
  refine lv_iconst (v := (nI 0)) S.1 S.2.1 dX8_restOf_12 (by decide) ?_
  refine xk_R (v := (nf σ k 0)) (x_runV (As := [.int (nI k), .int (nI 0)]) (rest := [.int (nI 100), .int (nI 600), .int (rfPeak σ k)]) S hE hS (fun _ h => h.elim) (c_X8_of l E M ps ty re σ k 0 _ ho hs (by omega) (by omega)) kv_X8_of kw12_22 kw12_23 kw13_0 (x_recv hE (ho) (ci := 8) rfl) ⟨Nat.le_of_ble_eq_true rfl, Nat.le_of_ble_eq_true rfl⟩ rfl rfl rfl hl.1 rfl (Nat.le_of_ble_eq_true rfl) dX8_restOf_13 ⟨Nat.zero_le _, Nat.zero_le _⟩) ?_
  refine lv_imul S.1 S.2.1 dX8_restOf_16 ?_
  refine lv_iadd S.1 S.2.1 dX8_restOf_17 ?_
  refine lv_imul S.1 S.2.1 dX8_restOf_18 ?_
  refine lv_sipush (v := (nI 1000)) S.1 S.2.1 dX8_restOf_19 (by decide) ?_
  refine lv_idiv S.1 S.2.1 dX8_restOf_22 (by decide) ?_
  subst hQ
  exact x_retR S hr hlk (rfl) (rfl) dX8_restOf_23
abbrev rm_X8_up : Room := ({ frames := 0, cells := 0, slots := 0, locals := 0 } : Room)
set_option maxRecDepth 100000 in
set_option maxHeartbeats 600000 in
theorem c_X8_up (l : Launch) (E : XE) (va ba : Int32) (H : Heap) (hb : ¬ ba = 0) : Rd l E yX8_up cX8_up 2 (some .int) rm_X8_up [.int va, .int ba] H (rfUp va ba) := by
  refine met_of (by decide) (Nat.le_of_ble_eq_true rfl) (fun p e s m args below meth c hBD Q hQ ls hl => ?_)
  obtain ⟨S, hr, hlk, hnm, hE, hH⟩ := hBD
  subst hH
  have hl : lv_has ls 2 [(0, .int va), (1, .int ba)] := hl
  have hS : va_S (fun _ => False) s.heap s.heap [] := va_S.rf
  refine lv_iload_n S.1 S.2.1 dX8_up_0 rfl (lv_at hl 0 rfl) ?_
  refine lv_iload_n S.1 S.2.1 dX8_up_1 rfl (lv_at hl 1 rfl) ?_
  refine lv_iadd S.1 S.2.1 dX8_up_2 ?_
  refine lv_iconst (v := (nI 1)) S.1 S.2.1 dX8_up_3 (by decide) ?_
  refine lv_isub S.1 S.2.1 dX8_up_4 ?_
  refine lv_iload_n S.1 S.2.1 dX8_up_5 rfl (lv_at hl 1 rfl) ?_
  refine lv_idiv S.1 S.2.1 dX8_up_6 (hb) ?_
  subst hQ
  exact x_retR S hr hlk (rfl) (rfl) dX8_up_7
abbrev rm_X8_isNote : Room := ({ frames := 0, cells := 0, slots := 0, locals := 0 } : Room)
set_option maxRecDepth 100000 in
set_option maxHeartbeats 600000 in
theorem c_X8_isNote (l : Launch) (E : XE) (M : Nat) (ps ty re : Int32) (σ : Nat → Int32) (no : Int32) (n : Nat) (H : Heap) (ho : RfO E M ps ty re H) (hs : XI E (M + 1) 1670 σ H) (hn : σ 0 = nI n) (hn2 : n ≤ 200) : Rd l E yX8_isNote cX8_isNote 2 (some .boolean) rm_X8_isNote [.ref M, .int no] H (bI (0 ≤ no ∧ no < nI n)) := by
  refine met_of (by decide) (Nat.le_of_ble_eq_true rfl) (fun p e s m args below meth c hBD Q hQ ls hl => ?_)
  obtain ⟨S, hr, hlk, hnm, hE, hH⟩ := hBD
  subst hH
  have hl : lv_has ls 2 [(0, .ref M), (1, .int no)] := hl
  have hS : va_S (fun _ => False) s.heap s.heap [] := va_S.rf
  refine lv_iload_n S.1 S.2.1 dX8_isNote_0 rfl (lv_at hl 1 rfl) ?_
  refine lv_if_lt (tgt := 18) S.1 S.2.1 dX8_isNote_1 rfl (fun h1 => ?_) (fun h1 => ?_)
  · skip
    refine lv_iconst (v := (nI 0)) S.1 S.2.1 dX8_isNote_18 (by decide) ?_
    subst hQ
    exact x_retR S hr hlk (by first | rfl | decide | exact bI_nar _) (bI_f (fun z => Int32.not_le.mpr h1 z.1)) dX8_isNote_19
  · skip
    refine lv_iload_n S.1 S.2.1 dX8_isNote_4 rfl (lv_at hl 1 rfl) ?_
    refine lv_aload_n S.1 S.2.1 dX8_isNote_5 rfl (lv_at hl 0 rfl) ?_
    refine x_get S hE (ho) (C := RX8) (T := TX8) (N := 10) rfl inlX8 0 (by decide) (v := .ref (M + 1)) rfl kw7_6 rfl dX8_isNote_6 ?_
    refine lv_iconst (v := (nI 0)) S.1 S.2.1 dX8_isNote_9 (by decide) ?_
    refine x_iald S hE (hs) 0 rfl (by decide) (by decide) dX8_isNote_10 ?_
    refine x_top (y := (nI n)) (hn) ?_
    refine lv_icmp_ge (tgt := 18) S.1 S.2.1 dX8_isNote_11 rfl (fun h2 => ?_) (fun h2 => ?_)
    · skip
      refine lv_iconst (v := (nI 0)) S.1 S.2.1 dX8_isNote_18 (by decide) ?_
      subst hQ
      exact x_retR S hr hlk (by first | rfl | decide | exact bI_nar _) (bI_f (fun z => Int32.not_le.mpr z.2 h2)) dX8_isNote_19
    · skip
      refine lv_iconst (v := (nI 1)) S.1 S.2.1 dX8_isNote_14 (by decide) ?_
      refine lv_goto (tgt := 19) S.1 S.2.1 dX8_isNote_15 rfl ?_
      subst hQ
      exact x_retR S hr hlk (by first | rfl | decide | exact bI_nar _) (bI_t ⟨i_nlt h1, i_nle h2⟩) dX8_isNote_19
abbrev rm_X8_many : Room := ({ frames := 1, cells := 0, slots := 0, locals := 22 } : Room)
set_option maxRecDepth 100000 in
set_option maxHeartbeats 600000 in
theorem c_X8_many (l : Launch) (E : XE) (M : Nat) (ps ty re : Int32) (σ : Nat → Int32) (za : Int32) (n : Nat) (H : Heap) (ho : RfO E M ps ty re H) (hs : XI E (M + 1) 1670 σ H) (hn : σ 0 = nI n) (hn2 : n ≤ 200) : Rd l E yX8_many cX8_many 4 (some .int) rm_X8_many [.ref M, .int za] H (rfMany σ za n) := by
  refine met_of (by decide) (Nat.le_of_ble_eq_true rfl) (fun p e s m args below meth c hBD Q hQ ls hl => ?_)
  obtain ⟨S, hr, hlk, hnm, hE, hH⟩ := hBD
  subst hH
  have hl : lv_has ls 4 [(0, .ref M), (1, .int za)] := hl
  have hS : va_S (fun _ => False) s.heap s.heap [] := va_S.rf
  refine lv_iconst (v := (nI 0)) S.1 S.2.1 dX8_many_0 (by decide) ?_
  refine lv_istore_n S.1 S.2.1 dX8_many_1 rfl hl (by decide) rfl (fun ls hl => ?_)
  have hl : lv_has ls 4 [(2, .int (nI 0)), (0, .ref M), (1, .int za)] := hl
  refine lv_iconst (v := (nI 0)) S.1 S.2.1 dX8_many_2 (by decide) ?_
  refine lv_istore_n S.1 S.2.1 dX8_many_3 rfl hl (by decide) rfl (fun ls hl => ?_)
  have hl : lv_has ls 4 [(3, .int (nI 0)), (2, .int (nI 0)), (0, .ref M), (1, .int za)] := hl
  have hloop4 : ∀ (d : Nat) (i : Nat) (ls : Array Slot), n - i = d → i ≤ n → lv_has ls 4 [(2, .int (rfMany σ za i)), (3, .int (nI i)), (0, .ref M), (1, .int za)] → W p l e rm_X8_many s m args below meth c s.heap [] 0 0 Q (F0 m 4 ls []) := by
    intro d
    induction d using Nat.strongRecOn with
    | ind d ih =>
      intro i ls hd hi  hl
      refine lv_iload_n S.1 S.2.1 dX8_many_4 rfl (lv_at hl 1 rfl) ?_
      refine lv_aload_n S.1 S.2.1 dX8_many_5 rfl (lv_at hl 2 rfl) ?_
      refine x_get S hE (ho) (C := RX8) (T := TX8) (N := 10) rfl inlX8 0 (by decide) (v := .ref (M + 1)) rfl kw7_6 rfl dX8_many_6 ?_
      refine lv_iconst (v := (nI 0)) S.1 S.2.1 dX8_many_9 (by decide) ?_
      refine x_iald S hE (hs) 0 rfl (by decide) (by decide) dX8_many_10 ?_
      refine x_top (y := (nI n)) (hn) ?_
      refine lv_icmp_ge (tgt := 38) S.1 S.2.1 dX8_many_11 rfl (fun h1 => ?_) (fun h1 => ?_)
      · skip
        have hge : i = n := (by have := ge_of_le (by omega) (by omega) h1; omega)
        refine lv_iload_n S.1 S.2.1 dX8_many_38 rfl (lv_at hl 0 rfl) ?_
        subst hQ
        exact x_retR S hr hlk (rfl) (by rw [hge]) dX8_many_39
      · skip
        have hlt : i < n := lt_of_nle (by omega) (by omega) h1
        refine lv_iload_n S.1 S.2.1 dX8_many_14 rfl (lv_at hl 0 rfl) ?_
        refine lv_aload_n S.1 S.2.1 dX8_many_15 rfl (lv_at hl 2 rfl) ?_
        refine lv_iload_n S.1 S.2.1 dX8_many_16 rfl (lv_at hl 1 rfl) ?_
        refine lv_iconst (v := (nI 3)) S.1 S.2.1 dX8_many_17 (by decide) ?_
        refine xk_R (v := (nf σ i 3)) (x_runV (As := [.int (nI i), .int (nI 3)]) (rest := [.int (rfMany σ za i)]) S hE hS (fun _ h => h.elim) (c_X8_of l E M ps ty re σ i 3 _ ho hs (by omega) (by omega)) kv_X8_of kw12_22 kw12_23 kw13_0 (x_recv hE (ho) (ci := 8) rfl) ⟨Nat.le_of_ble_eq_true rfl, Nat.le_of_ble_eq_true rfl⟩ rfl rfl rfl hl.1 rfl (Nat.le_of_ble_eq_true rfl) dX8_many_18 ⟨Nat.zero_le _, Nat.zero_le _⟩) ?_
        refine lv_iload_n S.1 S.2.1 dX8_many_21 rfl (lv_at hl 3 rfl) ?_
        refine lv_icmp_ne (tgt := 29) S.1 S.2.1 dX8_many_22 rfl (fun h2 => ?_) (fun h2 => ?_)
        · skip
          refine lv_iconst (v := (nI 0)) S.1 S.2.1 dX8_many_29 (by decide) ?_
          refine lv_iadd S.1 S.2.1 dX8_many_30 ?_
          refine lv_istore_n S.1 S.2.1 dX8_many_31 rfl hl (by decide) rfl (fun ls hl => ?_)
          have hl : lv_has ls 4 [(2, .int ((rfMany σ za i) + (nI 0))), (3, .int (nI i)), (0, .ref M), (1, .int za)] := hl
          refine lv_iinc (k := 1) (v := (nI (i + 1))) S.1 S.2.1 dX8_many_32 hl rfl (iincP i 1) (by decide) rfl (fun ls hl => ?_)
          have hl : lv_has ls 4 [(3, .int (nI (i + 1))), (2, .int ((rfMany σ za i) + (nI 0))), (0, .ref M), (1, .int za)] := hl
          refine lv_goto (tgt := 4) S.1 S.2.1 dX8_many_35 rfl ?_
          have hl : lv_has ls 4 [(2, .int (rfMany σ za (i + 1))), (3, .int (nI (i + 1))), (0, .ref M), (1, .int za)] := by
            rw [show (rfMany σ za (i + 1)) = ((rfMany σ za i) + (nI 0)) from by rw [rfMany, if_neg h2]]
            exact lv_sub hl [1, 0, 2, 3] rfl
          exact ih _ (by omega) (i + 1) ls rfl (by omega)  (lv_sub hl [0, 1, 2, 3] rfl)
        · skip
          refine lv_iconst (v := (nI 1)) S.1 S.2.1 dX8_many_25 (by decide) ?_
          refine lv_goto (tgt := 30) S.1 S.2.1 dX8_many_26 rfl ?_
          refine lv_iadd S.1 S.2.1 dX8_many_30 ?_
          refine lv_istore_n S.1 S.2.1 dX8_many_31 rfl hl (by decide) rfl (fun ls hl => ?_)
          have hl : lv_has ls 4 [(2, .int ((rfMany σ za i) + (nI 1))), (3, .int (nI i)), (0, .ref M), (1, .int za)] := hl
          refine lv_iinc (k := 1) (v := (nI (i + 1))) S.1 S.2.1 dX8_many_32 hl rfl (iincP i 1) (by decide) rfl (fun ls hl => ?_)
          have hl : lv_has ls 4 [(3, .int (nI (i + 1))), (2, .int ((rfMany σ za i) + (nI 1))), (0, .ref M), (1, .int za)] := hl
          refine lv_goto (tgt := 4) S.1 S.2.1 dX8_many_35 rfl ?_
          have hl : lv_has ls 4 [(2, .int (rfMany σ za (i + 1))), (3, .int (nI (i + 1))), (0, .ref M), (1, .int za)] := by
            rw [show (rfMany σ za (i + 1)) = ((rfMany σ za i) + (nI 1)) from by rw [rfMany, if_pos h2]]
            exact lv_sub hl [1, 0, 2, 3] rfl
          exact ih _ (by omega) (i + 1) ls rfl (by omega)  (lv_sub hl [0, 1, 2, 3] rfl)
  exact hloop4 _ 0 ls rfl (Nat.zero_le _)  (lv_sub hl [1, 0, 2, 3] rfl)
abbrev rm_X8_placed : Room := ({ frames := 2, cells := 0, slots := 0, locals := 43 } : Room)
set_option maxRecDepth 100000 in
set_option maxHeartbeats 600000 in
theorem c_X8_placed (l : Launch) (E : XE) (M : Nat) (ps ty re : Int32) (σ : Nat → Int32) (n : Nat) (H : Heap) (ho : RfO E M ps ty re H) (hs : XI E (M + 1) 1670 σ H) (hn : σ 0 = nI n) (hn2 : n ≤ 200) : Rd l E yX8_placed cX8_placed 3 (some .int) rm_X8_placed [.ref M] H (rfPlc σ n) := by
  refine met_of (by decide) (Nat.le_of_ble_eq_true rfl) (fun p e s m args below meth c hBD Q hQ ls hl => ?_)
  obtain ⟨S, hr, hlk, hnm, hE, hH⟩ := hBD
  subst hH
  have hl : lv_has ls 3 [(0, .ref M)] := hl
  have hS : va_S (fun _ => False) s.heap s.heap [] := va_S.rf
  refine lv_iconst (v := (nI 0)) S.1 S.2.1 dX8_placed_0 (by decide) ?_
  refine lv_istore_n S.1 S.2.1 dX8_placed_1 rfl hl (by decide) rfl (fun ls hl => ?_)
  have hl : lv_has ls 3 [(1, .int (nI 0)), (0, .ref M)] := hl
  refine lv_iconst (v := (nI 0)) S.1 S.2.1 dX8_placed_2 (by decide) ?_
  refine lv_istore_n S.1 S.2.1 dX8_placed_3 rfl hl (by decide) rfl (fun ls hl => ?_)
  have hl : lv_has ls 3 [(2, .int (nI 0)), (1, .int (nI 0)), (0, .ref M)] := hl
  have hloop4 : ∀ (d : Nat) (i : Nat) (ls : Array Slot), n - i = d → i ≤ n → lv_has ls 3 [(1, .int (rfPlc σ i)), (2, .int (nI i)), (0, .ref M)] → W p l e rm_X8_placed s m args below meth c s.heap [] 0 0 Q (F0 m 4 ls []) := by
    intro d
    induction d using Nat.strongRecOn with
    | ind d ih =>
      intro i ls hd hi  hl
      refine lv_iload_n S.1 S.2.1 dX8_placed_4 rfl (lv_at hl 1 rfl) ?_
      refine lv_aload_n S.1 S.2.1 dX8_placed_5 rfl (lv_at hl 2 rfl) ?_
      refine x_get S hE (ho) (C := RX8) (T := TX8) (N := 10) rfl inlX8 0 (by decide) (v := .ref (M + 1)) rfl kw7_6 rfl dX8_placed_6 ?_
      refine lv_iconst (v := (nI 0)) S.1 S.2.1 dX8_placed_9 (by decide) ?_
      refine x_iald S hE (hs) 0 rfl (by decide) (by decide) dX8_placed_10 ?_
      refine x_top (y := (nI n)) (hn) ?_
      refine lv_icmp_ge (tgt := 36) S.1 S.2.1 dX8_placed_11 rfl (fun h1 => ?_) (fun h1 => ?_)
      · skip
        have hge : i = n := (by have := ge_of_le (by omega) (by omega) h1; omega)
        refine lv_iload_n S.1 S.2.1 dX8_placed_36 rfl (lv_at hl 0 rfl) ?_
        subst hQ
        exact x_retR S hr hlk (rfl) (by rw [hge]) dX8_placed_37
      · skip
        have hlt : i < n := lt_of_nle (by omega) (by omega) h1
        refine lv_iload_n S.1 S.2.1 dX8_placed_14 rfl (lv_at hl 0 rfl) ?_
        refine lv_aload_n S.1 S.2.1 dX8_placed_15 rfl (lv_at hl 2 rfl) ?_
        refine lv_iload_n S.1 S.2.1 dX8_placed_16 rfl (lv_at hl 1 rfl) ?_
        refine xk_R (v := (bI (rfPl σ i))) (x_runV (As := [.int (nI i)]) (rest := [.int (rfPlc σ i)]) S hE hS (fun _ h => h.elim) (c_X8_hasPlace l E M ps ty re σ i _ ho hs (by omega)) kv_X8_hasPlace kw12_18 kw12_19 kw12_20 (x_recv hE (ho) (ci := 8) rfl) ⟨Nat.le_of_ble_eq_true rfl, Nat.le_of_ble_eq_true rfl⟩ rfl rfl rfl hl.1 rfl (Nat.le_of_ble_eq_true rfl) dX8_placed_17 ⟨Nat.zero_le _, Nat.zero_le _⟩) ?_
        refine lv_if_eq (tgt := 27) S.1 S.2.1 dX8_placed_20 rfl (fun h2 => ?_) (fun h2 => ?_)
        · skip
          have h2 := bI_0 h2
          refine lv_iconst (v := (nI 0)) S.1 S.2.1 dX8_placed_27 (by decide) ?_
          refine lv_iadd S.1 S.2.1 dX8_placed_28 ?_
          refine lv_istore_n S.1 S.2.1 dX8_placed_29 rfl hl (by decide) rfl (fun ls hl => ?_)
          have hl : lv_has ls 3 [(1, .int ((rfPlc σ i) + (nI 0))), (2, .int (nI i)), (0, .ref M)] := hl
          refine lv_iinc (k := 1) (v := (nI (i + 1))) S.1 S.2.1 dX8_placed_30 hl rfl (iincP i 1) (by decide) rfl (fun ls hl => ?_)
          have hl : lv_has ls 3 [(2, .int (nI (i + 1))), (1, .int ((rfPlc σ i) + (nI 0))), (0, .ref M)] := hl
          refine lv_goto (tgt := 4) S.1 S.2.1 dX8_placed_33 rfl ?_
          have hl : lv_has ls 3 [(1, .int (rfPlc σ (i + 1))), (2, .int (nI (i + 1))), (0, .ref M)] := by
            rw [show (rfPlc σ (i + 1)) = ((rfPlc σ i) + (nI 0)) from by rw [rfPlc, if_neg h2]]
            exact lv_sub hl [1, 0, 2] rfl
          exact ih _ (by omega) (i + 1) ls rfl (by omega)  (lv_sub hl [0, 1, 2] rfl)
        · skip
          have h2 := bI_n0 h2
          refine lv_iconst (v := (nI 1)) S.1 S.2.1 dX8_placed_23 (by decide) ?_
          refine lv_goto (tgt := 28) S.1 S.2.1 dX8_placed_24 rfl ?_
          refine lv_iadd S.1 S.2.1 dX8_placed_28 ?_
          refine lv_istore_n S.1 S.2.1 dX8_placed_29 rfl hl (by decide) rfl (fun ls hl => ?_)
          have hl : lv_has ls 3 [(1, .int ((rfPlc σ i) + (nI 1))), (2, .int (nI i)), (0, .ref M)] := hl
          refine lv_iinc (k := 1) (v := (nI (i + 1))) S.1 S.2.1 dX8_placed_30 hl rfl (iincP i 1) (by decide) rfl (fun ls hl => ?_)
          have hl : lv_has ls 3 [(2, .int (nI (i + 1))), (1, .int ((rfPlc σ i) + (nI 1))), (0, .ref M)] := hl
          refine lv_goto (tgt := 4) S.1 S.2.1 dX8_placed_33 rfl ?_
          have hl : lv_has ls 3 [(1, .int (rfPlc σ (i + 1))), (2, .int (nI (i + 1))), (0, .ref M)] := by
            rw [show (rfPlc σ (i + 1)) = ((rfPlc σ i) + (nI 1)) from by rw [rfPlc, if_pos h2]]
            exact lv_sub hl [1, 0, 2] rfl
          exact ih _ (by omega) (i + 1) ls rfl (by omega)  (lv_sub hl [0, 1, 2] rfl)
  exact hloop4 _ 0 ls rfl (Nat.zero_le _)  (lv_sub hl [1, 0, 2] rfl)
abbrev rm_X8_voiceOf : Room := ({ frames := 2, cells := 0, slots := 0, locals := 43 } : Room)
set_option maxRecDepth 100000 in
set_option maxHeartbeats 600000 in
theorem c_X8_voiceOf (l : Launch) (E : XE) (M : Nat) (ps ty re : Int32) (σ : Nat → Int32) (pa : Int32) (qa : Int32) (n : Nat) (H : Heap) (ho : RfO E M ps ty re H) (hs : XI E (M + 1) 1670 σ H) (hn : σ 0 = nI n) (hn2 : n ≤ 200) : Rd l E yX8_voiceOf cX8_voiceOf 5 (some .int) rm_X8_voiceOf [.ref M, .int pa, .int qa] H (oi (rfV σ pa qa n)) := by
  refine met_of (by decide) (Nat.le_of_ble_eq_true rfl) (fun p e s m args below meth c hBD Q hQ ls hl => ?_)
  obtain ⟨S, hr, hlk, hnm, hE, hH⟩ := hBD
  subst hH
  have hl : lv_has ls 5 [(0, .ref M), (1, .int pa), (2, .int qa)] := hl
  have hS : va_S (fun _ => False) s.heap s.heap [] := va_S.rf
  refine lv_bipush (v := (-4)) S.1 S.2.1 dX8_voiceOf_0 (by decide) ?_
  refine lv_istore_n S.1 S.2.1 dX8_voiceOf_2 rfl hl (by decide) rfl (fun ls hl => ?_)
  have hl : lv_has ls 5 [(3, .int (-4)), (0, .ref M), (1, .int pa), (2, .int qa)] := hl
  refine lv_iconst (v := (nI 0)) S.1 S.2.1 dX8_voiceOf_3 (by decide) ?_
  refine lv_istore S.1 S.2.1 dX8_voiceOf_4 hl (by decide) rfl (fun ls hl => ?_)
  have hl : lv_has ls 5 [(4, .int (nI 0)), (3, .int (-4)), (0, .ref M), (1, .int pa), (2, .int qa)] := hl
  have hloop6 : ∀ (d : Nat) (i : Nat) (ls : Array Slot), n - i = d → i ≤ n → lv_has ls 5 [(3, .int (oi (rfV σ pa qa i))), (4, .int (nI i)), (0, .ref M), (1, .int pa), (2, .int qa)] → W p l e rm_X8_voiceOf s m args below meth c s.heap [] 0 0 Q (F0 m 6 ls []) := by
    intro d
    induction d using Nat.strongRecOn with
    | ind d ih =>
      intro i ls hd hi  hl
      refine lv_iload S.1 S.2.1 dX8_voiceOf_6 (lv_at hl 1 rfl) ?_
      refine lv_aload_n S.1 S.2.1 dX8_voiceOf_8 rfl (lv_at hl 2 rfl) ?_
      refine x_get S hE (ho) (C := RX8) (T := TX8) (N := 10) rfl inlX8 0 (by decide) (v := .ref (M + 1)) rfl kw7_6 rfl dX8_voiceOf_9 ?_
      refine lv_iconst (v := (nI 0)) S.1 S.2.1 dX8_voiceOf_12 (by decide) ?_
      refine x_iald S hE (hs) 0 rfl (by decide) (by decide) dX8_voiceOf_13 ?_
      refine x_top (y := (nI n)) (hn) ?_
      refine lv_icmp_ge (tgt := 61) S.1 S.2.1 dX8_voiceOf_14 rfl (fun h1 => ?_) (fun h1 => ?_)
      · skip
        have hge : i = n := (by have := ge_of_le (by omega) (by omega) h1; omega)
        refine lv_iload_n S.1 S.2.1 dX8_voiceOf_61 rfl (lv_at hl 0 rfl) ?_
        subst hQ
        exact x_retR S hr hlk (rfl) (by rw [hge]) dX8_voiceOf_62
      · skip
        have hlt : i < n := lt_of_nle (by omega) (by omega) h1
        refine lv_aload_n S.1 S.2.1 dX8_voiceOf_17 rfl (lv_at hl 2 rfl) ?_
        refine lv_iload S.1 S.2.1 dX8_voiceOf_18 (lv_at hl 1 rfl) ?_
        refine xk_R (v := (bI (rfPl σ i))) (x_runV (As := [.int (nI i)]) (rest := []) S hE hS (fun _ h => h.elim) (c_X8_hasPlace l E M ps ty re σ i _ ho hs (by omega)) kv_X8_hasPlace kw12_18 kw12_19 kw12_20 (x_recv hE (ho) (ci := 8) rfl) ⟨Nat.le_of_ble_eq_true rfl, Nat.le_of_ble_eq_true rfl⟩ rfl rfl rfl hl.1 rfl (Nat.le_of_ble_eq_true rfl) dX8_voiceOf_20 ⟨Nat.zero_le _, Nat.zero_le _⟩) ?_
        refine lv_if_eq (tgt := 53) S.1 S.2.1 dX8_voiceOf_23 rfl (fun h2 => ?_) (fun h2 => ?_)
        · skip
          have h2 := bI_0 h2
          refine lv_iload_n S.1 S.2.1 dX8_voiceOf_53 rfl (lv_at hl 0 rfl) ?_
          refine lv_istore_n S.1 S.2.1 dX8_voiceOf_54 rfl hl (by decide) rfl (fun ls hl => ?_)
          have hl : lv_has ls 5 [(3, .int (oi (rfV σ pa qa i))), (4, .int (nI i)), (0, .ref M), (1, .int pa), (2, .int qa)] := hl
          refine lv_iinc (k := 1) (v := (nI (i + 1))) S.1 S.2.1 dX8_voiceOf_55 hl rfl (iincP i 1) (by decide) rfl (fun ls hl => ?_)
          have hl : lv_has ls 5 [(4, .int (nI (i + 1))), (3, .int (oi (rfV σ pa qa i))), (0, .ref M), (1, .int pa), (2, .int qa)] := hl
          refine lv_goto (tgt := 6) S.1 S.2.1 dX8_voiceOf_58 rfl ?_
          have hl : lv_has ls 5 [(3, .int (oi (rfV σ pa qa (i + 1)))), (4, .int (nI (i + 1))), (0, .ref M), (1, .int pa), (2, .int qa)] := by
            rw [show (oi (rfV σ pa qa (i + 1))) = (oi (rfV σ pa qa i)) from by rw [rfV, if_neg (fun z => h2 z.1)]]
            exact lv_sub hl [1, 0, 2, 3, 4] rfl
          exact ih _ (by omega) (i + 1) ls rfl (by omega)  (lv_sub hl [0, 1, 2, 3, 4] rfl)
        · skip
          have h2 := bI_n0 h2
          refine lv_aload_n S.1 S.2.1 dX8_voiceOf_26 rfl (lv_at hl 2 rfl) ?_
          refine lv_iload S.1 S.2.1 dX8_voiceOf_27 (lv_at hl 1 rfl) ?_
          refine lv_iconst (v := (nI 0)) S.1 S.2.1 dX8_voiceOf_29 (by decide) ?_
          refine xk_R (v := (nf σ i 0)) (x_runV (As := [.int (nI i), .int (nI 0)]) (rest := []) S hE hS (fun _ h => h.elim) (c_X8_of l E M ps ty re σ i 0 _ ho hs (by omega) (by omega)) kv_X8_of kw12_22 kw12_23 kw13_0 (x_recv hE (ho) (ci := 8) rfl) ⟨Nat.le_of_ble_eq_true rfl, Nat.le_of_ble_eq_true rfl⟩ rfl rfl rfl hl.1 rfl (Nat.le_of_ble_eq_true rfl) dX8_voiceOf_30 ⟨Nat.zero_le _, Nat.zero_le _⟩) ?_
          refine lv_iload_n S.1 S.2.1 dX8_voiceOf_33 rfl (lv_at hl 3 rfl) ?_
          refine lv_icmp_ne (tgt := 53) S.1 S.2.1 dX8_voiceOf_34 rfl (fun h3 => ?_) (fun h3 => ?_)
          · skip
            refine lv_iload_n S.1 S.2.1 dX8_voiceOf_53 rfl (lv_at hl 0 rfl) ?_
            refine lv_istore_n S.1 S.2.1 dX8_voiceOf_54 rfl hl (by decide) rfl (fun ls hl => ?_)
            have hl : lv_has ls 5 [(3, .int (oi (rfV σ pa qa i))), (4, .int (nI i)), (0, .ref M), (1, .int pa), (2, .int qa)] := hl
            refine lv_iinc (k := 1) (v := (nI (i + 1))) S.1 S.2.1 dX8_voiceOf_55 hl rfl (iincP i 1) (by decide) rfl (fun ls hl => ?_)
            have hl : lv_has ls 5 [(4, .int (nI (i + 1))), (3, .int (oi (rfV σ pa qa i))), (0, .ref M), (1, .int pa), (2, .int qa)] := hl
            refine lv_goto (tgt := 6) S.1 S.2.1 dX8_voiceOf_58 rfl ?_
            have hl : lv_has ls 5 [(3, .int (oi (rfV σ pa qa (i + 1)))), (4, .int (nI (i + 1))), (0, .ref M), (1, .int pa), (2, .int qa)] := by
              rw [show (oi (rfV σ pa qa (i + 1))) = (oi (rfV σ pa qa i)) from by rw [rfV, if_neg (fun z => h3 z.2.1)]]
              exact lv_sub hl [1, 0, 2, 3, 4] rfl
            exact ih _ (by omega) (i + 1) ls rfl (by omega)  (lv_sub hl [0, 1, 2, 3, 4] rfl)
          · skip
            refine lv_aload_n S.1 S.2.1 dX8_voiceOf_37 rfl (lv_at hl 2 rfl) ?_
            refine lv_iload S.1 S.2.1 dX8_voiceOf_38 (lv_at hl 1 rfl) ?_
            refine lv_iconst (v := (nI 1)) S.1 S.2.1 dX8_voiceOf_40 (by decide) ?_
            refine xk_R (v := (nf σ i 1)) (x_runV (As := [.int (nI i), .int (nI 1)]) (rest := []) S hE hS (fun _ h => h.elim) (c_X8_of l E M ps ty re σ i 1 _ ho hs (by omega) (by omega)) kv_X8_of kw12_22 kw12_23 kw13_0 (x_recv hE (ho) (ci := 8) rfl) ⟨Nat.le_of_ble_eq_true rfl, Nat.le_of_ble_eq_true rfl⟩ rfl rfl rfl hl.1 rfl (Nat.le_of_ble_eq_true rfl) dX8_voiceOf_41 ⟨Nat.zero_le _, Nat.zero_le _⟩) ?_
            refine lv_iload_n S.1 S.2.1 dX8_voiceOf_44 rfl (lv_at hl 4 rfl) ?_
            refine lv_icmp_ne (tgt := 53) S.1 S.2.1 dX8_voiceOf_45 rfl (fun h4 => ?_) (fun h4 => ?_)
            · skip
              refine lv_iload_n S.1 S.2.1 dX8_voiceOf_53 rfl (lv_at hl 0 rfl) ?_
              refine lv_istore_n S.1 S.2.1 dX8_voiceOf_54 rfl hl (by decide) rfl (fun ls hl => ?_)
              have hl : lv_has ls 5 [(3, .int (oi (rfV σ pa qa i))), (4, .int (nI i)), (0, .ref M), (1, .int pa), (2, .int qa)] := hl
              refine lv_iinc (k := 1) (v := (nI (i + 1))) S.1 S.2.1 dX8_voiceOf_55 hl rfl (iincP i 1) (by decide) rfl (fun ls hl => ?_)
              have hl : lv_has ls 5 [(4, .int (nI (i + 1))), (3, .int (oi (rfV σ pa qa i))), (0, .ref M), (1, .int pa), (2, .int qa)] := hl
              refine lv_goto (tgt := 6) S.1 S.2.1 dX8_voiceOf_58 rfl ?_
              have hl : lv_has ls 5 [(3, .int (oi (rfV σ pa qa (i + 1)))), (4, .int (nI (i + 1))), (0, .ref M), (1, .int pa), (2, .int qa)] := by
                rw [show (oi (rfV σ pa qa (i + 1))) = (oi (rfV σ pa qa i)) from by rw [rfV, if_neg (fun z => h4 z.2.2)]]
                exact lv_sub hl [1, 0, 2, 3, 4] rfl
              exact ih _ (by omega) (i + 1) ls rfl (by omega)  (lv_sub hl [0, 1, 2, 3, 4] rfl)
            · skip
              refine lv_iload S.1 S.2.1 dX8_voiceOf_48 (lv_at hl 1 rfl) ?_
              refine lv_goto (tgt := 54) S.1 S.2.1 dX8_voiceOf_50 rfl ?_
              refine lv_istore_n S.1 S.2.1 dX8_voiceOf_54 rfl hl (by decide) rfl (fun ls hl => ?_)
              have hl : lv_has ls 5 [(3, .int (nI i)), (4, .int (nI i)), (0, .ref M), (1, .int pa), (2, .int qa)] := hl
              refine lv_iinc (k := 1) (v := (nI (i + 1))) S.1 S.2.1 dX8_voiceOf_55 hl rfl (iincP i 1) (by decide) rfl (fun ls hl => ?_)
              have hl : lv_has ls 5 [(4, .int (nI (i + 1))), (3, .int (nI i)), (0, .ref M), (1, .int pa), (2, .int qa)] := hl
              refine lv_goto (tgt := 6) S.1 S.2.1 dX8_voiceOf_58 rfl ?_
              have hl : lv_has ls 5 [(3, .int (oi (rfV σ pa qa (i + 1)))), (4, .int (nI (i + 1))), (0, .ref M), (1, .int pa), (2, .int qa)] := by
                rw [show (oi (rfV σ pa qa (i + 1))) = (nI i) from by rw [rfV, if_pos ⟨h2, h3, h4⟩]; first | done | rfl]
                exact lv_sub hl [1, 0, 2, 3, 4] rfl
              exact ih _ (by omega) (i + 1) ls rfl (by omega)  (lv_sub hl [0, 1, 2, 3, 4] rfl)
  exact hloop6 _ 0 ls rfl (Nat.zero_le _)  (lv_sub hl [1, 0, 2, 3, 4] rfl)
abbrev rm_X8_sings : Room := ({ frames := 1, cells := 0, slots := 0, locals := 23 } : Room)
set_option maxRecDepth 100000 in
set_option maxHeartbeats 600000 in
theorem c_X8_sings (l : Launch) (E : XE) (M : Nat) (ps ty re : Int32) (σ : Nat → Int32) (k : Nat) (H : Heap) (ho : RfO E M ps ty re H) (hs : XI E (M + 1) 1670 σ H) (hk : k < 200) : Wv l E yX8_sings cX8_sings 2 rm_X8_sings [.ref M, .int (nI k)] H (fun q => q = M + 1) (XI E (M + 1) 1670 (rfSings σ k)) := by
  refine met_of (by decide) (Nat.le_of_ble_eq_true rfl) (fun p e s m args below meth c hBD Q hQ ls hl => ?_)
  obtain ⟨S, hr, hlk, hnm, hE, hH⟩ := hBD
  subst hH
  have hl : lv_has ls 2 [(0, .ref M), (1, .int (nI k))] := hl
  have hO : Out (fun q => q = M + 1) s.heap s.heap := Out.rf
  have hS : va_S (fun q => q = M + 1) s.heap s.heap [] := va_S.rf
  refine lv_aload_n S.1 S.2.1 dX8_sings_0 rfl (lv_at hl 0 rfl) ?_
  refine lv_iload_n S.1 S.2.1 dX8_sings_1 rfl (lv_at hl 1 rfl) ?_
  refine lv_iconst (v := (nI 3)) S.1 S.2.1 dX8_sings_2 (by decide) ?_
  refine lv_iconst (v := (nI 1)) S.1 S.2.1 dX8_sings_3 (by decide) ?_
  refine xk_V (x_runV (As := [.int (nI k), .int (nI 3), .int (nI 1)]) (rest := []) S hE hS (fun q h => h) (c_X8_puts l E M ps ty re σ k 3 (nI 1) _ ho hs (by omega) (by omega)) kv_X8_puts kw13_11 kw13_12 kw13_13 (x_recv hE (ho) (ci := 8) rfl) ⟨Nat.le_of_ble_eq_true rfl, Nat.le_of_ble_eq_true rfl⟩ rfl rfl rfl hl.1 rfl (Nat.le_of_ble_eq_true rfl) dX8_sings_4 ⟨Nat.zero_le _, Nat.zero_le _⟩) hS (fun q h => h) (fun H locs hX hO1 hS => ?_)
  have hO := hO.tr hO1 (fun q h => h)
  have ho := va_at.kept ho (hO1.2 _ (fun z => by have z : M = M + 1 := z; omega))
  have hs : XI E (M + 1) 1670 (nset σ k 3 (nI 1)) H := hX
  refine lv_aload_n S.1 S.2.1 dX8_sings_7 rfl (lv_at hl 0 rfl) ?_
  refine lv_iload_n S.1 S.2.1 dX8_sings_8 rfl (lv_at hl 1 rfl) ?_
  refine lv_iconst (v := (nI 4)) S.1 S.2.1 dX8_sings_9 (by decide) ?_
  refine lv_iconst (v := (nI 0)) S.1 S.2.1 dX8_sings_10 (by decide) ?_
  refine xk_V (x_runV (As := [.int (nI k), .int (nI 4), .int (nI 0)]) (rest := []) S hE hS (fun q h => h) (c_X8_puts l E M ps ty re (nset σ k 3 (nI 1)) k 4 (nI 0) _ ho hs (by omega) (by omega)) kv_X8_puts kw13_11 kw13_12 kw13_13 (x_recv hE (ho) (ci := 8) rfl) ⟨Nat.le_of_ble_eq_true rfl, Nat.le_of_ble_eq_true rfl⟩ rfl rfl rfl hl.1 rfl (Nat.le_of_ble_eq_true rfl) dX8_sings_11 ⟨Nat.zero_le _, Nat.zero_le _⟩) hS (fun q h => h) (fun H locs hX hO1 hS => ?_)
  have hO := hO.tr hO1 (fun q h => h)
  have ho := va_at.kept ho (hO1.2 _ (fun z => by have z : M = M + 1 := z; omega))
  have hs : XI E (M + 1) 1670 (nset (nset σ k 3 (nI 1)) k 4 (nI 0)) H := hX
  refine lv_aload_n S.1 S.2.1 dX8_sings_14 rfl (lv_at hl 0 rfl) ?_
  refine lv_iload_n S.1 S.2.1 dX8_sings_15 rfl (lv_at hl 1 rfl) ?_
  refine lv_bipush (v := (nI 6)) S.1 S.2.1 dX8_sings_16 (by decide) ?_
  refine lv_iconst (v := (nI 0)) S.1 S.2.1 dX8_sings_18 (by decide) ?_
  refine xk_V (x_runV (As := [.int (nI k), .int (nI 6), .int (nI 0)]) (rest := []) S hE hS (fun q h => h) (c_X8_puts l E M ps ty re (nset (nset σ k 3 (nI 1)) k 4 (nI 0)) k 6 (nI 0) _ ho hs (by omega) (by omega)) kv_X8_puts kw13_11 kw13_12 kw13_13 (x_recv hE (ho) (ci := 8) rfl) ⟨Nat.le_of_ble_eq_true rfl, Nat.le_of_ble_eq_true rfl⟩ rfl rfl rfl hl.1 rfl (Nat.le_of_ble_eq_true rfl) dX8_sings_19 ⟨Nat.zero_le _, Nat.zero_le _⟩) hS (fun q h => h) (fun H locs hX hO1 hS => ?_)
  have hO := hO.tr hO1 (fun q h => h)
  have ho := va_at.kept ho (hO1.2 _ (fun z => by have z : M = M + 1 := z; omega))
  have hs : XI E (M + 1) 1670 (nset (nset (nset σ k 3 (nI 1)) k 4 (nI 0)) k 6 (nI 0)) H := hX
  refine lv_aload_n S.1 S.2.1 dX8_sings_22 rfl (lv_at hl 0 rfl) ?_
  refine lv_iload_n S.1 S.2.1 dX8_sings_23 rfl (lv_at hl 1 rfl) ?_
  refine lv_bipush (v := (nI 7)) S.1 S.2.1 dX8_sings_24 (by decide) ?_
  refine lv_aload_n S.1 S.2.1 dX8_sings_26 rfl (lv_at hl 0 rfl) ?_
  refine x_get S hE (ho) (C := RX8) (T := TX8) (N := 10) rfl inlX8 0 (by decide) (v := .ref (M + 1)) rfl kw7_6 rfl dX8_sings_27 ?_
  refine lv_iconst (v := (nI 5)) S.1 S.2.1 dX8_sings_30 (by decide) ?_
  refine x_iald S hE (hs) 5 rfl (by decide) (by decide) dX8_sings_31 ?_
  refine xk_V (x_runV (As := [.int (nI k), .int (nI 7), .int ((nset (nset (nset σ k 3 (nI 1)) k 4 (nI 0)) k 6 (nI 0)) 5)]) (rest := []) S hE hS (fun q h => h) (c_X8_puts l E M ps ty re (nset (nset (nset σ k 3 (nI 1)) k 4 (nI 0)) k 6 (nI 0)) k 7 ((nset (nset (nset σ k 3 (nI 1)) k 4 (nI 0)) k 6 (nI 0)) 5) _ ho hs (by omega) (by omega)) kv_X8_puts kw13_11 kw13_12 kw13_13 (x_recv hE (ho) (ci := 8) rfl) ⟨Nat.le_of_ble_eq_true rfl, Nat.le_of_ble_eq_true rfl⟩ rfl rfl rfl hl.1 rfl (Nat.le_of_ble_eq_true rfl) dX8_sings_32 ⟨Nat.zero_le _, Nat.zero_le _⟩) hS (fun q h => h) (fun H locs hX hO1 hS => ?_)
  have hO := hO.tr hO1 (fun q h => h)
  have ho := va_at.kept ho (hO1.2 _ (fun z => by have z : M = M + 1 := z; omega))
  have hs : XI E (M + 1) 1670 (nset (nset (nset (nset σ k 3 (nI 1)) k 4 (nI 0)) k 6 (nI 0)) k 7 ((nset (nset (nset σ k 3 (nI 1)) k 4 (nI 0)) k 6 (nI 0)) 5)) H := hX
  refine lv_aload_n S.1 S.2.1 dX8_sings_35 rfl (lv_at hl 0 rfl) ?_
  refine x_get S hE (ho) (C := RX8) (T := TX8) (N := 10) rfl inlX8 0 (by decide) (v := .ref (M + 1)) rfl kw7_6 rfl dX8_sings_36 ?_
  refine lv_iconst (v := (nI 5)) S.1 S.2.1 dX8_sings_39 (by decide) ?_
  refine lv_dup2_11 S.1 S.2.1 dX8_sings_40 rfl rfl ?_
  refine x_iald S hE (hs) 5 rfl (by decide) (by decide) dX8_sings_41 ?_
  refine lv_iconst (v := (nI 1)) S.1 S.2.1 dX8_sings_42 (by decide) ?_
  refine lv_iadd S.1 S.2.1 dX8_sings_43 ?_
  refine x_iast S hE hS (rfl) (hs) 5 rfl (by decide) (by decide) dX8_sings_44 (fun H locs hX hO1 hS => ?_)
  have hO := hO.tr hO1 (fun q h => h)
  have ho := va_at.kept ho (hO1.2 _ (fun z => by have z : M = M + 1 := z; omega))
  have hs : XI E (M + 1) 1670 (upd (nset (nset (nset (nset σ k 3 (nI 1)) k 4 (nI 0)) k 6 (nI 0)) k 7 ((nset (nset (nset σ k 3 (nI 1)) k 4 (nI 0)) k 6 (nI 0)) 5)) 5 (((nset (nset (nset (nset σ k 3 (nI 1)) k 4 (nI 0)) k 6 (nI 0)) k 7 ((nset (nset (nset σ k 3 (nI 1)) k 4 (nI 0)) k 6 (nI 0)) 5)) 5) + (nI 1))) H := hX
  subst hQ
  refine x_retV S hr hlk hS hO ?_ dX8_sings_45
  exact hs
abbrev rm_X8_anew : Room := ({ frames := 2, cells := 0, slots := 0, locals := 43 } : Room)
set_option maxRecDepth 100000 in
set_option maxHeartbeats 600000 in
theorem c_X8_anew (l : Launch) (E : XE) (M : Nat) (ps ty re : Int32) (σ : Nat → Int32) (k : Nat) (za : Int32) (H : Heap) (ho : RfO E M ps ty re H) (hs : XI E (M + 1) 1670 σ H) (hk : k < 200) : Wv l E yX8_anew cX8_anew 3 rm_X8_anew [.ref M, .int (nI k), .int za] H (fun q => q = M + 1) (XI E (M + 1) 1670 (rfAnew σ k za)) := by
  refine met_of (by decide) (Nat.le_of_ble_eq_true rfl) (fun p e s m args below meth c hBD Q hQ ls hl => ?_)
  obtain ⟨S, hr, hlk, hnm, hE, hH⟩ := hBD
  subst hH
  have hl : lv_has ls 3 [(0, .ref M), (1, .int (nI k)), (2, .int za)] := hl
  have hO : Out (fun q => q = M + 1) s.heap s.heap := Out.rf
  have hS : va_S (fun q => q = M + 1) s.heap s.heap [] := va_S.rf
  refine lv_aload_n S.1 S.2.1 dX8_anew_0 rfl (lv_at hl 0 rfl) ?_
  refine lv_iload_n S.1 S.2.1 dX8_anew_1 rfl (lv_at hl 1 rfl) ?_
  refine lv_iconst (v := (nI 2)) S.1 S.2.1 dX8_anew_2 (by decide) ?_
  refine lv_iload_n S.1 S.2.1 dX8_anew_3 rfl (lv_at hl 2 rfl) ?_
  refine xk_V (x_runV (As := [.int (nI k), .int (nI 2), .int za]) (rest := []) S hE hS (fun q h => h) (c_X8_puts l E M ps ty re σ k 2 za _ ho hs (by omega) (by omega)) kv_X8_puts kw13_11 kw13_12 kw13_13 (x_recv hE (ho) (ci := 8) rfl) ⟨Nat.le_of_ble_eq_true rfl, Nat.le_of_ble_eq_true rfl⟩ rfl rfl rfl hl.1 rfl (Nat.le_of_ble_eq_true rfl) dX8_anew_4 ⟨Nat.zero_le _, Nat.zero_le _⟩) hS (fun q h => h) (fun H locs hX hO1 hS => ?_)
  have hO := hO.tr hO1 (fun q h => h)
  have ho := va_at.kept ho (hO1.2 _ (fun z => by have z : M = M + 1 := z; omega))
  have hs : XI E (M + 1) 1670 (nset σ k 2 za) H := hX
  refine lv_aload_n S.1 S.2.1 dX8_anew_7 rfl (lv_at hl 0 rfl) ?_
  refine lv_iload_n S.1 S.2.1 dX8_anew_8 rfl (lv_at hl 1 rfl) ?_
  refine lv_iconst (v := (nI 3)) S.1 S.2.1 dX8_anew_9 (by decide) ?_
  refine lv_aload_n S.1 S.2.1 dX8_anew_10 rfl (lv_at hl 0 rfl) ?_
  refine lv_iload_n S.1 S.2.1 dX8_anew_11 rfl (lv_at hl 1 rfl) ?_
  refine lv_iconst (v := (nI 4)) S.1 S.2.1 dX8_anew_12 (by decide) ?_
  refine xk_R (v := (nf (nset σ k 2 za) k 4)) (x_runV (As := [.int (nI k), .int (nI 4)]) (rest := [.int (nI 3), .int (nI k), .ref M]) S hE hS (fun _ h => h.elim) (c_X8_of l E M ps ty re (nset σ k 2 za) k 4 _ ho hs (by omega) (by omega)) kv_X8_of kw12_22 kw12_23 kw13_0 (x_recv hE (ho) (ci := 8) rfl) ⟨Nat.le_of_ble_eq_true rfl, Nat.le_of_ble_eq_true rfl⟩ rfl rfl rfl hl.1 rfl (Nat.le_of_ble_eq_true rfl) dX8_anew_13 ⟨Nat.zero_le _, Nat.zero_le _⟩) ?_
  refine lv_aload_n S.1 S.2.1 dX8_anew_16 rfl (lv_at hl 0 rfl) ?_
  refine lv_iload_n S.1 S.2.1 dX8_anew_17 rfl (lv_at hl 1 rfl) ?_
  refine xk_R (v := (rfPeak (nset σ k 2 za) k)) (x_runV (As := [.int (nI k)]) (rest := [.int (nf (nset σ k 2 za) k 4), .int (nI 3), .int (nI k), .ref M]) S hE hS (fun _ h => h.elim) (c_X8_peakOf l E M ps ty re (nset σ k 2 za) k _ ho hs (by omega)) kv_X8_peakOf kw13_15 kw13_16 kw13_17 (x_recv hE (ho) (ci := 8) rfl) ⟨Nat.le_of_ble_eq_true rfl, Nat.le_of_ble_eq_true rfl⟩ rfl rfl rfl hl.1 rfl (Nat.le_of_ble_eq_true rfl) dX8_anew_18 ⟨Nat.zero_le _, Nat.zero_le _⟩) ?_
  refine lv_icmp_lt (tgt := 28) S.1 S.2.1 dX8_anew_21 rfl (fun h1 => ?_) (fun h1 => ?_)
  · skip
    refine lv_iconst (v := (nI 1)) S.1 S.2.1 dX8_anew_28 (by decide) ?_
    refine xk_V (x_runV (As := [.int (nI k), .int (nI 3), .int (nI 1)]) (rest := []) S hE hS (fun q h => h) (c_X8_puts l E M ps ty re (nset σ k 2 za) k 3 (nI 1) _ ho hs (by omega) (by omega)) kv_X8_puts kw13_11 kw13_12 kw13_13 (x_recv hE (ho) (ci := 8) rfl) ⟨Nat.le_of_ble_eq_true rfl, Nat.le_of_ble_eq_true rfl⟩ rfl rfl rfl hl.1 rfl (Nat.le_of_ble_eq_true rfl) dX8_anew_29 ⟨Nat.zero_le _, Nat.zero_le _⟩) hS (fun q h => h) (fun H locs hX hO1 hS => ?_)
    have hO := hO.tr hO1 (fun q h => h)
    have ho := va_at.kept ho (hO1.2 _ (fun z => by have z : M = M + 1 := z; omega))
    have hs : XI E (M + 1) 1670 (nset (nset σ k 2 za) k 3 (nI 1)) H := hX
    refine lv_aload_n S.1 S.2.1 dX8_anew_32 rfl (lv_at hl 0 rfl) ?_
    refine lv_iload_n S.1 S.2.1 dX8_anew_33 rfl (lv_at hl 1 rfl) ?_
    refine lv_bipush (v := (nI 6)) S.1 S.2.1 dX8_anew_34 (by decide) ?_
    refine lv_iconst (v := (nI 0)) S.1 S.2.1 dX8_anew_36 (by decide) ?_
    refine xk_V (x_runV (As := [.int (nI k), .int (nI 6), .int (nI 0)]) (rest := []) S hE hS (fun q h => h) (c_X8_puts l E M ps ty re (nset (nset σ k 2 za) k 3 (nI 1)) k 6 (nI 0) _ ho hs (by omega) (by omega)) kv_X8_puts kw13_11 kw13_12 kw13_13 (x_recv hE (ho) (ci := 8) rfl) ⟨Nat.le_of_ble_eq_true rfl, Nat.le_of_ble_eq_true rfl⟩ rfl rfl rfl hl.1 rfl (Nat.le_of_ble_eq_true rfl) dX8_anew_37 ⟨Nat.zero_le _, Nat.zero_le _⟩) hS (fun q h => h) (fun H locs hX hO1 hS => ?_)
    have hO := hO.tr hO1 (fun q h => h)
    have ho := va_at.kept ho (hO1.2 _ (fun z => by have z : M = M + 1 := z; omega))
    have hs : XI E (M + 1) 1670 (nset (nset (nset σ k 2 za) k 3 (nI 1)) k 6 (nI 0)) H := hX
    refine lv_aload_n S.1 S.2.1 dX8_anew_40 rfl (lv_at hl 0 rfl) ?_
    refine lv_iload_n S.1 S.2.1 dX8_anew_41 rfl (lv_at hl 1 rfl) ?_
    refine lv_bipush (v := (nI 7)) S.1 S.2.1 dX8_anew_42 (by decide) ?_
    refine lv_aload_n S.1 S.2.1 dX8_anew_44 rfl (lv_at hl 0 rfl) ?_
    refine x_get S hE (ho) (C := RX8) (T := TX8) (N := 10) rfl inlX8 0 (by decide) (v := .ref (M + 1)) rfl kw7_6 rfl dX8_anew_45 ?_
    refine lv_iconst (v := (nI 5)) S.1 S.2.1 dX8_anew_48 (by decide) ?_
    refine x_iald S hE (hs) 5 rfl (by decide) (by decide) dX8_anew_49 ?_
    refine xk_V (x_runV (As := [.int (nI k), .int (nI 7), .int ((nset (nset (nset σ k 2 za) k 3 (nI 1)) k 6 (nI 0)) 5)]) (rest := []) S hE hS (fun q h => h) (c_X8_puts l E M ps ty re (nset (nset (nset σ k 2 za) k 3 (nI 1)) k 6 (nI 0)) k 7 ((nset (nset (nset σ k 2 za) k 3 (nI 1)) k 6 (nI 0)) 5) _ ho hs (by omega) (by omega)) kv_X8_puts kw13_11 kw13_12 kw13_13 (x_recv hE (ho) (ci := 8) rfl) ⟨Nat.le_of_ble_eq_true rfl, Nat.le_of_ble_eq_true rfl⟩ rfl rfl rfl hl.1 rfl (Nat.le_of_ble_eq_true rfl) dX8_anew_50 ⟨Nat.zero_le _, Nat.zero_le _⟩) hS (fun q h => h) (fun H locs hX hO1 hS => ?_)
    have hO := hO.tr hO1 (fun q h => h)
    have ho := va_at.kept ho (hO1.2 _ (fun z => by have z : M = M + 1 := z; omega))
    have hs : XI E (M + 1) 1670 (nset (nset (nset (nset σ k 2 za) k 3 (nI 1)) k 6 (nI 0)) k 7 ((nset (nset (nset σ k 2 za) k 3 (nI 1)) k 6 (nI 0)) 5)) H := hX
    refine lv_aload_n S.1 S.2.1 dX8_anew_53 rfl (lv_at hl 0 rfl) ?_
    refine x_get S hE (ho) (C := RX8) (T := TX8) (N := 10) rfl inlX8 0 (by decide) (v := .ref (M + 1)) rfl kw7_6 rfl dX8_anew_54 ?_
    refine lv_iconst (v := (nI 5)) S.1 S.2.1 dX8_anew_57 (by decide) ?_
    refine lv_dup2_11 S.1 S.2.1 dX8_anew_58 rfl rfl ?_
    refine x_iald S hE (hs) 5 rfl (by decide) (by decide) dX8_anew_59 ?_
    refine lv_iconst (v := (nI 1)) S.1 S.2.1 dX8_anew_60 (by decide) ?_
    refine lv_iadd S.1 S.2.1 dX8_anew_61 ?_
    refine x_iast S hE hS (rfl) (hs) 5 rfl (by decide) (by decide) dX8_anew_62 (fun H locs hX hO1 hS => ?_)
    have hO := hO.tr hO1 (fun q h => h)
    have ho := va_at.kept ho (hO1.2 _ (fun z => by have z : M = M + 1 := z; omega))
    have hs : XI E (M + 1) 1670 (upd (nset (nset (nset (nset σ k 2 za) k 3 (nI 1)) k 6 (nI 0)) k 7 ((nset (nset (nset σ k 2 za) k 3 (nI 1)) k 6 (nI 0)) 5)) 5 (((nset (nset (nset (nset σ k 2 za) k 3 (nI 1)) k 6 (nI 0)) k 7 ((nset (nset (nset σ k 2 za) k 3 (nI 1)) k 6 (nI 0)) 5)) 5) + (nI 1))) H := hX
    refine lv_aload_n S.1 S.2.1 dX8_anew_63 rfl (lv_at hl 0 rfl) ?_
    refine x_get S hE (ho) (C := RX8) (T := TX8) (N := 10) rfl inlX8 0 (by decide) (v := .ref (M + 1)) rfl kw7_6 rfl dX8_anew_64 ?_
    refine lv_iconst (v := (nI 4)) S.1 S.2.1 dX8_anew_67 (by decide) ?_
    refine lv_dup2_11 S.1 S.2.1 dX8_anew_68 rfl rfl ?_
    refine x_iald S hE (hs) 4 rfl (by decide) (by decide) dX8_anew_69 ?_
    refine lv_iconst (v := (nI 1)) S.1 S.2.1 dX8_anew_70 (by decide) ?_
    refine lv_iadd S.1 S.2.1 dX8_anew_71 ?_
    refine x_iast S hE hS (rfl) (hs) 4 rfl (by decide) (by decide) dX8_anew_72 (fun H locs hX hO1 hS => ?_)
    have hO := hO.tr hO1 (fun q h => h)
    have ho := va_at.kept ho (hO1.2 _ (fun z => by have z : M = M + 1 := z; omega))
    have hs : XI E (M + 1) 1670 (upd (upd (nset (nset (nset (nset σ k 2 za) k 3 (nI 1)) k 6 (nI 0)) k 7 ((nset (nset (nset σ k 2 za) k 3 (nI 1)) k 6 (nI 0)) 5)) 5 (((nset (nset (nset (nset σ k 2 za) k 3 (nI 1)) k 6 (nI 0)) k 7 ((nset (nset (nset σ k 2 za) k 3 (nI 1)) k 6 (nI 0)) 5)) 5) + (nI 1))) 4 (((upd (nset (nset (nset (nset σ k 2 za) k 3 (nI 1)) k 6 (nI 0)) k 7 ((nset (nset (nset σ k 2 za) k 3 (nI 1)) k 6 (nI 0)) 5)) 5 (((nset (nset (nset (nset σ k 2 za) k 3 (nI 1)) k 6 (nI 0)) k 7 ((nset (nset (nset σ k 2 za) k 3 (nI 1)) k 6 (nI 0)) 5)) 5) + (nI 1))) 4) + (nI 1))) H := hX
    subst hQ
    refine x_retV S hr hlk hS hO ?_ dX8_anew_73
    exact (show rfAnew σ k za = (upd (upd (nset (nset (nset (nset σ k 2 za) k 3 (nI 1)) k 6 (nI 0)) k 7 ((nset (nset (nset σ k 2 za) k 3 (nI 1)) k 6 (nI 0)) 5)) 5 (((nset (nset (nset (nset σ k 2 za) k 3 (nI 1)) k 6 (nI 0)) k 7 ((nset (nset (nset σ k 2 za) k 3 (nI 1)) k 6 (nI 0)) 5)) 5) + (nI 1))) 4 (((upd (nset (nset (nset (nset σ k 2 za) k 3 (nI 1)) k 6 (nI 0)) k 7 ((nset (nset (nset σ k 2 za) k 3 (nI 1)) k 6 (nI 0)) 5)) 5 (((nset (nset (nset (nset σ k 2 za) k 3 (nI 1)) k 6 (nI 0)) k 7 ((nset (nset (nset σ k 2 za) k 3 (nI 1)) k 6 (nI 0)) 5)) 5) + (nI 1))) 4) + (nI 1))) from by unfold rfAnew rfAn; rw [if_pos h1]; first | done | rfl) ▸ hs
  · skip
    refine lv_iconst (v := (nI 2)) S.1 S.2.1 dX8_anew_24 (by decide) ?_
    refine lv_goto (tgt := 29) S.1 S.2.1 dX8_anew_25 rfl ?_
    refine xk_V (x_runV (As := [.int (nI k), .int (nI 3), .int (nI 2)]) (rest := []) S hE hS (fun q h => h) (c_X8_puts l E M ps ty re (nset σ k 2 za) k 3 (nI 2) _ ho hs (by omega) (by omega)) kv_X8_puts kw13_11 kw13_12 kw13_13 (x_recv hE (ho) (ci := 8) rfl) ⟨Nat.le_of_ble_eq_true rfl, Nat.le_of_ble_eq_true rfl⟩ rfl rfl rfl hl.1 rfl (Nat.le_of_ble_eq_true rfl) dX8_anew_29 ⟨Nat.zero_le _, Nat.zero_le _⟩) hS (fun q h => h) (fun H locs hX hO1 hS => ?_)
    have hO := hO.tr hO1 (fun q h => h)
    have ho := va_at.kept ho (hO1.2 _ (fun z => by have z : M = M + 1 := z; omega))
    have hs : XI E (M + 1) 1670 (nset (nset σ k 2 za) k 3 (nI 2)) H := hX
    refine lv_aload_n S.1 S.2.1 dX8_anew_32 rfl (lv_at hl 0 rfl) ?_
    refine lv_iload_n S.1 S.2.1 dX8_anew_33 rfl (lv_at hl 1 rfl) ?_
    refine lv_bipush (v := (nI 6)) S.1 S.2.1 dX8_anew_34 (by decide) ?_
    refine lv_iconst (v := (nI 0)) S.1 S.2.1 dX8_anew_36 (by decide) ?_
    refine xk_V (x_runV (As := [.int (nI k), .int (nI 6), .int (nI 0)]) (rest := []) S hE hS (fun q h => h) (c_X8_puts l E M ps ty re (nset (nset σ k 2 za) k 3 (nI 2)) k 6 (nI 0) _ ho hs (by omega) (by omega)) kv_X8_puts kw13_11 kw13_12 kw13_13 (x_recv hE (ho) (ci := 8) rfl) ⟨Nat.le_of_ble_eq_true rfl, Nat.le_of_ble_eq_true rfl⟩ rfl rfl rfl hl.1 rfl (Nat.le_of_ble_eq_true rfl) dX8_anew_37 ⟨Nat.zero_le _, Nat.zero_le _⟩) hS (fun q h => h) (fun H locs hX hO1 hS => ?_)
    have hO := hO.tr hO1 (fun q h => h)
    have ho := va_at.kept ho (hO1.2 _ (fun z => by have z : M = M + 1 := z; omega))
    have hs : XI E (M + 1) 1670 (nset (nset (nset σ k 2 za) k 3 (nI 2)) k 6 (nI 0)) H := hX
    refine lv_aload_n S.1 S.2.1 dX8_anew_40 rfl (lv_at hl 0 rfl) ?_
    refine lv_iload_n S.1 S.2.1 dX8_anew_41 rfl (lv_at hl 1 rfl) ?_
    refine lv_bipush (v := (nI 7)) S.1 S.2.1 dX8_anew_42 (by decide) ?_
    refine lv_aload_n S.1 S.2.1 dX8_anew_44 rfl (lv_at hl 0 rfl) ?_
    refine x_get S hE (ho) (C := RX8) (T := TX8) (N := 10) rfl inlX8 0 (by decide) (v := .ref (M + 1)) rfl kw7_6 rfl dX8_anew_45 ?_
    refine lv_iconst (v := (nI 5)) S.1 S.2.1 dX8_anew_48 (by decide) ?_
    refine x_iald S hE (hs) 5 rfl (by decide) (by decide) dX8_anew_49 ?_
    refine xk_V (x_runV (As := [.int (nI k), .int (nI 7), .int ((nset (nset (nset σ k 2 za) k 3 (nI 2)) k 6 (nI 0)) 5)]) (rest := []) S hE hS (fun q h => h) (c_X8_puts l E M ps ty re (nset (nset (nset σ k 2 za) k 3 (nI 2)) k 6 (nI 0)) k 7 ((nset (nset (nset σ k 2 za) k 3 (nI 2)) k 6 (nI 0)) 5) _ ho hs (by omega) (by omega)) kv_X8_puts kw13_11 kw13_12 kw13_13 (x_recv hE (ho) (ci := 8) rfl) ⟨Nat.le_of_ble_eq_true rfl, Nat.le_of_ble_eq_true rfl⟩ rfl rfl rfl hl.1 rfl (Nat.le_of_ble_eq_true rfl) dX8_anew_50 ⟨Nat.zero_le _, Nat.zero_le _⟩) hS (fun q h => h) (fun H locs hX hO1 hS => ?_)
    have hO := hO.tr hO1 (fun q h => h)
    have ho := va_at.kept ho (hO1.2 _ (fun z => by have z : M = M + 1 := z; omega))
    have hs : XI E (M + 1) 1670 (nset (nset (nset (nset σ k 2 za) k 3 (nI 2)) k 6 (nI 0)) k 7 ((nset (nset (nset σ k 2 za) k 3 (nI 2)) k 6 (nI 0)) 5)) H := hX
    refine lv_aload_n S.1 S.2.1 dX8_anew_53 rfl (lv_at hl 0 rfl) ?_
    refine x_get S hE (ho) (C := RX8) (T := TX8) (N := 10) rfl inlX8 0 (by decide) (v := .ref (M + 1)) rfl kw7_6 rfl dX8_anew_54 ?_
    refine lv_iconst (v := (nI 5)) S.1 S.2.1 dX8_anew_57 (by decide) ?_
    refine lv_dup2_11 S.1 S.2.1 dX8_anew_58 rfl rfl ?_
    refine x_iald S hE (hs) 5 rfl (by decide) (by decide) dX8_anew_59 ?_
    refine lv_iconst (v := (nI 1)) S.1 S.2.1 dX8_anew_60 (by decide) ?_
    refine lv_iadd S.1 S.2.1 dX8_anew_61 ?_
    refine x_iast S hE hS (rfl) (hs) 5 rfl (by decide) (by decide) dX8_anew_62 (fun H locs hX hO1 hS => ?_)
    have hO := hO.tr hO1 (fun q h => h)
    have ho := va_at.kept ho (hO1.2 _ (fun z => by have z : M = M + 1 := z; omega))
    have hs : XI E (M + 1) 1670 (upd (nset (nset (nset (nset σ k 2 za) k 3 (nI 2)) k 6 (nI 0)) k 7 ((nset (nset (nset σ k 2 za) k 3 (nI 2)) k 6 (nI 0)) 5)) 5 (((nset (nset (nset (nset σ k 2 za) k 3 (nI 2)) k 6 (nI 0)) k 7 ((nset (nset (nset σ k 2 za) k 3 (nI 2)) k 6 (nI 0)) 5)) 5) + (nI 1))) H := hX
    refine lv_aload_n S.1 S.2.1 dX8_anew_63 rfl (lv_at hl 0 rfl) ?_
    refine x_get S hE (ho) (C := RX8) (T := TX8) (N := 10) rfl inlX8 0 (by decide) (v := .ref (M + 1)) rfl kw7_6 rfl dX8_anew_64 ?_
    refine lv_iconst (v := (nI 4)) S.1 S.2.1 dX8_anew_67 (by decide) ?_
    refine lv_dup2_11 S.1 S.2.1 dX8_anew_68 rfl rfl ?_
    refine x_iald S hE (hs) 4 rfl (by decide) (by decide) dX8_anew_69 ?_
    refine lv_iconst (v := (nI 1)) S.1 S.2.1 dX8_anew_70 (by decide) ?_
    refine lv_iadd S.1 S.2.1 dX8_anew_71 ?_
    refine x_iast S hE hS (rfl) (hs) 4 rfl (by decide) (by decide) dX8_anew_72 (fun H locs hX hO1 hS => ?_)
    have hO := hO.tr hO1 (fun q h => h)
    have ho := va_at.kept ho (hO1.2 _ (fun z => by have z : M = M + 1 := z; omega))
    have hs : XI E (M + 1) 1670 (upd (upd (nset (nset (nset (nset σ k 2 za) k 3 (nI 2)) k 6 (nI 0)) k 7 ((nset (nset (nset σ k 2 za) k 3 (nI 2)) k 6 (nI 0)) 5)) 5 (((nset (nset (nset (nset σ k 2 za) k 3 (nI 2)) k 6 (nI 0)) k 7 ((nset (nset (nset σ k 2 za) k 3 (nI 2)) k 6 (nI 0)) 5)) 5) + (nI 1))) 4 (((upd (nset (nset (nset (nset σ k 2 za) k 3 (nI 2)) k 6 (nI 0)) k 7 ((nset (nset (nset σ k 2 za) k 3 (nI 2)) k 6 (nI 0)) 5)) 5 (((nset (nset (nset (nset σ k 2 za) k 3 (nI 2)) k 6 (nI 0)) k 7 ((nset (nset (nset σ k 2 za) k 3 (nI 2)) k 6 (nI 0)) 5)) 5) + (nI 1))) 4) + (nI 1))) H := hX
    subst hQ
    refine x_retV S hr hlk hS hO ?_ dX8_anew_73
    exact (show rfAnew σ k za = (upd (upd (nset (nset (nset (nset σ k 2 za) k 3 (nI 2)) k 6 (nI 0)) k 7 ((nset (nset (nset σ k 2 za) k 3 (nI 2)) k 6 (nI 0)) 5)) 5 (((nset (nset (nset (nset σ k 2 za) k 3 (nI 2)) k 6 (nI 0)) k 7 ((nset (nset (nset σ k 2 za) k 3 (nI 2)) k 6 (nI 0)) 5)) 5) + (nI 1))) 4 (((upd (nset (nset (nset (nset σ k 2 za) k 3 (nI 2)) k 6 (nI 0)) k 7 ((nset (nset (nset σ k 2 za) k 3 (nI 2)) k 6 (nI 0)) 5)) 5 (((nset (nset (nset (nset σ k 2 za) k 3 (nI 2)) k 6 (nI 0)) k 7 ((nset (nset (nset σ k 2 za) k 3 (nI 2)) k 6 (nI 0)) 5)) 5) + (nI 1))) 4) + (nI 1))) from by unfold rfAnew rfAn; rw [if_neg (Int32.not_lt.mpr (i_nlt h1))]; first | done | rfl) ▸ hs
abbrev rm_X8_fades : Room := ({ frames := 1, cells := 0, slots := 0, locals := 23 } : Room)
set_option maxRecDepth 100000 in
set_option maxHeartbeats 600000 in
theorem c_X8_fades (l : Launch) (E : XE) (M : Nat) (ps ty re : Int32) (σ : Nat → Int32) (k : Nat) (H : Heap) (ho : RfO E M ps ty re H) (hs : XI E (M + 1) 1670 σ H) (hk : k < 200) : Wv l E yX8_fades cX8_fades 2 rm_X8_fades [.ref M, .int (nI k)] H (fun q => q = M + 1) (XI E (M + 1) 1670 (rfFades σ k)) := by
  refine met_of (by decide) (Nat.le_of_ble_eq_true rfl) (fun p e s m args below meth c hBD Q hQ ls hl => ?_)
  obtain ⟨S, hr, hlk, hnm, hE, hH⟩ := hBD
  subst hH
  have hl : lv_has ls 2 [(0, .ref M), (1, .int (nI k))] := hl
  have hO : Out (fun q => q = M + 1) s.heap s.heap := Out.rf
  have hS : va_S (fun q => q = M + 1) s.heap s.heap [] := va_S.rf
  refine lv_aload_n S.1 S.2.1 dX8_fades_0 rfl (lv_at hl 0 rfl) ?_
  refine lv_iload_n S.1 S.2.1 dX8_fades_1 rfl (lv_at hl 1 rfl) ?_
  refine lv_iconst (v := (nI 3)) S.1 S.2.1 dX8_fades_2 (by decide) ?_
  refine lv_iconst (v := (nI 4)) S.1 S.2.1 dX8_fades_3 (by decide) ?_
  refine xk_V (x_runV (As := [.int (nI k), .int (nI 3), .int (nI 4)]) (rest := []) S hE hS (fun q h => h) (c_X8_puts l E M ps ty re σ k 3 (nI 4) _ ho hs (by omega) (by omega)) kv_X8_puts kw13_11 kw13_12 kw13_13 (x_recv hE (ho) (ci := 8) rfl) ⟨Nat.le_of_ble_eq_true rfl, Nat.le_of_ble_eq_true rfl⟩ rfl rfl rfl hl.1 rfl (Nat.le_of_ble_eq_true rfl) dX8_fades_4 ⟨Nat.zero_le _, Nat.zero_le _⟩) hS (fun q h => h) (fun H locs hX hO1 hS => ?_)
  have hO := hO.tr hO1 (fun q h => h)
  have ho := va_at.kept ho (hO1.2 _ (fun z => by have z : M = M + 1 := z; omega))
  have hs : XI E (M + 1) 1670 (nset σ k 3 (nI 4)) H := hX
  refine lv_aload_n S.1 S.2.1 dX8_fades_7 rfl (lv_at hl 0 rfl) ?_
  refine lv_iload_n S.1 S.2.1 dX8_fades_8 rfl (lv_at hl 1 rfl) ?_
  refine lv_iconst (v := (nI 5)) S.1 S.2.1 dX8_fades_9 (by decide) ?_
  refine lv_aload_n S.1 S.2.1 dX8_fades_10 rfl (lv_at hl 0 rfl) ?_
  refine lv_iload_n S.1 S.2.1 dX8_fades_11 rfl (lv_at hl 1 rfl) ?_
  refine lv_iconst (v := (nI 4)) S.1 S.2.1 dX8_fades_12 (by decide) ?_
  refine xk_R (v := (nf (nset σ k 3 (nI 4)) k 4)) (x_runV (As := [.int (nI k), .int (nI 4)]) (rest := [.int (nI 5), .int (nI k), .ref M]) S hE hS (fun _ h => h.elim) (c_X8_of l E M ps ty re (nset σ k 3 (nI 4)) k 4 _ ho hs (by omega) (by omega)) kv_X8_of kw12_22 kw12_23 kw13_0 (x_recv hE (ho) (ci := 8) rfl) ⟨Nat.le_of_ble_eq_true rfl, Nat.le_of_ble_eq_true rfl⟩ rfl rfl rfl hl.1 rfl (Nat.le_of_ble_eq_true rfl) dX8_fades_13 ⟨Nat.zero_le _, Nat.zero_le _⟩) ?_
  refine xk_V (x_runV (As := [.int (nI k), .int (nI 5), .int (nf (nset σ k 3 (nI 4)) k 4)]) (rest := []) S hE hS (fun q h => h) (c_X8_puts l E M ps ty re (nset σ k 3 (nI 4)) k 5 (nf (nset σ k 3 (nI 4)) k 4) _ ho hs (by omega) (by omega)) kv_X8_puts kw13_11 kw13_12 kw13_13 (x_recv hE (ho) (ci := 8) rfl) ⟨Nat.le_of_ble_eq_true rfl, Nat.le_of_ble_eq_true rfl⟩ rfl rfl rfl hl.1 rfl (Nat.le_of_ble_eq_true rfl) dX8_fades_16 ⟨Nat.zero_le _, Nat.zero_le _⟩) hS (fun q h => h) (fun H locs hX hO1 hS => ?_)
  have hO := hO.tr hO1 (fun q h => h)
  have ho := va_at.kept ho (hO1.2 _ (fun z => by have z : M = M + 1 := z; omega))
  have hs : XI E (M + 1) 1670 (nset (nset σ k 3 (nI 4)) k 5 (nf (nset σ k 3 (nI 4)) k 4)) H := hX
  refine lv_aload_n S.1 S.2.1 dX8_fades_19 rfl (lv_at hl 0 rfl) ?_
  refine lv_iload_n S.1 S.2.1 dX8_fades_20 rfl (lv_at hl 1 rfl) ?_
  refine lv_bipush (v := (nI 6)) S.1 S.2.1 dX8_fades_21 (by decide) ?_
  refine lv_iconst (v := (nI 0)) S.1 S.2.1 dX8_fades_23 (by decide) ?_
  refine xk_V (x_runV (As := [.int (nI k), .int (nI 6), .int (nI 0)]) (rest := []) S hE hS (fun q h => h) (c_X8_puts l E M ps ty re (nset (nset σ k 3 (nI 4)) k 5 (nf (nset σ k 3 (nI 4)) k 4)) k 6 (nI 0) _ ho hs (by omega) (by omega)) kv_X8_puts kw13_11 kw13_12 kw13_13 (x_recv hE (ho) (ci := 8) rfl) ⟨Nat.le_of_ble_eq_true rfl, Nat.le_of_ble_eq_true rfl⟩ rfl rfl rfl hl.1 rfl (Nat.le_of_ble_eq_true rfl) dX8_fades_24 ⟨Nat.zero_le _, Nat.zero_le _⟩) hS (fun q h => h) (fun H locs hX hO1 hS => ?_)
  have hO := hO.tr hO1 (fun q h => h)
  have ho := va_at.kept ho (hO1.2 _ (fun z => by have z : M = M + 1 := z; omega))
  have hs : XI E (M + 1) 1670 (nset (nset (nset σ k 3 (nI 4)) k 5 (nf (nset σ k 3 (nI 4)) k 4)) k 6 (nI 0)) H := hX
  subst hQ
  refine x_retV S hr hlk hS hO ?_ dX8_fades_27
  exact hs
abbrev rm_X8_moves : Room := ({ frames := 3, cells := 0, slots := 0, locals := 64 } : Room)
set_option maxRecDepth 100000 in
set_option maxHeartbeats 600000 in
theorem c_X8_moves (l : Launch) (E : XE) (M : Nat) (ps ty re : Int32) (σ : Nat → Int32) (k : Nat) (H : Heap) (ho : RfO E M ps ty re H) (hs : XI E (M + 1) 1670 σ H) (hk : k < 200) : Wv l E yX8_moves cX8_moves 7 rm_X8_moves [.ref M, .int (nI k)] H (fun q => q = M + 1) (XI E (M + 1) 1670 (rfMv σ k)) := by
  refine met_of (by decide) (Nat.le_of_ble_eq_true rfl) (fun p e s m args below meth c hBD Q hQ ls hl => ?_)
  obtain ⟨S, hr, hlk, hnm, hE, hH⟩ := hBD
  subst hH
  have hl : lv_has ls 7 [(0, .ref M), (1, .int (nI k))] := hl
  have hO : Out (fun q => q = M + 1) s.heap s.heap := Out.rf
  have hS : va_S (fun q => q = M + 1) s.heap s.heap [] := va_S.rf
  refine lv_aload_n S.1 S.2.1 dX8_moves_0 rfl (lv_at hl 0 rfl) ?_
  refine lv_iload_n S.1 S.2.1 dX8_moves_1 rfl (lv_at hl 1 rfl) ?_
  refine lv_iconst (v := (nI 0)) S.1 S.2.1 dX8_moves_2 (by decide) ?_
  refine xk_R (v := (nf σ k 0)) (x_runV (As := [.int (nI k), .int (nI 0)]) (rest := []) S hE hS (fun _ h => h.elim) (c_X8_of l E M ps ty re σ k 0 _ ho hs (by omega) (by omega)) kv_X8_of kw12_22 kw12_23 kw13_0 (x_recv hE (ho) (ci := 8) rfl) ⟨Nat.le_of_ble_eq_true rfl, Nat.le_of_ble_eq_true rfl⟩ rfl rfl rfl hl.1 rfl (Nat.le_of_ble_eq_true rfl) dX8_moves_3 ⟨Nat.zero_le _, Nat.zero_le _⟩) ?_
  refine lv_istore_n S.1 S.2.1 dX8_moves_6 rfl hl (by decide) rfl (fun ls hl => ?_)
  have hl : lv_has ls 7 [(2, .int (nf σ k 0)), (0, .ref M), (1, .int (nI k))] := hl
  refine lv_aload_n S.1 S.2.1 dX8_moves_7 rfl (lv_at hl 1 rfl) ?_
  refine lv_iload_n S.1 S.2.1 dX8_moves_8 rfl (lv_at hl 2 rfl) ?_
  refine lv_iconst (v := (nI 4)) S.1 S.2.1 dX8_moves_9 (by decide) ?_
  refine xk_R (v := (nf σ k 4)) (x_runV (As := [.int (nI k), .int (nI 4)]) (rest := []) S hE hS (fun _ h => h.elim) (c_X8_of l E M ps ty re σ k 4 _ ho hs (by omega) (by omega)) kv_X8_of kw12_22 kw12_23 kw13_0 (x_recv hE (ho) (ci := 8) rfl) ⟨Nat.le_of_ble_eq_true rfl, Nat.le_of_ble_eq_true rfl⟩ rfl rfl rfl hl.1 rfl (Nat.le_of_ble_eq_true rfl) dX8_moves_10 ⟨Nat.zero_le _, Nat.zero_le _⟩) ?_
  refine lv_istore_n S.1 S.2.1 dX8_moves_13 rfl hl (by decide) rfl (fun ls hl => ?_)
  have hl : lv_has ls 7 [(3, .int (nf σ k 4)), (2, .int (nf σ k 0)), (0, .ref M), (1, .int (nI k))] := hl
  refine lv_aload_n S.1 S.2.1 dX8_moves_14 rfl (lv_at hl 2 rfl) ?_
  refine lv_iload_n S.1 S.2.1 dX8_moves_15 rfl (lv_at hl 3 rfl) ?_
  refine xk_R (v := (rfPeak σ k)) (x_runV (As := [.int (nI k)]) (rest := []) S hE hS (fun _ h => h.elim) (c_X8_peakOf l E M ps ty re σ k _ ho hs (by omega)) kv_X8_peakOf kw13_15 kw13_16 kw13_17 (x_recv hE (ho) (ci := 8) rfl) ⟨Nat.le_of_ble_eq_true rfl, Nat.le_of_ble_eq_true rfl⟩ rfl rfl rfl hl.1 rfl (Nat.le_of_ble_eq_true rfl) dX8_moves_16 ⟨Nat.zero_le _, Nat.zero_le _⟩) ?_
  refine lv_istore S.1 S.2.1 dX8_moves_19 hl (by decide) rfl (fun ls hl => ?_)
  have hl : lv_has ls 7 [(4, .int (rfPeak σ k)), (3, .int (nf σ k 4)), (2, .int (nf σ k 0)), (0, .ref M), (1, .int (nI k))] := hl
  refine lv_aload_n S.1 S.2.1 dX8_moves_21 rfl (lv_at hl 3 rfl) ?_
  refine lv_iload_n S.1 S.2.1 dX8_moves_22 rfl (lv_at hl 4 rfl) ?_
  refine xk_R (v := (rfRest σ k)) (x_runV (As := [.int (nI k)]) (rest := []) S hE hS (fun _ h => h.elim) (c_X8_restOf l E M ps ty re σ k _ ho hs (by omega)) kv_X8_restOf kw18_19 kw18_20 kw18_21 (x_recv hE (ho) (ci := 8) rfl) ⟨Nat.le_of_ble_eq_true rfl, Nat.le_of_ble_eq_true rfl⟩ rfl rfl rfl hl.1 rfl (Nat.le_of_ble_eq_true rfl) dX8_moves_23 ⟨Nat.zero_le _, Nat.zero_le _⟩) ?_
  refine lv_istore S.1 S.2.1 dX8_moves_26 hl (by decide) rfl (fun ls hl => ?_)
  have hl : lv_has ls 7 [(5, .int (rfRest σ k)), (4, .int (rfPeak σ k)), (3, .int (nf σ k 4)), (2, .int (nf σ k 0)), (0, .ref M), (1, .int (nI k))] := hl
  refine lv_iload_n S.1 S.2.1 dX8_moves_28 rfl (lv_at hl 2 rfl) ?_
  refine lv_istore S.1 S.2.1 dX8_moves_29 hl (by decide) rfl (fun ls hl => ?_)
  have hl : lv_has ls 7 [(6, .int (nf σ k 4)), (5, .int (rfRest σ k)), (4, .int (rfPeak σ k)), (3, .int (nf σ k 4)), (2, .int (nf σ k 0)), (0, .ref M), (1, .int (nI k))] := hl
  refine lv_aload_n S.1 S.2.1 dX8_moves_31 rfl (lv_at hl 5 rfl) ?_
  refine lv_iload_n S.1 S.2.1 dX8_moves_32 rfl (lv_at hl 6 rfl) ?_
  refine lv_iconst (v := (nI 3)) S.1 S.2.1 dX8_moves_33 (by decide) ?_
  refine xk_R (v := (nf σ k 3)) (x_runV (As := [.int (nI k), .int (nI 3)]) (rest := []) S hE hS (fun _ h => h.elim) (c_X8_of l E M ps ty re σ k 3 _ ho hs (by omega) (by omega)) kv_X8_of kw12_22 kw12_23 kw13_0 (x_recv hE (ho) (ci := 8) rfl) ⟨Nat.le_of_ble_eq_true rfl, Nat.le_of_ble_eq_true rfl⟩ rfl rfl rfl hl.1 rfl (Nat.le_of_ble_eq_true rfl) dX8_moves_34 ⟨Nat.zero_le _, Nat.zero_le _⟩) ?_
  by_cases h1_1 : (nf σ k 3) = (nI 1)
  · refine x_top h1_1 ?_
    refine lv_tableIn (tgt := 72) S.1 S.2.1 dX8_moves_37 (by decide) (by decide) (show _ = some (35) from rfl) rfl ?_
    refine lv_iload_n S.1 S.2.1 dX8_moves_72 rfl (lv_at hl 3 rfl) ?_
    refine lv_iload S.1 S.2.1 dX8_moves_73 (lv_at hl 2 rfl) ?_
    refine lv_iload_n S.1 S.2.1 dX8_moves_75 rfl (lv_at hl 4 rfl) ?_
    refine xk_R (v := (rfRise (nf σ k 0))) (x_runS (As := [.int (nf σ k 0)]) (rest := [.int (rfPeak σ k), .int (nf σ k 4)]) S hE hS (fun _ h => h.elim) (c_X8_rise l E (nf σ k 0) _) kv_X8_rise kw18_23 kw19_0 ⟨Nat.le_of_ble_eq_true rfl, Nat.le_of_ble_eq_true rfl⟩ rfl rfl rfl hl.1 rfl (Nat.le_of_ble_eq_true rfl) dX8_moves_76 ⟨Nat.zero_le _, Nat.zero_le _⟩) ?_
    refine xk_R (v := (rfUp (rfPeak σ k) (rfRise (nf σ k 0)))) (x_runS (As := [.int (rfPeak σ k), .int (rfRise (nf σ k 0))]) (rest := [.int (nf σ k 4)]) S hE hS (fun _ h => h.elim) (c_X8_up l E (rfPeak σ k) (rfRise (nf σ k 0)) _ (rise_nz _)) kv_X8_up kw19_2 kw19_3 ⟨Nat.le_of_ble_eq_true rfl, Nat.le_of_ble_eq_true rfl⟩ rfl rfl rfl hl.1 rfl (Nat.le_of_ble_eq_true rfl) dX8_moves_79 ⟨Nat.zero_le _, Nat.zero_le _⟩) ?_
    refine lv_iadd S.1 S.2.1 dX8_moves_82 ?_
    refine lv_istore S.1 S.2.1 dX8_moves_83 hl (by decide) rfl (fun ls hl => ?_)
    have hl : lv_has ls 7 [(6, .int ((nf σ k 4) + (rfUp (rfPeak σ k) (rfRise (nf σ k 0))))), (5, .int (rfRest σ k)), (4, .int (rfPeak σ k)), (3, .int (nf σ k 4)), (2, .int (nf σ k 0)), (0, .ref M), (1, .int (nI k))] := hl
    refine lv_iload S.1 S.2.1 dX8_moves_85 (lv_at hl 0 rfl) ?_
    refine lv_iload S.1 S.2.1 dX8_moves_87 (lv_at hl 2 rfl) ?_
    refine lv_icmp_le (tgt := 97) S.1 S.2.1 dX8_moves_89 rfl (fun h2 => ?_) (fun h2 => ?_)
    · skip
      refine lv_iload S.1 S.2.1 dX8_moves_97 (lv_at hl 0 rfl) ?_
      refine x_top (y := (rfRs σ k)) (by rw [rfRs, yMin, if_pos h2]; first | done | rfl) ?_
      refine lv_istore S.1 S.2.1 dX8_moves_99 hl (by decide) rfl (fun ls hl => ?_)
      have hl : lv_has ls 7 [(6, .int (rfRs σ k)), (5, .int (rfRest σ k)), (4, .int (rfPeak σ k)), (3, .int (nf σ k 4)), (2, .int (nf σ k 0)), (0, .ref M), (1, .int (nI k))] := hl
      refine lv_aload_n S.1 S.2.1 dX8_moves_101 rfl (lv_at hl 5 rfl) ?_
      refine lv_iload_n S.1 S.2.1 dX8_moves_102 rfl (lv_at hl 6 rfl) ?_
      refine lv_iconst (v := (nI 3)) S.1 S.2.1 dX8_moves_103 (by decide) ?_
      refine lv_iload S.1 S.2.1 dX8_moves_104 (lv_at hl 0 rfl) ?_
      refine lv_iload S.1 S.2.1 dX8_moves_106 (lv_at hl 2 rfl) ?_
      refine lv_icmp_ne (tgt := 115) S.1 S.2.1 dX8_moves_108 rfl (fun h3 => ?_) (fun h3 => ?_)
      · skip
        refine lv_iconst (v := (nI 1)) S.1 S.2.1 dX8_moves_115 (by decide) ?_
        refine xk_V (x_runV (As := [.int (nI k), .int (nI 3), .int (nI 1)]) (rest := []) S hE hS (fun q h => h) (c_X8_puts l E M ps ty re σ k 3 (nI 1) _ ho hs (by omega) (by omega)) kv_X8_puts kw13_11 kw13_12 kw13_13 (x_recv hE (ho) (ci := 8) rfl) ⟨Nat.le_of_ble_eq_true rfl, Nat.le_of_ble_eq_true rfl⟩ rfl rfl rfl hl.1 rfl (Nat.le_of_ble_eq_true rfl) dX8_moves_116 ⟨Nat.zero_le _, Nat.zero_le _⟩) hS (fun q h => h) (fun H locs hX hO1 hS => ?_)
        have hO := hO.tr hO1 (fun q h => h)
        have ho := va_at.kept ho (hO1.2 _ (fun z => by have z : M = M + 1 := z; omega))
        have hs : XI E (M + 1) 1670 (nset σ k 3 (nI 1)) H := hX
        refine lv_goto (tgt := 244) S.1 S.2.1 dX8_moves_119 rfl ?_
        refine lv_aload_n S.1 S.2.1 dX8_moves_244 rfl (lv_at hl 5 rfl) ?_
        refine lv_iload_n S.1 S.2.1 dX8_moves_245 rfl (lv_at hl 6 rfl) ?_
        refine lv_iconst (v := (nI 4)) S.1 S.2.1 dX8_moves_246 (by decide) ?_
        refine lv_iload S.1 S.2.1 dX8_moves_247 (lv_at hl 0 rfl) ?_
        refine xk_V (x_runV (As := [.int (nI k), .int (nI 4), .int (rfRs σ k)]) (rest := []) S hE hS (fun q h => h) (c_X8_puts l E M ps ty re (nset σ k 3 (nI 1)) k 4 (rfRs σ k) _ ho hs (by omega) (by omega)) kv_X8_puts kw13_11 kw13_12 kw13_13 (x_recv hE (ho) (ci := 8) rfl) ⟨Nat.le_of_ble_eq_true rfl, Nat.le_of_ble_eq_true rfl⟩ rfl rfl rfl hl.1 rfl (Nat.le_of_ble_eq_true rfl) dX8_moves_249 ⟨Nat.zero_le _, Nat.zero_le _⟩) hS (fun q h => h) (fun H locs hX hO1 hS => ?_)
        have hO := hO.tr hO1 (fun q h => h)
        have ho := va_at.kept ho (hO1.2 _ (fun z => by have z : M = M + 1 := z; omega))
        have hs : XI E (M + 1) 1670 (nset (nset σ k 3 (nI 1)) k 4 (rfRs σ k)) H := hX
        subst hQ
        refine x_retV S hr hlk hS hO ?_ dX8_moves_252
        exact (show rfMv σ k = (nset (nset σ k 3 (nI 1)) k 4 (rfRs σ k)) from by unfold rfMv; rw [if_pos h1_1, if_neg h3]; first | done | rfl) ▸ hs
      · skip
        refine lv_iconst (v := (nI 2)) S.1 S.2.1 dX8_moves_111 (by decide) ?_
        refine lv_goto (tgt := 116) S.1 S.2.1 dX8_moves_112 rfl ?_
        refine xk_V (x_runV (As := [.int (nI k), .int (nI 3), .int (nI 2)]) (rest := []) S hE hS (fun q h => h) (c_X8_puts l E M ps ty re σ k 3 (nI 2) _ ho hs (by omega) (by omega)) kv_X8_puts kw13_11 kw13_12 kw13_13 (x_recv hE (ho) (ci := 8) rfl) ⟨Nat.le_of_ble_eq_true rfl, Nat.le_of_ble_eq_true rfl⟩ rfl rfl rfl hl.1 rfl (Nat.le_of_ble_eq_true rfl) dX8_moves_116 ⟨Nat.zero_le _, Nat.zero_le _⟩) hS (fun q h => h) (fun H locs hX hO1 hS => ?_)
        have hO := hO.tr hO1 (fun q h => h)
        have ho := va_at.kept ho (hO1.2 _ (fun z => by have z : M = M + 1 := z; omega))
        have hs : XI E (M + 1) 1670 (nset σ k 3 (nI 2)) H := hX
        refine lv_goto (tgt := 244) S.1 S.2.1 dX8_moves_119 rfl ?_
        refine lv_aload_n S.1 S.2.1 dX8_moves_244 rfl (lv_at hl 5 rfl) ?_
        refine lv_iload_n S.1 S.2.1 dX8_moves_245 rfl (lv_at hl 6 rfl) ?_
        refine lv_iconst (v := (nI 4)) S.1 S.2.1 dX8_moves_246 (by decide) ?_
        refine lv_iload S.1 S.2.1 dX8_moves_247 (lv_at hl 0 rfl) ?_
        refine xk_V (x_runV (As := [.int (nI k), .int (nI 4), .int (rfRs σ k)]) (rest := []) S hE hS (fun q h => h) (c_X8_puts l E M ps ty re (nset σ k 3 (nI 2)) k 4 (rfRs σ k) _ ho hs (by omega) (by omega)) kv_X8_puts kw13_11 kw13_12 kw13_13 (x_recv hE (ho) (ci := 8) rfl) ⟨Nat.le_of_ble_eq_true rfl, Nat.le_of_ble_eq_true rfl⟩ rfl rfl rfl hl.1 rfl (Nat.le_of_ble_eq_true rfl) dX8_moves_249 ⟨Nat.zero_le _, Nat.zero_le _⟩) hS (fun q h => h) (fun H locs hX hO1 hS => ?_)
        have hO := hO.tr hO1 (fun q h => h)
        have ho := va_at.kept ho (hO1.2 _ (fun z => by have z : M = M + 1 := z; omega))
        have hs : XI E (M + 1) 1670 (nset (nset σ k 3 (nI 2)) k 4 (rfRs σ k)) H := hX
        subst hQ
        refine x_retV S hr hlk hS hO ?_ dX8_moves_252
        exact (show rfMv σ k = (nset (nset σ k 3 (nI 2)) k 4 (rfRs σ k)) from by unfold rfMv; rw [if_pos h1_1, if_pos h3]; first | done | rfl) ▸ hs
    · skip
      refine lv_iload S.1 S.2.1 dX8_moves_92 (lv_at hl 2 rfl) ?_
      refine lv_goto (tgt := 99) S.1 S.2.1 dX8_moves_94 rfl ?_
      refine x_top (y := (rfRs σ k)) (by rw [rfRs, yMin, if_neg h2]; first | done | rfl) ?_
      refine lv_istore S.1 S.2.1 dX8_moves_99 hl (by decide) rfl (fun ls hl => ?_)
      have hl : lv_has ls 7 [(6, .int (rfRs σ k)), (5, .int (rfRest σ k)), (4, .int (rfPeak σ k)), (3, .int (nf σ k 4)), (2, .int (nf σ k 0)), (0, .ref M), (1, .int (nI k))] := hl
      refine lv_aload_n S.1 S.2.1 dX8_moves_101 rfl (lv_at hl 5 rfl) ?_
      refine lv_iload_n S.1 S.2.1 dX8_moves_102 rfl (lv_at hl 6 rfl) ?_
      refine lv_iconst (v := (nI 3)) S.1 S.2.1 dX8_moves_103 (by decide) ?_
      refine lv_iload S.1 S.2.1 dX8_moves_104 (lv_at hl 0 rfl) ?_
      refine lv_iload S.1 S.2.1 dX8_moves_106 (lv_at hl 2 rfl) ?_
      refine lv_icmp_ne (tgt := 115) S.1 S.2.1 dX8_moves_108 rfl (fun h4 => ?_) (fun h4 => ?_)
      · skip
        refine lv_iconst (v := (nI 1)) S.1 S.2.1 dX8_moves_115 (by decide) ?_
        refine xk_V (x_runV (As := [.int (nI k), .int (nI 3), .int (nI 1)]) (rest := []) S hE hS (fun q h => h) (c_X8_puts l E M ps ty re σ k 3 (nI 1) _ ho hs (by omega) (by omega)) kv_X8_puts kw13_11 kw13_12 kw13_13 (x_recv hE (ho) (ci := 8) rfl) ⟨Nat.le_of_ble_eq_true rfl, Nat.le_of_ble_eq_true rfl⟩ rfl rfl rfl hl.1 rfl (Nat.le_of_ble_eq_true rfl) dX8_moves_116 ⟨Nat.zero_le _, Nat.zero_le _⟩) hS (fun q h => h) (fun H locs hX hO1 hS => ?_)
        have hO := hO.tr hO1 (fun q h => h)
        have ho := va_at.kept ho (hO1.2 _ (fun z => by have z : M = M + 1 := z; omega))
        have hs : XI E (M + 1) 1670 (nset σ k 3 (nI 1)) H := hX
        refine lv_goto (tgt := 244) S.1 S.2.1 dX8_moves_119 rfl ?_
        refine lv_aload_n S.1 S.2.1 dX8_moves_244 rfl (lv_at hl 5 rfl) ?_
        refine lv_iload_n S.1 S.2.1 dX8_moves_245 rfl (lv_at hl 6 rfl) ?_
        refine lv_iconst (v := (nI 4)) S.1 S.2.1 dX8_moves_246 (by decide) ?_
        refine lv_iload S.1 S.2.1 dX8_moves_247 (lv_at hl 0 rfl) ?_
        refine xk_V (x_runV (As := [.int (nI k), .int (nI 4), .int (rfRs σ k)]) (rest := []) S hE hS (fun q h => h) (c_X8_puts l E M ps ty re (nset σ k 3 (nI 1)) k 4 (rfRs σ k) _ ho hs (by omega) (by omega)) kv_X8_puts kw13_11 kw13_12 kw13_13 (x_recv hE (ho) (ci := 8) rfl) ⟨Nat.le_of_ble_eq_true rfl, Nat.le_of_ble_eq_true rfl⟩ rfl rfl rfl hl.1 rfl (Nat.le_of_ble_eq_true rfl) dX8_moves_249 ⟨Nat.zero_le _, Nat.zero_le _⟩) hS (fun q h => h) (fun H locs hX hO1 hS => ?_)
        have hO := hO.tr hO1 (fun q h => h)
        have ho := va_at.kept ho (hO1.2 _ (fun z => by have z : M = M + 1 := z; omega))
        have hs : XI E (M + 1) 1670 (nset (nset σ k 3 (nI 1)) k 4 (rfRs σ k)) H := hX
        subst hQ
        refine x_retV S hr hlk hS hO ?_ dX8_moves_252
        exact (show rfMv σ k = (nset (nset σ k 3 (nI 1)) k 4 (rfRs σ k)) from by unfold rfMv; rw [if_pos h1_1, if_neg h4]; first | done | rfl) ▸ hs
      · skip
        refine lv_iconst (v := (nI 2)) S.1 S.2.1 dX8_moves_111 (by decide) ?_
        refine lv_goto (tgt := 116) S.1 S.2.1 dX8_moves_112 rfl ?_
        refine xk_V (x_runV (As := [.int (nI k), .int (nI 3), .int (nI 2)]) (rest := []) S hE hS (fun q h => h) (c_X8_puts l E M ps ty re σ k 3 (nI 2) _ ho hs (by omega) (by omega)) kv_X8_puts kw13_11 kw13_12 kw13_13 (x_recv hE (ho) (ci := 8) rfl) ⟨Nat.le_of_ble_eq_true rfl, Nat.le_of_ble_eq_true rfl⟩ rfl rfl rfl hl.1 rfl (Nat.le_of_ble_eq_true rfl) dX8_moves_116 ⟨Nat.zero_le _, Nat.zero_le _⟩) hS (fun q h => h) (fun H locs hX hO1 hS => ?_)
        have hO := hO.tr hO1 (fun q h => h)
        have ho := va_at.kept ho (hO1.2 _ (fun z => by have z : M = M + 1 := z; omega))
        have hs : XI E (M + 1) 1670 (nset σ k 3 (nI 2)) H := hX
        refine lv_goto (tgt := 244) S.1 S.2.1 dX8_moves_119 rfl ?_
        refine lv_aload_n S.1 S.2.1 dX8_moves_244 rfl (lv_at hl 5 rfl) ?_
        refine lv_iload_n S.1 S.2.1 dX8_moves_245 rfl (lv_at hl 6 rfl) ?_
        refine lv_iconst (v := (nI 4)) S.1 S.2.1 dX8_moves_246 (by decide) ?_
        refine lv_iload S.1 S.2.1 dX8_moves_247 (lv_at hl 0 rfl) ?_
        refine xk_V (x_runV (As := [.int (nI k), .int (nI 4), .int (rfRs σ k)]) (rest := []) S hE hS (fun q h => h) (c_X8_puts l E M ps ty re (nset σ k 3 (nI 2)) k 4 (rfRs σ k) _ ho hs (by omega) (by omega)) kv_X8_puts kw13_11 kw13_12 kw13_13 (x_recv hE (ho) (ci := 8) rfl) ⟨Nat.le_of_ble_eq_true rfl, Nat.le_of_ble_eq_true rfl⟩ rfl rfl rfl hl.1 rfl (Nat.le_of_ble_eq_true rfl) dX8_moves_249 ⟨Nat.zero_le _, Nat.zero_le _⟩) hS (fun q h => h) (fun H locs hX hO1 hS => ?_)
        have hO := hO.tr hO1 (fun q h => h)
        have ho := va_at.kept ho (hO1.2 _ (fun z => by have z : M = M + 1 := z; omega))
        have hs : XI E (M + 1) 1670 (nset (nset σ k 3 (nI 2)) k 4 (rfRs σ k)) H := hX
        subst hQ
        refine x_retV S hr hlk hS hO ?_ dX8_moves_252
        exact (show rfMv σ k = (nset (nset σ k 3 (nI 2)) k 4 (rfRs σ k)) from by unfold rfMv; rw [if_pos h1_1, if_pos h4]; first | done | rfl) ▸ hs
  by_cases h1_2 : (nf σ k 3) = (nI 2)
  · refine x_top h1_2 ?_
    refine lv_tableIn (tgt := 122) S.1 S.2.1 dX8_moves_37 (by decide) (by decide) (show _ = some (85) from rfl) rfl ?_
    refine lv_iload_n S.1 S.2.1 dX8_moves_122 rfl (lv_at hl 3 rfl) ?_
    refine lv_iload S.1 S.2.1 dX8_moves_123 (lv_at hl 2 rfl) ?_
    refine lv_iload S.1 S.2.1 dX8_moves_125 (lv_at hl 1 rfl) ?_
    refine lv_isub S.1 S.2.1 dX8_moves_127 ?_
    refine lv_iload_n S.1 S.2.1 dX8_moves_128 rfl (lv_at hl 4 rfl) ?_
    refine xk_R (v := (rfSink (nf σ k 0))) (x_runS (As := [.int (nf σ k 0)]) (rest := [.int ((rfPeak σ k) - (rfRest σ k)), .int (nf σ k 4)]) S hE hS (fun _ h => h.elim) (c_X8_sink l E (nf σ k 0) _) kv_X8_sink kw19_5 kw19_6 ⟨Nat.le_of_ble_eq_true rfl, Nat.le_of_ble_eq_true rfl⟩ rfl rfl rfl hl.1 rfl (Nat.le_of_ble_eq_true rfl) dX8_moves_129 ⟨Nat.zero_le _, Nat.zero_le _⟩) ?_
    refine xk_R (v := (rfUp ((rfPeak σ k) - (rfRest σ k)) (rfSink (nf σ k 0)))) (x_runS (As := [.int ((rfPeak σ k) - (rfRest σ k)), .int (rfSink (nf σ k 0))]) (rest := [.int (nf σ k 4)]) S hE hS (fun _ h => h.elim) (c_X8_up l E ((rfPeak σ k) - (rfRest σ k)) (rfSink (nf σ k 0)) _ (sink_nz _)) kv_X8_up kw19_2 kw19_3 ⟨Nat.le_of_ble_eq_true rfl, Nat.le_of_ble_eq_true rfl⟩ rfl rfl rfl hl.1 rfl (Nat.le_of_ble_eq_true rfl) dX8_moves_132 ⟨Nat.zero_le _, Nat.zero_le _⟩) ?_
    refine lv_isub S.1 S.2.1 dX8_moves_135 ?_
    refine lv_istore S.1 S.2.1 dX8_moves_136 hl (by decide) rfl (fun ls hl => ?_)
    have hl : lv_has ls 7 [(6, .int ((nf σ k 4) - (rfUp ((rfPeak σ k) - (rfRest σ k)) (rfSink (nf σ k 0))))), (5, .int (rfRest σ k)), (4, .int (rfPeak σ k)), (3, .int (nf σ k 4)), (2, .int (nf σ k 0)), (0, .ref M), (1, .int (nI k))] := hl
    refine lv_iload S.1 S.2.1 dX8_moves_138 (lv_at hl 0 rfl) ?_
    refine lv_iload S.1 S.2.1 dX8_moves_140 (lv_at hl 1 rfl) ?_
    refine lv_icmp_ge (tgt := 150) S.1 S.2.1 dX8_moves_142 rfl (fun h5 => ?_) (fun h5 => ?_)
    · skip
      refine lv_iload S.1 S.2.1 dX8_moves_150 (lv_at hl 0 rfl) ?_
      refine x_top (y := (rfSk σ k)) (by rw [rfSk, yMax, if_pos h5]; first | done | rfl) ?_
      refine lv_istore S.1 S.2.1 dX8_moves_152 hl (by decide) rfl (fun ls hl => ?_)
      have hl : lv_has ls 7 [(6, .int (rfSk σ k)), (5, .int (rfRest σ k)), (4, .int (rfPeak σ k)), (3, .int (nf σ k 4)), (2, .int (nf σ k 0)), (0, .ref M), (1, .int (nI k))] := hl
      refine lv_aload_n S.1 S.2.1 dX8_moves_154 rfl (lv_at hl 5 rfl) ?_
      refine lv_iload_n S.1 S.2.1 dX8_moves_155 rfl (lv_at hl 6 rfl) ?_
      refine lv_iconst (v := (nI 3)) S.1 S.2.1 dX8_moves_156 (by decide) ?_
      refine lv_iload S.1 S.2.1 dX8_moves_157 (lv_at hl 0 rfl) ?_
      refine lv_iload S.1 S.2.1 dX8_moves_159 (lv_at hl 1 rfl) ?_
      refine lv_icmp_ne (tgt := 168) S.1 S.2.1 dX8_moves_161 rfl (fun h6 => ?_) (fun h6 => ?_)
      · skip
        refine lv_iconst (v := (nI 2)) S.1 S.2.1 dX8_moves_168 (by decide) ?_
        refine xk_V (x_runV (As := [.int (nI k), .int (nI 3), .int (nI 2)]) (rest := []) S hE hS (fun q h => h) (c_X8_puts l E M ps ty re σ k 3 (nI 2) _ ho hs (by omega) (by omega)) kv_X8_puts kw13_11 kw13_12 kw13_13 (x_recv hE (ho) (ci := 8) rfl) ⟨Nat.le_of_ble_eq_true rfl, Nat.le_of_ble_eq_true rfl⟩ rfl rfl rfl hl.1 rfl (Nat.le_of_ble_eq_true rfl) dX8_moves_169 ⟨Nat.zero_le _, Nat.zero_le _⟩) hS (fun q h => h) (fun H locs hX hO1 hS => ?_)
        have hO := hO.tr hO1 (fun q h => h)
        have ho := va_at.kept ho (hO1.2 _ (fun z => by have z : M = M + 1 := z; omega))
        have hs : XI E (M + 1) 1670 (nset σ k 3 (nI 2)) H := hX
        refine lv_goto (tgt := 244) S.1 S.2.1 dX8_moves_172 rfl ?_
        refine lv_aload_n S.1 S.2.1 dX8_moves_244 rfl (lv_at hl 5 rfl) ?_
        refine lv_iload_n S.1 S.2.1 dX8_moves_245 rfl (lv_at hl 6 rfl) ?_
        refine lv_iconst (v := (nI 4)) S.1 S.2.1 dX8_moves_246 (by decide) ?_
        refine lv_iload S.1 S.2.1 dX8_moves_247 (lv_at hl 0 rfl) ?_
        refine xk_V (x_runV (As := [.int (nI k), .int (nI 4), .int (rfSk σ k)]) (rest := []) S hE hS (fun q h => h) (c_X8_puts l E M ps ty re (nset σ k 3 (nI 2)) k 4 (rfSk σ k) _ ho hs (by omega) (by omega)) kv_X8_puts kw13_11 kw13_12 kw13_13 (x_recv hE (ho) (ci := 8) rfl) ⟨Nat.le_of_ble_eq_true rfl, Nat.le_of_ble_eq_true rfl⟩ rfl rfl rfl hl.1 rfl (Nat.le_of_ble_eq_true rfl) dX8_moves_249 ⟨Nat.zero_le _, Nat.zero_le _⟩) hS (fun q h => h) (fun H locs hX hO1 hS => ?_)
        have hO := hO.tr hO1 (fun q h => h)
        have ho := va_at.kept ho (hO1.2 _ (fun z => by have z : M = M + 1 := z; omega))
        have hs : XI E (M + 1) 1670 (nset (nset σ k 3 (nI 2)) k 4 (rfSk σ k)) H := hX
        subst hQ
        refine x_retV S hr hlk hS hO ?_ dX8_moves_252
        exact (show rfMv σ k = (nset (nset σ k 3 (nI 2)) k 4 (rfSk σ k)) from by unfold rfMv; rw [if_neg (by rw [h1_2]; decide), if_pos h1_2, if_neg h6]; first | done | rfl) ▸ hs
      · skip
        refine lv_iconst (v := (nI 3)) S.1 S.2.1 dX8_moves_164 (by decide) ?_
        refine lv_goto (tgt := 169) S.1 S.2.1 dX8_moves_165 rfl ?_
        refine xk_V (x_runV (As := [.int (nI k), .int (nI 3), .int (nI 3)]) (rest := []) S hE hS (fun q h => h) (c_X8_puts l E M ps ty re σ k 3 (nI 3) _ ho hs (by omega) (by omega)) kv_X8_puts kw13_11 kw13_12 kw13_13 (x_recv hE (ho) (ci := 8) rfl) ⟨Nat.le_of_ble_eq_true rfl, Nat.le_of_ble_eq_true rfl⟩ rfl rfl rfl hl.1 rfl (Nat.le_of_ble_eq_true rfl) dX8_moves_169 ⟨Nat.zero_le _, Nat.zero_le _⟩) hS (fun q h => h) (fun H locs hX hO1 hS => ?_)
        have hO := hO.tr hO1 (fun q h => h)
        have ho := va_at.kept ho (hO1.2 _ (fun z => by have z : M = M + 1 := z; omega))
        have hs : XI E (M + 1) 1670 (nset σ k 3 (nI 3)) H := hX
        refine lv_goto (tgt := 244) S.1 S.2.1 dX8_moves_172 rfl ?_
        refine lv_aload_n S.1 S.2.1 dX8_moves_244 rfl (lv_at hl 5 rfl) ?_
        refine lv_iload_n S.1 S.2.1 dX8_moves_245 rfl (lv_at hl 6 rfl) ?_
        refine lv_iconst (v := (nI 4)) S.1 S.2.1 dX8_moves_246 (by decide) ?_
        refine lv_iload S.1 S.2.1 dX8_moves_247 (lv_at hl 0 rfl) ?_
        refine xk_V (x_runV (As := [.int (nI k), .int (nI 4), .int (rfSk σ k)]) (rest := []) S hE hS (fun q h => h) (c_X8_puts l E M ps ty re (nset σ k 3 (nI 3)) k 4 (rfSk σ k) _ ho hs (by omega) (by omega)) kv_X8_puts kw13_11 kw13_12 kw13_13 (x_recv hE (ho) (ci := 8) rfl) ⟨Nat.le_of_ble_eq_true rfl, Nat.le_of_ble_eq_true rfl⟩ rfl rfl rfl hl.1 rfl (Nat.le_of_ble_eq_true rfl) dX8_moves_249 ⟨Nat.zero_le _, Nat.zero_le _⟩) hS (fun q h => h) (fun H locs hX hO1 hS => ?_)
        have hO := hO.tr hO1 (fun q h => h)
        have ho := va_at.kept ho (hO1.2 _ (fun z => by have z : M = M + 1 := z; omega))
        have hs : XI E (M + 1) 1670 (nset (nset σ k 3 (nI 3)) k 4 (rfSk σ k)) H := hX
        subst hQ
        refine x_retV S hr hlk hS hO ?_ dX8_moves_252
        exact (show rfMv σ k = (nset (nset σ k 3 (nI 3)) k 4 (rfSk σ k)) from by unfold rfMv; rw [if_neg (by rw [h1_2]; decide), if_pos h1_2, if_pos h6]; first | done | rfl) ▸ hs
    · skip
      refine lv_iload S.1 S.2.1 dX8_moves_145 (lv_at hl 1 rfl) ?_
      refine lv_goto (tgt := 152) S.1 S.2.1 dX8_moves_147 rfl ?_
      refine x_top (y := (rfSk σ k)) (by rw [rfSk, yMax, if_neg h5]; first | done | rfl) ?_
      refine lv_istore S.1 S.2.1 dX8_moves_152 hl (by decide) rfl (fun ls hl => ?_)
      have hl : lv_has ls 7 [(6, .int (rfSk σ k)), (5, .int (rfRest σ k)), (4, .int (rfPeak σ k)), (3, .int (nf σ k 4)), (2, .int (nf σ k 0)), (0, .ref M), (1, .int (nI k))] := hl
      refine lv_aload_n S.1 S.2.1 dX8_moves_154 rfl (lv_at hl 5 rfl) ?_
      refine lv_iload_n S.1 S.2.1 dX8_moves_155 rfl (lv_at hl 6 rfl) ?_
      refine lv_iconst (v := (nI 3)) S.1 S.2.1 dX8_moves_156 (by decide) ?_
      refine lv_iload S.1 S.2.1 dX8_moves_157 (lv_at hl 0 rfl) ?_
      refine lv_iload S.1 S.2.1 dX8_moves_159 (lv_at hl 1 rfl) ?_
      refine lv_icmp_ne (tgt := 168) S.1 S.2.1 dX8_moves_161 rfl (fun h7 => ?_) (fun h7 => ?_)
      · skip
        refine lv_iconst (v := (nI 2)) S.1 S.2.1 dX8_moves_168 (by decide) ?_
        refine xk_V (x_runV (As := [.int (nI k), .int (nI 3), .int (nI 2)]) (rest := []) S hE hS (fun q h => h) (c_X8_puts l E M ps ty re σ k 3 (nI 2) _ ho hs (by omega) (by omega)) kv_X8_puts kw13_11 kw13_12 kw13_13 (x_recv hE (ho) (ci := 8) rfl) ⟨Nat.le_of_ble_eq_true rfl, Nat.le_of_ble_eq_true rfl⟩ rfl rfl rfl hl.1 rfl (Nat.le_of_ble_eq_true rfl) dX8_moves_169 ⟨Nat.zero_le _, Nat.zero_le _⟩) hS (fun q h => h) (fun H locs hX hO1 hS => ?_)
        have hO := hO.tr hO1 (fun q h => h)
        have ho := va_at.kept ho (hO1.2 _ (fun z => by have z : M = M + 1 := z; omega))
        have hs : XI E (M + 1) 1670 (nset σ k 3 (nI 2)) H := hX
        refine lv_goto (tgt := 244) S.1 S.2.1 dX8_moves_172 rfl ?_
        refine lv_aload_n S.1 S.2.1 dX8_moves_244 rfl (lv_at hl 5 rfl) ?_
        refine lv_iload_n S.1 S.2.1 dX8_moves_245 rfl (lv_at hl 6 rfl) ?_
        refine lv_iconst (v := (nI 4)) S.1 S.2.1 dX8_moves_246 (by decide) ?_
        refine lv_iload S.1 S.2.1 dX8_moves_247 (lv_at hl 0 rfl) ?_
        refine xk_V (x_runV (As := [.int (nI k), .int (nI 4), .int (rfSk σ k)]) (rest := []) S hE hS (fun q h => h) (c_X8_puts l E M ps ty re (nset σ k 3 (nI 2)) k 4 (rfSk σ k) _ ho hs (by omega) (by omega)) kv_X8_puts kw13_11 kw13_12 kw13_13 (x_recv hE (ho) (ci := 8) rfl) ⟨Nat.le_of_ble_eq_true rfl, Nat.le_of_ble_eq_true rfl⟩ rfl rfl rfl hl.1 rfl (Nat.le_of_ble_eq_true rfl) dX8_moves_249 ⟨Nat.zero_le _, Nat.zero_le _⟩) hS (fun q h => h) (fun H locs hX hO1 hS => ?_)
        have hO := hO.tr hO1 (fun q h => h)
        have ho := va_at.kept ho (hO1.2 _ (fun z => by have z : M = M + 1 := z; omega))
        have hs : XI E (M + 1) 1670 (nset (nset σ k 3 (nI 2)) k 4 (rfSk σ k)) H := hX
        subst hQ
        refine x_retV S hr hlk hS hO ?_ dX8_moves_252
        exact (show rfMv σ k = (nset (nset σ k 3 (nI 2)) k 4 (rfSk σ k)) from by unfold rfMv; rw [if_neg (by rw [h1_2]; decide), if_pos h1_2, if_neg h7]; first | done | rfl) ▸ hs
      · skip
        refine lv_iconst (v := (nI 3)) S.1 S.2.1 dX8_moves_164 (by decide) ?_
        refine lv_goto (tgt := 169) S.1 S.2.1 dX8_moves_165 rfl ?_
        refine xk_V (x_runV (As := [.int (nI k), .int (nI 3), .int (nI 3)]) (rest := []) S hE hS (fun q h => h) (c_X8_puts l E M ps ty re σ k 3 (nI 3) _ ho hs (by omega) (by omega)) kv_X8_puts kw13_11 kw13_12 kw13_13 (x_recv hE (ho) (ci := 8) rfl) ⟨Nat.le_of_ble_eq_true rfl, Nat.le_of_ble_eq_true rfl⟩ rfl rfl rfl hl.1 rfl (Nat.le_of_ble_eq_true rfl) dX8_moves_169 ⟨Nat.zero_le _, Nat.zero_le _⟩) hS (fun q h => h) (fun H locs hX hO1 hS => ?_)
        have hO := hO.tr hO1 (fun q h => h)
        have ho := va_at.kept ho (hO1.2 _ (fun z => by have z : M = M + 1 := z; omega))
        have hs : XI E (M + 1) 1670 (nset σ k 3 (nI 3)) H := hX
        refine lv_goto (tgt := 244) S.1 S.2.1 dX8_moves_172 rfl ?_
        refine lv_aload_n S.1 S.2.1 dX8_moves_244 rfl (lv_at hl 5 rfl) ?_
        refine lv_iload_n S.1 S.2.1 dX8_moves_245 rfl (lv_at hl 6 rfl) ?_
        refine lv_iconst (v := (nI 4)) S.1 S.2.1 dX8_moves_246 (by decide) ?_
        refine lv_iload S.1 S.2.1 dX8_moves_247 (lv_at hl 0 rfl) ?_
        refine xk_V (x_runV (As := [.int (nI k), .int (nI 4), .int (rfSk σ k)]) (rest := []) S hE hS (fun q h => h) (c_X8_puts l E M ps ty re (nset σ k 3 (nI 3)) k 4 (rfSk σ k) _ ho hs (by omega) (by omega)) kv_X8_puts kw13_11 kw13_12 kw13_13 (x_recv hE (ho) (ci := 8) rfl) ⟨Nat.le_of_ble_eq_true rfl, Nat.le_of_ble_eq_true rfl⟩ rfl rfl rfl hl.1 rfl (Nat.le_of_ble_eq_true rfl) dX8_moves_249 ⟨Nat.zero_le _, Nat.zero_le _⟩) hS (fun q h => h) (fun H locs hX hO1 hS => ?_)
        have hO := hO.tr hO1 (fun q h => h)
        have ho := va_at.kept ho (hO1.2 _ (fun z => by have z : M = M + 1 := z; omega))
        have hs : XI E (M + 1) 1670 (nset (nset σ k 3 (nI 3)) k 4 (rfSk σ k)) H := hX
        subst hQ
        refine x_retV S hr hlk hS hO ?_ dX8_moves_252
        exact (show rfMv σ k = (nset (nset σ k 3 (nI 3)) k 4 (rfSk σ k)) from by unfold rfMv; rw [if_neg (by rw [h1_2]; decide), if_pos h1_2, if_pos h7]; first | done | rfl) ▸ hs
  by_cases h1_3 : (nf σ k 3) = (nI 3)
  · refine x_top h1_3 ?_
    refine lv_tableIn (tgt := 244) S.1 S.2.1 dX8_moves_37 (by decide) (by decide) (show _ = some (207) from rfl) rfl ?_
    refine lv_aload_n S.1 S.2.1 dX8_moves_244 rfl (lv_at hl 5 rfl) ?_
    refine lv_iload_n S.1 S.2.1 dX8_moves_245 rfl (lv_at hl 6 rfl) ?_
    refine lv_iconst (v := (nI 4)) S.1 S.2.1 dX8_moves_246 (by decide) ?_
    refine lv_iload S.1 S.2.1 dX8_moves_247 (lv_at hl 0 rfl) ?_
    refine xk_V (x_runV (As := [.int (nI k), .int (nI 4), .int (nf σ k 4)]) (rest := []) S hE hS (fun q h => h) (c_X8_puts l E M ps ty re σ k 4 (nf σ k 4) _ ho hs (by omega) (by omega)) kv_X8_puts kw13_11 kw13_12 kw13_13 (x_recv hE (ho) (ci := 8) rfl) ⟨Nat.le_of_ble_eq_true rfl, Nat.le_of_ble_eq_true rfl⟩ rfl rfl rfl hl.1 rfl (Nat.le_of_ble_eq_true rfl) dX8_moves_249 ⟨Nat.zero_le _, Nat.zero_le _⟩) hS (fun q h => h) (fun H locs hX hO1 hS => ?_)
    have hO := hO.tr hO1 (fun q h => h)
    have ho := va_at.kept ho (hO1.2 _ (fun z => by have z : M = M + 1 := z; omega))
    have hs : XI E (M + 1) 1670 (nset σ k 4 (nf σ k 4)) H := hX
    subst hQ
    refine x_retV S hr hlk hS hO ?_ dX8_moves_252
    exact (show rfMv σ k = (nset σ k 4 (nf σ k 4)) from by unfold rfMv; rw [if_neg (by rw [h1_3]; decide), if_neg (by rw [h1_3]; decide), if_neg (by rw [h1_3]; decide), if_neg (by rw [h1_3]; decide)]; first | done | rfl) ▸ hs
  by_cases h1_4 : (nf σ k 3) = (nI 4)
  · refine x_top h1_4 ?_
    refine lv_tableIn (tgt := 175) S.1 S.2.1 dX8_moves_37 (by decide) (by decide) (show _ = some (138) from rfl) rfl ?_
    refine lv_iload_n S.1 S.2.1 dX8_moves_175 rfl (lv_at hl 3 rfl) ?_
    refine lv_aload_n S.1 S.2.1 dX8_moves_176 rfl (lv_at hl 5 rfl) ?_
    refine lv_iload_n S.1 S.2.1 dX8_moves_177 rfl (lv_at hl 6 rfl) ?_
    refine lv_iconst (v := (nI 5)) S.1 S.2.1 dX8_moves_178 (by decide) ?_
    refine xk_R (v := (nf σ k 5)) (x_runV (As := [.int (nI k), .int (nI 5)]) (rest := [.int (nf σ k 4)]) S hE hS (fun _ h => h.elim) (c_X8_of l E M ps ty re σ k 5 _ ho hs (by omega) (by omega)) kv_X8_of kw12_22 kw12_23 kw13_0 (x_recv hE (ho) (ci := 8) rfl) ⟨Nat.le_of_ble_eq_true rfl, Nat.le_of_ble_eq_true rfl⟩ rfl rfl rfl hl.1 rfl (Nat.le_of_ble_eq_true rfl) dX8_moves_179 ⟨Nat.zero_le _, Nat.zero_le _⟩) ?_
    refine lv_aload_n S.1 S.2.1 dX8_moves_182 rfl (lv_at hl 5 rfl) ?_
    refine lv_iload_n S.1 S.2.1 dX8_moves_183 rfl (lv_at hl 6 rfl) ?_
    refine lv_iconst (v := (nI 3)) S.1 S.2.1 dX8_moves_184 (by decide) ?_
    refine xk_R (v := (nf σ k 3)) (x_runV (As := [.int (nI k), .int (nI 3)]) (rest := [.int (nf σ k 5), .int (nf σ k 4)]) S hE hS (fun _ h => h.elim) (c_X8_of l E M ps ty re σ k 3 _ ho hs (by omega) (by omega)) kv_X8_of kw12_22 kw12_23 kw13_0 (x_recv hE (ho) (ci := 8) rfl) ⟨Nat.le_of_ble_eq_true rfl, Nat.le_of_ble_eq_true rfl⟩ rfl rfl rfl hl.1 rfl (Nat.le_of_ble_eq_true rfl) dX8_moves_185 ⟨Nat.zero_le _, Nat.zero_le _⟩) ?_
    refine lv_iconst (v := (nI 4)) S.1 S.2.1 dX8_moves_188 (by decide) ?_
    refine lv_icmp_ne (tgt := 199) S.1 S.2.1 dX8_moves_189 rfl (fun h8 => ?_) (fun h8 => ?_)
    · exact absurd h1_4 h8
    · skip
      refine lv_iload_n S.1 S.2.1 dX8_moves_192 rfl (lv_at hl 4 rfl) ?_
      refine xk_R (v := (rfFade (nf σ k 0))) (x_runS (As := [.int (nf σ k 0)]) (rest := [.int (nf σ k 5), .int (nf σ k 4)]) S hE hS (fun _ h => h.elim) (c_X8_fade l E (nf σ k 0) _) kv_X8_fade kw19_8 kw19_9 ⟨Nat.le_of_ble_eq_true rfl, Nat.le_of_ble_eq_true rfl⟩ rfl rfl rfl hl.1 rfl (Nat.le_of_ble_eq_true rfl) dX8_moves_193 ⟨Nat.zero_le _, Nat.zero_le _⟩) ?_
      refine lv_goto (tgt := 200) S.1 S.2.1 dX8_moves_196 rfl ?_
      refine xk_R (v := (rfUp (nf σ k 5) (rfFade (nf σ k 0)))) (x_runS (As := [.int (nf σ k 5), .int (rfFade (nf σ k 0))]) (rest := [.int (nf σ k 4)]) S hE hS (fun _ h => h.elim) (c_X8_up l E (nf σ k 5) (rfFade (nf σ k 0)) _ (fade_nz _)) kv_X8_up kw19_2 kw19_3 ⟨Nat.le_of_ble_eq_true rfl, Nat.le_of_ble_eq_true rfl⟩ rfl rfl rfl hl.1 rfl (Nat.le_of_ble_eq_true rfl) dX8_moves_200 ⟨Nat.zero_le _, Nat.zero_le _⟩) ?_
      refine lv_isub S.1 S.2.1 dX8_moves_203 ?_
      refine lv_istore S.1 S.2.1 dX8_moves_204 hl (by decide) rfl (fun ls hl => ?_)
      have hl : lv_has ls 7 [(6, .int ((nf σ k 4) - (rfUp (nf σ k 5) (rfFade (nf σ k 0))))), (5, .int (rfRest σ k)), (4, .int (rfPeak σ k)), (3, .int (nf σ k 4)), (2, .int (nf σ k 0)), (0, .ref M), (1, .int (nI k))] := hl
      refine lv_iload S.1 S.2.1 dX8_moves_206 (lv_at hl 0 rfl) ?_
      refine lv_if_ge (tgt := 215) S.1 S.2.1 dX8_moves_208 rfl (fun h9 => ?_) (fun h9 => ?_)
      · skip
        refine lv_iload S.1 S.2.1 dX8_moves_215 (lv_at hl 0 rfl) ?_
        refine x_top (y := (rfDn σ k (rfFade (nf σ k 0)))) (by rw [rfDn, yMax, if_pos h9]; first | done | rfl) ?_
        refine lv_istore S.1 S.2.1 dX8_moves_217 hl (by decide) rfl (fun ls hl => ?_)
        have hl : lv_has ls 7 [(6, .int (rfDn σ k (rfFade (nf σ k 0)))), (5, .int (rfRest σ k)), (4, .int (rfPeak σ k)), (3, .int (nf σ k 4)), (2, .int (nf σ k 0)), (0, .ref M), (1, .int (nI k))] := hl
        refine lv_aload_n S.1 S.2.1 dX8_moves_219 rfl (lv_at hl 5 rfl) ?_
        refine lv_iload_n S.1 S.2.1 dX8_moves_220 rfl (lv_at hl 6 rfl) ?_
        refine lv_iconst (v := (nI 3)) S.1 S.2.1 dX8_moves_221 (by decide) ?_
        refine lv_iload S.1 S.2.1 dX8_moves_222 (lv_at hl 0 rfl) ?_
        refine lv_if_ne (tgt := 232) S.1 S.2.1 dX8_moves_224 rfl (fun h10 => ?_) (fun h10 => ?_)
        · skip
          refine lv_aload_n S.1 S.2.1 dX8_moves_232 rfl (lv_at hl 5 rfl) ?_
          refine lv_iload_n S.1 S.2.1 dX8_moves_233 rfl (lv_at hl 6 rfl) ?_
          refine lv_iconst (v := (nI 3)) S.1 S.2.1 dX8_moves_234 (by decide) ?_
          refine xk_R (v := (nf σ k 3)) (x_runV (As := [.int (nI k), .int (nI 3)]) (rest := [.int (nI 3), .int (nI k), .ref M]) S hE hS (fun _ h => h.elim) (c_X8_of l E M ps ty re σ k 3 _ ho hs (by omega) (by omega)) kv_X8_of kw12_22 kw12_23 kw13_0 (x_recv hE (ho) (ci := 8) rfl) ⟨Nat.le_of_ble_eq_true rfl, Nat.le_of_ble_eq_true rfl⟩ rfl rfl rfl hl.1 rfl (Nat.le_of_ble_eq_true rfl) dX8_moves_235 ⟨Nat.zero_le _, Nat.zero_le _⟩) ?_
          refine xk_V (x_runV (As := [.int (nI k), .int (nI 3), .int (nf σ k 3)]) (rest := []) S hE hS (fun q h => h) (c_X8_puts l E M ps ty re σ k 3 (nf σ k 3) _ ho hs (by omega) (by omega)) kv_X8_puts kw13_11 kw13_12 kw13_13 (x_recv hE (ho) (ci := 8) rfl) ⟨Nat.le_of_ble_eq_true rfl, Nat.le_of_ble_eq_true rfl⟩ rfl rfl rfl hl.1 rfl (Nat.le_of_ble_eq_true rfl) dX8_moves_238 ⟨Nat.zero_le _, Nat.zero_le _⟩) hS (fun q h => h) (fun H locs hX hO1 hS => ?_)
          have hO := hO.tr hO1 (fun q h => h)
          have ho := va_at.kept ho (hO1.2 _ (fun z => by have z : M = M + 1 := z; omega))
          have hs : XI E (M + 1) 1670 (nset σ k 3 (nf σ k 3)) H := hX
          refine lv_goto (tgt := 244) S.1 S.2.1 dX8_moves_241 rfl ?_
          refine lv_aload_n S.1 S.2.1 dX8_moves_244 rfl (lv_at hl 5 rfl) ?_
          refine lv_iload_n S.1 S.2.1 dX8_moves_245 rfl (lv_at hl 6 rfl) ?_
          refine lv_iconst (v := (nI 4)) S.1 S.2.1 dX8_moves_246 (by decide) ?_
          refine lv_iload S.1 S.2.1 dX8_moves_247 (lv_at hl 0 rfl) ?_
          refine xk_V (x_runV (As := [.int (nI k), .int (nI 4), .int (rfDn σ k (rfFade (nf σ k 0)))]) (rest := []) S hE hS (fun q h => h) (c_X8_puts l E M ps ty re (nset σ k 3 (nf σ k 3)) k 4 (rfDn σ k (rfFade (nf σ k 0))) _ ho hs (by omega) (by omega)) kv_X8_puts kw13_11 kw13_12 kw13_13 (x_recv hE (ho) (ci := 8) rfl) ⟨Nat.le_of_ble_eq_true rfl, Nat.le_of_ble_eq_true rfl⟩ rfl rfl rfl hl.1 rfl (Nat.le_of_ble_eq_true rfl) dX8_moves_249 ⟨Nat.zero_le _, Nat.zero_le _⟩) hS (fun q h => h) (fun H locs hX hO1 hS => ?_)
          have hO := hO.tr hO1 (fun q h => h)
          have ho := va_at.kept ho (hO1.2 _ (fun z => by have z : M = M + 1 := z; omega))
          have hs : XI E (M + 1) 1670 (nset (nset σ k 3 (nf σ k 3)) k 4 (rfDn σ k (rfFade (nf σ k 0)))) H := hX
          subst hQ
          refine x_retV S hr hlk hS hO ?_ dX8_moves_252
          exact (show rfMv σ k = (nset (nset σ k 3 (nf σ k 3)) k 4 (rfDn σ k (rfFade (nf σ k 0)))) from by unfold rfMv; rw [if_neg (by rw [h1_4]; decide), if_neg (by rw [h1_4]; decide), if_pos h1_4, if_neg h10]; rw [h1_4]; first | done | rfl) ▸ hs
        · skip
          refine lv_bipush (v := (nI 6)) S.1 S.2.1 dX8_moves_227 (by decide) ?_
          refine lv_goto (tgt := 238) S.1 S.2.1 dX8_moves_229 rfl ?_
          refine xk_V (x_runV (As := [.int (nI k), .int (nI 3), .int (nI 6)]) (rest := []) S hE hS (fun q h => h) (c_X8_puts l E M ps ty re σ k 3 (nI 6) _ ho hs (by omega) (by omega)) kv_X8_puts kw13_11 kw13_12 kw13_13 (x_recv hE (ho) (ci := 8) rfl) ⟨Nat.le_of_ble_eq_true rfl, Nat.le_of_ble_eq_true rfl⟩ rfl rfl rfl hl.1 rfl (Nat.le_of_ble_eq_true rfl) dX8_moves_238 ⟨Nat.zero_le _, Nat.zero_le _⟩) hS (fun q h => h) (fun H locs hX hO1 hS => ?_)
          have hO := hO.tr hO1 (fun q h => h)
          have ho := va_at.kept ho (hO1.2 _ (fun z => by have z : M = M + 1 := z; omega))
          have hs : XI E (M + 1) 1670 (nset σ k 3 (nI 6)) H := hX
          refine lv_goto (tgt := 244) S.1 S.2.1 dX8_moves_241 rfl ?_
          refine lv_aload_n S.1 S.2.1 dX8_moves_244 rfl (lv_at hl 5 rfl) ?_
          refine lv_iload_n S.1 S.2.1 dX8_moves_245 rfl (lv_at hl 6 rfl) ?_
          refine lv_iconst (v := (nI 4)) S.1 S.2.1 dX8_moves_246 (by decide) ?_
          refine lv_iload S.1 S.2.1 dX8_moves_247 (lv_at hl 0 rfl) ?_
          refine xk_V (x_runV (As := [.int (nI k), .int (nI 4), .int (rfDn σ k (rfFade (nf σ k 0)))]) (rest := []) S hE hS (fun q h => h) (c_X8_puts l E M ps ty re (nset σ k 3 (nI 6)) k 4 (rfDn σ k (rfFade (nf σ k 0))) _ ho hs (by omega) (by omega)) kv_X8_puts kw13_11 kw13_12 kw13_13 (x_recv hE (ho) (ci := 8) rfl) ⟨Nat.le_of_ble_eq_true rfl, Nat.le_of_ble_eq_true rfl⟩ rfl rfl rfl hl.1 rfl (Nat.le_of_ble_eq_true rfl) dX8_moves_249 ⟨Nat.zero_le _, Nat.zero_le _⟩) hS (fun q h => h) (fun H locs hX hO1 hS => ?_)
          have hO := hO.tr hO1 (fun q h => h)
          have ho := va_at.kept ho (hO1.2 _ (fun z => by have z : M = M + 1 := z; omega))
          have hs : XI E (M + 1) 1670 (nset (nset σ k 3 (nI 6)) k 4 (rfDn σ k (rfFade (nf σ k 0)))) H := hX
          subst hQ
          refine x_retV S hr hlk hS hO ?_ dX8_moves_252
          exact (show rfMv σ k = (nset (nset σ k 3 (nI 6)) k 4 (rfDn σ k (rfFade (nf σ k 0)))) from by unfold rfMv; rw [if_neg (by rw [h1_4]; decide), if_neg (by rw [h1_4]; decide), if_pos h1_4, if_pos h10]; first | done | rfl) ▸ hs
      · skip
        refine lv_iconst (v := (nI 0)) S.1 S.2.1 dX8_moves_211 (by decide) ?_
        refine lv_goto (tgt := 217) S.1 S.2.1 dX8_moves_212 rfl ?_
        refine x_top (y := (rfDn σ k (rfFade (nf σ k 0)))) (by rw [rfDn, yMax, if_neg h9]; first | done | rfl) ?_
        refine lv_istore S.1 S.2.1 dX8_moves_217 hl (by decide) rfl (fun ls hl => ?_)
        have hl : lv_has ls 7 [(6, .int (rfDn σ k (rfFade (nf σ k 0)))), (5, .int (rfRest σ k)), (4, .int (rfPeak σ k)), (3, .int (nf σ k 4)), (2, .int (nf σ k 0)), (0, .ref M), (1, .int (nI k))] := hl
        refine lv_aload_n S.1 S.2.1 dX8_moves_219 rfl (lv_at hl 5 rfl) ?_
        refine lv_iload_n S.1 S.2.1 dX8_moves_220 rfl (lv_at hl 6 rfl) ?_
        refine lv_iconst (v := (nI 3)) S.1 S.2.1 dX8_moves_221 (by decide) ?_
        refine lv_iload S.1 S.2.1 dX8_moves_222 (lv_at hl 0 rfl) ?_
        refine lv_if_ne (tgt := 232) S.1 S.2.1 dX8_moves_224 rfl (fun h11 => ?_) (fun h11 => ?_)
        · skip
          refine lv_aload_n S.1 S.2.1 dX8_moves_232 rfl (lv_at hl 5 rfl) ?_
          refine lv_iload_n S.1 S.2.1 dX8_moves_233 rfl (lv_at hl 6 rfl) ?_
          refine lv_iconst (v := (nI 3)) S.1 S.2.1 dX8_moves_234 (by decide) ?_
          refine xk_R (v := (nf σ k 3)) (x_runV (As := [.int (nI k), .int (nI 3)]) (rest := [.int (nI 3), .int (nI k), .ref M]) S hE hS (fun _ h => h.elim) (c_X8_of l E M ps ty re σ k 3 _ ho hs (by omega) (by omega)) kv_X8_of kw12_22 kw12_23 kw13_0 (x_recv hE (ho) (ci := 8) rfl) ⟨Nat.le_of_ble_eq_true rfl, Nat.le_of_ble_eq_true rfl⟩ rfl rfl rfl hl.1 rfl (Nat.le_of_ble_eq_true rfl) dX8_moves_235 ⟨Nat.zero_le _, Nat.zero_le _⟩) ?_
          refine xk_V (x_runV (As := [.int (nI k), .int (nI 3), .int (nf σ k 3)]) (rest := []) S hE hS (fun q h => h) (c_X8_puts l E M ps ty re σ k 3 (nf σ k 3) _ ho hs (by omega) (by omega)) kv_X8_puts kw13_11 kw13_12 kw13_13 (x_recv hE (ho) (ci := 8) rfl) ⟨Nat.le_of_ble_eq_true rfl, Nat.le_of_ble_eq_true rfl⟩ rfl rfl rfl hl.1 rfl (Nat.le_of_ble_eq_true rfl) dX8_moves_238 ⟨Nat.zero_le _, Nat.zero_le _⟩) hS (fun q h => h) (fun H locs hX hO1 hS => ?_)
          have hO := hO.tr hO1 (fun q h => h)
          have ho := va_at.kept ho (hO1.2 _ (fun z => by have z : M = M + 1 := z; omega))
          have hs : XI E (M + 1) 1670 (nset σ k 3 (nf σ k 3)) H := hX
          refine lv_goto (tgt := 244) S.1 S.2.1 dX8_moves_241 rfl ?_
          refine lv_aload_n S.1 S.2.1 dX8_moves_244 rfl (lv_at hl 5 rfl) ?_
          refine lv_iload_n S.1 S.2.1 dX8_moves_245 rfl (lv_at hl 6 rfl) ?_
          refine lv_iconst (v := (nI 4)) S.1 S.2.1 dX8_moves_246 (by decide) ?_
          refine lv_iload S.1 S.2.1 dX8_moves_247 (lv_at hl 0 rfl) ?_
          refine xk_V (x_runV (As := [.int (nI k), .int (nI 4), .int (rfDn σ k (rfFade (nf σ k 0)))]) (rest := []) S hE hS (fun q h => h) (c_X8_puts l E M ps ty re (nset σ k 3 (nf σ k 3)) k 4 (rfDn σ k (rfFade (nf σ k 0))) _ ho hs (by omega) (by omega)) kv_X8_puts kw13_11 kw13_12 kw13_13 (x_recv hE (ho) (ci := 8) rfl) ⟨Nat.le_of_ble_eq_true rfl, Nat.le_of_ble_eq_true rfl⟩ rfl rfl rfl hl.1 rfl (Nat.le_of_ble_eq_true rfl) dX8_moves_249 ⟨Nat.zero_le _, Nat.zero_le _⟩) hS (fun q h => h) (fun H locs hX hO1 hS => ?_)
          have hO := hO.tr hO1 (fun q h => h)
          have ho := va_at.kept ho (hO1.2 _ (fun z => by have z : M = M + 1 := z; omega))
          have hs : XI E (M + 1) 1670 (nset (nset σ k 3 (nf σ k 3)) k 4 (rfDn σ k (rfFade (nf σ k 0)))) H := hX
          subst hQ
          refine x_retV S hr hlk hS hO ?_ dX8_moves_252
          exact (show rfMv σ k = (nset (nset σ k 3 (nf σ k 3)) k 4 (rfDn σ k (rfFade (nf σ k 0)))) from by unfold rfMv; rw [if_neg (by rw [h1_4]; decide), if_neg (by rw [h1_4]; decide), if_pos h1_4, if_neg h11]; rw [h1_4]; first | done | rfl) ▸ hs
        · skip
          refine lv_bipush (v := (nI 6)) S.1 S.2.1 dX8_moves_227 (by decide) ?_
          refine lv_goto (tgt := 238) S.1 S.2.1 dX8_moves_229 rfl ?_
          refine xk_V (x_runV (As := [.int (nI k), .int (nI 3), .int (nI 6)]) (rest := []) S hE hS (fun q h => h) (c_X8_puts l E M ps ty re σ k 3 (nI 6) _ ho hs (by omega) (by omega)) kv_X8_puts kw13_11 kw13_12 kw13_13 (x_recv hE (ho) (ci := 8) rfl) ⟨Nat.le_of_ble_eq_true rfl, Nat.le_of_ble_eq_true rfl⟩ rfl rfl rfl hl.1 rfl (Nat.le_of_ble_eq_true rfl) dX8_moves_238 ⟨Nat.zero_le _, Nat.zero_le _⟩) hS (fun q h => h) (fun H locs hX hO1 hS => ?_)
          have hO := hO.tr hO1 (fun q h => h)
          have ho := va_at.kept ho (hO1.2 _ (fun z => by have z : M = M + 1 := z; omega))
          have hs : XI E (M + 1) 1670 (nset σ k 3 (nI 6)) H := hX
          refine lv_goto (tgt := 244) S.1 S.2.1 dX8_moves_241 rfl ?_
          refine lv_aload_n S.1 S.2.1 dX8_moves_244 rfl (lv_at hl 5 rfl) ?_
          refine lv_iload_n S.1 S.2.1 dX8_moves_245 rfl (lv_at hl 6 rfl) ?_
          refine lv_iconst (v := (nI 4)) S.1 S.2.1 dX8_moves_246 (by decide) ?_
          refine lv_iload S.1 S.2.1 dX8_moves_247 (lv_at hl 0 rfl) ?_
          refine xk_V (x_runV (As := [.int (nI k), .int (nI 4), .int (rfDn σ k (rfFade (nf σ k 0)))]) (rest := []) S hE hS (fun q h => h) (c_X8_puts l E M ps ty re (nset σ k 3 (nI 6)) k 4 (rfDn σ k (rfFade (nf σ k 0))) _ ho hs (by omega) (by omega)) kv_X8_puts kw13_11 kw13_12 kw13_13 (x_recv hE (ho) (ci := 8) rfl) ⟨Nat.le_of_ble_eq_true rfl, Nat.le_of_ble_eq_true rfl⟩ rfl rfl rfl hl.1 rfl (Nat.le_of_ble_eq_true rfl) dX8_moves_249 ⟨Nat.zero_le _, Nat.zero_le _⟩) hS (fun q h => h) (fun H locs hX hO1 hS => ?_)
          have hO := hO.tr hO1 (fun q h => h)
          have ho := va_at.kept ho (hO1.2 _ (fun z => by have z : M = M + 1 := z; omega))
          have hs : XI E (M + 1) 1670 (nset (nset σ k 3 (nI 6)) k 4 (rfDn σ k (rfFade (nf σ k 0)))) H := hX
          subst hQ
          refine x_retV S hr hlk hS hO ?_ dX8_moves_252
          exact (show rfMv σ k = (nset (nset σ k 3 (nI 6)) k 4 (rfDn σ k (rfFade (nf σ k 0)))) from by unfold rfMv; rw [if_neg (by rw [h1_4]; decide), if_neg (by rw [h1_4]; decide), if_pos h1_4, if_pos h11]; first | done | rfl) ▸ hs
  by_cases h1_5 : (nf σ k 3) = (nI 5)
  · refine x_top h1_5 ?_
    refine lv_tableIn (tgt := 175) S.1 S.2.1 dX8_moves_37 (by decide) (by decide) (show _ = some (138) from rfl) rfl ?_
    refine lv_iload_n S.1 S.2.1 dX8_moves_175 rfl (lv_at hl 3 rfl) ?_
    refine lv_aload_n S.1 S.2.1 dX8_moves_176 rfl (lv_at hl 5 rfl) ?_
    refine lv_iload_n S.1 S.2.1 dX8_moves_177 rfl (lv_at hl 6 rfl) ?_
    refine lv_iconst (v := (nI 5)) S.1 S.2.1 dX8_moves_178 (by decide) ?_
    refine xk_R (v := (nf σ k 5)) (x_runV (As := [.int (nI k), .int (nI 5)]) (rest := [.int (nf σ k 4)]) S hE hS (fun _ h => h.elim) (c_X8_of l E M ps ty re σ k 5 _ ho hs (by omega) (by omega)) kv_X8_of kw12_22 kw12_23 kw13_0 (x_recv hE (ho) (ci := 8) rfl) ⟨Nat.le_of_ble_eq_true rfl, Nat.le_of_ble_eq_true rfl⟩ rfl rfl rfl hl.1 rfl (Nat.le_of_ble_eq_true rfl) dX8_moves_179 ⟨Nat.zero_le _, Nat.zero_le _⟩) ?_
    refine lv_aload_n S.1 S.2.1 dX8_moves_182 rfl (lv_at hl 5 rfl) ?_
    refine lv_iload_n S.1 S.2.1 dX8_moves_183 rfl (lv_at hl 6 rfl) ?_
    refine lv_iconst (v := (nI 3)) S.1 S.2.1 dX8_moves_184 (by decide) ?_
    refine xk_R (v := (nf σ k 3)) (x_runV (As := [.int (nI k), .int (nI 3)]) (rest := [.int (nf σ k 5), .int (nf σ k 4)]) S hE hS (fun _ h => h.elim) (c_X8_of l E M ps ty re σ k 3 _ ho hs (by omega) (by omega)) kv_X8_of kw12_22 kw12_23 kw13_0 (x_recv hE (ho) (ci := 8) rfl) ⟨Nat.le_of_ble_eq_true rfl, Nat.le_of_ble_eq_true rfl⟩ rfl rfl rfl hl.1 rfl (Nat.le_of_ble_eq_true rfl) dX8_moves_185 ⟨Nat.zero_le _, Nat.zero_le _⟩) ?_
    refine lv_iconst (v := (nI 4)) S.1 S.2.1 dX8_moves_188 (by decide) ?_
    refine lv_icmp_ne (tgt := 199) S.1 S.2.1 dX8_moves_189 rfl (fun h12 => ?_) (fun h12 => ?_)
    · skip
      refine lv_iconst (v := (nI 3)) S.1 S.2.1 dX8_moves_199 (by decide) ?_
      refine xk_R (v := (rfUp (nf σ k 5) (nI 3))) (x_runS (As := [.int (nf σ k 5), .int (nI 3)]) (rest := [.int (nf σ k 4)]) S hE hS (fun _ h => h.elim) (c_X8_up l E (nf σ k 5) (nI 3) _ (by decide)) kv_X8_up kw19_2 kw19_3 ⟨Nat.le_of_ble_eq_true rfl, Nat.le_of_ble_eq_true rfl⟩ rfl rfl rfl hl.1 rfl (Nat.le_of_ble_eq_true rfl) dX8_moves_200 ⟨Nat.zero_le _, Nat.zero_le _⟩) ?_
      refine lv_isub S.1 S.2.1 dX8_moves_203 ?_
      refine lv_istore S.1 S.2.1 dX8_moves_204 hl (by decide) rfl (fun ls hl => ?_)
      have hl : lv_has ls 7 [(6, .int ((nf σ k 4) - (rfUp (nf σ k 5) (nI 3)))), (5, .int (rfRest σ k)), (4, .int (rfPeak σ k)), (3, .int (nf σ k 4)), (2, .int (nf σ k 0)), (0, .ref M), (1, .int (nI k))] := hl
      refine lv_iload S.1 S.2.1 dX8_moves_206 (lv_at hl 0 rfl) ?_
      refine lv_if_ge (tgt := 215) S.1 S.2.1 dX8_moves_208 rfl (fun h13 => ?_) (fun h13 => ?_)
      · skip
        refine lv_iload S.1 S.2.1 dX8_moves_215 (lv_at hl 0 rfl) ?_
        refine x_top (y := (rfDn σ k (nI 3))) (by rw [rfDn, yMax, if_pos h13]; first | done | rfl) ?_
        refine lv_istore S.1 S.2.1 dX8_moves_217 hl (by decide) rfl (fun ls hl => ?_)
        have hl : lv_has ls 7 [(6, .int (rfDn σ k (nI 3))), (5, .int (rfRest σ k)), (4, .int (rfPeak σ k)), (3, .int (nf σ k 4)), (2, .int (nf σ k 0)), (0, .ref M), (1, .int (nI k))] := hl
        refine lv_aload_n S.1 S.2.1 dX8_moves_219 rfl (lv_at hl 5 rfl) ?_
        refine lv_iload_n S.1 S.2.1 dX8_moves_220 rfl (lv_at hl 6 rfl) ?_
        refine lv_iconst (v := (nI 3)) S.1 S.2.1 dX8_moves_221 (by decide) ?_
        refine lv_iload S.1 S.2.1 dX8_moves_222 (lv_at hl 0 rfl) ?_
        refine lv_if_ne (tgt := 232) S.1 S.2.1 dX8_moves_224 rfl (fun h14 => ?_) (fun h14 => ?_)
        · skip
          refine lv_aload_n S.1 S.2.1 dX8_moves_232 rfl (lv_at hl 5 rfl) ?_
          refine lv_iload_n S.1 S.2.1 dX8_moves_233 rfl (lv_at hl 6 rfl) ?_
          refine lv_iconst (v := (nI 3)) S.1 S.2.1 dX8_moves_234 (by decide) ?_
          refine xk_R (v := (nf σ k 3)) (x_runV (As := [.int (nI k), .int (nI 3)]) (rest := [.int (nI 3), .int (nI k), .ref M]) S hE hS (fun _ h => h.elim) (c_X8_of l E M ps ty re σ k 3 _ ho hs (by omega) (by omega)) kv_X8_of kw12_22 kw12_23 kw13_0 (x_recv hE (ho) (ci := 8) rfl) ⟨Nat.le_of_ble_eq_true rfl, Nat.le_of_ble_eq_true rfl⟩ rfl rfl rfl hl.1 rfl (Nat.le_of_ble_eq_true rfl) dX8_moves_235 ⟨Nat.zero_le _, Nat.zero_le _⟩) ?_
          refine xk_V (x_runV (As := [.int (nI k), .int (nI 3), .int (nf σ k 3)]) (rest := []) S hE hS (fun q h => h) (c_X8_puts l E M ps ty re σ k 3 (nf σ k 3) _ ho hs (by omega) (by omega)) kv_X8_puts kw13_11 kw13_12 kw13_13 (x_recv hE (ho) (ci := 8) rfl) ⟨Nat.le_of_ble_eq_true rfl, Nat.le_of_ble_eq_true rfl⟩ rfl rfl rfl hl.1 rfl (Nat.le_of_ble_eq_true rfl) dX8_moves_238 ⟨Nat.zero_le _, Nat.zero_le _⟩) hS (fun q h => h) (fun H locs hX hO1 hS => ?_)
          have hO := hO.tr hO1 (fun q h => h)
          have ho := va_at.kept ho (hO1.2 _ (fun z => by have z : M = M + 1 := z; omega))
          have hs : XI E (M + 1) 1670 (nset σ k 3 (nf σ k 3)) H := hX
          refine lv_goto (tgt := 244) S.1 S.2.1 dX8_moves_241 rfl ?_
          refine lv_aload_n S.1 S.2.1 dX8_moves_244 rfl (lv_at hl 5 rfl) ?_
          refine lv_iload_n S.1 S.2.1 dX8_moves_245 rfl (lv_at hl 6 rfl) ?_
          refine lv_iconst (v := (nI 4)) S.1 S.2.1 dX8_moves_246 (by decide) ?_
          refine lv_iload S.1 S.2.1 dX8_moves_247 (lv_at hl 0 rfl) ?_
          refine xk_V (x_runV (As := [.int (nI k), .int (nI 4), .int (rfDn σ k (nI 3))]) (rest := []) S hE hS (fun q h => h) (c_X8_puts l E M ps ty re (nset σ k 3 (nf σ k 3)) k 4 (rfDn σ k (nI 3)) _ ho hs (by omega) (by omega)) kv_X8_puts kw13_11 kw13_12 kw13_13 (x_recv hE (ho) (ci := 8) rfl) ⟨Nat.le_of_ble_eq_true rfl, Nat.le_of_ble_eq_true rfl⟩ rfl rfl rfl hl.1 rfl (Nat.le_of_ble_eq_true rfl) dX8_moves_249 ⟨Nat.zero_le _, Nat.zero_le _⟩) hS (fun q h => h) (fun H locs hX hO1 hS => ?_)
          have hO := hO.tr hO1 (fun q h => h)
          have ho := va_at.kept ho (hO1.2 _ (fun z => by have z : M = M + 1 := z; omega))
          have hs : XI E (M + 1) 1670 (nset (nset σ k 3 (nf σ k 3)) k 4 (rfDn σ k (nI 3))) H := hX
          subst hQ
          refine x_retV S hr hlk hS hO ?_ dX8_moves_252
          exact (show rfMv σ k = (nset (nset σ k 3 (nf σ k 3)) k 4 (rfDn σ k (nI 3))) from by unfold rfMv; rw [if_neg (by rw [h1_5]; decide), if_neg (by rw [h1_5]; decide), if_neg (by rw [h1_5]; decide), if_pos h1_5, if_neg h14]; rw [h1_5]; first | done | rfl) ▸ hs
        · skip
          refine lv_bipush (v := (nI 6)) S.1 S.2.1 dX8_moves_227 (by decide) ?_
          refine lv_goto (tgt := 238) S.1 S.2.1 dX8_moves_229 rfl ?_
          refine xk_V (x_runV (As := [.int (nI k), .int (nI 3), .int (nI 6)]) (rest := []) S hE hS (fun q h => h) (c_X8_puts l E M ps ty re σ k 3 (nI 6) _ ho hs (by omega) (by omega)) kv_X8_puts kw13_11 kw13_12 kw13_13 (x_recv hE (ho) (ci := 8) rfl) ⟨Nat.le_of_ble_eq_true rfl, Nat.le_of_ble_eq_true rfl⟩ rfl rfl rfl hl.1 rfl (Nat.le_of_ble_eq_true rfl) dX8_moves_238 ⟨Nat.zero_le _, Nat.zero_le _⟩) hS (fun q h => h) (fun H locs hX hO1 hS => ?_)
          have hO := hO.tr hO1 (fun q h => h)
          have ho := va_at.kept ho (hO1.2 _ (fun z => by have z : M = M + 1 := z; omega))
          have hs : XI E (M + 1) 1670 (nset σ k 3 (nI 6)) H := hX
          refine lv_goto (tgt := 244) S.1 S.2.1 dX8_moves_241 rfl ?_
          refine lv_aload_n S.1 S.2.1 dX8_moves_244 rfl (lv_at hl 5 rfl) ?_
          refine lv_iload_n S.1 S.2.1 dX8_moves_245 rfl (lv_at hl 6 rfl) ?_
          refine lv_iconst (v := (nI 4)) S.1 S.2.1 dX8_moves_246 (by decide) ?_
          refine lv_iload S.1 S.2.1 dX8_moves_247 (lv_at hl 0 rfl) ?_
          refine xk_V (x_runV (As := [.int (nI k), .int (nI 4), .int (rfDn σ k (nI 3))]) (rest := []) S hE hS (fun q h => h) (c_X8_puts l E M ps ty re (nset σ k 3 (nI 6)) k 4 (rfDn σ k (nI 3)) _ ho hs (by omega) (by omega)) kv_X8_puts kw13_11 kw13_12 kw13_13 (x_recv hE (ho) (ci := 8) rfl) ⟨Nat.le_of_ble_eq_true rfl, Nat.le_of_ble_eq_true rfl⟩ rfl rfl rfl hl.1 rfl (Nat.le_of_ble_eq_true rfl) dX8_moves_249 ⟨Nat.zero_le _, Nat.zero_le _⟩) hS (fun q h => h) (fun H locs hX hO1 hS => ?_)
          have hO := hO.tr hO1 (fun q h => h)
          have ho := va_at.kept ho (hO1.2 _ (fun z => by have z : M = M + 1 := z; omega))
          have hs : XI E (M + 1) 1670 (nset (nset σ k 3 (nI 6)) k 4 (rfDn σ k (nI 3))) H := hX
          subst hQ
          refine x_retV S hr hlk hS hO ?_ dX8_moves_252
          exact (show rfMv σ k = (nset (nset σ k 3 (nI 6)) k 4 (rfDn σ k (nI 3))) from by unfold rfMv; rw [if_neg (by rw [h1_5]; decide), if_neg (by rw [h1_5]; decide), if_neg (by rw [h1_5]; decide), if_pos h1_5, if_pos h14]; first | done | rfl) ▸ hs
      · skip
        refine lv_iconst (v := (nI 0)) S.1 S.2.1 dX8_moves_211 (by decide) ?_
        refine lv_goto (tgt := 217) S.1 S.2.1 dX8_moves_212 rfl ?_
        refine x_top (y := (rfDn σ k (nI 3))) (by rw [rfDn, yMax, if_neg h13]; first | done | rfl) ?_
        refine lv_istore S.1 S.2.1 dX8_moves_217 hl (by decide) rfl (fun ls hl => ?_)
        have hl : lv_has ls 7 [(6, .int (rfDn σ k (nI 3))), (5, .int (rfRest σ k)), (4, .int (rfPeak σ k)), (3, .int (nf σ k 4)), (2, .int (nf σ k 0)), (0, .ref M), (1, .int (nI k))] := hl
        refine lv_aload_n S.1 S.2.1 dX8_moves_219 rfl (lv_at hl 5 rfl) ?_
        refine lv_iload_n S.1 S.2.1 dX8_moves_220 rfl (lv_at hl 6 rfl) ?_
        refine lv_iconst (v := (nI 3)) S.1 S.2.1 dX8_moves_221 (by decide) ?_
        refine lv_iload S.1 S.2.1 dX8_moves_222 (lv_at hl 0 rfl) ?_
        refine lv_if_ne (tgt := 232) S.1 S.2.1 dX8_moves_224 rfl (fun h15 => ?_) (fun h15 => ?_)
        · skip
          refine lv_aload_n S.1 S.2.1 dX8_moves_232 rfl (lv_at hl 5 rfl) ?_
          refine lv_iload_n S.1 S.2.1 dX8_moves_233 rfl (lv_at hl 6 rfl) ?_
          refine lv_iconst (v := (nI 3)) S.1 S.2.1 dX8_moves_234 (by decide) ?_
          refine xk_R (v := (nf σ k 3)) (x_runV (As := [.int (nI k), .int (nI 3)]) (rest := [.int (nI 3), .int (nI k), .ref M]) S hE hS (fun _ h => h.elim) (c_X8_of l E M ps ty re σ k 3 _ ho hs (by omega) (by omega)) kv_X8_of kw12_22 kw12_23 kw13_0 (x_recv hE (ho) (ci := 8) rfl) ⟨Nat.le_of_ble_eq_true rfl, Nat.le_of_ble_eq_true rfl⟩ rfl rfl rfl hl.1 rfl (Nat.le_of_ble_eq_true rfl) dX8_moves_235 ⟨Nat.zero_le _, Nat.zero_le _⟩) ?_
          refine xk_V (x_runV (As := [.int (nI k), .int (nI 3), .int (nf σ k 3)]) (rest := []) S hE hS (fun q h => h) (c_X8_puts l E M ps ty re σ k 3 (nf σ k 3) _ ho hs (by omega) (by omega)) kv_X8_puts kw13_11 kw13_12 kw13_13 (x_recv hE (ho) (ci := 8) rfl) ⟨Nat.le_of_ble_eq_true rfl, Nat.le_of_ble_eq_true rfl⟩ rfl rfl rfl hl.1 rfl (Nat.le_of_ble_eq_true rfl) dX8_moves_238 ⟨Nat.zero_le _, Nat.zero_le _⟩) hS (fun q h => h) (fun H locs hX hO1 hS => ?_)
          have hO := hO.tr hO1 (fun q h => h)
          have ho := va_at.kept ho (hO1.2 _ (fun z => by have z : M = M + 1 := z; omega))
          have hs : XI E (M + 1) 1670 (nset σ k 3 (nf σ k 3)) H := hX
          refine lv_goto (tgt := 244) S.1 S.2.1 dX8_moves_241 rfl ?_
          refine lv_aload_n S.1 S.2.1 dX8_moves_244 rfl (lv_at hl 5 rfl) ?_
          refine lv_iload_n S.1 S.2.1 dX8_moves_245 rfl (lv_at hl 6 rfl) ?_
          refine lv_iconst (v := (nI 4)) S.1 S.2.1 dX8_moves_246 (by decide) ?_
          refine lv_iload S.1 S.2.1 dX8_moves_247 (lv_at hl 0 rfl) ?_
          refine xk_V (x_runV (As := [.int (nI k), .int (nI 4), .int (rfDn σ k (nI 3))]) (rest := []) S hE hS (fun q h => h) (c_X8_puts l E M ps ty re (nset σ k 3 (nf σ k 3)) k 4 (rfDn σ k (nI 3)) _ ho hs (by omega) (by omega)) kv_X8_puts kw13_11 kw13_12 kw13_13 (x_recv hE (ho) (ci := 8) rfl) ⟨Nat.le_of_ble_eq_true rfl, Nat.le_of_ble_eq_true rfl⟩ rfl rfl rfl hl.1 rfl (Nat.le_of_ble_eq_true rfl) dX8_moves_249 ⟨Nat.zero_le _, Nat.zero_le _⟩) hS (fun q h => h) (fun H locs hX hO1 hS => ?_)
          have hO := hO.tr hO1 (fun q h => h)
          have ho := va_at.kept ho (hO1.2 _ (fun z => by have z : M = M + 1 := z; omega))
          have hs : XI E (M + 1) 1670 (nset (nset σ k 3 (nf σ k 3)) k 4 (rfDn σ k (nI 3))) H := hX
          subst hQ
          refine x_retV S hr hlk hS hO ?_ dX8_moves_252
          exact (show rfMv σ k = (nset (nset σ k 3 (nf σ k 3)) k 4 (rfDn σ k (nI 3))) from by unfold rfMv; rw [if_neg (by rw [h1_5]; decide), if_neg (by rw [h1_5]; decide), if_neg (by rw [h1_5]; decide), if_pos h1_5, if_neg h15]; rw [h1_5]; first | done | rfl) ▸ hs
        · skip
          refine lv_bipush (v := (nI 6)) S.1 S.2.1 dX8_moves_227 (by decide) ?_
          refine lv_goto (tgt := 238) S.1 S.2.1 dX8_moves_229 rfl ?_
          refine xk_V (x_runV (As := [.int (nI k), .int (nI 3), .int (nI 6)]) (rest := []) S hE hS (fun q h => h) (c_X8_puts l E M ps ty re σ k 3 (nI 6) _ ho hs (by omega) (by omega)) kv_X8_puts kw13_11 kw13_12 kw13_13 (x_recv hE (ho) (ci := 8) rfl) ⟨Nat.le_of_ble_eq_true rfl, Nat.le_of_ble_eq_true rfl⟩ rfl rfl rfl hl.1 rfl (Nat.le_of_ble_eq_true rfl) dX8_moves_238 ⟨Nat.zero_le _, Nat.zero_le _⟩) hS (fun q h => h) (fun H locs hX hO1 hS => ?_)
          have hO := hO.tr hO1 (fun q h => h)
          have ho := va_at.kept ho (hO1.2 _ (fun z => by have z : M = M + 1 := z; omega))
          have hs : XI E (M + 1) 1670 (nset σ k 3 (nI 6)) H := hX
          refine lv_goto (tgt := 244) S.1 S.2.1 dX8_moves_241 rfl ?_
          refine lv_aload_n S.1 S.2.1 dX8_moves_244 rfl (lv_at hl 5 rfl) ?_
          refine lv_iload_n S.1 S.2.1 dX8_moves_245 rfl (lv_at hl 6 rfl) ?_
          refine lv_iconst (v := (nI 4)) S.1 S.2.1 dX8_moves_246 (by decide) ?_
          refine lv_iload S.1 S.2.1 dX8_moves_247 (lv_at hl 0 rfl) ?_
          refine xk_V (x_runV (As := [.int (nI k), .int (nI 4), .int (rfDn σ k (nI 3))]) (rest := []) S hE hS (fun q h => h) (c_X8_puts l E M ps ty re (nset σ k 3 (nI 6)) k 4 (rfDn σ k (nI 3)) _ ho hs (by omega) (by omega)) kv_X8_puts kw13_11 kw13_12 kw13_13 (x_recv hE (ho) (ci := 8) rfl) ⟨Nat.le_of_ble_eq_true rfl, Nat.le_of_ble_eq_true rfl⟩ rfl rfl rfl hl.1 rfl (Nat.le_of_ble_eq_true rfl) dX8_moves_249 ⟨Nat.zero_le _, Nat.zero_le _⟩) hS (fun q h => h) (fun H locs hX hO1 hS => ?_)
          have hO := hO.tr hO1 (fun q h => h)
          have ho := va_at.kept ho (hO1.2 _ (fun z => by have z : M = M + 1 := z; omega))
          have hs : XI E (M + 1) 1670 (nset (nset σ k 3 (nI 6)) k 4 (rfDn σ k (nI 3))) H := hX
          subst hQ
          refine x_retV S hr hlk hS hO ?_ dX8_moves_252
          exact (show rfMv σ k = (nset (nset σ k 3 (nI 6)) k 4 (rfDn σ k (nI 3))) from by unfold rfMv; rw [if_neg (by rw [h1_5]; decide), if_neg (by rw [h1_5]; decide), if_neg (by rw [h1_5]; decide), if_pos h1_5, if_pos h15]; first | done | rfl) ▸ hs
    · exact absurd (h12.symm.trans h1_5) (by decide)
  refine lv_tableOut (tgt := 244) S.1 S.2.1 dX8_moves_37 (tsw1_5 h1_1 h1_2 h1_3 h1_4 h1_5) rfl ?_
  refine lv_aload_n S.1 S.2.1 dX8_moves_244 rfl (lv_at hl 5 rfl) ?_
  refine lv_iload_n S.1 S.2.1 dX8_moves_245 rfl (lv_at hl 6 rfl) ?_
  refine lv_iconst (v := (nI 4)) S.1 S.2.1 dX8_moves_246 (by decide) ?_
  refine lv_iload S.1 S.2.1 dX8_moves_247 (lv_at hl 0 rfl) ?_
  refine xk_V (x_runV (As := [.int (nI k), .int (nI 4), .int (nf σ k 4)]) (rest := []) S hE hS (fun q h => h) (c_X8_puts l E M ps ty re σ k 4 (nf σ k 4) _ ho hs (by omega) (by omega)) kv_X8_puts kw13_11 kw13_12 kw13_13 (x_recv hE (ho) (ci := 8) rfl) ⟨Nat.le_of_ble_eq_true rfl, Nat.le_of_ble_eq_true rfl⟩ rfl rfl rfl hl.1 rfl (Nat.le_of_ble_eq_true rfl) dX8_moves_249 ⟨Nat.zero_le _, Nat.zero_le _⟩) hS (fun q h => h) (fun H locs hX hO1 hS => ?_)
  have hO := hO.tr hO1 (fun q h => h)
  have ho := va_at.kept ho (hO1.2 _ (fun z => by have z : M = M + 1 := z; omega))
  have hs : XI E (M + 1) 1670 (nset σ k 4 (nf σ k 4)) H := hX
  subst hQ
  refine x_retV S hr hlk hS hO ?_ dX8_moves_252
  exact (show rfMv σ k = (nset σ k 4 (nf σ k 4)) from by unfold rfMv; rw [if_neg h1_1, if_neg h1_2, if_neg h1_4, if_neg h1_5]; first | done | rfl) ▸ hs
abbrev rm_X8_sum : Room := ({ frames := 2, cells := 0, slots := 0, locals := 43 } : Room)
set_option maxRecDepth 100000 in
set_option maxHeartbeats 600000 in
theorem c_X8_sum (l : Launch) (E : XE) (M : Nat) (ps ty re : Int32) (σ : Nat → Int32) (n : Nat) (H : Heap) (ho : RfO E M ps ty re H) (hs : XI E (M + 1) 1670 σ H) (hn : σ 0 = nI n) (hn2 : n ≤ 200) : Rd l E yX8_sum cX8_sum 3 (some .int) rm_X8_sum [.ref M] H (rfSum σ n) := by
  refine met_of (by decide) (Nat.le_of_ble_eq_true rfl) (fun p e s m args below meth c hBD Q hQ ls hl => ?_)
  obtain ⟨S, hr, hlk, hnm, hE, hH⟩ := hBD
  subst hH
  have hl : lv_has ls 3 [(0, .ref M)] := hl
  have hS : va_S (fun _ => False) s.heap s.heap [] := va_S.rf
  refine lv_iconst (v := (nI 0)) S.1 S.2.1 dX8_sum_0 (by decide) ?_
  refine lv_istore_n S.1 S.2.1 dX8_sum_1 rfl hl (by decide) rfl (fun ls hl => ?_)
  have hl : lv_has ls 3 [(1, .int (nI 0)), (0, .ref M)] := hl
  refine lv_iconst (v := (nI 0)) S.1 S.2.1 dX8_sum_2 (by decide) ?_
  refine lv_istore_n S.1 S.2.1 dX8_sum_3 rfl hl (by decide) rfl (fun ls hl => ?_)
  have hl : lv_has ls 3 [(2, .int (nI 0)), (1, .int (nI 0)), (0, .ref M)] := hl
  have hloop4 : ∀ (d : Nat) (i : Nat) (ls : Array Slot), n - i = d → i ≤ n → lv_has ls 3 [(1, .int (rfSum σ i)), (2, .int (nI i)), (0, .ref M)] → W p l e rm_X8_sum s m args below meth c s.heap [] 0 0 Q (F0 m 4 ls []) := by
    intro d
    induction d using Nat.strongRecOn with
    | ind d ih =>
      intro i ls hd hi  hl
      refine lv_iload_n S.1 S.2.1 dX8_sum_4 rfl (lv_at hl 1 rfl) ?_
      refine lv_aload_n S.1 S.2.1 dX8_sum_5 rfl (lv_at hl 2 rfl) ?_
      refine x_get S hE (ho) (C := RX8) (T := TX8) (N := 10) rfl inlX8 0 (by decide) (v := .ref (M + 1)) rfl kw7_6 rfl dX8_sum_6 ?_
      refine lv_iconst (v := (nI 0)) S.1 S.2.1 dX8_sum_9 (by decide) ?_
      refine x_iald S hE (hs) 0 rfl (by decide) (by decide) dX8_sum_10 ?_
      refine x_top (y := (nI n)) (hn) ?_
      refine lv_icmp_ge (tgt := 41) S.1 S.2.1 dX8_sum_11 rfl (fun h1 => ?_) (fun h1 => ?_)
      · skip
        have hge : i = n := (by have := ge_of_le (by omega) (by omega) h1; omega)
        refine lv_iload_n S.1 S.2.1 dX8_sum_41 rfl (lv_at hl 0 rfl) ?_
        subst hQ
        exact x_retR S hr hlk (rfl) (by rw [hge]) dX8_sum_42
      · skip
        have hlt : i < n := lt_of_nle (by omega) (by omega) h1
        refine lv_iload_n S.1 S.2.1 dX8_sum_14 rfl (lv_at hl 0 rfl) ?_
        refine lv_aload_n S.1 S.2.1 dX8_sum_15 rfl (lv_at hl 2 rfl) ?_
        refine lv_iload_n S.1 S.2.1 dX8_sum_16 rfl (lv_at hl 1 rfl) ?_
        refine xk_R (v := (bI (rfVo σ i))) (x_runV (As := [.int (nI i)]) (rest := [.int (rfSum σ i)]) S hE hS (fun _ h => h.elim) (c_X8_isVoice l E M ps ty re σ i _ ho hs (by omega)) kv_X8_isVoice kw19_19 kw19_20 kw19_21 (x_recv hE (ho) (ci := 8) rfl) ⟨Nat.le_of_ble_eq_true rfl, Nat.le_of_ble_eq_true rfl⟩ rfl rfl rfl hl.1 rfl (Nat.le_of_ble_eq_true rfl) dX8_sum_17 ⟨Nat.zero_le _, Nat.zero_le _⟩) ?_
        refine lv_if_eq (tgt := 32) S.1 S.2.1 dX8_sum_20 rfl (fun h2 => ?_) (fun h2 => ?_)
        · skip
          have h2 := bI_0 h2
          refine lv_iconst (v := (nI 0)) S.1 S.2.1 dX8_sum_32 (by decide) ?_
          refine lv_iadd S.1 S.2.1 dX8_sum_33 ?_
          refine lv_istore_n S.1 S.2.1 dX8_sum_34 rfl hl (by decide) rfl (fun ls hl => ?_)
          have hl : lv_has ls 3 [(1, .int ((rfSum σ i) + (nI 0))), (2, .int (nI i)), (0, .ref M)] := hl
          refine lv_iinc (k := 1) (v := (nI (i + 1))) S.1 S.2.1 dX8_sum_35 hl rfl (iincP i 1) (by decide) rfl (fun ls hl => ?_)
          have hl : lv_has ls 3 [(2, .int (nI (i + 1))), (1, .int ((rfSum σ i) + (nI 0))), (0, .ref M)] := hl
          refine lv_goto (tgt := 4) S.1 S.2.1 dX8_sum_38 rfl ?_
          have hl : lv_has ls 3 [(1, .int (rfSum σ (i + 1))), (2, .int (nI (i + 1))), (0, .ref M)] := by
            rw [show (rfSum σ (i + 1)) = ((rfSum σ i) + (nI 0)) from by rw [rfSum, if_neg h2]]
            exact lv_sub hl [1, 0, 2] rfl
          exact ih _ (by omega) (i + 1) ls rfl (by omega)  (lv_sub hl [0, 1, 2] rfl)
        · skip
          have h2 := bI_n0 h2
          refine lv_aload_n S.1 S.2.1 dX8_sum_23 rfl (lv_at hl 2 rfl) ?_
          refine lv_iload_n S.1 S.2.1 dX8_sum_24 rfl (lv_at hl 1 rfl) ?_
          refine lv_iconst (v := (nI 4)) S.1 S.2.1 dX8_sum_25 (by decide) ?_
          refine xk_R (v := (nf σ i 4)) (x_runV (As := [.int (nI i), .int (nI 4)]) (rest := [.int (rfSum σ i)]) S hE hS (fun _ h => h.elim) (c_X8_of l E M ps ty re σ i 4 _ ho hs (by omega) (by omega)) kv_X8_of kw12_22 kw12_23 kw13_0 (x_recv hE (ho) (ci := 8) rfl) ⟨Nat.le_of_ble_eq_true rfl, Nat.le_of_ble_eq_true rfl⟩ rfl rfl rfl hl.1 rfl (Nat.le_of_ble_eq_true rfl) dX8_sum_26 ⟨Nat.zero_le _, Nat.zero_le _⟩) ?_
          refine lv_goto (tgt := 33) S.1 S.2.1 dX8_sum_29 rfl ?_
          refine lv_iadd S.1 S.2.1 dX8_sum_33 ?_
          refine lv_istore_n S.1 S.2.1 dX8_sum_34 rfl hl (by decide) rfl (fun ls hl => ?_)
          have hl : lv_has ls 3 [(1, .int ((rfSum σ i) + (nf σ i 4))), (2, .int (nI i)), (0, .ref M)] := hl
          refine lv_iinc (k := 1) (v := (nI (i + 1))) S.1 S.2.1 dX8_sum_35 hl rfl (iincP i 1) (by decide) rfl (fun ls hl => ?_)
          have hl : lv_has ls 3 [(2, .int (nI (i + 1))), (1, .int ((rfSum σ i) + (nf σ i 4))), (0, .ref M)] := hl
          refine lv_goto (tgt := 4) S.1 S.2.1 dX8_sum_38 rfl ?_
          have hl : lv_has ls 3 [(1, .int (rfSum σ (i + 1))), (2, .int (nI (i + 1))), (0, .ref M)] := by
            rw [show (rfSum σ (i + 1)) = ((rfSum σ i) + (nf σ i 4)) from by rw [rfSum, if_pos h2]]
            exact lv_sub hl [1, 0, 2] rfl
          exact ih _ (by omega) (i + 1) ls rfl (by omega)  (lv_sub hl [0, 1, 2] rfl)
  exact hloop4 _ 0 ls rfl (Nat.zero_le _)  (lv_sub hl [1, 0, 2] rfl)
abbrev rm_X8_heard : Room := ({ frames := 3, cells := 0, slots := 0, locals := 65 } : Room)
set_option maxRecDepth 100000 in
set_option maxHeartbeats 600000 in
theorem c_X8_heard (l : Launch) (E : XE) (M : Nat) (ps ty re : Int32) (σ : Nat → Int32) (k n : Nat) (H : Heap) (ho : RfO E M ps ty re H) (hs : XI E (M + 1) 1670 σ H) (hn : σ 0 = nI n) (hn2 : n ≤ 200) (hb : 0 ≤ σ 8) (hk : k < 200) : Rd l E yX8_heard cX8_heard 3 (some .int) rm_X8_heard [.ref M, .int (nI k)] H (rfHrd σ n k) := by
  refine met_of (by decide) (Nat.le_of_ble_eq_true rfl) (fun p e s m args below meth c hBD Q hQ ls hl => ?_)
  obtain ⟨S, hr, hlk, hnm, hE, hH⟩ := hBD
  subst hH
  have hl : lv_has ls 3 [(0, .ref M), (1, .int (nI k))] := hl
  have hS : va_S (fun _ => False) s.heap s.heap [] := va_S.rf
  refine lv_aload_n S.1 S.2.1 dX8_heard_0 rfl (lv_at hl 0 rfl) ?_
  refine xk_R (v := (rfSum σ n)) (x_runV (As := []) (rest := []) S hE hS (fun _ h => h.elim) (c_X8_sum l E M ps ty re σ n _ ho hs hn hn2) kv_X8_sum kw19_15 kw19_16 kw19_17 (x_recv hE (ho) (ci := 8) rfl) ⟨Nat.le_of_ble_eq_true rfl, Nat.le_of_ble_eq_true rfl⟩ rfl rfl rfl hl.1 rfl (Nat.le_of_ble_eq_true rfl) dX8_heard_1 ⟨Nat.zero_le _, Nat.zero_le _⟩) ?_
  refine lv_istore_n S.1 S.2.1 dX8_heard_4 rfl hl (by decide) rfl (fun ls hl => ?_)
  have hl : lv_has ls 3 [(2, .int (rfSum σ n)), (0, .ref M), (1, .int (nI k))] := hl
  refine lv_iload_n S.1 S.2.1 dX8_heard_5 rfl (lv_at hl 0 rfl) ?_
  refine lv_aload_n S.1 S.2.1 dX8_heard_6 rfl (lv_at hl 1 rfl) ?_
  refine x_get S hE (ho) (C := RX8) (T := TX8) (N := 10) rfl inlX8 0 (by decide) (v := .ref (M + 1)) rfl kw7_6 rfl dX8_heard_7 ?_
  refine lv_bipush (v := (nI 8)) S.1 S.2.1 dX8_heard_10 (by decide) ?_
  refine x_iald S hE (hs) 8 rfl (by decide) (by decide) dX8_heard_12 ?_
  refine lv_icmp_gt (tgt := 25) S.1 S.2.1 dX8_heard_13 rfl (fun h1 => ?_) (fun h1 => ?_)
  · skip
    refine lv_aload_n S.1 S.2.1 dX8_heard_25 rfl (lv_at hl 1 rfl) ?_
    refine lv_iload_n S.1 S.2.1 dX8_heard_26 rfl (lv_at hl 2 rfl) ?_
    refine lv_iconst (v := (nI 4)) S.1 S.2.1 dX8_heard_27 (by decide) ?_
    refine xk_R (v := (nf σ k 4)) (x_runV (As := [.int (nI k), .int (nI 4)]) (rest := []) S hE hS (fun _ h => h.elim) (c_X8_of l E M ps ty re σ k 4 _ ho hs (by omega) (by omega)) kv_X8_of kw12_22 kw12_23 kw13_0 (x_recv hE (ho) (ci := 8) rfl) ⟨Nat.le_of_ble_eq_true rfl, Nat.le_of_ble_eq_true rfl⟩ rfl rfl rfl hl.1 rfl (Nat.le_of_ble_eq_true rfl) dX8_heard_28 ⟨Nat.zero_le _, Nat.zero_le _⟩) ?_
    refine lv_aload_n S.1 S.2.1 dX8_heard_31 rfl (lv_at hl 1 rfl) ?_
    refine x_get S hE (ho) (C := RX8) (T := TX8) (N := 10) rfl inlX8 0 (by decide) (v := .ref (M + 1)) rfl kw7_6 rfl dX8_heard_32 ?_
    refine lv_bipush (v := (nI 8)) S.1 S.2.1 dX8_heard_35 (by decide) ?_
    refine x_iald S hE (hs) 8 rfl (by decide) (by decide) dX8_heard_37 ?_
    refine lv_imul S.1 S.2.1 dX8_heard_38 ?_
    refine lv_iload_n S.1 S.2.1 dX8_heard_39 rfl (lv_at hl 0 rfl) ?_
    refine lv_idiv S.1 S.2.1 dX8_heard_40 (nz_of hb h1) ?_
    subst hQ
    exact x_retR S hr hlk (rfl) (by rw [rfHrd, if_neg (Int32.not_le.mpr h1)]) dX8_heard_41
  · skip
    refine lv_aload_n S.1 S.2.1 dX8_heard_16 rfl (lv_at hl 1 rfl) ?_
    refine lv_iload_n S.1 S.2.1 dX8_heard_17 rfl (lv_at hl 2 rfl) ?_
    refine lv_iconst (v := (nI 4)) S.1 S.2.1 dX8_heard_18 (by decide) ?_
    refine xk_R (v := (nf σ k 4)) (x_runV (As := [.int (nI k), .int (nI 4)]) (rest := []) S hE hS (fun _ h => h.elim) (c_X8_of l E M ps ty re σ k 4 _ ho hs (by omega) (by omega)) kv_X8_of kw12_22 kw12_23 kw13_0 (x_recv hE (ho) (ci := 8) rfl) ⟨Nat.le_of_ble_eq_true rfl, Nat.le_of_ble_eq_true rfl⟩ rfl rfl rfl hl.1 rfl (Nat.le_of_ble_eq_true rfl) dX8_heard_19 ⟨Nat.zero_le _, Nat.zero_le _⟩) ?_
    refine lv_goto (tgt := 41) S.1 S.2.1 dX8_heard_22 rfl ?_
    subst hQ
    exact x_retR S hr hlk (rfl) (by rw [rfHrd, if_pos (i_nlt h1)]) dX8_heard_41
abbrev rm_X8_ahead : Room := ({ frames := 1, cells := 0, slots := 0, locals := 22 } : Room)
set_option maxRecDepth 100000 in
set_option maxHeartbeats 600000 in
theorem c_X8_ahead (l : Launch) (E : XE) (M : Nat) (ps ty re : Int32) (σ : Nat → Int32) (k : Nat) (H : Heap) (ho : RfO E M ps ty re H) (hs : XI E (M + 1) 1670 σ H) (hk : k < 200) : Rd l E yX8_ahead cX8_ahead 4 (some .int) rm_X8_ahead [.ref M, .int (nI k)] H (rfAhd σ k) := by
  refine met_of (by decide) (Nat.le_of_ble_eq_true rfl) (fun p e s m args below meth c hBD Q hQ ls hl => ?_)
  obtain ⟨S, hr, hlk, hnm, hE, hH⟩ := hBD
  subst hH
  have hl : lv_has ls 4 [(0, .ref M), (1, .int (nI k))] := hl
  have hS : va_S (fun _ => False) s.heap s.heap [] := va_S.rf
  refine lv_iconst (v := (nI 0)) S.1 S.2.1 dX8_ahead_0 (by decide) ?_
  refine lv_istore_n S.1 S.2.1 dX8_ahead_1 rfl hl (by decide) rfl (fun ls hl => ?_)
  have hl : lv_has ls 4 [(2, .int (nI 0)), (0, .ref M), (1, .int (nI k))] := hl
  refine lv_iconst (v := (nI 0)) S.1 S.2.1 dX8_ahead_2 (by decide) ?_
  refine lv_istore_n S.1 S.2.1 dX8_ahead_3 rfl hl (by decide) rfl (fun ls hl => ?_)
  have hl : lv_has ls 4 [(3, .int (nI 0)), (2, .int (nI 0)), (0, .ref M), (1, .int (nI k))] := hl
  have hloop4 : ∀ (d : Nat) (i : Nat) (ls : Array Slot), k - i = d → i ≤ k → lv_has ls 4 [(2, .int (rfAhd σ i)), (3, .int (nI i)), (0, .ref M), (1, .int (nI k))] → W p l e rm_X8_ahead s m args below meth c s.heap [] 0 0 Q (F0 m 4 ls []) := by
    intro d
    induction d using Nat.strongRecOn with
    | ind d ih =>
      intro i ls hd hi  hl
      refine lv_iload_n S.1 S.2.1 dX8_ahead_4 rfl (lv_at hl 1 rfl) ?_
      refine lv_iload_n S.1 S.2.1 dX8_ahead_5 rfl (lv_at hl 3 rfl) ?_
      refine lv_icmp_ge (tgt := 32) S.1 S.2.1 dX8_ahead_6 rfl (fun h1 => ?_) (fun h1 => ?_)
      · skip
        have hge : i = k := (by have := ge_of_le (by omega) (by omega) h1; omega)
        refine lv_iload_n S.1 S.2.1 dX8_ahead_32 rfl (lv_at hl 0 rfl) ?_
        subst hQ
        exact x_retR S hr hlk (rfl) (by rw [hge]) dX8_ahead_33
      · skip
        have hlt : i < k := lt_of_nle (by omega) (by omega) h1
        refine lv_iload_n S.1 S.2.1 dX8_ahead_9 rfl (lv_at hl 0 rfl) ?_
        refine lv_aload_n S.1 S.2.1 dX8_ahead_10 rfl (lv_at hl 2 rfl) ?_
        refine lv_iload_n S.1 S.2.1 dX8_ahead_11 rfl (lv_at hl 1 rfl) ?_
        refine lv_iconst (v := (nI 3)) S.1 S.2.1 dX8_ahead_12 (by decide) ?_
        refine xk_R (v := (nf σ i 3)) (x_runV (As := [.int (nI i), .int (nI 3)]) (rest := [.int (rfAhd σ i)]) S hE hS (fun _ h => h.elim) (c_X8_of l E M ps ty re σ i 3 _ ho hs (by omega) (by omega)) kv_X8_of kw12_22 kw12_23 kw13_0 (x_recv hE (ho) (ci := 8) rfl) ⟨Nat.le_of_ble_eq_true rfl, Nat.le_of_ble_eq_true rfl⟩ rfl rfl rfl hl.1 rfl (Nat.le_of_ble_eq_true rfl) dX8_ahead_13 ⟨Nat.zero_le _, Nat.zero_le _⟩) ?_
        refine lv_if_ne (tgt := 23) S.1 S.2.1 dX8_ahead_16 rfl (fun h2 => ?_) (fun h2 => ?_)
        · skip
          refine lv_iconst (v := (nI 0)) S.1 S.2.1 dX8_ahead_23 (by decide) ?_
          refine lv_iadd S.1 S.2.1 dX8_ahead_24 ?_
          refine lv_istore_n S.1 S.2.1 dX8_ahead_25 rfl hl (by decide) rfl (fun ls hl => ?_)
          have hl : lv_has ls 4 [(2, .int ((rfAhd σ i) + (nI 0))), (3, .int (nI i)), (0, .ref M), (1, .int (nI k))] := hl
          refine lv_iinc (k := 1) (v := (nI (i + 1))) S.1 S.2.1 dX8_ahead_26 hl rfl (iincP i 1) (by decide) rfl (fun ls hl => ?_)
          have hl : lv_has ls 4 [(3, .int (nI (i + 1))), (2, .int ((rfAhd σ i) + (nI 0))), (0, .ref M), (1, .int (nI k))] := hl
          refine lv_goto (tgt := 4) S.1 S.2.1 dX8_ahead_29 rfl ?_
          have hl : lv_has ls 4 [(2, .int (rfAhd σ (i + 1))), (3, .int (nI (i + 1))), (0, .ref M), (1, .int (nI k))] := by
            rw [show (rfAhd σ (i + 1)) = ((rfAhd σ i) + (nI 0)) from by rw [rfAhd, if_neg h2]]
            exact lv_sub hl [1, 0, 2, 3] rfl
          exact ih _ (by omega) (i + 1) ls rfl (by omega)  (lv_sub hl [0, 1, 2, 3] rfl)
        · skip
          refine lv_iconst (v := (nI 1)) S.1 S.2.1 dX8_ahead_19 (by decide) ?_
          refine lv_goto (tgt := 24) S.1 S.2.1 dX8_ahead_20 rfl ?_
          refine lv_iadd S.1 S.2.1 dX8_ahead_24 ?_
          refine lv_istore_n S.1 S.2.1 dX8_ahead_25 rfl hl (by decide) rfl (fun ls hl => ?_)
          have hl : lv_has ls 4 [(2, .int ((rfAhd σ i) + (nI 1))), (3, .int (nI i)), (0, .ref M), (1, .int (nI k))] := hl
          refine lv_iinc (k := 1) (v := (nI (i + 1))) S.1 S.2.1 dX8_ahead_26 hl rfl (iincP i 1) (by decide) rfl (fun ls hl => ?_)
          have hl : lv_has ls 4 [(3, .int (nI (i + 1))), (2, .int ((rfAhd σ i) + (nI 1))), (0, .ref M), (1, .int (nI k))] := hl
          refine lv_goto (tgt := 4) S.1 S.2.1 dX8_ahead_29 rfl ?_
          have hl : lv_has ls 4 [(2, .int (rfAhd σ (i + 1))), (3, .int (nI (i + 1))), (0, .ref M), (1, .int (nI k))] := by
            rw [show (rfAhd σ (i + 1)) = ((rfAhd σ i) + (nI 1)) from by rw [rfAhd, if_pos h2]]
            exact lv_sub hl [1, 0, 2, 3] rfl
          exact ih _ (by omega) (i + 1) ls rfl (by omega)  (lv_sub hl [0, 1, 2, 3] rfl)
  exact hloop4 _ 0 ls rfl (Nat.zero_le _)  (lv_sub hl [1, 0, 2, 3] rfl)
abbrev rm_X8_heardOf : Room := ({ frames := 4, cells := 0, slots := 0, locals := 87 } : Room)
set_option maxRecDepth 100000 in
set_option maxHeartbeats 600000 in
theorem c_X8_heardOf (l : Launch) (E : XE) (M : Nat) (ps ty re : Int32) (σ : Nat → Int32) (pa : Int32) (n : Nat) (H : Heap) (ho : RfO E M ps ty re H) (hs : XI E (M + 1) 1670 σ H) (hn : σ 0 = nI n) (hn2 : n ≤ 200) (hb : 0 ≤ σ 8) : Rd l E yX8_heardOf cX8_heardOf 4 (some .int) rm_X8_heardOf [.ref M, .int pa] H (rfHrO σ n pa n) := by
  refine met_of (by decide) (Nat.le_of_ble_eq_true rfl) (fun p e s m args below meth c hBD Q hQ ls hl => ?_)
  obtain ⟨S, hr, hlk, hnm, hE, hH⟩ := hBD
  subst hH
  have hl : lv_has ls 4 [(0, .ref M), (1, .int pa)] := hl
  have hS : va_S (fun _ => False) s.heap s.heap [] := va_S.rf
  refine lv_iconst (v := (nI 0)) S.1 S.2.1 dX8_heardOf_0 (by decide) ?_
  refine lv_istore_n S.1 S.2.1 dX8_heardOf_1 rfl hl (by decide) rfl (fun ls hl => ?_)
  have hl : lv_has ls 4 [(2, .int (nI 0)), (0, .ref M), (1, .int pa)] := hl
  refine lv_iconst (v := (nI 0)) S.1 S.2.1 dX8_heardOf_2 (by decide) ?_
  refine lv_istore_n S.1 S.2.1 dX8_heardOf_3 rfl hl (by decide) rfl (fun ls hl => ?_)
  have hl : lv_has ls 4 [(3, .int (nI 0)), (2, .int (nI 0)), (0, .ref M), (1, .int pa)] := hl
  have hloop4 : ∀ (d : Nat) (i : Nat) (ls : Array Slot), n - i = d → i ≤ n → lv_has ls 4 [(2, .int (rfHrO σ n pa i)), (3, .int (nI i)), (0, .ref M), (1, .int pa)] → W p l e rm_X8_heardOf s m args below meth c s.heap [] 0 0 Q (F0 m 4 ls []) := by
    intro d
    induction d using Nat.strongRecOn with
    | ind d ih =>
      intro i ls hd hi  hl
      refine lv_iload_n S.1 S.2.1 dX8_heardOf_4 rfl (lv_at hl 1 rfl) ?_
      refine lv_aload_n S.1 S.2.1 dX8_heardOf_5 rfl (lv_at hl 2 rfl) ?_
      refine x_get S hE (ho) (C := RX8) (T := TX8) (N := 10) rfl inlX8 0 (by decide) (v := .ref (M + 1)) rfl kw7_6 rfl dX8_heardOf_6 ?_
      refine lv_iconst (v := (nI 0)) S.1 S.2.1 dX8_heardOf_9 (by decide) ?_
      refine x_iald S hE (hs) 0 rfl (by decide) (by decide) dX8_heardOf_10 ?_
      refine x_top (y := (nI n)) (hn) ?_
      refine lv_icmp_ge (tgt := 50) S.1 S.2.1 dX8_heardOf_11 rfl (fun h1 => ?_) (fun h1 => ?_)
      · skip
        have hge : i = n := (by have := ge_of_le (by omega) (by omega) h1; omega)
        refine lv_iload_n S.1 S.2.1 dX8_heardOf_50 rfl (lv_at hl 0 rfl) ?_
        subst hQ
        exact x_retR S hr hlk (rfl) (by rw [hge]) dX8_heardOf_51
      · skip
        have hlt : i < n := lt_of_nle (by omega) (by omega) h1
        refine lv_iload_n S.1 S.2.1 dX8_heardOf_14 rfl (lv_at hl 0 rfl) ?_
        refine lv_aload_n S.1 S.2.1 dX8_heardOf_15 rfl (lv_at hl 2 rfl) ?_
        refine lv_iload_n S.1 S.2.1 dX8_heardOf_16 rfl (lv_at hl 1 rfl) ?_
        refine xk_R (v := (bI (rfVo σ i))) (x_runV (As := [.int (nI i)]) (rest := [.int (rfHrO σ n pa i)]) S hE hS (fun _ h => h.elim) (c_X8_isVoice l E M ps ty re σ i _ ho hs (by omega)) kv_X8_isVoice kw19_19 kw19_20 kw19_21 (x_recv hE (ho) (ci := 8) rfl) ⟨Nat.le_of_ble_eq_true rfl, Nat.le_of_ble_eq_true rfl⟩ rfl rfl rfl hl.1 rfl (Nat.le_of_ble_eq_true rfl) dX8_heardOf_17 ⟨Nat.zero_le _, Nat.zero_le _⟩) ?_
        refine lv_if_eq (tgt := 41) S.1 S.2.1 dX8_heardOf_20 rfl (fun h2 => ?_) (fun h2 => ?_)
        · skip
          have h2 := bI_0 h2
          refine lv_iconst (v := (nI 0)) S.1 S.2.1 dX8_heardOf_41 (by decide) ?_
          refine lv_iadd S.1 S.2.1 dX8_heardOf_42 ?_
          refine lv_istore_n S.1 S.2.1 dX8_heardOf_43 rfl hl (by decide) rfl (fun ls hl => ?_)
          have hl : lv_has ls 4 [(2, .int ((rfHrO σ n pa i) + (nI 0))), (3, .int (nI i)), (0, .ref M), (1, .int pa)] := hl
          refine lv_iinc (k := 1) (v := (nI (i + 1))) S.1 S.2.1 dX8_heardOf_44 hl rfl (iincP i 1) (by decide) rfl (fun ls hl => ?_)
          have hl : lv_has ls 4 [(3, .int (nI (i + 1))), (2, .int ((rfHrO σ n pa i) + (nI 0))), (0, .ref M), (1, .int pa)] := hl
          refine lv_goto (tgt := 4) S.1 S.2.1 dX8_heardOf_47 rfl ?_
          have hl : lv_has ls 4 [(2, .int (rfHrO σ n pa (i + 1))), (3, .int (nI (i + 1))), (0, .ref M), (1, .int pa)] := by
            rw [show (rfHrO σ n pa (i + 1)) = ((rfHrO σ n pa i) + (nI 0)) from by rw [rfHrO, if_neg h2]]
            exact lv_sub hl [1, 0, 2, 3] rfl
          exact ih _ (by omega) (i + 1) ls rfl (by omega)  (lv_sub hl [0, 1, 2, 3] rfl)
        · skip
          have h2 := bI_n0 h2
          refine lv_aload_n S.1 S.2.1 dX8_heardOf_23 rfl (lv_at hl 2 rfl) ?_
          refine lv_iload_n S.1 S.2.1 dX8_heardOf_24 rfl (lv_at hl 1 rfl) ?_
          refine lv_iconst (v := (nI 0)) S.1 S.2.1 dX8_heardOf_25 (by decide) ?_
          refine xk_R (v := (nf σ i 0)) (x_runV (As := [.int (nI i), .int (nI 0)]) (rest := [.int (rfHrO σ n pa i)]) S hE hS (fun _ h => h.elim) (c_X8_of l E M ps ty re σ i 0 _ ho hs (by omega) (by omega)) kv_X8_of kw12_22 kw12_23 kw13_0 (x_recv hE (ho) (ci := 8) rfl) ⟨Nat.le_of_ble_eq_true rfl, Nat.le_of_ble_eq_true rfl⟩ rfl rfl rfl hl.1 rfl (Nat.le_of_ble_eq_true rfl) dX8_heardOf_26 ⟨Nat.zero_le _, Nat.zero_le _⟩) ?_
          refine lv_iload_n S.1 S.2.1 dX8_heardOf_29 rfl (lv_at hl 3 rfl) ?_
          refine lv_icmp_ne (tgt := 41) S.1 S.2.1 dX8_heardOf_30 rfl (fun h3 => ?_) (fun h3 => ?_)
          · skip
            refine lv_iconst (v := (nI 0)) S.1 S.2.1 dX8_heardOf_41 (by decide) ?_
            refine lv_iadd S.1 S.2.1 dX8_heardOf_42 ?_
            refine lv_istore_n S.1 S.2.1 dX8_heardOf_43 rfl hl (by decide) rfl (fun ls hl => ?_)
            have hl : lv_has ls 4 [(2, .int ((rfHrO σ n pa i) + (nI 0))), (3, .int (nI i)), (0, .ref M), (1, .int pa)] := hl
            refine lv_iinc (k := 1) (v := (nI (i + 1))) S.1 S.2.1 dX8_heardOf_44 hl rfl (iincP i 1) (by decide) rfl (fun ls hl => ?_)
            have hl : lv_has ls 4 [(3, .int (nI (i + 1))), (2, .int ((rfHrO σ n pa i) + (nI 0))), (0, .ref M), (1, .int pa)] := hl
            refine lv_goto (tgt := 4) S.1 S.2.1 dX8_heardOf_47 rfl ?_
            have hl : lv_has ls 4 [(2, .int (rfHrO σ n pa (i + 1))), (3, .int (nI (i + 1))), (0, .ref M), (1, .int pa)] := by
              rw [show (rfHrO σ n pa (i + 1)) = ((rfHrO σ n pa i) + (nI 0)) from by rw [rfHrO, if_pos h2, if_neg h3]]
              exact lv_sub hl [1, 0, 2, 3] rfl
            exact ih _ (by omega) (i + 1) ls rfl (by omega)  (lv_sub hl [0, 1, 2, 3] rfl)
          · skip
            refine lv_aload_n S.1 S.2.1 dX8_heardOf_33 rfl (lv_at hl 2 rfl) ?_
            refine lv_iload_n S.1 S.2.1 dX8_heardOf_34 rfl (lv_at hl 1 rfl) ?_
            refine xk_R (v := (rfHrd σ n i)) (x_runV (As := [.int (nI i)]) (rest := [.int (rfHrO σ n pa i)]) S hE hS (fun _ h => h.elim) (c_X8_heard l E M ps ty re σ i n _ ho hs hn hn2 hb (by omega)) kv_X8_heard kw21_8 kw21_9 kw21_10 (x_recv hE (ho) (ci := 8) rfl) ⟨Nat.le_of_ble_eq_true rfl, Nat.le_of_ble_eq_true rfl⟩ rfl rfl rfl hl.1 rfl (Nat.le_of_ble_eq_true rfl) dX8_heardOf_35 ⟨Nat.zero_le _, Nat.zero_le _⟩) ?_
            refine lv_goto (tgt := 42) S.1 S.2.1 dX8_heardOf_38 rfl ?_
            refine lv_iadd S.1 S.2.1 dX8_heardOf_42 ?_
            refine lv_istore_n S.1 S.2.1 dX8_heardOf_43 rfl hl (by decide) rfl (fun ls hl => ?_)
            have hl : lv_has ls 4 [(2, .int ((rfHrO σ n pa i) + (rfHrd σ n i))), (3, .int (nI i)), (0, .ref M), (1, .int pa)] := hl
            refine lv_iinc (k := 1) (v := (nI (i + 1))) S.1 S.2.1 dX8_heardOf_44 hl rfl (iincP i 1) (by decide) rfl (fun ls hl => ?_)
            have hl : lv_has ls 4 [(3, .int (nI (i + 1))), (2, .int ((rfHrO σ n pa i) + (rfHrd σ n i))), (0, .ref M), (1, .int pa)] := hl
            refine lv_goto (tgt := 4) S.1 S.2.1 dX8_heardOf_47 rfl ?_
            have hl : lv_has ls 4 [(2, .int (rfHrO σ n pa (i + 1))), (3, .int (nI (i + 1))), (0, .ref M), (1, .int pa)] := by
              rw [show (rfHrO σ n pa (i + 1)) = ((rfHrO σ n pa i) + (rfHrd σ n i)) from by rw [rfHrO, if_pos h2, if_pos h3]]
              exact lv_sub hl [1, 0, 2, 3] rfl
            exact ih _ (by omega) (i + 1) ls rfl (by omega)  (lv_sub hl [0, 1, 2, 3] rfl)
  exact hloop4 _ 0 ls rfl (Nat.zero_le _)  (lv_sub hl [1, 0, 2, 3] rfl)
abbrev rm_X8_heardOfAll : Room := ({ frames := 5, cells := 0, slots := 0, locals := 110 } : Room)
set_option maxRecDepth 100000 in
set_option maxHeartbeats 600000 in
theorem c_X8_heardOfAll (l : Launch) (E : XE) (M : Nat) (ps ty re : Int32) (σ : Nat → Int32) (n : Nat) (H : Heap) (ho : RfO E M ps ty re H) (hs : XI E (M + 1) 1670 σ H) (hn : σ 0 = nI n) (hn2 : n ≤ 200) (hb : 0 ≤ σ 8) : Rd l E yX8_heardOfAll cX8_heardOfAll 1 (some .int) rm_X8_heardOfAll [.ref M] H (rfHrA σ n) := by
  refine met_of (by decide) (Nat.le_of_ble_eq_true rfl) (fun p e s m args below meth c hBD Q hQ ls hl => ?_)
  obtain ⟨S, hr, hlk, hnm, hE, hH⟩ := hBD
  subst hH
  have hl : lv_has ls 1 [(0, .ref M)] := hl
  have hS : va_S (fun _ => False) s.heap s.heap [] := va_S.rf
  refine lv_aload_n S.1 S.2.1 dX8_heardOfAll_0 rfl (lv_at hl 0 rfl) ?_
  refine lv_iconst (v := (nI 0)) S.1 S.2.1 dX8_heardOfAll_1 (by decide) ?_
  refine xk_R (v := (rfHrO σ n (nI 0) n)) (x_runV (As := [.int (nI 0)]) (rest := []) S hE hS (fun _ h => h.elim) (c_X8_heardOf l E M ps ty re σ (nI 0) n _ ho hs hn hn2 hb) kv_X8_heardOf kw23_4 kw23_5 kw23_6 (x_recv hE (ho) (ci := 8) rfl) ⟨Nat.le_of_ble_eq_true rfl, Nat.le_of_ble_eq_true rfl⟩ rfl rfl rfl hl.1 rfl (Nat.le_of_ble_eq_true rfl) dX8_heardOfAll_2 ⟨Nat.zero_le _, Nat.zero_le _⟩) ?_
  refine lv_aload_n S.1 S.2.1 dX8_heardOfAll_5 rfl (lv_at hl 0 rfl) ?_
  refine lv_iconst (v := (nI 1)) S.1 S.2.1 dX8_heardOfAll_6 (by decide) ?_
  refine xk_R (v := (rfHrO σ n (nI 1) n)) (x_runV (As := [.int (nI 1)]) (rest := [.int (rfHrO σ n (nI 0) n)]) S hE hS (fun _ h => h.elim) (c_X8_heardOf l E M ps ty re σ (nI 1) n _ ho hs hn hn2 hb) kv_X8_heardOf kw23_4 kw23_5 kw23_6 (x_recv hE (ho) (ci := 8) rfl) ⟨Nat.le_of_ble_eq_true rfl, Nat.le_of_ble_eq_true rfl⟩ rfl rfl rfl hl.1 rfl (Nat.le_of_ble_eq_true rfl) dX8_heardOfAll_7 ⟨Nat.zero_le _, Nat.zero_le _⟩) ?_
  refine lv_iadd S.1 S.2.1 dX8_heardOfAll_10 ?_
  refine lv_aload_n S.1 S.2.1 dX8_heardOfAll_11 rfl (lv_at hl 0 rfl) ?_
  refine lv_iconst (v := (nI 2)) S.1 S.2.1 dX8_heardOfAll_12 (by decide) ?_
  refine xk_R (v := (rfHrO σ n (nI 2) n)) (x_runV (As := [.int (nI 2)]) (rest := [.int ((rfHrO σ n (nI 0) n) + (rfHrO σ n (nI 1) n))]) S hE hS (fun _ h => h.elim) (c_X8_heardOf l E M ps ty re σ (nI 2) n _ ho hs hn hn2 hb) kv_X8_heardOf kw23_4 kw23_5 kw23_6 (x_recv hE (ho) (ci := 8) rfl) ⟨Nat.le_of_ble_eq_true rfl, Nat.le_of_ble_eq_true rfl⟩ rfl rfl rfl hl.1 rfl (Nat.le_of_ble_eq_true rfl) dX8_heardOfAll_13 ⟨Nat.zero_le _, Nat.zero_le _⟩) ?_
  refine lv_iadd S.1 S.2.1 dX8_heardOfAll_16 ?_
  refine lv_aload_n S.1 S.2.1 dX8_heardOfAll_17 rfl (lv_at hl 0 rfl) ?_
  refine lv_iconst (v := (nI 3)) S.1 S.2.1 dX8_heardOfAll_18 (by decide) ?_
  refine xk_R (v := (rfHrO σ n (nI 3) n)) (x_runV (As := [.int (nI 3)]) (rest := [.int (((rfHrO σ n (nI 0) n) + (rfHrO σ n (nI 1) n)) + (rfHrO σ n (nI 2) n))]) S hE hS (fun _ h => h.elim) (c_X8_heardOf l E M ps ty re σ (nI 3) n _ ho hs hn hn2 hb) kv_X8_heardOf kw23_4 kw23_5 kw23_6 (x_recv hE (ho) (ci := 8) rfl) ⟨Nat.le_of_ble_eq_true rfl, Nat.le_of_ble_eq_true rfl⟩ rfl rfl rfl hl.1 rfl (Nat.le_of_ble_eq_true rfl) dX8_heardOfAll_19 ⟨Nat.zero_le _, Nat.zero_le _⟩) ?_
  refine lv_iadd S.1 S.2.1 dX8_heardOfAll_22 ?_
  subst hQ
  exact x_retR S hr hlk (rfl) (rfl) dX8_heardOfAll_23
abbrev rm_X8_free : Room := ({ frames := 3, cells := 0, slots := 0, locals := 65 } : Room)
set_option maxRecDepth 100000 in
set_option maxHeartbeats 600000 in
theorem c_X8_free (l : Launch) (E : XE) (M : Nat) (ps ty re : Int32) (σ : Nat → Int32) (n : Nat) (H : Heap) (ho : RfO E M ps ty re H) (hs : XI E (M + 1) 1670 σ H) (hn : σ 0 = nI n) (hn2 : n ≤ 200) : Rd l E yX8_free cX8_free 2 (some .int) rm_X8_free [.ref M] H (rfFree σ n) := by
  refine met_of (by decide) (Nat.le_of_ble_eq_true rfl) (fun p e s m args below meth c hBD Q hQ ls hl => ?_)
  obtain ⟨S, hr, hlk, hnm, hE, hH⟩ := hBD
  subst hH
  have hl : lv_has ls 2 [(0, .ref M)] := hl
  have hS : va_S (fun _ => False) s.heap s.heap [] := va_S.rf
  refine lv_aload_n S.1 S.2.1 dX8_free_0 rfl (lv_at hl 0 rfl) ?_
  refine x_get S hE (ho) (C := RX8) (T := TX8) (N := 10) rfl inlX8 0 (by decide) (v := .ref (M + 1)) rfl kw7_6 rfl dX8_free_1 ?_
  refine lv_bipush (v := (nI 6)) S.1 S.2.1 dX8_free_4 (by decide) ?_
  refine x_iald S hE (hs) 6 rfl (by decide) (by decide) dX8_free_6 ?_
  refine lv_aload_n S.1 S.2.1 dX8_free_7 rfl (lv_at hl 0 rfl) ?_
  refine xk_R (v := (rfPlc σ n)) (x_runV (As := []) (rest := [.int (σ 6)]) S hE hS (fun _ h => h.elim) (c_X8_placed l E M ps ty re σ n _ ho hs hn hn2) kv_X8_placed kw13_19 kw13_20 kw13_21 (x_recv hE (ho) (ci := 8) rfl) ⟨Nat.le_of_ble_eq_true rfl, Nat.le_of_ble_eq_true rfl⟩ rfl rfl rfl hl.1 rfl (Nat.le_of_ble_eq_true rfl) dX8_free_8 ⟨Nat.zero_le _, Nat.zero_le _⟩) ?_
  refine lv_isub S.1 S.2.1 dX8_free_11 ?_
  refine lv_istore_n S.1 S.2.1 dX8_free_12 rfl hl (by decide) rfl (fun ls hl => ?_)
  have hl : lv_has ls 2 [(1, .int ((σ 6) - (rfPlc σ n))), (0, .ref M)] := hl
  refine lv_iload_n S.1 S.2.1 dX8_free_13 rfl (lv_at hl 0 rfl) ?_
  refine lv_if_ge (tgt := 21) S.1 S.2.1 dX8_free_14 rfl (fun h1 => ?_) (fun h1 => ?_)
  · skip
    refine lv_iload_n S.1 S.2.1 dX8_free_21 rfl (lv_at hl 0 rfl) ?_
    subst hQ
    exact x_retR S hr hlk (rfl) (by rw [rfFree, if_pos h1]; first | done | rfl) dX8_free_22
  · skip
    refine lv_iconst (v := (nI 0)) S.1 S.2.1 dX8_free_17 (by decide) ?_
    refine lv_goto (tgt := 22) S.1 S.2.1 dX8_free_18 rfl ?_
    subst hQ
    exact x_retR S hr hlk (rfl) (by rw [rfFree, if_neg h1]; first | done | rfl) dX8_free_22
abbrev rm_X8_lifts : Room := ({ frames := 2, cells := 0, slots := 0, locals := 44 } : Room)
set_option maxRecDepth 100000 in
set_option maxHeartbeats 600000 in
theorem c_X8_lifts (l : Launch) (E : XE) (M : Nat) (ps ty re : Int32) (σ : Nat → Int32) (n : Nat) (H : Heap) (ho : RfO E M ps ty re H) (hs : XI E (M + 1) 1670 σ H) (hn : σ 0 = nI n) (hn2 : n ≤ 200) : Wr l E yX8_lifts cX8_lifts 3 (some .int) rm_X8_lifts [.ref M] H (fun q => q = M + 1) (fun v H => v = (rfLN σ n).2 ∧ XI E (M + 1) 1670 (rfLN σ n).1 H) := by
  refine met_of (by decide) (Nat.le_of_ble_eq_true rfl) (fun p e s m args below meth c hBD Q hQ ls hl => ?_)
  obtain ⟨S, hr, hlk, hnm, hE, hH⟩ := hBD
  subst hH
  have hl : lv_has ls 3 [(0, .ref M)] := hl
  have hO : Out (fun q => q = M + 1) s.heap s.heap := Out.rf
  have hS : va_S (fun q => q = M + 1) s.heap s.heap [] := va_S.rf
  refine lv_iconst (v := (nI 0)) S.1 S.2.1 dX8_lifts_0 (by decide) ?_
  refine lv_istore_n S.1 S.2.1 dX8_lifts_1 rfl hl (by decide) rfl (fun ls hl => ?_)
  have hl : lv_has ls 3 [(1, .int (nI 0)), (0, .ref M)] := hl
  refine lv_aload_n S.1 S.2.1 dX8_lifts_2 rfl (lv_at hl 1 rfl) ?_
  refine x_get S hE (ho) (C := RX8) (T := TX8) (N := 10) rfl inlX8 0 (by decide) (v := .ref (M + 1)) rfl kw7_6 rfl dX8_lifts_3 ?_
  refine lv_iconst (v := (nI 2)) S.1 S.2.1 dX8_lifts_6 (by decide) ?_
  refine lv_iconst (v := (nI 0)) S.1 S.2.1 dX8_lifts_7 (by decide) ?_
  refine x_iast S hE hS (rfl) (hs) 2 rfl (by decide) (by decide) dX8_lifts_8 (fun H locs hX hO1 hS => ?_)
  have hO := hO.tr hO1 (fun q h => h)
  have ho := va_at.kept ho (hO1.2 _ (fun z => by have z : M = M + 1 := z; omega))
  have hs : XI E (M + 1) 1670 (upd σ 2 (nI 0)) H := hX
  have hn : (upd σ 2 (nI 0)) 0 = nI n := (pk_un (by decide)).trans hn
  refine lv_iconst (v := (nI 0)) S.1 S.2.1 dX8_lifts_9 (by decide) ?_
  refine lv_istore_n S.1 S.2.1 dX8_lifts_10 rfl hl (by decide) rfl (fun ls hl => ?_)
  have hl : lv_has ls 3 [(2, .int (nI 0)), (1, .int (nI 0)), (0, .ref M)] := hl
  have hloop11 : ∀ (d : Nat) (i : Nat) (H : Heap) (locs : List Loc) (ls : Array Slot), n - i = d → i ≤ n → (rfLN σ i).1 0 = nI n → RfO E M ps ty re H → XI E (M + 1) 1670 (rfLN σ i).1 H → Out (fun q => q = M + 1) s.heap H → va_S (fun q => q = M + 1) s.heap H locs → lv_has ls 3 [(1, .int (rfLN σ i).2), (2, .int (nI i)), (0, .ref M)] → W p l e rm_X8_lifts s m args below meth c H locs 0 0 Q (F0 m 11 ls []) := by
    intro d
    induction d using Nat.strongRecOn with
    | ind d ih =>
      intro i H locs ls hd hi hn ho hs hO hS hl
      refine lv_iload_n S.1 S.2.1 dX8_lifts_11 rfl (lv_at hl 1 rfl) ?_
      refine lv_aload_n S.1 S.2.1 dX8_lifts_12 rfl (lv_at hl 2 rfl) ?_
      refine x_get S hE (ho) (C := RX8) (T := TX8) (N := 10) rfl inlX8 0 (by decide) (v := .ref (M + 1)) rfl kw7_6 rfl dX8_lifts_13 ?_
      refine lv_iconst (v := (nI 0)) S.1 S.2.1 dX8_lifts_16 (by decide) ?_
      refine x_iald S hE (hs) 0 rfl (by decide) (by decide) dX8_lifts_17 ?_
      refine x_top (y := (nI n)) (hn) ?_
      refine lv_icmp_ge (tgt := 54) S.1 S.2.1 dX8_lifts_18 rfl (fun h1 => ?_) (fun h1 => ?_)
      · skip
        have hge : i = n := (by have := ge_of_le (by omega) (by omega) h1; omega)
        refine lv_iload_n S.1 S.2.1 dX8_lifts_54 rfl (lv_at hl 0 rfl) ?_
        subst hQ
        refine x_retW S hr hlk (rfl) hS hO ?_ dX8_lifts_55
        exact ⟨by rw [hge], hge ▸ hs⟩
      · skip
        have hlt : i < n := lt_of_nle (by omega) (by omega) h1
        refine lv_aload_n S.1 S.2.1 dX8_lifts_21 rfl (lv_at hl 2 rfl) ?_
        refine lv_iload_n S.1 S.2.1 dX8_lifts_22 rfl (lv_at hl 1 rfl) ?_
        refine xk_R (v := (bI (rfPl (rfLN σ i).1 i))) (x_runV (As := [.int (nI i)]) (rest := []) S hE hS (fun _ h => h.elim) (c_X8_hasPlace l E M ps ty re (rfLN σ i).1 i _ ho hs (by omega)) kv_X8_hasPlace kw12_18 kw12_19 kw12_20 (x_recv hE (ho) (ci := 8) rfl) ⟨Nat.le_of_ble_eq_true rfl, Nat.le_of_ble_eq_true rfl⟩ rfl rfl rfl hl.1 rfl (Nat.le_of_ble_eq_true rfl) dX8_lifts_23 ⟨Nat.zero_le _, Nat.zero_le _⟩) ?_
        refine lv_if_eq (tgt := 48) S.1 S.2.1 dX8_lifts_26 rfl (fun h2 => ?_) (fun h2 => ?_)
        · skip
          have h2 := bI_0 h2
          refine lv_iinc (k := 1) (v := (nI (i + 1))) S.1 S.2.1 dX8_lifts_48 hl rfl (iincP i 1) (by decide) rfl (fun ls hl => ?_)
          have hl : lv_has ls 3 [(2, .int (nI (i + 1))), (1, .int (rfLN σ i).2), (0, .ref M)] := hl
          refine lv_goto (tgt := 11) S.1 S.2.1 dX8_lifts_51 rfl ?_
          have hq : rfLN σ (i + 1) = rfLN σ i := by rw [rfLN, if_neg (fun z => h2 z.1)]
          have hs : XI E (M + 1) 1670 (rfLN σ (i + 1)).1 H := by rw [hq]; exact hs
          have hn : (rfLN σ (i + 1)).1 0 = nI n := by rw [hq]; exact hn
          have hl : lv_has ls 3 [(1, .int (rfLN σ (i + 1)).2), (2, .int (nI (i + 1))), (0, .ref M)] := by
            rw [show (rfLN σ (i + 1)).2 = (rfLN σ i).2 from by rw [hq]]
            exact lv_sub hl [1, 0, 2] rfl
          exact ih _ (by omega) (i + 1) _ _ ls rfl (by omega) (hn) (ho) (hs) (hO) (hS) (lv_sub hl [0, 1, 2] rfl)
        · skip
          have h2 := bI_n0 h2
          refine lv_aload_n S.1 S.2.1 dX8_lifts_29 rfl (lv_at hl 2 rfl) ?_
          refine lv_iload_n S.1 S.2.1 dX8_lifts_30 rfl (lv_at hl 1 rfl) ?_
          refine lv_bipush (v := (nI 6)) S.1 S.2.1 dX8_lifts_31 (by decide) ?_
          refine xk_R (v := (nf (rfLN σ i).1 i 6)) (x_runV (As := [.int (nI i), .int (nI 6)]) (rest := []) S hE hS (fun _ h => h.elim) (c_X8_of l E M ps ty re (rfLN σ i).1 i 6 _ ho hs (by omega) (by omega)) kv_X8_of kw12_22 kw12_23 kw13_0 (x_recv hE (ho) (ci := 8) rfl) ⟨Nat.le_of_ble_eq_true rfl, Nat.le_of_ble_eq_true rfl⟩ rfl rfl rfl hl.1 rfl (Nat.le_of_ble_eq_true rfl) dX8_lifts_33 ⟨Nat.zero_le _, Nat.zero_le _⟩) ?_
          refine lv_iconst (v := (nI 1)) S.1 S.2.1 dX8_lifts_36 (by decide) ?_
          refine lv_icmp_ne (tgt := 48) S.1 S.2.1 dX8_lifts_37 rfl (fun h3 => ?_) (fun h3 => ?_)
          · skip
            refine lv_iinc (k := 1) (v := (nI (i + 1))) S.1 S.2.1 dX8_lifts_48 hl rfl (iincP i 1) (by decide) rfl (fun ls hl => ?_)
            have hl : lv_has ls 3 [(2, .int (nI (i + 1))), (1, .int (rfLN σ i).2), (0, .ref M)] := hl
            refine lv_goto (tgt := 11) S.1 S.2.1 dX8_lifts_51 rfl ?_
            have hq : rfLN σ (i + 1) = rfLN σ i := by rw [rfLN, if_neg (fun z => h3 z.2)]
            have hs : XI E (M + 1) 1670 (rfLN σ (i + 1)).1 H := by rw [hq]; exact hs
            have hn : (rfLN σ (i + 1)).1 0 = nI n := by rw [hq]; exact hn
            have hl : lv_has ls 3 [(1, .int (rfLN σ (i + 1)).2), (2, .int (nI (i + 1))), (0, .ref M)] := by
              rw [show (rfLN σ (i + 1)).2 = (rfLN σ i).2 from by rw [hq]]
              exact lv_sub hl [1, 0, 2] rfl
            exact ih _ (by omega) (i + 1) _ _ ls rfl (by omega) (hn) (ho) (hs) (hO) (hS) (lv_sub hl [0, 1, 2] rfl)
          · skip
            refine lv_aload_n S.1 S.2.1 dX8_lifts_40 rfl (lv_at hl 2 rfl) ?_
            refine lv_iload_n S.1 S.2.1 dX8_lifts_41 rfl (lv_at hl 1 rfl) ?_
            refine xk_V (x_runV (As := [.int (nI i)]) (rest := []) S hE hS (fun q h => h) (c_X8_fades l E M ps ty re (rfLN σ i).1 i _ ho hs (by omega)) kv_X8_fades kw15_8 kw15_9 kw15_10 (x_recv hE (ho) (ci := 8) rfl) ⟨Nat.le_of_ble_eq_true rfl, Nat.le_of_ble_eq_true rfl⟩ rfl rfl rfl hl.1 rfl (Nat.le_of_ble_eq_true rfl) dX8_lifts_42 ⟨Nat.zero_le _, Nat.zero_le _⟩) hS (fun q h => h) (fun H locs hX hO1 hS => ?_)
            have hO := hO.tr hO1 (fun q h => h)
            have ho := va_at.kept ho (hO1.2 _ (fun z => by have z : M = M + 1 := z; omega))
            have hs : XI E (M + 1) 1670 (rfFades (rfLN σ i).1 i) H := hX
            have hn : (rfFades (rfLN σ i).1 i) 0 = nI n := (rfFades_0 (by decide)).trans hn
            refine lv_iinc (k := 0) (v := ((rfLN σ i).2 + nI 1)) S.1 S.2.1 dX8_lifts_45 hl rfl (rfl) (by decide) rfl (fun ls hl => ?_)
            have hl : lv_has ls 3 [(1, .int ((rfLN σ i).2 + nI 1)), (2, .int (nI i)), (0, .ref M)] := hl
            refine lv_iinc (k := 1) (v := (nI (i + 1))) S.1 S.2.1 dX8_lifts_48 hl rfl (iincP i 1) (by decide) rfl (fun ls hl => ?_)
            have hl : lv_has ls 3 [(2, .int (nI (i + 1))), (1, .int ((rfLN σ i).2 + nI 1)), (0, .ref M)] := hl
            refine lv_goto (tgt := 11) S.1 S.2.1 dX8_lifts_51 rfl ?_
            have hq : rfLN σ (i + 1) = (rfFades (rfLN σ i).1 i, (rfLN σ i).2 + nI 1) := by rw [rfLN, if_pos ⟨h2, h3⟩]
            have hs : XI E (M + 1) 1670 (rfLN σ (i + 1)).1 H := by rw [hq]; exact hs
            have hn : (rfLN σ (i + 1)).1 0 = nI n := by rw [hq]; exact hn
            have hl : lv_has ls 3 [(1, .int (rfLN σ (i + 1)).2), (2, .int (nI (i + 1))), (0, .ref M)] := by
              rw [show (rfLN σ (i + 1)).2 = ((rfLN σ i).2 + nI 1) from by rw [hq]]
              exact lv_sub hl [1, 0, 2] rfl
            exact ih _ (by omega) (i + 1) _ _ ls rfl (by omega) (hn) (ho) (hs) (hO) (hS) (lv_sub hl [0, 1, 2] rfl)
  exact hloop11 _ 0 _ _ ls rfl (Nat.zero_le _) (hn) (ho) (hs) (hO) (hS) (lv_sub hl [1, 0, 2] rfl)
abbrev rm_X8_comesIn : Room := ({ frames := 3, cells := 0, slots := 0, locals := 67 } : Room)
set_option maxRecDepth 100000 in
set_option maxHeartbeats 600000 in
theorem c_X8_comesIn (l : Launch) (E : XE) (M : Nat) (ps ty re : Int32) (σ : Nat → Int32) (n : Nat) (H : Heap) (ho : RfO E M ps ty re H) (hs : XI E (M + 1) 1670 σ H) (hn : σ 0 = nI n) (hn2 : n ≤ 200) : Wv l E yX8_comesIn cX8_comesIn 4 rm_X8_comesIn [.ref M] H (fun q => q = M + 1) (XI E (M + 1) 1670 (rfCi n n 0 σ)) := by
  refine met_of (by decide) (Nat.le_of_ble_eq_true rfl) (fun p e s m args below meth c hBD Q hQ ls hl => ?_)
  obtain ⟨S, hr, hlk, hnm, hE, hH⟩ := hBD
  subst hH
  have hl : lv_has ls 4 [(0, .ref M)] := hl
  have hO : Out (fun q => q = M + 1) s.heap s.heap := Out.rf
  have hS : va_S (fun q => q = M + 1) s.heap s.heap [] := va_S.rf
  refine lv_iconst (v := (nI 1)) S.1 S.2.1 dX8_comesIn_0 (by decide) ?_
  refine lv_istore_n S.1 S.2.1 dX8_comesIn_1 rfl hl (by decide) rfl (fun ls hl => ?_)
  have hl : lv_has ls 4 [(1, .int (nI 1)), (0, .ref M)] := hl
  refine lv_iconst (v := (nI 0)) S.1 S.2.1 dX8_comesIn_2 (by decide) ?_
  refine lv_istore_n S.1 S.2.1 dX8_comesIn_3 rfl hl (by decide) rfl (fun ls hl => ?_)
  have hl : lv_has ls 4 [(2, .int (nI 0)), (1, .int (nI 1)), (0, .ref M)] := hl
  have hloop4 : ∀ (d : Nat) (k : Nat) (r : Nat → Int32) (g : Int32) (H : Heap) (locs : List Loc) (ls : Array Slot), n - k = d → k ≤ n → r 0 = nI n → (g = nI 1 ∧ rfCi n (n - k) k r = rfCi n n 0 σ) ∨ (g = 0 ∧ r = rfCi n n 0 σ) → RfO E M ps ty re H → XI E (M + 1) 1670 r H → Out (fun q => q = M + 1) s.heap H → va_S (fun q => q = M + 1) s.heap H locs → lv_has ls 4 [(1, .int g), (2, .int (nI k)), (0, .ref M)] → W p l e rm_X8_comesIn s m args below meth c H locs 0 0 Q (F0 m 4 ls []) := by
    intro d
    induction d using Nat.strongRecOn with
    | ind d ih =>
      intro k r g H locs ls hd hk hn hv ho hs hO hS hl
      refine lv_iload_n S.1 S.2.1 dX8_comesIn_4 rfl (lv_at hl 1 rfl) ?_
      refine lv_aload_n S.1 S.2.1 dX8_comesIn_5 rfl (lv_at hl 2 rfl) ?_
      refine x_get S hE (ho) (C := RX8) (T := TX8) (N := 10) rfl inlX8 0 (by decide) (v := .ref (M + 1)) rfl kw7_6 rfl dX8_comesIn_6 ?_
      refine lv_iconst (v := (nI 0)) S.1 S.2.1 dX8_comesIn_9 (by decide) ?_
      refine x_iald S hE (hs) 0 rfl (by decide) (by decide) dX8_comesIn_10 ?_
      refine x_top (y := (nI n)) (hn) ?_
      refine lv_icmp_ge (tgt := 100) S.1 S.2.1 dX8_comesIn_11 rfl (fun h1 => ?_) (fun h1 => ?_)
      · skip
        have hge : k = n := (by have := ge_of_le (by omega) (by omega) h1; omega)
        have hre : r = rfCi n n 0 σ := by
          rcases hv with ⟨_, q⟩ | ⟨_, q⟩
          · rw [hge, Nat.sub_self] at q; exact q
          · exact q
        subst hQ
        refine x_retV S hr hlk hS hO ?_ dX8_comesIn_100
        exact hre ▸ hs
      · skip
        have hlt : k < n := lt_of_nle (by omega) (by omega) h1
        refine lv_iload_n S.1 S.2.1 dX8_comesIn_14 rfl (lv_at hl 0 rfl) ?_
        refine lv_if_eq (tgt := 100) S.1 S.2.1 dX8_comesIn_15 rfl (fun h2 => ?_) (fun h2 => ?_)
        · skip
          have hre : r = rfCi n n 0 σ := by
            rcases hv with ⟨q, _⟩ | ⟨_, q⟩
            · exact absurd (q.symm.trans h2) (by decide)
            · exact q
          subst hQ
          refine x_retV S hr hlk hS hO ?_ dX8_comesIn_100
          exact hre ▸ hs
        · skip
          have hg : g = nI 1 := by
            rcases hv with ⟨q, _⟩ | ⟨q, _⟩
            · exact q
            · exact absurd q h2
          have hq : rfCi n ((n - (k + 1)) + 1) k r = rfCi n n 0 σ := by
            rcases hv with ⟨_, q⟩ | ⟨q, _⟩
            · rw [show n - (k + 1) + 1 = n - k from by omega]; exact q
            · exact absurd q h2
          refine lv_aload_n S.1 S.2.1 dX8_comesIn_18 rfl (lv_at hl 2 rfl) ?_
          refine lv_iload_n S.1 S.2.1 dX8_comesIn_19 rfl (lv_at hl 1 rfl) ?_
          refine lv_iconst (v := (nI 3)) S.1 S.2.1 dX8_comesIn_20 (by decide) ?_
          refine xk_R (v := (nf r k 3)) (x_runV (As := [.int (nI k), .int (nI 3)]) (rest := []) S hE hS (fun _ h => h.elim) (c_X8_of l E M ps ty re r k 3 _ ho hs (by omega) (by omega)) kv_X8_of kw12_22 kw12_23 kw13_0 (x_recv hE (ho) (ci := 8) rfl) ⟨Nat.le_of_ble_eq_true rfl, Nat.le_of_ble_eq_true rfl⟩ rfl rfl rfl hl.1 rfl (Nat.le_of_ble_eq_true rfl) dX8_comesIn_21 ⟨Nat.zero_le _, Nat.zero_le _⟩) ?_
          refine lv_if_ne (tgt := 94) S.1 S.2.1 dX8_comesIn_24 rfl (fun h3 => ?_) (fun h3 => ?_)
          · skip
            refine lv_iinc (k := 1) (v := (nI (k + 1))) S.1 S.2.1 dX8_comesIn_94 hl rfl (iincP k 1) (by decide) rfl (fun ls hl => ?_)
            have hl : lv_has ls 4 [(2, .int (nI (k + 1))), (1, .int g), (0, .ref M)] := hl
            refine lv_goto (tgt := 4) S.1 S.2.1 dX8_comesIn_97 rfl ?_
            rw [rfCi, if_neg h3] at hq
            exact ih _ (by omega) (k + 1) r g _ _ ls rfl (by omega) (hn) (Or.inl ⟨hg, hq⟩) (ho) (hs) (hO) (hS) (lv_sub hl [1, 0, 2] rfl)
          · skip
            refine lv_aload_n S.1 S.2.1 dX8_comesIn_27 rfl (lv_at hl 2 rfl) ?_
            refine lv_aload_n S.1 S.2.1 dX8_comesIn_28 rfl (lv_at hl 2 rfl) ?_
            refine lv_iload_n S.1 S.2.1 dX8_comesIn_29 rfl (lv_at hl 1 rfl) ?_
            refine lv_iconst (v := (nI 0)) S.1 S.2.1 dX8_comesIn_30 (by decide) ?_
            refine xk_R (v := (nf r k 0)) (x_runV (As := [.int (nI k), .int (nI 0)]) (rest := [.ref M]) S hE hS (fun _ h => h.elim) (c_X8_of l E M ps ty re r k 0 _ ho hs (by omega) (by omega)) kv_X8_of kw12_22 kw12_23 kw13_0 (x_recv hE (ho) (ci := 8) rfl) ⟨Nat.le_of_ble_eq_true rfl, Nat.le_of_ble_eq_true rfl⟩ rfl rfl rfl hl.1 rfl (Nat.le_of_ble_eq_true rfl) dX8_comesIn_31 ⟨Nat.zero_le _, Nat.zero_le _⟩) ?_
            refine lv_aload_n S.1 S.2.1 dX8_comesIn_34 rfl (lv_at hl 2 rfl) ?_
            refine lv_iload_n S.1 S.2.1 dX8_comesIn_35 rfl (lv_at hl 1 rfl) ?_
            refine lv_iconst (v := (nI 1)) S.1 S.2.1 dX8_comesIn_36 (by decide) ?_
            refine xk_R (v := (nf r k 1)) (x_runV (As := [.int (nI k), .int (nI 1)]) (rest := [.int (nf r k 0), .ref M]) S hE hS (fun _ h => h.elim) (c_X8_of l E M ps ty re r k 1 _ ho hs (by omega) (by omega)) kv_X8_of kw12_22 kw12_23 kw13_0 (x_recv hE (ho) (ci := 8) rfl) ⟨Nat.le_of_ble_eq_true rfl, Nat.le_of_ble_eq_true rfl⟩ rfl rfl rfl hl.1 rfl (Nat.le_of_ble_eq_true rfl) dX8_comesIn_37 ⟨Nat.zero_le _, Nat.zero_le _⟩) ?_
            refine xk_R (v := (oi (rfV r (nf r k 0) (nf r k 1) n))) (x_runV (As := [.int (nf r k 0), .int (nf r k 1)]) (rest := []) S hE hS (fun _ h => h.elim) (c_X8_voiceOf l E M ps ty re r (nf r k 0) (nf r k 1) n _ ho hs hn hn2) kv_X8_voiceOf kw12_14 kw12_15 kw12_16 (x_recv hE (ho) (ci := 8) rfl) ⟨Nat.le_of_ble_eq_true rfl, Nat.le_of_ble_eq_true rfl⟩ rfl rfl rfl hl.1 rfl (Nat.le_of_ble_eq_true rfl) dX8_comesIn_40 ⟨Nat.zero_le _, Nat.zero_le _⟩) ?_
            refine lv_istore_n S.1 S.2.1 dX8_comesIn_43 rfl hl (by decide) rfl (fun ls hl => ?_)
            have hl : lv_has ls 4 [(3, .int (oi (rfV r (nf r k 0) (nf r k 1) n))), (1, .int g), (2, .int (nI k)), (0, .ref M)] := hl
            rcases hv2 : rfV r (nf r k 0) (nf r k 1) n with _ | j2
            · rw [hv2] at hl
              have hl : lv_has ls 4 [(3, .int (-4)), (1, .int g), (2, .int (nI k)), (0, .ref M)] := hl
              refine lv_iload_n S.1 S.2.1 dX8_comesIn_44 rfl (lv_at hl 0 rfl) ?_
              refine lv_if_lt (tgt := 70) S.1 S.2.1 dX8_comesIn_45 rfl (fun h4 => ?_) (fun h4 => ?_)
              · skip
                refine lv_aload_n S.1 S.2.1 dX8_comesIn_70 rfl (lv_at hl 3 rfl) ?_
                refine xk_R (v := (rfPlc r n)) (x_runV (As := []) (rest := []) S hE hS (fun _ h => h.elim) (c_X8_placed l E M ps ty re r n _ ho hs hn hn2) kv_X8_placed kw13_19 kw13_20 kw13_21 (x_recv hE (ho) (ci := 8) rfl) ⟨Nat.le_of_ble_eq_true rfl, Nat.le_of_ble_eq_true rfl⟩ rfl rfl rfl hl.1 rfl (Nat.le_of_ble_eq_true rfl) dX8_comesIn_71 ⟨Nat.zero_le _, Nat.zero_le _⟩) ?_
                refine lv_aload_n S.1 S.2.1 dX8_comesIn_74 rfl (lv_at hl 3 rfl) ?_
                refine x_get S hE (ho) (C := RX8) (T := TX8) (N := 10) rfl inlX8 0 (by decide) (v := .ref (M + 1)) rfl kw7_6 rfl dX8_comesIn_75 ?_
                refine lv_bipush (v := (nI 6)) S.1 S.2.1 dX8_comesIn_78 (by decide) ?_
                refine x_iald S hE (hs) 6 rfl (by decide) (by decide) dX8_comesIn_80 ?_
                refine lv_icmp_ge (tgt := 92) S.1 S.2.1 dX8_comesIn_81 rfl (fun h5 => ?_) (fun h5 => ?_)
                · skip
                  refine lv_iconst (v := (nI 0)) S.1 S.2.1 dX8_comesIn_92 (by decide) ?_
                  refine lv_istore_n S.1 S.2.1 dX8_comesIn_93 rfl hl (by decide) rfl (fun ls hl => ?_)
                  have hl : lv_has ls 4 [(1, .int (nI 0)), (3, .int (-4)), (2, .int (nI k)), (0, .ref M)] := hl
                  refine lv_iinc (k := 2) (v := (nI (k + 1))) S.1 S.2.1 dX8_comesIn_94 hl rfl (iincP k 1) (by decide) rfl (fun ls hl => ?_)
                  have hl : lv_has ls 4 [(2, .int (nI (k + 1))), (1, .int (nI 0)), (3, .int (-4)), (0, .ref M)] := hl
                  refine lv_goto (tgt := 4) S.1 S.2.1 dX8_comesIn_97 rfl ?_
                  rw [rfCi, if_pos h3, hv2] at hq
                  have hq : (if rfPlc r n < r 6 then rfCi n (n - (k + 1)) (k + 1) (rfSings r k) else r) = rfCi n n 0 σ := hq
                  rw [if_neg (Int32.not_lt.mpr h5)] at hq
                  exact ih _ (by omega) (k + 1) r (nI 0) _ _ ls rfl (by omega) (hn) (Or.inr ⟨rfl, hq⟩) (ho) (hs) (hO) (hS) (lv_sub hl [1, 0, 3] rfl)
                · skip
                  refine lv_aload_n S.1 S.2.1 dX8_comesIn_84 rfl (lv_at hl 3 rfl) ?_
                  refine lv_iload_n S.1 S.2.1 dX8_comesIn_85 rfl (lv_at hl 2 rfl) ?_
                  refine xk_V (x_runV (As := [.int (nI k)]) (rest := []) S hE hS (fun q h => h) (c_X8_sings l E M ps ty re r k _ ho hs (by omega)) kv_X8_sings kw14_7 kw14_8 kw14_9 (x_recv hE (ho) (ci := 8) rfl) ⟨Nat.le_of_ble_eq_true rfl, Nat.le_of_ble_eq_true rfl⟩ rfl rfl rfl hl.1 rfl (Nat.le_of_ble_eq_true rfl) dX8_comesIn_86 ⟨Nat.zero_le _, Nat.zero_le _⟩) hS (fun q h => h) (fun H locs hX hO1 hS => ?_)
                  have hO := hO.tr hO1 (fun q h => h)
                  have ho := va_at.kept ho (hO1.2 _ (fun z => by have z : M = M + 1 := z; omega))
                  have hs : XI E (M + 1) 1670 (rfSings r k) H := hX
                  have hn : (rfSings r k) 0 = nI n := (rfSings_0 (by decide)).trans hn
                  refine lv_goto (tgt := 94) S.1 S.2.1 dX8_comesIn_89 rfl ?_
                  refine lv_iinc (k := 2) (v := (nI (k + 1))) S.1 S.2.1 dX8_comesIn_94 hl rfl (iincP k 1) (by decide) rfl (fun ls hl => ?_)
                  have hl : lv_has ls 4 [(2, .int (nI (k + 1))), (3, .int (-4)), (1, .int g), (0, .ref M)] := hl
                  refine lv_goto (tgt := 4) S.1 S.2.1 dX8_comesIn_97 rfl ?_
                  rw [rfCi, if_pos h3, hv2] at hq
                  have hq : (if rfPlc r n < r 6 then rfCi n (n - (k + 1)) (k + 1) (rfSings r k) else r) = rfCi n n 0 σ := hq
                  rw [if_pos (i_nle h5)] at hq
                  exact ih _ (by omega) (k + 1) (rfSings r k) g _ _ ls rfl (by omega) (hn) (Or.inl ⟨hg, hq⟩) (ho) (hs) (hO) (hS) (lv_sub hl [2, 0, 3] rfl)
              · exact absurd h4 (by decide)
            · rw [hv2] at hl
              have hl : lv_has ls 4 [(3, .int (nI j2)), (1, .int g), (2, .int (nI k)), (0, .ref M)] := hl
              have j2b := rfV_lt hv2
              refine lv_iload_n S.1 S.2.1 dX8_comesIn_44 rfl (lv_at hl 0 rfl) ?_
              refine lv_if_lt (tgt := 70) S.1 S.2.1 dX8_comesIn_45 rfl (fun h6 => ?_) (fun h6 => ?_)
              · exact absurd h6 (nI_pos (by omega))
              · skip
                refine lv_aload_n S.1 S.2.1 dX8_comesIn_48 rfl (lv_at hl 3 rfl) ?_
                refine lv_iload_n S.1 S.2.1 dX8_comesIn_49 rfl (lv_at hl 2 rfl) ?_
                refine lv_iconst (v := (nI 3)) S.1 S.2.1 dX8_comesIn_50 (by decide) ?_
                refine lv_bipush (v := (nI 6)) S.1 S.2.1 dX8_comesIn_51 (by decide) ?_
                refine xk_V (x_runV (As := [.int (nI k), .int (nI 3), .int (nI 6)]) (rest := []) S hE hS (fun q h => h) (c_X8_puts l E M ps ty re r k 3 (nI 6) _ ho hs (by omega) (by omega)) kv_X8_puts kw13_11 kw13_12 kw13_13 (x_recv hE (ho) (ci := 8) rfl) ⟨Nat.le_of_ble_eq_true rfl, Nat.le_of_ble_eq_true rfl⟩ rfl rfl rfl hl.1 rfl (Nat.le_of_ble_eq_true rfl) dX8_comesIn_53 ⟨Nat.zero_le _, Nat.zero_le _⟩) hS (fun q h => h) (fun H locs hX hO1 hS => ?_)
                have hO := hO.tr hO1 (fun q h => h)
                have ho := va_at.kept ho (hO1.2 _ (fun z => by have z : M = M + 1 := z; omega))
                have hs : XI E (M + 1) 1670 (nset r k 3 (nI 6)) H := hX
                have hn : (nset r k 3 (nI 6)) 0 = nI n := ((nset_lo (by decide))).trans hn
                refine lv_aload_n S.1 S.2.1 dX8_comesIn_56 rfl (lv_at hl 3 rfl) ?_
                refine lv_iload_n S.1 S.2.1 dX8_comesIn_57 rfl (lv_at hl 0 rfl) ?_
                refine lv_aload_n S.1 S.2.1 dX8_comesIn_58 rfl (lv_at hl 3 rfl) ?_
                refine lv_iload_n S.1 S.2.1 dX8_comesIn_59 rfl (lv_at hl 2 rfl) ?_
                refine lv_iconst (v := (nI 2)) S.1 S.2.1 dX8_comesIn_60 (by decide) ?_
                refine xk_R (v := (nf (nset r k 3 (nI 6)) k 2)) (x_runV (As := [.int (nI k), .int (nI 2)]) (rest := [.int (nI j2), .ref M]) S hE hS (fun _ h => h.elim) (c_X8_of l E M ps ty re (nset r k 3 (nI 6)) k 2 _ ho hs (by omega) (by omega)) kv_X8_of kw12_22 kw12_23 kw13_0 (x_recv hE (ho) (ci := 8) rfl) ⟨Nat.le_of_ble_eq_true rfl, Nat.le_of_ble_eq_true rfl⟩ rfl rfl rfl hl.1 rfl (Nat.le_of_ble_eq_true rfl) dX8_comesIn_61 ⟨Nat.zero_le _, Nat.zero_le _⟩) ?_
                refine xk_V (x_runV (As := [.int (nI j2), .int (nf (nset r k 3 (nI 6)) k 2)]) (rest := []) S hE hS (fun q h => h) (c_X8_anew l E M ps ty re (nset r k 3 (nI 6)) j2 (nf (nset r k 3 (nI 6)) k 2) _ ho hs (by omega)) kv_X8_anew kw13_7 kw13_8 kw13_9 (x_recv hE (ho) (ci := 8) rfl) ⟨Nat.le_of_ble_eq_true rfl, Nat.le_of_ble_eq_true rfl⟩ rfl rfl rfl hl.1 rfl (Nat.le_of_ble_eq_true rfl) dX8_comesIn_64 ⟨Nat.zero_le _, Nat.zero_le _⟩) hS (fun q h => h) (fun H locs hX hO1 hS => ?_)
                have hO := hO.tr hO1 (fun q h => h)
                have ho := va_at.kept ho (hO1.2 _ (fun z => by have z : M = M + 1 := z; omega))
                have hs : XI E (M + 1) 1670 (rfAnew (nset r k 3 (nI 6)) j2 (nf (nset r k 3 (nI 6)) k 2)) H := hX
                have hn : (rfAnew (nset r k 3 (nI 6)) j2 (nf (nset r k 3 (nI 6)) k 2)) 0 = nI n := (rfAnew_0 (by decide)).trans hn
                refine lv_goto (tgt := 94) S.1 S.2.1 dX8_comesIn_67 rfl ?_
                refine lv_iinc (k := 2) (v := (nI (k + 1))) S.1 S.2.1 dX8_comesIn_94 hl rfl (iincP k 1) (by decide) rfl (fun ls hl => ?_)
                have hl : lv_has ls 4 [(2, .int (nI (k + 1))), (3, .int (nI j2)), (1, .int g), (0, .ref M)] := hl
                refine lv_goto (tgt := 4) S.1 S.2.1 dX8_comesIn_97 rfl ?_
                rw [rfCi, if_pos h3, hv2] at hq
                exact ih _ (by omega) (k + 1) (rfAnew (nset r k 3 (nI 6)) j2 (nf (nset r k 3 (nI 6)) k 2)) g _ _ ls rfl (by omega) (hn) (Or.inl ⟨hg, hq⟩) (ho) (hs) (hO) (hS) (lv_sub hl [2, 0, 3] rfl)
  exact hloop4 _ 0 σ (nI 1) _ _ ls rfl (Nat.zero_le _) (hn) (Or.inl ⟨rfl, rfl⟩) (ho) (hs) (hO) (hS) (lv_sub hl [1, 0, 2] rfl)
abbrev rm_X8_ticks : Room := ({ frames := 4, cells := 0, slots := 0, locals := 90 } : Room)
set_option maxRecDepth 100000 in
set_option maxHeartbeats 600000 in
theorem c_X8_ticks (l : Launch) (E : XE) (M : Nat) (ps ty re : Int32) (σ : Nat → Int32) (n : Nat) (H : Heap) (ho : RfO E M ps ty re H) (hs : XI E (M + 1) 1670 σ H) (hn : σ 0 = nI n) (hn2 : n ≤ 200) : Wv l E yX8_ticks cX8_ticks 2 rm_X8_ticks [.ref M] H (fun q => q = M + 1) (XI E (M + 1) 1670 (rfTick σ n)) := by
  refine met_of (by decide) (Nat.le_of_ble_eq_true rfl) (fun p e s m args below meth c hBD Q hQ ls hl => ?_)
  obtain ⟨S, hr, hlk, hnm, hE, hH⟩ := hBD
  subst hH
  have hl : lv_has ls 2 [(0, .ref M)] := hl
  have hO : Out (fun q => q = M + 1) s.heap s.heap := Out.rf
  have hS : va_S (fun q => q = M + 1) s.heap s.heap [] := va_S.rf
  refine lv_aload_n S.1 S.2.1 dX8_ticks_0 rfl (lv_at hl 0 rfl) ?_
  refine x_get S hE (ho) (C := RX8) (T := TX8) (N := 10) rfl inlX8 0 (by decide) (v := .ref (M + 1)) rfl kw7_6 rfl dX8_ticks_1 ?_
  refine lv_iconst (v := (nI 1)) S.1 S.2.1 dX8_ticks_4 (by decide) ?_
  refine lv_dup2_11 S.1 S.2.1 dX8_ticks_5 rfl rfl ?_
  refine x_iald S hE (hs) 1 rfl (by decide) (by decide) dX8_ticks_6 ?_
  refine lv_iconst (v := (nI 1)) S.1 S.2.1 dX8_ticks_7 (by decide) ?_
  refine lv_iadd S.1 S.2.1 dX8_ticks_8 ?_
  refine x_iast S hE hS (rfl) (hs) 1 rfl (by decide) (by decide) dX8_ticks_9 (fun H locs hX hO1 hS => ?_)
  have hO := hO.tr hO1 (fun q h => h)
  have ho := va_at.kept ho (hO1.2 _ (fun z => by have z : M = M + 1 := z; omega))
  have hs : XI E (M + 1) 1670 (upd σ 1 ((σ 1) + (nI 1))) H := hX
  have hn : (upd σ 1 ((σ 1) + (nI 1))) 0 = nI n := (pk_un (by decide)).trans hn
  refine lv_iconst (v := (nI 0)) S.1 S.2.1 dX8_ticks_10 (by decide) ?_
  refine lv_istore_n S.1 S.2.1 dX8_ticks_11 rfl hl (by decide) rfl (fun ls hl => ?_)
  have hl : lv_has ls 2 [(1, .int (nI 0)), (0, .ref M)] := hl
  have hloop12 : ∀ (d : Nat) (i : Nat) (H : Heap) (locs : List Loc) (ls : Array Slot), n - i = d → i ≤ n → rfMvN σ i 0 = nI n → RfO E M ps ty re H → XI E (M + 1) 1670 (rfMvN σ i) H → Out (fun q => q = M + 1) s.heap H → va_S (fun q => q = M + 1) s.heap H locs → lv_has ls 2 [(1, .int (nI i)), (0, .ref M)] → W p l e rm_X8_ticks s m args below meth c H locs 0 0 Q (F0 m 12 ls []) := by
    intro d
    induction d using Nat.strongRecOn with
    | ind d ih =>
      intro i H locs ls hd hi hn ho hs hO hS hl
      refine lv_iload_n S.1 S.2.1 dX8_ticks_12 rfl (lv_at hl 0 rfl) ?_
      refine lv_aload_n S.1 S.2.1 dX8_ticks_13 rfl (lv_at hl 1 rfl) ?_
      refine x_get S hE (ho) (C := RX8) (T := TX8) (N := 10) rfl inlX8 0 (by decide) (v := .ref (M + 1)) rfl kw7_6 rfl dX8_ticks_14 ?_
      refine lv_iconst (v := (nI 0)) S.1 S.2.1 dX8_ticks_17 (by decide) ?_
      refine x_iald S hE (hs) 0 rfl (by decide) (by decide) dX8_ticks_18 ?_
      refine x_top (y := (nI n)) (hn) ?_
      refine lv_icmp_ge (tgt := 33) S.1 S.2.1 dX8_ticks_19 rfl (fun h1 => ?_) (fun h1 => ?_)
      · skip
        have hge : i = n := (by have := ge_of_le (by omega) (by omega) h1; omega)
        have hs : XI E (M + 1) 1670 (rfMvN σ n) H := hge ▸ hs
        have hn : rfMvN σ n 0 = nI n := (congrArg (fun j => rfMvN σ j 0) hge.symm).trans hn
        refine lv_aload_n S.1 S.2.1 dX8_ticks_33 rfl (lv_at hl 1 rfl) ?_
        refine xk_V (x_runV (As := []) (rest := []) S hE hS (fun q h => h) (c_X8_comesIn l E M ps ty re (rfMvN σ n) n _ ho hs hn hn2) kv_X8_comesIn kw19_11 kw19_12 kw19_13 (x_recv hE (ho) (ci := 8) rfl) ⟨Nat.le_of_ble_eq_true rfl, Nat.le_of_ble_eq_true rfl⟩ rfl rfl rfl hl.1 rfl (Nat.le_of_ble_eq_true rfl) dX8_ticks_34 ⟨Nat.zero_le _, Nat.zero_le _⟩) hS (fun q h => h) (fun H locs hX hO1 hS => ?_)
        have hO := hO.tr hO1 (fun q h => h)
        have ho := va_at.kept ho (hO1.2 _ (fun z => by have z : M = M + 1 := z; omega))
        have hs : XI E (M + 1) 1670 (rfCi n n 0 (rfMvN σ n)) H := hX
        have hn : (rfCi n n 0 (rfMvN σ n)) 0 = nI n := (rfCi_0 (by decide) _ _ _).trans hn
        subst hQ
        refine x_retV S hr hlk hS hO ?_ dX8_ticks_37
        exact hs
      · skip
        have hlt : i < n := lt_of_nle (by omega) (by omega) h1
        refine lv_aload_n S.1 S.2.1 dX8_ticks_22 rfl (lv_at hl 1 rfl) ?_
        refine lv_iload_n S.1 S.2.1 dX8_ticks_23 rfl (lv_at hl 0 rfl) ?_
        refine xk_V (x_runV (As := [.int (nI i)]) (rest := []) S hE hS (fun q h => h) (c_X8_moves l E M ps ty re (rfMvN σ i) i _ ho hs (by omega)) kv_X8_moves kw18_15 kw18_16 kw18_17 (x_recv hE (ho) (ci := 8) rfl) ⟨Nat.le_of_ble_eq_true rfl, Nat.le_of_ble_eq_true rfl⟩ rfl rfl rfl hl.1 rfl (Nat.le_of_ble_eq_true rfl) dX8_ticks_24 ⟨Nat.zero_le _, Nat.zero_le _⟩) hS (fun q h => h) (fun H locs hX hO1 hS => ?_)
        have hO := hO.tr hO1 (fun q h => h)
        have ho := va_at.kept ho (hO1.2 _ (fun z => by have z : M = M + 1 := z; omega))
        have hs : XI E (M + 1) 1670 (rfMv (rfMvN σ i) i) H := hX
        have hn : (rfMv (rfMvN σ i) i) 0 = nI n := (rfMv_0 (by decide)).trans hn
        refine lv_iinc (k := 0) (v := (nI (i + 1))) S.1 S.2.1 dX8_ticks_27 hl rfl (iincP i 1) (by decide) rfl (fun ls hl => ?_)
        have hl : lv_has ls 2 [(1, .int (nI (i + 1))), (0, .ref M)] := hl
        refine lv_goto (tgt := 12) S.1 S.2.1 dX8_ticks_30 rfl ?_
        exact ih _ (by omega) (i + 1) _ _ ls rfl (by omega) (hn) (ho) (hs) (hO) (hS) (lv_sub hl [0, 1] rfl)
  exact hloop12 _ 0 _ _ ls rfl (Nat.zero_le _) (hn) (ho) (hs) (hO) (hS) (lv_sub hl [0, 1] rfl)
abbrev rm_X8_sentHome : Room := ({ frames := 2, cells := 0, slots := 0, locals := 45 } : Room)
set_option maxRecDepth 100000 in
set_option maxHeartbeats 600000 in
theorem c_X8_sentHome (l : Launch) (E : XE) (M : Nat) (ps ty re : Int32) (σ : Nat → Int32) (n : Nat) (H : Heap) (ho : RfO E M ps ty re H) (hs : XI E (M + 1) 1670 σ H) (hn : σ 0 = nI n) (hn2 : n ≤ 200) : Rd l E yX8_sentHome cX8_sentHome 6 (some .int) rm_X8_sentHome [.ref M] H (oi (rfNx σ n)) := by
  refine met_of (by decide) (Nat.le_of_ble_eq_true rfl) (fun p e s m args below meth c hBD Q hQ ls hl => ?_)
  obtain ⟨S, hr, hlk, hnm, hE, hH⟩ := hBD
  subst hH
  have hl : lv_has ls 6 [(0, .ref M)] := hl
  have hS : va_S (fun _ => False) s.heap s.heap [] := va_S.rf
  refine lv_aload_n S.1 S.2.1 dX8_sentHome_0 rfl (lv_at hl 0 rfl) ?_
  refine lv_iconst (v := (nI 4)) S.1 S.2.1 dX8_sentHome_1 (by decide) ?_
  refine xk_R (v := (rfMany σ (nI 4) n)) (x_runV (As := [.int (nI 4)]) (rest := []) S hE hS (fun _ h => h.elim) (c_X8_many l E M ps ty re σ (nI 4) n _ ho hs hn hn2) kv_X8_many kw13_23 kw14_0 kw14_1 (x_recv hE (ho) (ci := 8) rfl) ⟨Nat.le_of_ble_eq_true rfl, Nat.le_of_ble_eq_true rfl⟩ rfl rfl rfl hl.1 rfl (Nat.le_of_ble_eq_true rfl) dX8_sentHome_2 ⟨Nat.zero_le _, Nat.zero_le _⟩) ?_
  refine lv_if_le (tgt := 12) S.1 S.2.1 dX8_sentHome_5 rfl (fun h1 => ?_) (fun h1 => ?_)
  · skip
    have hz : rfSz σ n = nI 0 := if_pos h1
    refine lv_iconst (v := (nI 0)) S.1 S.2.1 dX8_sentHome_12 (by decide) ?_
    refine lv_istore_n S.1 S.2.1 dX8_sentHome_13 rfl hl (by decide) rfl (fun ls hl => ?_)
    have hl : lv_has ls 6 [(1, .int (nI 0)), (0, .ref M)] := hl
    refine lv_bipush (v := (-4)) S.1 S.2.1 dX8_sentHome_14 (by decide) ?_
    refine lv_istore_n S.1 S.2.1 dX8_sentHome_16 rfl hl (by decide) rfl (fun ls hl => ?_)
    have hl : lv_has ls 6 [(2, .int (-4)), (1, .int (nI 0)), (0, .ref M)] := hl
    refine lv_iconst (v := (nI 0)) S.1 S.2.1 dX8_sentHome_17 (by decide) ?_
    refine lv_istore_n S.1 S.2.1 dX8_sentHome_18 rfl hl (by decide) rfl (fun ls hl => ?_)
    have hl : lv_has ls 6 [(3, .int (nI 0)), (2, .int (-4)), (1, .int (nI 0)), (0, .ref M)] := hl
    have hloop19 : ∀ (d : Nat) (i : Nat) (ls : Array Slot), n - i = d → i ≤ n → i = 0 ∨ σ 7 < nI 2 → lv_has ls 6 [(2, .int (oi (rfSH σ (nI 0) i))), (3, .int (nI i)), (0, .ref M), (1, .int (nI 0))] → W p l e rm_X8_sentHome s m args below meth c s.heap [] 0 0 Q (F0 m 19 ls []) := by
      intro d
      induction d using Nat.strongRecOn with
      | ind d ih =>
        intro i ls hd hi hv  hl
        refine lv_iload_n S.1 S.2.1 dX8_sentHome_19 rfl (lv_at hl 1 rfl) ?_
        refine lv_aload_n S.1 S.2.1 dX8_sentHome_20 rfl (lv_at hl 2 rfl) ?_
        refine x_get S hE (ho) (C := RX8) (T := TX8) (N := 10) rfl inlX8 0 (by decide) (v := .ref (M + 1)) rfl kw7_6 rfl dX8_sentHome_21 ?_
        refine lv_iconst (v := (nI 0)) S.1 S.2.1 dX8_sentHome_24 (by decide) ?_
        refine x_iald S hE (hs) 0 rfl (by decide) (by decide) dX8_sentHome_25 ?_
        refine x_top (y := (nI n)) (hn) ?_
        refine lv_icmp_ge (tgt := 177) S.1 S.2.1 dX8_sentHome_26 rfl (fun h2 => ?_) (fun h2 => ?_)
        · skip
          have hge : i = n := (by have := ge_of_le (by omega) (by omega) h2; omega)
          refine lv_iload_n S.1 S.2.1 dX8_sentHome_177 rfl (lv_at hl 0 rfl) ?_
          subst hQ
          exact x_retR S hr hlk (rfl) (by rw [hge, rfNx_a hz (hge ▸ hv)]) dX8_sentHome_178
        · skip
          have hlt : i < n := lt_of_nle (by omega) (by omega) h2
          refine lv_aload_n S.1 S.2.1 dX8_sentHome_29 rfl (lv_at hl 2 rfl) ?_
          refine x_get S hE (ho) (C := RX8) (T := TX8) (N := 10) rfl inlX8 0 (by decide) (v := .ref (M + 1)) rfl kw7_6 rfl dX8_sentHome_30 ?_
          refine lv_bipush (v := (nI 7)) S.1 S.2.1 dX8_sentHome_33 (by decide) ?_
          refine x_iald S hE (hs) 7 rfl (by decide) (by decide) dX8_sentHome_35 ?_
          refine lv_iconst (v := (nI 2)) S.1 S.2.1 dX8_sentHome_36 (by decide) ?_
          refine lv_icmp_ge (tgt := 177) S.1 S.2.1 dX8_sentHome_37 rfl (fun h3 => ?_) (fun h3 => ?_)
          · skip
            refine lv_iload_n S.1 S.2.1 dX8_sentHome_177 rfl (lv_at hl 0 rfl) ?_
            subst hQ
            exact x_retR S hr hlk (rfl) (by rw [rfNx_b hv h3]) dX8_sentHome_178
          · skip
            refine lv_iload_n S.1 S.2.1 dX8_sentHome_40 rfl (lv_at hl 3 rfl) ?_
            refine lv_if_eq (tgt := 57) S.1 S.2.1 dX8_sentHome_41 rfl (fun h4 => ?_) (fun h4 => ?_)
            · skip
              refine lv_aload_n S.1 S.2.1 dX8_sentHome_57 rfl (lv_at hl 2 rfl) ?_
              refine lv_iload_n S.1 S.2.1 dX8_sentHome_58 rfl (lv_at hl 1 rfl) ?_
              refine xk_R (v := (bI (rfPl σ i))) (x_runV (As := [.int (nI i)]) (rest := []) S hE hS (fun _ h => h.elim) (c_X8_hasPlace l E M ps ty re σ i _ ho hs (by omega)) kv_X8_hasPlace kw12_18 kw12_19 kw12_20 (x_recv hE (ho) (ci := 8) rfl) ⟨Nat.le_of_ble_eq_true rfl, Nat.le_of_ble_eq_true rfl⟩ rfl rfl rfl hl.1 rfl (Nat.le_of_ble_eq_true rfl) dX8_sentHome_59 ⟨Nat.zero_le _, Nat.zero_le _⟩) ?_
              refine lv_if_eq (tgt := 171) S.1 S.2.1 dX8_sentHome_62 rfl (fun h5 => ?_) (fun h5 => ?_)
              · skip
                have h5 := bI_0 h5
                refine lv_iinc (k := 1) (v := (nI (i + 1))) S.1 S.2.1 dX8_sentHome_171 hl rfl (iincP i 1) (by decide) rfl (fun ls hl => ?_)
                have hl : lv_has ls 6 [(3, .int (nI (i + 1))), (2, .int (oi (rfSH σ (nI 0) i))), (0, .ref M), (1, .int (nI 0))] := hl
                refine lv_goto (tgt := 19) S.1 S.2.1 dX8_sentHome_174 rfl ?_
                have hl : lv_has ls 6 [(2, .int (oi (rfSH σ (nI 0) (i + 1)))), (3, .int (nI (i + 1))), (0, .ref M), (1, .int (nI 0))] := by
                  rw [show (oi (rfSH σ (nI 0) (i + 1))) = (oi (rfSH σ (nI 0) i)) from by rw [rfSH, if_neg (fun z => z.elim (fun q => h5 q.2) (fun q => q.1 rfl))]]
                  exact lv_sub hl [1, 0, 2, 3] rfl
                exact ih _ (by omega) (i + 1) ls rfl (by omega) (Or.inr (i_nle h3))  (lv_sub hl [0, 1, 2, 3] rfl)
              · skip
                have h5 := bI_n0 h5
                rcases hv2 : rfSH σ (nI 0) i with _ | j2
                · rw [hv2] at hl
                  have hl : lv_has ls 6 [(2, .int (-4)), (3, .int (nI i)), (0, .ref M), (1, .int (nI 0))] := hl
                  refine lv_iload_n S.1 S.2.1 dX8_sentHome_65 rfl (lv_at hl 0 rfl) ?_
                  refine lv_if_lt (tgt := 94) S.1 S.2.1 dX8_sentHome_66 rfl (fun h6 => ?_) (fun h6 => ?_)
                  · skip
                    refine lv_iconst (v := (nI 1)) S.1 S.2.1 dX8_sentHome_94 (by decide) ?_
                    refine lv_goto (tgt := 99) S.1 S.2.1 dX8_sentHome_95 rfl ?_
                    refine lv_istore S.1 S.2.1 dX8_sentHome_99 hl (by decide) rfl (fun ls hl => ?_)
                    have hl : lv_has ls 6 [(4, .int (nI 1)), (2, .int (-4)), (3, .int (nI i)), (0, .ref M), (1, .int (nI 0))] := hl
                    refine lv_iload_n S.1 S.2.1 dX8_sentHome_101 rfl (lv_at hl 1 rfl) ?_
                    refine lv_if_lt (tgt := 135) S.1 S.2.1 dX8_sentHome_102 rfl (fun h7 => ?_) (fun h7 => ?_)
                    · skip
                      refine lv_iconst (v := (nI 0)) S.1 S.2.1 dX8_sentHome_135 (by decide) ?_
                      refine lv_istore S.1 S.2.1 dX8_sentHome_136 hl (by decide) rfl (fun ls hl => ?_)
                      have hl : lv_has ls 6 [(5, .int (nI 0)), (4, .int (nI 1)), (2, .int (-4)), (3, .int (nI i)), (0, .ref M), (1, .int (nI 0))] := hl
                      refine lv_iload S.1 S.2.1 dX8_sentHome_138 (lv_at hl 1 rfl) ?_
                      refine lv_if_ne (tgt := 165) S.1 S.2.1 dX8_sentHome_140 rfl (fun h8 => ?_) (fun h8 => ?_)
                      · skip
                        refine lv_iload_n S.1 S.2.1 dX8_sentHome_165 rfl (lv_at hl 3 rfl) ?_
                        refine lv_goto (tgt := 170) S.1 S.2.1 dX8_sentHome_166 rfl ?_
                        refine lv_istore_n S.1 S.2.1 dX8_sentHome_170 rfl hl (by decide) rfl (fun ls hl => ?_)
                        have hl : lv_has ls 6 [(2, .int (nI i)), (5, .int (nI 0)), (4, .int (nI 1)), (3, .int (nI i)), (0, .ref M), (1, .int (nI 0))] := hl
                        refine lv_iinc (k := 3) (v := (nI (i + 1))) S.1 S.2.1 dX8_sentHome_171 hl rfl (iincP i 1) (by decide) rfl (fun ls hl => ?_)
                        have hl : lv_has ls 6 [(3, .int (nI (i + 1))), (2, .int (nI i)), (5, .int (nI 0)), (4, .int (nI 1)), (0, .ref M), (1, .int (nI 0))] := hl
                        refine lv_goto (tgt := 19) S.1 S.2.1 dX8_sentHome_174 rfl ?_
                        have hl : lv_has ls 6 [(2, .int (oi (rfSH σ (nI 0) (i + 1)))), (3, .int (nI (i + 1))), (0, .ref M), (1, .int (nI 0))] := by
                          rw [show (oi (rfSH σ (nI 0) (i + 1))) = (nI i) from by rw [rfSH_no (z := (nI 0)) (Or.inl ⟨rfl, h5⟩) hv2]; first | done | rfl]
                          exact lv_sub hl [1, 0, 4, 5] rfl
                        exact ih _ (by omega) (i + 1) ls rfl (by omega) (Or.inr (i_nle h3))  (lv_sub hl [0, 1, 2, 3] rfl)
                      · exact absurd h8 (by decide)
                    · exact absurd h7 (by decide)
                  · exact absurd h6 (by decide)
                · rw [hv2] at hl
                  have hl : lv_has ls 6 [(2, .int (nI j2)), (3, .int (nI i)), (0, .ref M), (1, .int (nI 0))] := hl
                  have j2b := rfSH_lt hv2
                  refine lv_iload_n S.1 S.2.1 dX8_sentHome_65 rfl (lv_at hl 0 rfl) ?_
                  refine lv_if_lt (tgt := 94) S.1 S.2.1 dX8_sentHome_66 rfl (fun h9 => ?_) (fun h9 => ?_)
                  · exact absurd h9 (nI_pos (by omega))
                  · skip
                    refine lv_aload_n S.1 S.2.1 dX8_sentHome_69 rfl (lv_at hl 2 rfl) ?_
                    refine x_get S hE (ho) (C := RX8) (T := TX8) (N := 10) rfl inlX8 0 (by decide) (v := .ref (M + 1)) rfl kw7_6 rfl dX8_sentHome_70 ?_
                    refine lv_bipush (v := (nI 7)) S.1 S.2.1 dX8_sentHome_73 (by decide) ?_
                    refine x_iald S hE (hs) 7 rfl (by decide) (by decide) dX8_sentHome_75 ?_
                    refine lv_if_ne (tgt := 98) S.1 S.2.1 dX8_sentHome_76 rfl (fun h10 => ?_) (fun h10 => ?_)
                    · skip
                      refine lv_iconst (v := (nI 0)) S.1 S.2.1 dX8_sentHome_98 (by decide) ?_
                      refine lv_istore S.1 S.2.1 dX8_sentHome_99 hl (by decide) rfl (fun ls hl => ?_)
                      have hl : lv_has ls 6 [(4, .int (nI 0)), (2, .int (nI j2)), (3, .int (nI i)), (0, .ref M), (1, .int (nI 0))] := hl
                      refine lv_iload_n S.1 S.2.1 dX8_sentHome_101 rfl (lv_at hl 1 rfl) ?_
                      refine lv_if_lt (tgt := 135) S.1 S.2.1 dX8_sentHome_102 rfl (fun h11 => ?_) (fun h11 => ?_)
                      · exact absurd h11 (nI_pos (by omega))
                      · skip
                        refine lv_aload_n S.1 S.2.1 dX8_sentHome_105 rfl (lv_at hl 3 rfl) ?_
                        refine x_get S hE (ho) (C := RX8) (T := TX8) (N := 10) rfl inlX8 0 (by decide) (v := .ref (M + 1)) rfl kw7_6 rfl dX8_sentHome_106 ?_
                        refine lv_bipush (v := (nI 7)) S.1 S.2.1 dX8_sentHome_109 (by decide) ?_
                        refine x_iald S hE (hs) 7 rfl (by decide) (by decide) dX8_sentHome_111 ?_
                        refine lv_iconst (v := (nI 1)) S.1 S.2.1 dX8_sentHome_112 (by decide) ?_
                        refine lv_icmp_eq (tgt := 131) S.1 S.2.1 dX8_sentHome_113 rfl (fun h12 => ?_) (fun h12 => ?_)
                        · skip
                          refine lv_iconst (v := (nI 1)) S.1 S.2.1 dX8_sentHome_131 (by decide) ?_
                          refine lv_goto (tgt := 136) S.1 S.2.1 dX8_sentHome_132 rfl ?_
                          refine lv_istore S.1 S.2.1 dX8_sentHome_136 hl (by decide) rfl (fun ls hl => ?_)
                          have hl : lv_has ls 6 [(5, .int (nI 1)), (4, .int (nI 0)), (2, .int (nI j2)), (3, .int (nI i)), (0, .ref M), (1, .int (nI 0))] := hl
                          refine lv_iload S.1 S.2.1 dX8_sentHome_138 (lv_at hl 1 rfl) ?_
                          refine lv_if_ne (tgt := 165) S.1 S.2.1 dX8_sentHome_140 rfl (fun h13 => ?_) (fun h13 => ?_)
                          · exact absurd h13 (by decide)
                          · skip
                            refine lv_iload S.1 S.2.1 dX8_sentHome_143 (lv_at hl 0 rfl) ?_
                            refine lv_if_eq (tgt := 169) S.1 S.2.1 dX8_sentHome_145 rfl (fun h14 => ?_) (fun h14 => ?_)
                            · exact absurd h14 (by decide)
                            · skip
                              refine lv_aload_n S.1 S.2.1 dX8_sentHome_148 rfl (lv_at hl 4 rfl) ?_
                              refine lv_iload_n S.1 S.2.1 dX8_sentHome_149 rfl (lv_at hl 3 rfl) ?_
                              refine lv_bipush (v := (nI 7)) S.1 S.2.1 dX8_sentHome_150 (by decide) ?_
                              refine xk_R (v := (nf σ i 7)) (x_runV (As := [.int (nI i), .int (nI 7)]) (rest := []) S hE hS (fun _ h => h.elim) (c_X8_of l E M ps ty re σ i 7 _ ho hs (by omega) (by omega)) kv_X8_of kw12_22 kw12_23 kw13_0 (x_recv hE (ho) (ci := 8) rfl) ⟨Nat.le_of_ble_eq_true rfl, Nat.le_of_ble_eq_true rfl⟩ rfl rfl rfl hl.1 rfl (Nat.le_of_ble_eq_true rfl) dX8_sentHome_152 ⟨Nat.zero_le _, Nat.zero_le _⟩) ?_
                              refine lv_aload_n S.1 S.2.1 dX8_sentHome_155 rfl (lv_at hl 4 rfl) ?_
                              refine lv_iload_n S.1 S.2.1 dX8_sentHome_156 rfl (lv_at hl 2 rfl) ?_
                              refine lv_bipush (v := (nI 7)) S.1 S.2.1 dX8_sentHome_157 (by decide) ?_
                              refine xk_R (v := (nf σ j2 7)) (x_runV (As := [.int (nI j2), .int (nI 7)]) (rest := [.int (nf σ i 7)]) S hE hS (fun _ h => h.elim) (c_X8_of l E M ps ty re σ j2 7 _ ho hs (by omega) (by omega)) kv_X8_of kw12_22 kw12_23 kw13_0 (x_recv hE (ho) (ci := 8) rfl) ⟨Nat.le_of_ble_eq_true rfl, Nat.le_of_ble_eq_true rfl⟩ rfl rfl rfl hl.1 rfl (Nat.le_of_ble_eq_true rfl) dX8_sentHome_159 ⟨Nat.zero_le _, Nat.zero_le _⟩) ?_
                              refine lv_icmp_ge (tgt := 169) S.1 S.2.1 dX8_sentHome_162 rfl (fun h15 => ?_) (fun h15 => ?_)
                              · skip
                                refine lv_iload_n S.1 S.2.1 dX8_sentHome_169 rfl (lv_at hl 2 rfl) ?_
                                refine lv_istore_n S.1 S.2.1 dX8_sentHome_170 rfl hl (by decide) rfl (fun ls hl => ?_)
                                have hl : lv_has ls 6 [(2, .int (nI j2)), (5, .int (nI 1)), (4, .int (nI 0)), (3, .int (nI i)), (0, .ref M), (1, .int (nI 0))] := hl
                                refine lv_iinc (k := 3) (v := (nI (i + 1))) S.1 S.2.1 dX8_sentHome_171 hl rfl (iincP i 1) (by decide) rfl (fun ls hl => ?_)
                                have hl : lv_has ls 6 [(3, .int (nI (i + 1))), (2, .int (nI j2)), (5, .int (nI 1)), (4, .int (nI 0)), (0, .ref M), (1, .int (nI 0))] := hl
                                refine lv_goto (tgt := 19) S.1 S.2.1 dX8_sentHome_174 rfl ?_
                                have hl : lv_has ls 6 [(2, .int (oi (rfSH σ (nI 0) (i + 1)))), (3, .int (nI (i + 1))), (0, .ref M), (1, .int (nI 0))] := by
                                  rw [show (oi (rfSH σ (nI 0) (i + 1))) = (nI j2) from by rw [rfSH_nay (z := (nI 0)) (Or.inl ⟨rfl, h5⟩) hv2 (by unfold rfBt; rw [decide_eq_false h10, decide_eq_true h12, decide_eq_false (Int32.not_lt.mpr h15)]; first | done | rfl)]; first | done | rfl]
                                  exact lv_sub hl [1, 0, 4, 5] rfl
                                exact ih _ (by omega) (i + 1) ls rfl (by omega) (Or.inr (i_nle h3))  (lv_sub hl [0, 1, 2, 3] rfl)
                              · skip
                                refine lv_iload_n S.1 S.2.1 dX8_sentHome_165 rfl (lv_at hl 3 rfl) ?_
                                refine lv_goto (tgt := 170) S.1 S.2.1 dX8_sentHome_166 rfl ?_
                                refine lv_istore_n S.1 S.2.1 dX8_sentHome_170 rfl hl (by decide) rfl (fun ls hl => ?_)
                                have hl : lv_has ls 6 [(2, .int (nI i)), (5, .int (nI 1)), (4, .int (nI 0)), (3, .int (nI i)), (0, .ref M), (1, .int (nI 0))] := hl
                                refine lv_iinc (k := 3) (v := (nI (i + 1))) S.1 S.2.1 dX8_sentHome_171 hl rfl (iincP i 1) (by decide) rfl (fun ls hl => ?_)
                                have hl : lv_has ls 6 [(3, .int (nI (i + 1))), (2, .int (nI i)), (5, .int (nI 1)), (4, .int (nI 0)), (0, .ref M), (1, .int (nI 0))] := hl
                                refine lv_goto (tgt := 19) S.1 S.2.1 dX8_sentHome_174 rfl ?_
                                have hl : lv_has ls 6 [(2, .int (oi (rfSH σ (nI 0) (i + 1)))), (3, .int (nI (i + 1))), (0, .ref M), (1, .int (nI 0))] := by
                                  rw [show (oi (rfSH σ (nI 0) (i + 1))) = (nI i) from by rw [rfSH_yes (z := (nI 0)) (Or.inl ⟨rfl, h5⟩) hv2 (by unfold rfBt; rw [decide_eq_false h10, decide_eq_true h12, decide_eq_true (i_nle h15)]; first | done | rfl)]; first | done | rfl]
                                  exact lv_sub hl [1, 0, 4, 5] rfl
                                exact ih _ (by omega) (i + 1) ls rfl (by omega) (Or.inr (i_nle h3))  (lv_sub hl [0, 1, 2, 3] rfl)
                        · skip
                          refine lv_aload_n S.1 S.2.1 dX8_sentHome_116 rfl (lv_at hl 3 rfl) ?_
                          refine lv_iload_n S.1 S.2.1 dX8_sentHome_117 rfl (lv_at hl 2 rfl) ?_
                          refine lv_iconst (v := (nI 4)) S.1 S.2.1 dX8_sentHome_118 (by decide) ?_
                          refine xk_R (v := (nf σ i 4)) (x_runV (As := [.int (nI i), .int (nI 4)]) (rest := []) S hE hS (fun _ h => h.elim) (c_X8_of l E M ps ty re σ i 4 _ ho hs (by omega) (by omega)) kv_X8_of kw12_22 kw12_23 kw13_0 (x_recv hE (ho) (ci := 8) rfl) ⟨Nat.le_of_ble_eq_true rfl, Nat.le_of_ble_eq_true rfl⟩ rfl rfl rfl hl.1 rfl (Nat.le_of_ble_eq_true rfl) dX8_sentHome_119 ⟨Nat.zero_le _, Nat.zero_le _⟩) ?_
                          refine lv_aload_n S.1 S.2.1 dX8_sentHome_122 rfl (lv_at hl 3 rfl) ?_
                          refine lv_iload_n S.1 S.2.1 dX8_sentHome_123 rfl (lv_at hl 1 rfl) ?_
                          refine lv_iconst (v := (nI 4)) S.1 S.2.1 dX8_sentHome_124 (by decide) ?_
                          refine xk_R (v := (nf σ j2 4)) (x_runV (As := [.int (nI j2), .int (nI 4)]) (rest := [.int (nf σ i 4)]) S hE hS (fun _ h => h.elim) (c_X8_of l E M ps ty re σ j2 4 _ ho hs (by omega) (by omega)) kv_X8_of kw12_22 kw12_23 kw13_0 (x_recv hE (ho) (ci := 8) rfl) ⟨Nat.le_of_ble_eq_true rfl, Nat.le_of_ble_eq_true rfl⟩ rfl rfl rfl hl.1 rfl (Nat.le_of_ble_eq_true rfl) dX8_sentHome_125 ⟨Nat.zero_le _, Nat.zero_le _⟩) ?_
                          refine lv_icmp_ne (tgt := 135) S.1 S.2.1 dX8_sentHome_128 rfl (fun h16 => ?_) (fun h16 => ?_)
                          · skip
                            refine lv_iconst (v := (nI 0)) S.1 S.2.1 dX8_sentHome_135 (by decide) ?_
                            refine lv_istore S.1 S.2.1 dX8_sentHome_136 hl (by decide) rfl (fun ls hl => ?_)
                            have hl : lv_has ls 6 [(5, .int (nI 0)), (4, .int (nI 0)), (2, .int (nI j2)), (3, .int (nI i)), (0, .ref M), (1, .int (nI 0))] := hl
                            refine lv_iload S.1 S.2.1 dX8_sentHome_138 (lv_at hl 1 rfl) ?_
                            refine lv_if_ne (tgt := 165) S.1 S.2.1 dX8_sentHome_140 rfl (fun h17 => ?_) (fun h17 => ?_)
                            · exact absurd h17 (by decide)
                            · skip
                              refine lv_iload S.1 S.2.1 dX8_sentHome_143 (lv_at hl 0 rfl) ?_
                              refine lv_if_eq (tgt := 169) S.1 S.2.1 dX8_sentHome_145 rfl (fun h18 => ?_) (fun h18 => ?_)
                              · skip
                                refine lv_iload_n S.1 S.2.1 dX8_sentHome_169 rfl (lv_at hl 2 rfl) ?_
                                refine lv_istore_n S.1 S.2.1 dX8_sentHome_170 rfl hl (by decide) rfl (fun ls hl => ?_)
                                have hl : lv_has ls 6 [(2, .int (nI j2)), (5, .int (nI 0)), (4, .int (nI 0)), (3, .int (nI i)), (0, .ref M), (1, .int (nI 0))] := hl
                                refine lv_iinc (k := 3) (v := (nI (i + 1))) S.1 S.2.1 dX8_sentHome_171 hl rfl (iincP i 1) (by decide) rfl (fun ls hl => ?_)
                                have hl : lv_has ls 6 [(3, .int (nI (i + 1))), (2, .int (nI j2)), (5, .int (nI 0)), (4, .int (nI 0)), (0, .ref M), (1, .int (nI 0))] := hl
                                refine lv_goto (tgt := 19) S.1 S.2.1 dX8_sentHome_174 rfl ?_
                                have hl : lv_has ls 6 [(2, .int (oi (rfSH σ (nI 0) (i + 1)))), (3, .int (nI (i + 1))), (0, .ref M), (1, .int (nI 0))] := by
                                  rw [show (oi (rfSH σ (nI 0) (i + 1))) = (nI j2) from by rw [rfSH_nay (z := (nI 0)) (Or.inl ⟨rfl, h5⟩) hv2 (by unfold rfBt; rw [decide_eq_false h10, decide_eq_false h12, decide_eq_false h16]; first | done | rfl)]; first | done | rfl]
                                  exact lv_sub hl [1, 0, 4, 5] rfl
                                exact ih _ (by omega) (i + 1) ls rfl (by omega) (Or.inr (i_nle h3))  (lv_sub hl [0, 1, 2, 3] rfl)
                              · exact absurd h18 (by decide)
                          · skip
                            refine lv_iconst (v := (nI 1)) S.1 S.2.1 dX8_sentHome_131 (by decide) ?_
                            refine lv_goto (tgt := 136) S.1 S.2.1 dX8_sentHome_132 rfl ?_
                            refine lv_istore S.1 S.2.1 dX8_sentHome_136 hl (by decide) rfl (fun ls hl => ?_)
                            have hl : lv_has ls 6 [(5, .int (nI 1)), (4, .int (nI 0)), (2, .int (nI j2)), (3, .int (nI i)), (0, .ref M), (1, .int (nI 0))] := hl
                            refine lv_iload S.1 S.2.1 dX8_sentHome_138 (lv_at hl 1 rfl) ?_
                            refine lv_if_ne (tgt := 165) S.1 S.2.1 dX8_sentHome_140 rfl (fun h19 => ?_) (fun h19 => ?_)
                            · exact absurd h19 (by decide)
                            · skip
                              refine lv_iload S.1 S.2.1 dX8_sentHome_143 (lv_at hl 0 rfl) ?_
                              refine lv_if_eq (tgt := 169) S.1 S.2.1 dX8_sentHome_145 rfl (fun h20 => ?_) (fun h20 => ?_)
                              · exact absurd h20 (by decide)
                              · skip
                                refine lv_aload_n S.1 S.2.1 dX8_sentHome_148 rfl (lv_at hl 4 rfl) ?_
                                refine lv_iload_n S.1 S.2.1 dX8_sentHome_149 rfl (lv_at hl 3 rfl) ?_
                                refine lv_bipush (v := (nI 7)) S.1 S.2.1 dX8_sentHome_150 (by decide) ?_
                                refine xk_R (v := (nf σ i 7)) (x_runV (As := [.int (nI i), .int (nI 7)]) (rest := []) S hE hS (fun _ h => h.elim) (c_X8_of l E M ps ty re σ i 7 _ ho hs (by omega) (by omega)) kv_X8_of kw12_22 kw12_23 kw13_0 (x_recv hE (ho) (ci := 8) rfl) ⟨Nat.le_of_ble_eq_true rfl, Nat.le_of_ble_eq_true rfl⟩ rfl rfl rfl hl.1 rfl (Nat.le_of_ble_eq_true rfl) dX8_sentHome_152 ⟨Nat.zero_le _, Nat.zero_le _⟩) ?_
                                refine lv_aload_n S.1 S.2.1 dX8_sentHome_155 rfl (lv_at hl 4 rfl) ?_
                                refine lv_iload_n S.1 S.2.1 dX8_sentHome_156 rfl (lv_at hl 2 rfl) ?_
                                refine lv_bipush (v := (nI 7)) S.1 S.2.1 dX8_sentHome_157 (by decide) ?_
                                refine xk_R (v := (nf σ j2 7)) (x_runV (As := [.int (nI j2), .int (nI 7)]) (rest := [.int (nf σ i 7)]) S hE hS (fun _ h => h.elim) (c_X8_of l E M ps ty re σ j2 7 _ ho hs (by omega) (by omega)) kv_X8_of kw12_22 kw12_23 kw13_0 (x_recv hE (ho) (ci := 8) rfl) ⟨Nat.le_of_ble_eq_true rfl, Nat.le_of_ble_eq_true rfl⟩ rfl rfl rfl hl.1 rfl (Nat.le_of_ble_eq_true rfl) dX8_sentHome_159 ⟨Nat.zero_le _, Nat.zero_le _⟩) ?_
                                refine lv_icmp_ge (tgt := 169) S.1 S.2.1 dX8_sentHome_162 rfl (fun h21 => ?_) (fun h21 => ?_)
                                · skip
                                  refine lv_iload_n S.1 S.2.1 dX8_sentHome_169 rfl (lv_at hl 2 rfl) ?_
                                  refine lv_istore_n S.1 S.2.1 dX8_sentHome_170 rfl hl (by decide) rfl (fun ls hl => ?_)
                                  have hl : lv_has ls 6 [(2, .int (nI j2)), (5, .int (nI 1)), (4, .int (nI 0)), (3, .int (nI i)), (0, .ref M), (1, .int (nI 0))] := hl
                                  refine lv_iinc (k := 3) (v := (nI (i + 1))) S.1 S.2.1 dX8_sentHome_171 hl rfl (iincP i 1) (by decide) rfl (fun ls hl => ?_)
                                  have hl : lv_has ls 6 [(3, .int (nI (i + 1))), (2, .int (nI j2)), (5, .int (nI 1)), (4, .int (nI 0)), (0, .ref M), (1, .int (nI 0))] := hl
                                  refine lv_goto (tgt := 19) S.1 S.2.1 dX8_sentHome_174 rfl ?_
                                  have hl : lv_has ls 6 [(2, .int (oi (rfSH σ (nI 0) (i + 1)))), (3, .int (nI (i + 1))), (0, .ref M), (1, .int (nI 0))] := by
                                    rw [show (oi (rfSH σ (nI 0) (i + 1))) = (nI j2) from by rw [rfSH_nay (z := (nI 0)) (Or.inl ⟨rfl, h5⟩) hv2 (by unfold rfBt; rw [decide_eq_false h10, decide_eq_false h12, decide_eq_true h16, decide_eq_false (Int32.not_lt.mpr h21)]; first | done | rfl)]; first | done | rfl]
                                    exact lv_sub hl [1, 0, 4, 5] rfl
                                  exact ih _ (by omega) (i + 1) ls rfl (by omega) (Or.inr (i_nle h3))  (lv_sub hl [0, 1, 2, 3] rfl)
                                · skip
                                  refine lv_iload_n S.1 S.2.1 dX8_sentHome_165 rfl (lv_at hl 3 rfl) ?_
                                  refine lv_goto (tgt := 170) S.1 S.2.1 dX8_sentHome_166 rfl ?_
                                  refine lv_istore_n S.1 S.2.1 dX8_sentHome_170 rfl hl (by decide) rfl (fun ls hl => ?_)
                                  have hl : lv_has ls 6 [(2, .int (nI i)), (5, .int (nI 1)), (4, .int (nI 0)), (3, .int (nI i)), (0, .ref M), (1, .int (nI 0))] := hl
                                  refine lv_iinc (k := 3) (v := (nI (i + 1))) S.1 S.2.1 dX8_sentHome_171 hl rfl (iincP i 1) (by decide) rfl (fun ls hl => ?_)
                                  have hl : lv_has ls 6 [(3, .int (nI (i + 1))), (2, .int (nI i)), (5, .int (nI 1)), (4, .int (nI 0)), (0, .ref M), (1, .int (nI 0))] := hl
                                  refine lv_goto (tgt := 19) S.1 S.2.1 dX8_sentHome_174 rfl ?_
                                  have hl : lv_has ls 6 [(2, .int (oi (rfSH σ (nI 0) (i + 1)))), (3, .int (nI (i + 1))), (0, .ref M), (1, .int (nI 0))] := by
                                    rw [show (oi (rfSH σ (nI 0) (i + 1))) = (nI i) from by rw [rfSH_yes (z := (nI 0)) (Or.inl ⟨rfl, h5⟩) hv2 (by unfold rfBt; rw [decide_eq_false h10, decide_eq_false h12, decide_eq_true h16, decide_eq_true (i_nle h21)]; first | done | rfl)]; first | done | rfl]
                                    exact lv_sub hl [1, 0, 4, 5] rfl
                                  exact ih _ (by omega) (i + 1) ls rfl (by omega) (Or.inr (i_nle h3))  (lv_sub hl [0, 1, 2, 3] rfl)
                    · skip
                      refine lv_aload_n S.1 S.2.1 dX8_sentHome_79 rfl (lv_at hl 2 rfl) ?_
                      refine lv_iload_n S.1 S.2.1 dX8_sentHome_80 rfl (lv_at hl 1 rfl) ?_
                      refine lv_iconst (v := (nI 4)) S.1 S.2.1 dX8_sentHome_81 (by decide) ?_
                      refine xk_R (v := (nf σ i 4)) (x_runV (As := [.int (nI i), .int (nI 4)]) (rest := []) S hE hS (fun _ h => h.elim) (c_X8_of l E M ps ty re σ i 4 _ ho hs (by omega) (by omega)) kv_X8_of kw12_22 kw12_23 kw13_0 (x_recv hE (ho) (ci := 8) rfl) ⟨Nat.le_of_ble_eq_true rfl, Nat.le_of_ble_eq_true rfl⟩ rfl rfl rfl hl.1 rfl (Nat.le_of_ble_eq_true rfl) dX8_sentHome_82 ⟨Nat.zero_le _, Nat.zero_le _⟩) ?_
                      refine lv_aload_n S.1 S.2.1 dX8_sentHome_85 rfl (lv_at hl 2 rfl) ?_
                      refine lv_iload_n S.1 S.2.1 dX8_sentHome_86 rfl (lv_at hl 0 rfl) ?_
                      refine lv_iconst (v := (nI 4)) S.1 S.2.1 dX8_sentHome_87 (by decide) ?_
                      refine xk_R (v := (nf σ j2 4)) (x_runV (As := [.int (nI j2), .int (nI 4)]) (rest := [.int (nf σ i 4)]) S hE hS (fun _ h => h.elim) (c_X8_of l E M ps ty re σ j2 4 _ ho hs (by omega) (by omega)) kv_X8_of kw12_22 kw12_23 kw13_0 (x_recv hE (ho) (ci := 8) rfl) ⟨Nat.le_of_ble_eq_true rfl, Nat.le_of_ble_eq_true rfl⟩ rfl rfl rfl hl.1 rfl (Nat.le_of_ble_eq_true rfl) dX8_sentHome_88 ⟨Nat.zero_le _, Nat.zero_le _⟩) ?_
                      refine lv_icmp_ge (tgt := 98) S.1 S.2.1 dX8_sentHome_91 rfl (fun h22 => ?_) (fun h22 => ?_)
                      · skip
                        refine lv_iconst (v := (nI 0)) S.1 S.2.1 dX8_sentHome_98 (by decide) ?_
                        refine lv_istore S.1 S.2.1 dX8_sentHome_99 hl (by decide) rfl (fun ls hl => ?_)
                        have hl : lv_has ls 6 [(4, .int (nI 0)), (2, .int (nI j2)), (3, .int (nI i)), (0, .ref M), (1, .int (nI 0))] := hl
                        refine lv_iload_n S.1 S.2.1 dX8_sentHome_101 rfl (lv_at hl 1 rfl) ?_
                        refine lv_if_lt (tgt := 135) S.1 S.2.1 dX8_sentHome_102 rfl (fun h23 => ?_) (fun h23 => ?_)
                        · exact absurd h23 (nI_pos (by omega))
                        · skip
                          refine lv_aload_n S.1 S.2.1 dX8_sentHome_105 rfl (lv_at hl 3 rfl) ?_
                          refine x_get S hE (ho) (C := RX8) (T := TX8) (N := 10) rfl inlX8 0 (by decide) (v := .ref (M + 1)) rfl kw7_6 rfl dX8_sentHome_106 ?_
                          refine lv_bipush (v := (nI 7)) S.1 S.2.1 dX8_sentHome_109 (by decide) ?_
                          refine x_iald S hE (hs) 7 rfl (by decide) (by decide) dX8_sentHome_111 ?_
                          refine lv_iconst (v := (nI 1)) S.1 S.2.1 dX8_sentHome_112 (by decide) ?_
                          refine lv_icmp_eq (tgt := 131) S.1 S.2.1 dX8_sentHome_113 rfl (fun h24 => ?_) (fun h24 => ?_)
                          · skip
                            refine lv_iconst (v := (nI 1)) S.1 S.2.1 dX8_sentHome_131 (by decide) ?_
                            refine lv_goto (tgt := 136) S.1 S.2.1 dX8_sentHome_132 rfl ?_
                            refine lv_istore S.1 S.2.1 dX8_sentHome_136 hl (by decide) rfl (fun ls hl => ?_)
                            have hl : lv_has ls 6 [(5, .int (nI 1)), (4, .int (nI 0)), (2, .int (nI j2)), (3, .int (nI i)), (0, .ref M), (1, .int (nI 0))] := hl
                            refine lv_iload S.1 S.2.1 dX8_sentHome_138 (lv_at hl 1 rfl) ?_
                            refine lv_if_ne (tgt := 165) S.1 S.2.1 dX8_sentHome_140 rfl (fun h25 => ?_) (fun h25 => ?_)
                            · exact absurd h25 (by decide)
                            · skip
                              refine lv_iload S.1 S.2.1 dX8_sentHome_143 (lv_at hl 0 rfl) ?_
                              refine lv_if_eq (tgt := 169) S.1 S.2.1 dX8_sentHome_145 rfl (fun h26 => ?_) (fun h26 => ?_)
                              · exact absurd h26 (by decide)
                              · skip
                                refine lv_aload_n S.1 S.2.1 dX8_sentHome_148 rfl (lv_at hl 4 rfl) ?_
                                refine lv_iload_n S.1 S.2.1 dX8_sentHome_149 rfl (lv_at hl 3 rfl) ?_
                                refine lv_bipush (v := (nI 7)) S.1 S.2.1 dX8_sentHome_150 (by decide) ?_
                                refine xk_R (v := (nf σ i 7)) (x_runV (As := [.int (nI i), .int (nI 7)]) (rest := []) S hE hS (fun _ h => h.elim) (c_X8_of l E M ps ty re σ i 7 _ ho hs (by omega) (by omega)) kv_X8_of kw12_22 kw12_23 kw13_0 (x_recv hE (ho) (ci := 8) rfl) ⟨Nat.le_of_ble_eq_true rfl, Nat.le_of_ble_eq_true rfl⟩ rfl rfl rfl hl.1 rfl (Nat.le_of_ble_eq_true rfl) dX8_sentHome_152 ⟨Nat.zero_le _, Nat.zero_le _⟩) ?_
                                refine lv_aload_n S.1 S.2.1 dX8_sentHome_155 rfl (lv_at hl 4 rfl) ?_
                                refine lv_iload_n S.1 S.2.1 dX8_sentHome_156 rfl (lv_at hl 2 rfl) ?_
                                refine lv_bipush (v := (nI 7)) S.1 S.2.1 dX8_sentHome_157 (by decide) ?_
                                refine xk_R (v := (nf σ j2 7)) (x_runV (As := [.int (nI j2), .int (nI 7)]) (rest := [.int (nf σ i 7)]) S hE hS (fun _ h => h.elim) (c_X8_of l E M ps ty re σ j2 7 _ ho hs (by omega) (by omega)) kv_X8_of kw12_22 kw12_23 kw13_0 (x_recv hE (ho) (ci := 8) rfl) ⟨Nat.le_of_ble_eq_true rfl, Nat.le_of_ble_eq_true rfl⟩ rfl rfl rfl hl.1 rfl (Nat.le_of_ble_eq_true rfl) dX8_sentHome_159 ⟨Nat.zero_le _, Nat.zero_le _⟩) ?_
                                refine lv_icmp_ge (tgt := 169) S.1 S.2.1 dX8_sentHome_162 rfl (fun h27 => ?_) (fun h27 => ?_)
                                · skip
                                  refine lv_iload_n S.1 S.2.1 dX8_sentHome_169 rfl (lv_at hl 2 rfl) ?_
                                  refine lv_istore_n S.1 S.2.1 dX8_sentHome_170 rfl hl (by decide) rfl (fun ls hl => ?_)
                                  have hl : lv_has ls 6 [(2, .int (nI j2)), (5, .int (nI 1)), (4, .int (nI 0)), (3, .int (nI i)), (0, .ref M), (1, .int (nI 0))] := hl
                                  refine lv_iinc (k := 3) (v := (nI (i + 1))) S.1 S.2.1 dX8_sentHome_171 hl rfl (iincP i 1) (by decide) rfl (fun ls hl => ?_)
                                  have hl : lv_has ls 6 [(3, .int (nI (i + 1))), (2, .int (nI j2)), (5, .int (nI 1)), (4, .int (nI 0)), (0, .ref M), (1, .int (nI 0))] := hl
                                  refine lv_goto (tgt := 19) S.1 S.2.1 dX8_sentHome_174 rfl ?_
                                  have hl : lv_has ls 6 [(2, .int (oi (rfSH σ (nI 0) (i + 1)))), (3, .int (nI (i + 1))), (0, .ref M), (1, .int (nI 0))] := by
                                    rw [show (oi (rfSH σ (nI 0) (i + 1))) = (nI j2) from by rw [rfSH_nay (z := (nI 0)) (Or.inl ⟨rfl, h5⟩) hv2 (by unfold rfBt; rw [decide_eq_true h10, decide_eq_false (Int32.not_lt.mpr h22), decide_eq_true h24, decide_eq_false (Int32.not_lt.mpr h27)]; first | done | rfl)]; first | done | rfl]
                                    exact lv_sub hl [1, 0, 4, 5] rfl
                                  exact ih _ (by omega) (i + 1) ls rfl (by omega) (Or.inr (i_nle h3))  (lv_sub hl [0, 1, 2, 3] rfl)
                                · skip
                                  refine lv_iload_n S.1 S.2.1 dX8_sentHome_165 rfl (lv_at hl 3 rfl) ?_
                                  refine lv_goto (tgt := 170) S.1 S.2.1 dX8_sentHome_166 rfl ?_
                                  refine lv_istore_n S.1 S.2.1 dX8_sentHome_170 rfl hl (by decide) rfl (fun ls hl => ?_)
                                  have hl : lv_has ls 6 [(2, .int (nI i)), (5, .int (nI 1)), (4, .int (nI 0)), (3, .int (nI i)), (0, .ref M), (1, .int (nI 0))] := hl
                                  refine lv_iinc (k := 3) (v := (nI (i + 1))) S.1 S.2.1 dX8_sentHome_171 hl rfl (iincP i 1) (by decide) rfl (fun ls hl => ?_)
                                  have hl : lv_has ls 6 [(3, .int (nI (i + 1))), (2, .int (nI i)), (5, .int (nI 1)), (4, .int (nI 0)), (0, .ref M), (1, .int (nI 0))] := hl
                                  refine lv_goto (tgt := 19) S.1 S.2.1 dX8_sentHome_174 rfl ?_
                                  have hl : lv_has ls 6 [(2, .int (oi (rfSH σ (nI 0) (i + 1)))), (3, .int (nI (i + 1))), (0, .ref M), (1, .int (nI 0))] := by
                                    rw [show (oi (rfSH σ (nI 0) (i + 1))) = (nI i) from by rw [rfSH_yes (z := (nI 0)) (Or.inl ⟨rfl, h5⟩) hv2 (by unfold rfBt; rw [decide_eq_true h10, decide_eq_false (Int32.not_lt.mpr h22), decide_eq_true h24, decide_eq_true (i_nle h27)]; first | done | rfl)]; first | done | rfl]
                                    exact lv_sub hl [1, 0, 4, 5] rfl
                                  exact ih _ (by omega) (i + 1) ls rfl (by omega) (Or.inr (i_nle h3))  (lv_sub hl [0, 1, 2, 3] rfl)
                          · skip
                            refine lv_aload_n S.1 S.2.1 dX8_sentHome_116 rfl (lv_at hl 3 rfl) ?_
                            refine lv_iload_n S.1 S.2.1 dX8_sentHome_117 rfl (lv_at hl 2 rfl) ?_
                            refine lv_iconst (v := (nI 4)) S.1 S.2.1 dX8_sentHome_118 (by decide) ?_
                            refine xk_R (v := (nf σ i 4)) (x_runV (As := [.int (nI i), .int (nI 4)]) (rest := []) S hE hS (fun _ h => h.elim) (c_X8_of l E M ps ty re σ i 4 _ ho hs (by omega) (by omega)) kv_X8_of kw12_22 kw12_23 kw13_0 (x_recv hE (ho) (ci := 8) rfl) ⟨Nat.le_of_ble_eq_true rfl, Nat.le_of_ble_eq_true rfl⟩ rfl rfl rfl hl.1 rfl (Nat.le_of_ble_eq_true rfl) dX8_sentHome_119 ⟨Nat.zero_le _, Nat.zero_le _⟩) ?_
                            refine lv_aload_n S.1 S.2.1 dX8_sentHome_122 rfl (lv_at hl 3 rfl) ?_
                            refine lv_iload_n S.1 S.2.1 dX8_sentHome_123 rfl (lv_at hl 1 rfl) ?_
                            refine lv_iconst (v := (nI 4)) S.1 S.2.1 dX8_sentHome_124 (by decide) ?_
                            refine xk_R (v := (nf σ j2 4)) (x_runV (As := [.int (nI j2), .int (nI 4)]) (rest := [.int (nf σ i 4)]) S hE hS (fun _ h => h.elim) (c_X8_of l E M ps ty re σ j2 4 _ ho hs (by omega) (by omega)) kv_X8_of kw12_22 kw12_23 kw13_0 (x_recv hE (ho) (ci := 8) rfl) ⟨Nat.le_of_ble_eq_true rfl, Nat.le_of_ble_eq_true rfl⟩ rfl rfl rfl hl.1 rfl (Nat.le_of_ble_eq_true rfl) dX8_sentHome_125 ⟨Nat.zero_le _, Nat.zero_le _⟩) ?_
                            refine lv_icmp_ne (tgt := 135) S.1 S.2.1 dX8_sentHome_128 rfl (fun h28 => ?_) (fun h28 => ?_)
                            · skip
                              refine lv_iconst (v := (nI 0)) S.1 S.2.1 dX8_sentHome_135 (by decide) ?_
                              refine lv_istore S.1 S.2.1 dX8_sentHome_136 hl (by decide) rfl (fun ls hl => ?_)
                              have hl : lv_has ls 6 [(5, .int (nI 0)), (4, .int (nI 0)), (2, .int (nI j2)), (3, .int (nI i)), (0, .ref M), (1, .int (nI 0))] := hl
                              refine lv_iload S.1 S.2.1 dX8_sentHome_138 (lv_at hl 1 rfl) ?_
                              refine lv_if_ne (tgt := 165) S.1 S.2.1 dX8_sentHome_140 rfl (fun h29 => ?_) (fun h29 => ?_)
                              · exact absurd h29 (by decide)
                              · skip
                                refine lv_iload S.1 S.2.1 dX8_sentHome_143 (lv_at hl 0 rfl) ?_
                                refine lv_if_eq (tgt := 169) S.1 S.2.1 dX8_sentHome_145 rfl (fun h30 => ?_) (fun h30 => ?_)
                                · skip
                                  refine lv_iload_n S.1 S.2.1 dX8_sentHome_169 rfl (lv_at hl 2 rfl) ?_
                                  refine lv_istore_n S.1 S.2.1 dX8_sentHome_170 rfl hl (by decide) rfl (fun ls hl => ?_)
                                  have hl : lv_has ls 6 [(2, .int (nI j2)), (5, .int (nI 0)), (4, .int (nI 0)), (3, .int (nI i)), (0, .ref M), (1, .int (nI 0))] := hl
                                  refine lv_iinc (k := 3) (v := (nI (i + 1))) S.1 S.2.1 dX8_sentHome_171 hl rfl (iincP i 1) (by decide) rfl (fun ls hl => ?_)
                                  have hl : lv_has ls 6 [(3, .int (nI (i + 1))), (2, .int (nI j2)), (5, .int (nI 0)), (4, .int (nI 0)), (0, .ref M), (1, .int (nI 0))] := hl
                                  refine lv_goto (tgt := 19) S.1 S.2.1 dX8_sentHome_174 rfl ?_
                                  have hl : lv_has ls 6 [(2, .int (oi (rfSH σ (nI 0) (i + 1)))), (3, .int (nI (i + 1))), (0, .ref M), (1, .int (nI 0))] := by
                                    rw [show (oi (rfSH σ (nI 0) (i + 1))) = (nI j2) from by rw [rfSH_nay (z := (nI 0)) (Or.inl ⟨rfl, h5⟩) hv2 (by unfold rfBt; rw [decide_eq_true h10, decide_eq_false (Int32.not_lt.mpr h22), decide_eq_false h24, decide_eq_false h28]; first | done | rfl)]; first | done | rfl]
                                    exact lv_sub hl [1, 0, 4, 5] rfl
                                  exact ih _ (by omega) (i + 1) ls rfl (by omega) (Or.inr (i_nle h3))  (lv_sub hl [0, 1, 2, 3] rfl)
                                · exact absurd h30 (by decide)
                            · skip
                              refine lv_iconst (v := (nI 1)) S.1 S.2.1 dX8_sentHome_131 (by decide) ?_
                              refine lv_goto (tgt := 136) S.1 S.2.1 dX8_sentHome_132 rfl ?_
                              refine lv_istore S.1 S.2.1 dX8_sentHome_136 hl (by decide) rfl (fun ls hl => ?_)
                              have hl : lv_has ls 6 [(5, .int (nI 1)), (4, .int (nI 0)), (2, .int (nI j2)), (3, .int (nI i)), (0, .ref M), (1, .int (nI 0))] := hl
                              refine lv_iload S.1 S.2.1 dX8_sentHome_138 (lv_at hl 1 rfl) ?_
                              refine lv_if_ne (tgt := 165) S.1 S.2.1 dX8_sentHome_140 rfl (fun h31 => ?_) (fun h31 => ?_)
                              · exact absurd h31 (by decide)
                              · skip
                                refine lv_iload S.1 S.2.1 dX8_sentHome_143 (lv_at hl 0 rfl) ?_
                                refine lv_if_eq (tgt := 169) S.1 S.2.1 dX8_sentHome_145 rfl (fun h32 => ?_) (fun h32 => ?_)
                                · exact absurd h32 (by decide)
                                · skip
                                  refine lv_aload_n S.1 S.2.1 dX8_sentHome_148 rfl (lv_at hl 4 rfl) ?_
                                  refine lv_iload_n S.1 S.2.1 dX8_sentHome_149 rfl (lv_at hl 3 rfl) ?_
                                  refine lv_bipush (v := (nI 7)) S.1 S.2.1 dX8_sentHome_150 (by decide) ?_
                                  refine xk_R (v := (nf σ i 7)) (x_runV (As := [.int (nI i), .int (nI 7)]) (rest := []) S hE hS (fun _ h => h.elim) (c_X8_of l E M ps ty re σ i 7 _ ho hs (by omega) (by omega)) kv_X8_of kw12_22 kw12_23 kw13_0 (x_recv hE (ho) (ci := 8) rfl) ⟨Nat.le_of_ble_eq_true rfl, Nat.le_of_ble_eq_true rfl⟩ rfl rfl rfl hl.1 rfl (Nat.le_of_ble_eq_true rfl) dX8_sentHome_152 ⟨Nat.zero_le _, Nat.zero_le _⟩) ?_
                                  refine lv_aload_n S.1 S.2.1 dX8_sentHome_155 rfl (lv_at hl 4 rfl) ?_
                                  refine lv_iload_n S.1 S.2.1 dX8_sentHome_156 rfl (lv_at hl 2 rfl) ?_
                                  refine lv_bipush (v := (nI 7)) S.1 S.2.1 dX8_sentHome_157 (by decide) ?_
                                  refine xk_R (v := (nf σ j2 7)) (x_runV (As := [.int (nI j2), .int (nI 7)]) (rest := [.int (nf σ i 7)]) S hE hS (fun _ h => h.elim) (c_X8_of l E M ps ty re σ j2 7 _ ho hs (by omega) (by omega)) kv_X8_of kw12_22 kw12_23 kw13_0 (x_recv hE (ho) (ci := 8) rfl) ⟨Nat.le_of_ble_eq_true rfl, Nat.le_of_ble_eq_true rfl⟩ rfl rfl rfl hl.1 rfl (Nat.le_of_ble_eq_true rfl) dX8_sentHome_159 ⟨Nat.zero_le _, Nat.zero_le _⟩) ?_
                                  refine lv_icmp_ge (tgt := 169) S.1 S.2.1 dX8_sentHome_162 rfl (fun h33 => ?_) (fun h33 => ?_)
                                  · skip
                                    refine lv_iload_n S.1 S.2.1 dX8_sentHome_169 rfl (lv_at hl 2 rfl) ?_
                                    refine lv_istore_n S.1 S.2.1 dX8_sentHome_170 rfl hl (by decide) rfl (fun ls hl => ?_)
                                    have hl : lv_has ls 6 [(2, .int (nI j2)), (5, .int (nI 1)), (4, .int (nI 0)), (3, .int (nI i)), (0, .ref M), (1, .int (nI 0))] := hl
                                    refine lv_iinc (k := 3) (v := (nI (i + 1))) S.1 S.2.1 dX8_sentHome_171 hl rfl (iincP i 1) (by decide) rfl (fun ls hl => ?_)
                                    have hl : lv_has ls 6 [(3, .int (nI (i + 1))), (2, .int (nI j2)), (5, .int (nI 1)), (4, .int (nI 0)), (0, .ref M), (1, .int (nI 0))] := hl
                                    refine lv_goto (tgt := 19) S.1 S.2.1 dX8_sentHome_174 rfl ?_
                                    have hl : lv_has ls 6 [(2, .int (oi (rfSH σ (nI 0) (i + 1)))), (3, .int (nI (i + 1))), (0, .ref M), (1, .int (nI 0))] := by
                                      rw [show (oi (rfSH σ (nI 0) (i + 1))) = (nI j2) from by rw [rfSH_nay (z := (nI 0)) (Or.inl ⟨rfl, h5⟩) hv2 (by unfold rfBt; rw [decide_eq_true h10, decide_eq_false (Int32.not_lt.mpr h22), decide_eq_false h24, decide_eq_true h28, decide_eq_false (Int32.not_lt.mpr h33)]; first | done | rfl)]; first | done | rfl]
                                      exact lv_sub hl [1, 0, 4, 5] rfl
                                    exact ih _ (by omega) (i + 1) ls rfl (by omega) (Or.inr (i_nle h3))  (lv_sub hl [0, 1, 2, 3] rfl)
                                  · skip
                                    refine lv_iload_n S.1 S.2.1 dX8_sentHome_165 rfl (lv_at hl 3 rfl) ?_
                                    refine lv_goto (tgt := 170) S.1 S.2.1 dX8_sentHome_166 rfl ?_
                                    refine lv_istore_n S.1 S.2.1 dX8_sentHome_170 rfl hl (by decide) rfl (fun ls hl => ?_)
                                    have hl : lv_has ls 6 [(2, .int (nI i)), (5, .int (nI 1)), (4, .int (nI 0)), (3, .int (nI i)), (0, .ref M), (1, .int (nI 0))] := hl
                                    refine lv_iinc (k := 3) (v := (nI (i + 1))) S.1 S.2.1 dX8_sentHome_171 hl rfl (iincP i 1) (by decide) rfl (fun ls hl => ?_)
                                    have hl : lv_has ls 6 [(3, .int (nI (i + 1))), (2, .int (nI i)), (5, .int (nI 1)), (4, .int (nI 0)), (0, .ref M), (1, .int (nI 0))] := hl
                                    refine lv_goto (tgt := 19) S.1 S.2.1 dX8_sentHome_174 rfl ?_
                                    have hl : lv_has ls 6 [(2, .int (oi (rfSH σ (nI 0) (i + 1)))), (3, .int (nI (i + 1))), (0, .ref M), (1, .int (nI 0))] := by
                                      rw [show (oi (rfSH σ (nI 0) (i + 1))) = (nI i) from by rw [rfSH_yes (z := (nI 0)) (Or.inl ⟨rfl, h5⟩) hv2 (by unfold rfBt; rw [decide_eq_true h10, decide_eq_false (Int32.not_lt.mpr h22), decide_eq_false h24, decide_eq_true h28, decide_eq_true (i_nle h33)]; first | done | rfl)]; first | done | rfl]
                                      exact lv_sub hl [1, 0, 4, 5] rfl
                                    exact ih _ (by omega) (i + 1) ls rfl (by omega) (Or.inr (i_nle h3))  (lv_sub hl [0, 1, 2, 3] rfl)
                      · skip
                        refine lv_iconst (v := (nI 1)) S.1 S.2.1 dX8_sentHome_94 (by decide) ?_
                        refine lv_goto (tgt := 99) S.1 S.2.1 dX8_sentHome_95 rfl ?_
                        refine lv_istore S.1 S.2.1 dX8_sentHome_99 hl (by decide) rfl (fun ls hl => ?_)
                        have hl : lv_has ls 6 [(4, .int (nI 1)), (2, .int (nI j2)), (3, .int (nI i)), (0, .ref M), (1, .int (nI 0))] := hl
                        refine lv_iload_n S.1 S.2.1 dX8_sentHome_101 rfl (lv_at hl 1 rfl) ?_
                        refine lv_if_lt (tgt := 135) S.1 S.2.1 dX8_sentHome_102 rfl (fun h34 => ?_) (fun h34 => ?_)
                        · exact absurd h34 (nI_pos (by omega))
                        · skip
                          refine lv_aload_n S.1 S.2.1 dX8_sentHome_105 rfl (lv_at hl 3 rfl) ?_
                          refine x_get S hE (ho) (C := RX8) (T := TX8) (N := 10) rfl inlX8 0 (by decide) (v := .ref (M + 1)) rfl kw7_6 rfl dX8_sentHome_106 ?_
                          refine lv_bipush (v := (nI 7)) S.1 S.2.1 dX8_sentHome_109 (by decide) ?_
                          refine x_iald S hE (hs) 7 rfl (by decide) (by decide) dX8_sentHome_111 ?_
                          refine lv_iconst (v := (nI 1)) S.1 S.2.1 dX8_sentHome_112 (by decide) ?_
                          refine lv_icmp_eq (tgt := 131) S.1 S.2.1 dX8_sentHome_113 rfl (fun h35 => ?_) (fun h35 => ?_)
                          · skip
                            refine lv_iconst (v := (nI 1)) S.1 S.2.1 dX8_sentHome_131 (by decide) ?_
                            refine lv_goto (tgt := 136) S.1 S.2.1 dX8_sentHome_132 rfl ?_
                            refine lv_istore S.1 S.2.1 dX8_sentHome_136 hl (by decide) rfl (fun ls hl => ?_)
                            have hl : lv_has ls 6 [(5, .int (nI 1)), (4, .int (nI 1)), (2, .int (nI j2)), (3, .int (nI i)), (0, .ref M), (1, .int (nI 0))] := hl
                            refine lv_iload S.1 S.2.1 dX8_sentHome_138 (lv_at hl 1 rfl) ?_
                            refine lv_if_ne (tgt := 165) S.1 S.2.1 dX8_sentHome_140 rfl (fun h36 => ?_) (fun h36 => ?_)
                            · skip
                              refine lv_iload_n S.1 S.2.1 dX8_sentHome_165 rfl (lv_at hl 3 rfl) ?_
                              refine lv_goto (tgt := 170) S.1 S.2.1 dX8_sentHome_166 rfl ?_
                              refine lv_istore_n S.1 S.2.1 dX8_sentHome_170 rfl hl (by decide) rfl (fun ls hl => ?_)
                              have hl : lv_has ls 6 [(2, .int (nI i)), (5, .int (nI 1)), (4, .int (nI 1)), (3, .int (nI i)), (0, .ref M), (1, .int (nI 0))] := hl
                              refine lv_iinc (k := 3) (v := (nI (i + 1))) S.1 S.2.1 dX8_sentHome_171 hl rfl (iincP i 1) (by decide) rfl (fun ls hl => ?_)
                              have hl : lv_has ls 6 [(3, .int (nI (i + 1))), (2, .int (nI i)), (5, .int (nI 1)), (4, .int (nI 1)), (0, .ref M), (1, .int (nI 0))] := hl
                              refine lv_goto (tgt := 19) S.1 S.2.1 dX8_sentHome_174 rfl ?_
                              have hl : lv_has ls 6 [(2, .int (oi (rfSH σ (nI 0) (i + 1)))), (3, .int (nI (i + 1))), (0, .ref M), (1, .int (nI 0))] := by
                                rw [show (oi (rfSH σ (nI 0) (i + 1))) = (nI i) from by rw [rfSH_yes (z := (nI 0)) (Or.inl ⟨rfl, h5⟩) hv2 (by unfold rfBt; rw [decide_eq_true h10, decide_eq_true (i_nle h22), decide_eq_true h35]; first | done | rfl)]; first | done | rfl]
                                exact lv_sub hl [1, 0, 4, 5] rfl
                              exact ih _ (by omega) (i + 1) ls rfl (by omega) (Or.inr (i_nle h3))  (lv_sub hl [0, 1, 2, 3] rfl)
                            · exact absurd h36 (by decide)
                          · skip
                            refine lv_aload_n S.1 S.2.1 dX8_sentHome_116 rfl (lv_at hl 3 rfl) ?_
                            refine lv_iload_n S.1 S.2.1 dX8_sentHome_117 rfl (lv_at hl 2 rfl) ?_
                            refine lv_iconst (v := (nI 4)) S.1 S.2.1 dX8_sentHome_118 (by decide) ?_
                            refine xk_R (v := (nf σ i 4)) (x_runV (As := [.int (nI i), .int (nI 4)]) (rest := []) S hE hS (fun _ h => h.elim) (c_X8_of l E M ps ty re σ i 4 _ ho hs (by omega) (by omega)) kv_X8_of kw12_22 kw12_23 kw13_0 (x_recv hE (ho) (ci := 8) rfl) ⟨Nat.le_of_ble_eq_true rfl, Nat.le_of_ble_eq_true rfl⟩ rfl rfl rfl hl.1 rfl (Nat.le_of_ble_eq_true rfl) dX8_sentHome_119 ⟨Nat.zero_le _, Nat.zero_le _⟩) ?_
                            refine lv_aload_n S.1 S.2.1 dX8_sentHome_122 rfl (lv_at hl 3 rfl) ?_
                            refine lv_iload_n S.1 S.2.1 dX8_sentHome_123 rfl (lv_at hl 1 rfl) ?_
                            refine lv_iconst (v := (nI 4)) S.1 S.2.1 dX8_sentHome_124 (by decide) ?_
                            refine xk_R (v := (nf σ j2 4)) (x_runV (As := [.int (nI j2), .int (nI 4)]) (rest := [.int (nf σ i 4)]) S hE hS (fun _ h => h.elim) (c_X8_of l E M ps ty re σ j2 4 _ ho hs (by omega) (by omega)) kv_X8_of kw12_22 kw12_23 kw13_0 (x_recv hE (ho) (ci := 8) rfl) ⟨Nat.le_of_ble_eq_true rfl, Nat.le_of_ble_eq_true rfl⟩ rfl rfl rfl hl.1 rfl (Nat.le_of_ble_eq_true rfl) dX8_sentHome_125 ⟨Nat.zero_le _, Nat.zero_le _⟩) ?_
                            refine lv_icmp_ne (tgt := 135) S.1 S.2.1 dX8_sentHome_128 rfl (fun h37 => ?_) (fun h37 => ?_)
                            · skip
                              refine lv_iconst (v := (nI 0)) S.1 S.2.1 dX8_sentHome_135 (by decide) ?_
                              refine lv_istore S.1 S.2.1 dX8_sentHome_136 hl (by decide) rfl (fun ls hl => ?_)
                              have hl : lv_has ls 6 [(5, .int (nI 0)), (4, .int (nI 1)), (2, .int (nI j2)), (3, .int (nI i)), (0, .ref M), (1, .int (nI 0))] := hl
                              refine lv_iload S.1 S.2.1 dX8_sentHome_138 (lv_at hl 1 rfl) ?_
                              refine lv_if_ne (tgt := 165) S.1 S.2.1 dX8_sentHome_140 rfl (fun h38 => ?_) (fun h38 => ?_)
                              · skip
                                refine lv_iload_n S.1 S.2.1 dX8_sentHome_165 rfl (lv_at hl 3 rfl) ?_
                                refine lv_goto (tgt := 170) S.1 S.2.1 dX8_sentHome_166 rfl ?_
                                refine lv_istore_n S.1 S.2.1 dX8_sentHome_170 rfl hl (by decide) rfl (fun ls hl => ?_)
                                have hl : lv_has ls 6 [(2, .int (nI i)), (5, .int (nI 0)), (4, .int (nI 1)), (3, .int (nI i)), (0, .ref M), (1, .int (nI 0))] := hl
                                refine lv_iinc (k := 3) (v := (nI (i + 1))) S.1 S.2.1 dX8_sentHome_171 hl rfl (iincP i 1) (by decide) rfl (fun ls hl => ?_)
                                have hl : lv_has ls 6 [(3, .int (nI (i + 1))), (2, .int (nI i)), (5, .int (nI 0)), (4, .int (nI 1)), (0, .ref M), (1, .int (nI 0))] := hl
                                refine lv_goto (tgt := 19) S.1 S.2.1 dX8_sentHome_174 rfl ?_
                                have hl : lv_has ls 6 [(2, .int (oi (rfSH σ (nI 0) (i + 1)))), (3, .int (nI (i + 1))), (0, .ref M), (1, .int (nI 0))] := by
                                  rw [show (oi (rfSH σ (nI 0) (i + 1))) = (nI i) from by rw [rfSH_yes (z := (nI 0)) (Or.inl ⟨rfl, h5⟩) hv2 (by unfold rfBt; rw [decide_eq_true h10, decide_eq_true (i_nle h22), decide_eq_false h35, decide_eq_false h37]; first | done | rfl)]; first | done | rfl]
                                  exact lv_sub hl [1, 0, 4, 5] rfl
                                exact ih _ (by omega) (i + 1) ls rfl (by omega) (Or.inr (i_nle h3))  (lv_sub hl [0, 1, 2, 3] rfl)
                              · exact absurd h38 (by decide)
                            · skip
                              refine lv_iconst (v := (nI 1)) S.1 S.2.1 dX8_sentHome_131 (by decide) ?_
                              refine lv_goto (tgt := 136) S.1 S.2.1 dX8_sentHome_132 rfl ?_
                              refine lv_istore S.1 S.2.1 dX8_sentHome_136 hl (by decide) rfl (fun ls hl => ?_)
                              have hl : lv_has ls 6 [(5, .int (nI 1)), (4, .int (nI 1)), (2, .int (nI j2)), (3, .int (nI i)), (0, .ref M), (1, .int (nI 0))] := hl
                              refine lv_iload S.1 S.2.1 dX8_sentHome_138 (lv_at hl 1 rfl) ?_
                              refine lv_if_ne (tgt := 165) S.1 S.2.1 dX8_sentHome_140 rfl (fun h39 => ?_) (fun h39 => ?_)
                              · skip
                                refine lv_iload_n S.1 S.2.1 dX8_sentHome_165 rfl (lv_at hl 3 rfl) ?_
                                refine lv_goto (tgt := 170) S.1 S.2.1 dX8_sentHome_166 rfl ?_
                                refine lv_istore_n S.1 S.2.1 dX8_sentHome_170 rfl hl (by decide) rfl (fun ls hl => ?_)
                                have hl : lv_has ls 6 [(2, .int (nI i)), (5, .int (nI 1)), (4, .int (nI 1)), (3, .int (nI i)), (0, .ref M), (1, .int (nI 0))] := hl
                                refine lv_iinc (k := 3) (v := (nI (i + 1))) S.1 S.2.1 dX8_sentHome_171 hl rfl (iincP i 1) (by decide) rfl (fun ls hl => ?_)
                                have hl : lv_has ls 6 [(3, .int (nI (i + 1))), (2, .int (nI i)), (5, .int (nI 1)), (4, .int (nI 1)), (0, .ref M), (1, .int (nI 0))] := hl
                                refine lv_goto (tgt := 19) S.1 S.2.1 dX8_sentHome_174 rfl ?_
                                have hl : lv_has ls 6 [(2, .int (oi (rfSH σ (nI 0) (i + 1)))), (3, .int (nI (i + 1))), (0, .ref M), (1, .int (nI 0))] := by
                                  rw [show (oi (rfSH σ (nI 0) (i + 1))) = (nI i) from by rw [rfSH_yes (z := (nI 0)) (Or.inl ⟨rfl, h5⟩) hv2 (by unfold rfBt; rw [decide_eq_true h10, decide_eq_true (i_nle h22), decide_eq_false h35, decide_eq_true h37]; first | done | rfl)]; first | done | rfl]
                                  exact lv_sub hl [1, 0, 4, 5] rfl
                                exact ih _ (by omega) (i + 1) ls rfl (by omega) (Or.inr (i_nle h3))  (lv_sub hl [0, 1, 2, 3] rfl)
                              · exact absurd h39 (by decide)
            · exact absurd h4 (by decide)
    exact hloop19 _ 0 ls rfl (Nat.zero_le _) (Or.inl rfl)  (lv_sub hl [1, 0, 3, 2] rfl)
  · skip
    have hz : rfSz σ n = nI 1 := if_neg h1
    refine lv_iconst (v := (nI 1)) S.1 S.2.1 dX8_sentHome_8 (by decide) ?_
    refine lv_goto (tgt := 13) S.1 S.2.1 dX8_sentHome_9 rfl ?_
    refine lv_istore_n S.1 S.2.1 dX8_sentHome_13 rfl hl (by decide) rfl (fun ls hl => ?_)
    have hl : lv_has ls 6 [(1, .int (nI 1)), (0, .ref M)] := hl
    refine lv_bipush (v := (-4)) S.1 S.2.1 dX8_sentHome_14 (by decide) ?_
    refine lv_istore_n S.1 S.2.1 dX8_sentHome_16 rfl hl (by decide) rfl (fun ls hl => ?_)
    have hl : lv_has ls 6 [(2, .int (-4)), (1, .int (nI 1)), (0, .ref M)] := hl
    refine lv_iconst (v := (nI 0)) S.1 S.2.1 dX8_sentHome_17 (by decide) ?_
    refine lv_istore_n S.1 S.2.1 dX8_sentHome_18 rfl hl (by decide) rfl (fun ls hl => ?_)
    have hl : lv_has ls 6 [(3, .int (nI 0)), (2, .int (-4)), (1, .int (nI 1)), (0, .ref M)] := hl
    have hloop19 : ∀ (d : Nat) (i : Nat) (ls : Array Slot), n - i = d → i ≤ n → i = 0 ∨ σ 7 < nI 2 → lv_has ls 6 [(2, .int (oi (rfSH σ (nI 1) i))), (3, .int (nI i)), (0, .ref M), (1, .int (nI 1))] → W p l e rm_X8_sentHome s m args below meth c s.heap [] 0 0 Q (F0 m 19 ls []) := by
      intro d
      induction d using Nat.strongRecOn with
      | ind d ih =>
        intro i ls hd hi hv  hl
        refine lv_iload_n S.1 S.2.1 dX8_sentHome_19 rfl (lv_at hl 1 rfl) ?_
        refine lv_aload_n S.1 S.2.1 dX8_sentHome_20 rfl (lv_at hl 2 rfl) ?_
        refine x_get S hE (ho) (C := RX8) (T := TX8) (N := 10) rfl inlX8 0 (by decide) (v := .ref (M + 1)) rfl kw7_6 rfl dX8_sentHome_21 ?_
        refine lv_iconst (v := (nI 0)) S.1 S.2.1 dX8_sentHome_24 (by decide) ?_
        refine x_iald S hE (hs) 0 rfl (by decide) (by decide) dX8_sentHome_25 ?_
        refine x_top (y := (nI n)) (hn) ?_
        refine lv_icmp_ge (tgt := 177) S.1 S.2.1 dX8_sentHome_26 rfl (fun h40 => ?_) (fun h40 => ?_)
        · skip
          have hge : i = n := (by have := ge_of_le (by omega) (by omega) h40; omega)
          refine lv_iload_n S.1 S.2.1 dX8_sentHome_177 rfl (lv_at hl 0 rfl) ?_
          subst hQ
          exact x_retR S hr hlk (rfl) (by rw [hge, rfNx_a hz (hge ▸ hv)]) dX8_sentHome_178
        · skip
          have hlt : i < n := lt_of_nle (by omega) (by omega) h40
          refine lv_aload_n S.1 S.2.1 dX8_sentHome_29 rfl (lv_at hl 2 rfl) ?_
          refine x_get S hE (ho) (C := RX8) (T := TX8) (N := 10) rfl inlX8 0 (by decide) (v := .ref (M + 1)) rfl kw7_6 rfl dX8_sentHome_30 ?_
          refine lv_bipush (v := (nI 7)) S.1 S.2.1 dX8_sentHome_33 (by decide) ?_
          refine x_iald S hE (hs) 7 rfl (by decide) (by decide) dX8_sentHome_35 ?_
          refine lv_iconst (v := (nI 2)) S.1 S.2.1 dX8_sentHome_36 (by decide) ?_
          refine lv_icmp_ge (tgt := 177) S.1 S.2.1 dX8_sentHome_37 rfl (fun h41 => ?_) (fun h41 => ?_)
          · skip
            refine lv_iload_n S.1 S.2.1 dX8_sentHome_177 rfl (lv_at hl 0 rfl) ?_
            subst hQ
            exact x_retR S hr hlk (rfl) (by rw [rfNx_b hv h41]) dX8_sentHome_178
          · skip
            refine lv_iload_n S.1 S.2.1 dX8_sentHome_40 rfl (lv_at hl 3 rfl) ?_
            refine lv_if_eq (tgt := 57) S.1 S.2.1 dX8_sentHome_41 rfl (fun h42 => ?_) (fun h42 => ?_)
            · exact absurd h42 (by decide)
            · skip
              refine lv_aload_n S.1 S.2.1 dX8_sentHome_44 rfl (lv_at hl 2 rfl) ?_
              refine lv_iload_n S.1 S.2.1 dX8_sentHome_45 rfl (lv_at hl 1 rfl) ?_
              refine lv_iconst (v := (nI 3)) S.1 S.2.1 dX8_sentHome_46 (by decide) ?_
              refine xk_R (v := (nf σ i 3)) (x_runV (As := [.int (nI i), .int (nI 3)]) (rest := []) S hE hS (fun _ h => h.elim) (c_X8_of l E M ps ty re σ i 3 _ ho hs (by omega) (by omega)) kv_X8_of kw12_22 kw12_23 kw13_0 (x_recv hE (ho) (ci := 8) rfl) ⟨Nat.le_of_ble_eq_true rfl, Nat.le_of_ble_eq_true rfl⟩ rfl rfl rfl hl.1 rfl (Nat.le_of_ble_eq_true rfl) dX8_sentHome_47 ⟨Nat.zero_le _, Nat.zero_le _⟩) ?_
              refine lv_iconst (v := (nI 4)) S.1 S.2.1 dX8_sentHome_50 (by decide) ?_
              refine lv_icmp_ne (tgt := 171) S.1 S.2.1 dX8_sentHome_51 rfl (fun h43 => ?_) (fun h43 => ?_)
              · skip
                refine lv_iinc (k := 1) (v := (nI (i + 1))) S.1 S.2.1 dX8_sentHome_171 hl rfl (iincP i 1) (by decide) rfl (fun ls hl => ?_)
                have hl : lv_has ls 6 [(3, .int (nI (i + 1))), (2, .int (oi (rfSH σ (nI 1) i))), (0, .ref M), (1, .int (nI 1))] := hl
                refine lv_goto (tgt := 19) S.1 S.2.1 dX8_sentHome_174 rfl ?_
                have hl : lv_has ls 6 [(2, .int (oi (rfSH σ (nI 1) (i + 1)))), (3, .int (nI (i + 1))), (0, .ref M), (1, .int (nI 1))] := by
                  rw [show (oi (rfSH σ (nI 1) (i + 1))) = (oi (rfSH σ (nI 1) i)) from by rw [rfSH, if_neg (fun z => z.elim (fun q => absurd q.1 (by decide)) (fun q => h43 q.2))]]
                  exact lv_sub hl [1, 0, 2, 3] rfl
                exact ih _ (by omega) (i + 1) ls rfl (by omega) (Or.inr (i_nle h41))  (lv_sub hl [0, 1, 2, 3] rfl)
              · skip
                refine lv_goto (tgt := 65) S.1 S.2.1 dX8_sentHome_54 rfl ?_
                rcases hv4 : rfSH σ (nI 1) i with _ | j4
                · rw [hv4] at hl
                  have hl : lv_has ls 6 [(2, .int (-4)), (3, .int (nI i)), (0, .ref M), (1, .int (nI 1))] := hl
                  refine lv_iload_n S.1 S.2.1 dX8_sentHome_65 rfl (lv_at hl 0 rfl) ?_
                  refine lv_if_lt (tgt := 94) S.1 S.2.1 dX8_sentHome_66 rfl (fun h44 => ?_) (fun h44 => ?_)
                  · skip
                    refine lv_iconst (v := (nI 1)) S.1 S.2.1 dX8_sentHome_94 (by decide) ?_
                    refine lv_goto (tgt := 99) S.1 S.2.1 dX8_sentHome_95 rfl ?_
                    refine lv_istore S.1 S.2.1 dX8_sentHome_99 hl (by decide) rfl (fun ls hl => ?_)
                    have hl : lv_has ls 6 [(4, .int (nI 1)), (2, .int (-4)), (3, .int (nI i)), (0, .ref M), (1, .int (nI 1))] := hl
                    refine lv_iload_n S.1 S.2.1 dX8_sentHome_101 rfl (lv_at hl 1 rfl) ?_
                    refine lv_if_lt (tgt := 135) S.1 S.2.1 dX8_sentHome_102 rfl (fun h45 => ?_) (fun h45 => ?_)
                    · skip
                      refine lv_iconst (v := (nI 0)) S.1 S.2.1 dX8_sentHome_135 (by decide) ?_
                      refine lv_istore S.1 S.2.1 dX8_sentHome_136 hl (by decide) rfl (fun ls hl => ?_)
                      have hl : lv_has ls 6 [(5, .int (nI 0)), (4, .int (nI 1)), (2, .int (-4)), (3, .int (nI i)), (0, .ref M), (1, .int (nI 1))] := hl
                      refine lv_iload S.1 S.2.1 dX8_sentHome_138 (lv_at hl 1 rfl) ?_
                      refine lv_if_ne (tgt := 165) S.1 S.2.1 dX8_sentHome_140 rfl (fun h46 => ?_) (fun h46 => ?_)
                      · skip
                        refine lv_iload_n S.1 S.2.1 dX8_sentHome_165 rfl (lv_at hl 3 rfl) ?_
                        refine lv_goto (tgt := 170) S.1 S.2.1 dX8_sentHome_166 rfl ?_
                        refine lv_istore_n S.1 S.2.1 dX8_sentHome_170 rfl hl (by decide) rfl (fun ls hl => ?_)
                        have hl : lv_has ls 6 [(2, .int (nI i)), (5, .int (nI 0)), (4, .int (nI 1)), (3, .int (nI i)), (0, .ref M), (1, .int (nI 1))] := hl
                        refine lv_iinc (k := 3) (v := (nI (i + 1))) S.1 S.2.1 dX8_sentHome_171 hl rfl (iincP i 1) (by decide) rfl (fun ls hl => ?_)
                        have hl : lv_has ls 6 [(3, .int (nI (i + 1))), (2, .int (nI i)), (5, .int (nI 0)), (4, .int (nI 1)), (0, .ref M), (1, .int (nI 1))] := hl
                        refine lv_goto (tgt := 19) S.1 S.2.1 dX8_sentHome_174 rfl ?_
                        have hl : lv_has ls 6 [(2, .int (oi (rfSH σ (nI 1) (i + 1)))), (3, .int (nI (i + 1))), (0, .ref M), (1, .int (nI 1))] := by
                          rw [show (oi (rfSH σ (nI 1) (i + 1))) = (nI i) from by rw [rfSH_no (z := (nI 1)) (Or.inr ⟨by decide, h43⟩) hv4]; first | done | rfl]
                          exact lv_sub hl [1, 0, 4, 5] rfl
                        exact ih _ (by omega) (i + 1) ls rfl (by omega) (Or.inr (i_nle h41))  (lv_sub hl [0, 1, 2, 3] rfl)
                      · exact absurd h46 (by decide)
                    · exact absurd h45 (by decide)
                  · exact absurd h44 (by decide)
                · rw [hv4] at hl
                  have hl : lv_has ls 6 [(2, .int (nI j4)), (3, .int (nI i)), (0, .ref M), (1, .int (nI 1))] := hl
                  have j4b := rfSH_lt hv4
                  refine lv_iload_n S.1 S.2.1 dX8_sentHome_65 rfl (lv_at hl 0 rfl) ?_
                  refine lv_if_lt (tgt := 94) S.1 S.2.1 dX8_sentHome_66 rfl (fun h47 => ?_) (fun h47 => ?_)
                  · exact absurd h47 (nI_pos (by omega))
                  · skip
                    refine lv_aload_n S.1 S.2.1 dX8_sentHome_69 rfl (lv_at hl 2 rfl) ?_
                    refine x_get S hE (ho) (C := RX8) (T := TX8) (N := 10) rfl inlX8 0 (by decide) (v := .ref (M + 1)) rfl kw7_6 rfl dX8_sentHome_70 ?_
                    refine lv_bipush (v := (nI 7)) S.1 S.2.1 dX8_sentHome_73 (by decide) ?_
                    refine x_iald S hE (hs) 7 rfl (by decide) (by decide) dX8_sentHome_75 ?_
                    refine lv_if_ne (tgt := 98) S.1 S.2.1 dX8_sentHome_76 rfl (fun h48 => ?_) (fun h48 => ?_)
                    · skip
                      refine lv_iconst (v := (nI 0)) S.1 S.2.1 dX8_sentHome_98 (by decide) ?_
                      refine lv_istore S.1 S.2.1 dX8_sentHome_99 hl (by decide) rfl (fun ls hl => ?_)
                      have hl : lv_has ls 6 [(4, .int (nI 0)), (2, .int (nI j4)), (3, .int (nI i)), (0, .ref M), (1, .int (nI 1))] := hl
                      refine lv_iload_n S.1 S.2.1 dX8_sentHome_101 rfl (lv_at hl 1 rfl) ?_
                      refine lv_if_lt (tgt := 135) S.1 S.2.1 dX8_sentHome_102 rfl (fun h49 => ?_) (fun h49 => ?_)
                      · exact absurd h49 (nI_pos (by omega))
                      · skip
                        refine lv_aload_n S.1 S.2.1 dX8_sentHome_105 rfl (lv_at hl 3 rfl) ?_
                        refine x_get S hE (ho) (C := RX8) (T := TX8) (N := 10) rfl inlX8 0 (by decide) (v := .ref (M + 1)) rfl kw7_6 rfl dX8_sentHome_106 ?_
                        refine lv_bipush (v := (nI 7)) S.1 S.2.1 dX8_sentHome_109 (by decide) ?_
                        refine x_iald S hE (hs) 7 rfl (by decide) (by decide) dX8_sentHome_111 ?_
                        refine lv_iconst (v := (nI 1)) S.1 S.2.1 dX8_sentHome_112 (by decide) ?_
                        refine lv_icmp_eq (tgt := 131) S.1 S.2.1 dX8_sentHome_113 rfl (fun h50 => ?_) (fun h50 => ?_)
                        · skip
                          refine lv_iconst (v := (nI 1)) S.1 S.2.1 dX8_sentHome_131 (by decide) ?_
                          refine lv_goto (tgt := 136) S.1 S.2.1 dX8_sentHome_132 rfl ?_
                          refine lv_istore S.1 S.2.1 dX8_sentHome_136 hl (by decide) rfl (fun ls hl => ?_)
                          have hl : lv_has ls 6 [(5, .int (nI 1)), (4, .int (nI 0)), (2, .int (nI j4)), (3, .int (nI i)), (0, .ref M), (1, .int (nI 1))] := hl
                          refine lv_iload S.1 S.2.1 dX8_sentHome_138 (lv_at hl 1 rfl) ?_
                          refine lv_if_ne (tgt := 165) S.1 S.2.1 dX8_sentHome_140 rfl (fun h51 => ?_) (fun h51 => ?_)
                          · exact absurd h51 (by decide)
                          · skip
                            refine lv_iload S.1 S.2.1 dX8_sentHome_143 (lv_at hl 0 rfl) ?_
                            refine lv_if_eq (tgt := 169) S.1 S.2.1 dX8_sentHome_145 rfl (fun h52 => ?_) (fun h52 => ?_)
                            · exact absurd h52 (by decide)
                            · skip
                              refine lv_aload_n S.1 S.2.1 dX8_sentHome_148 rfl (lv_at hl 4 rfl) ?_
                              refine lv_iload_n S.1 S.2.1 dX8_sentHome_149 rfl (lv_at hl 3 rfl) ?_
                              refine lv_bipush (v := (nI 7)) S.1 S.2.1 dX8_sentHome_150 (by decide) ?_
                              refine xk_R (v := (nf σ i 7)) (x_runV (As := [.int (nI i), .int (nI 7)]) (rest := []) S hE hS (fun _ h => h.elim) (c_X8_of l E M ps ty re σ i 7 _ ho hs (by omega) (by omega)) kv_X8_of kw12_22 kw12_23 kw13_0 (x_recv hE (ho) (ci := 8) rfl) ⟨Nat.le_of_ble_eq_true rfl, Nat.le_of_ble_eq_true rfl⟩ rfl rfl rfl hl.1 rfl (Nat.le_of_ble_eq_true rfl) dX8_sentHome_152 ⟨Nat.zero_le _, Nat.zero_le _⟩) ?_
                              refine lv_aload_n S.1 S.2.1 dX8_sentHome_155 rfl (lv_at hl 4 rfl) ?_
                              refine lv_iload_n S.1 S.2.1 dX8_sentHome_156 rfl (lv_at hl 2 rfl) ?_
                              refine lv_bipush (v := (nI 7)) S.1 S.2.1 dX8_sentHome_157 (by decide) ?_
                              refine xk_R (v := (nf σ j4 7)) (x_runV (As := [.int (nI j4), .int (nI 7)]) (rest := [.int (nf σ i 7)]) S hE hS (fun _ h => h.elim) (c_X8_of l E M ps ty re σ j4 7 _ ho hs (by omega) (by omega)) kv_X8_of kw12_22 kw12_23 kw13_0 (x_recv hE (ho) (ci := 8) rfl) ⟨Nat.le_of_ble_eq_true rfl, Nat.le_of_ble_eq_true rfl⟩ rfl rfl rfl hl.1 rfl (Nat.le_of_ble_eq_true rfl) dX8_sentHome_159 ⟨Nat.zero_le _, Nat.zero_le _⟩) ?_
                              refine lv_icmp_ge (tgt := 169) S.1 S.2.1 dX8_sentHome_162 rfl (fun h53 => ?_) (fun h53 => ?_)
                              · skip
                                refine lv_iload_n S.1 S.2.1 dX8_sentHome_169 rfl (lv_at hl 2 rfl) ?_
                                refine lv_istore_n S.1 S.2.1 dX8_sentHome_170 rfl hl (by decide) rfl (fun ls hl => ?_)
                                have hl : lv_has ls 6 [(2, .int (nI j4)), (5, .int (nI 1)), (4, .int (nI 0)), (3, .int (nI i)), (0, .ref M), (1, .int (nI 1))] := hl
                                refine lv_iinc (k := 3) (v := (nI (i + 1))) S.1 S.2.1 dX8_sentHome_171 hl rfl (iincP i 1) (by decide) rfl (fun ls hl => ?_)
                                have hl : lv_has ls 6 [(3, .int (nI (i + 1))), (2, .int (nI j4)), (5, .int (nI 1)), (4, .int (nI 0)), (0, .ref M), (1, .int (nI 1))] := hl
                                refine lv_goto (tgt := 19) S.1 S.2.1 dX8_sentHome_174 rfl ?_
                                have hl : lv_has ls 6 [(2, .int (oi (rfSH σ (nI 1) (i + 1)))), (3, .int (nI (i + 1))), (0, .ref M), (1, .int (nI 1))] := by
                                  rw [show (oi (rfSH σ (nI 1) (i + 1))) = (nI j4) from by rw [rfSH_nay (z := (nI 1)) (Or.inr ⟨by decide, h43⟩) hv4 (by unfold rfBt; rw [decide_eq_false h48, decide_eq_true h50, decide_eq_false (Int32.not_lt.mpr h53)]; first | done | rfl)]; first | done | rfl]
                                  exact lv_sub hl [1, 0, 4, 5] rfl
                                exact ih _ (by omega) (i + 1) ls rfl (by omega) (Or.inr (i_nle h41))  (lv_sub hl [0, 1, 2, 3] rfl)
                              · skip
                                refine lv_iload_n S.1 S.2.1 dX8_sentHome_165 rfl (lv_at hl 3 rfl) ?_
                                refine lv_goto (tgt := 170) S.1 S.2.1 dX8_sentHome_166 rfl ?_
                                refine lv_istore_n S.1 S.2.1 dX8_sentHome_170 rfl hl (by decide) rfl (fun ls hl => ?_)
                                have hl : lv_has ls 6 [(2, .int (nI i)), (5, .int (nI 1)), (4, .int (nI 0)), (3, .int (nI i)), (0, .ref M), (1, .int (nI 1))] := hl
                                refine lv_iinc (k := 3) (v := (nI (i + 1))) S.1 S.2.1 dX8_sentHome_171 hl rfl (iincP i 1) (by decide) rfl (fun ls hl => ?_)
                                have hl : lv_has ls 6 [(3, .int (nI (i + 1))), (2, .int (nI i)), (5, .int (nI 1)), (4, .int (nI 0)), (0, .ref M), (1, .int (nI 1))] := hl
                                refine lv_goto (tgt := 19) S.1 S.2.1 dX8_sentHome_174 rfl ?_
                                have hl : lv_has ls 6 [(2, .int (oi (rfSH σ (nI 1) (i + 1)))), (3, .int (nI (i + 1))), (0, .ref M), (1, .int (nI 1))] := by
                                  rw [show (oi (rfSH σ (nI 1) (i + 1))) = (nI i) from by rw [rfSH_yes (z := (nI 1)) (Or.inr ⟨by decide, h43⟩) hv4 (by unfold rfBt; rw [decide_eq_false h48, decide_eq_true h50, decide_eq_true (i_nle h53)]; first | done | rfl)]; first | done | rfl]
                                  exact lv_sub hl [1, 0, 4, 5] rfl
                                exact ih _ (by omega) (i + 1) ls rfl (by omega) (Or.inr (i_nle h41))  (lv_sub hl [0, 1, 2, 3] rfl)
                        · skip
                          refine lv_aload_n S.1 S.2.1 dX8_sentHome_116 rfl (lv_at hl 3 rfl) ?_
                          refine lv_iload_n S.1 S.2.1 dX8_sentHome_117 rfl (lv_at hl 2 rfl) ?_
                          refine lv_iconst (v := (nI 4)) S.1 S.2.1 dX8_sentHome_118 (by decide) ?_
                          refine xk_R (v := (nf σ i 4)) (x_runV (As := [.int (nI i), .int (nI 4)]) (rest := []) S hE hS (fun _ h => h.elim) (c_X8_of l E M ps ty re σ i 4 _ ho hs (by omega) (by omega)) kv_X8_of kw12_22 kw12_23 kw13_0 (x_recv hE (ho) (ci := 8) rfl) ⟨Nat.le_of_ble_eq_true rfl, Nat.le_of_ble_eq_true rfl⟩ rfl rfl rfl hl.1 rfl (Nat.le_of_ble_eq_true rfl) dX8_sentHome_119 ⟨Nat.zero_le _, Nat.zero_le _⟩) ?_
                          refine lv_aload_n S.1 S.2.1 dX8_sentHome_122 rfl (lv_at hl 3 rfl) ?_
                          refine lv_iload_n S.1 S.2.1 dX8_sentHome_123 rfl (lv_at hl 1 rfl) ?_
                          refine lv_iconst (v := (nI 4)) S.1 S.2.1 dX8_sentHome_124 (by decide) ?_
                          refine xk_R (v := (nf σ j4 4)) (x_runV (As := [.int (nI j4), .int (nI 4)]) (rest := [.int (nf σ i 4)]) S hE hS (fun _ h => h.elim) (c_X8_of l E M ps ty re σ j4 4 _ ho hs (by omega) (by omega)) kv_X8_of kw12_22 kw12_23 kw13_0 (x_recv hE (ho) (ci := 8) rfl) ⟨Nat.le_of_ble_eq_true rfl, Nat.le_of_ble_eq_true rfl⟩ rfl rfl rfl hl.1 rfl (Nat.le_of_ble_eq_true rfl) dX8_sentHome_125 ⟨Nat.zero_le _, Nat.zero_le _⟩) ?_
                          refine lv_icmp_ne (tgt := 135) S.1 S.2.1 dX8_sentHome_128 rfl (fun h54 => ?_) (fun h54 => ?_)
                          · skip
                            refine lv_iconst (v := (nI 0)) S.1 S.2.1 dX8_sentHome_135 (by decide) ?_
                            refine lv_istore S.1 S.2.1 dX8_sentHome_136 hl (by decide) rfl (fun ls hl => ?_)
                            have hl : lv_has ls 6 [(5, .int (nI 0)), (4, .int (nI 0)), (2, .int (nI j4)), (3, .int (nI i)), (0, .ref M), (1, .int (nI 1))] := hl
                            refine lv_iload S.1 S.2.1 dX8_sentHome_138 (lv_at hl 1 rfl) ?_
                            refine lv_if_ne (tgt := 165) S.1 S.2.1 dX8_sentHome_140 rfl (fun h55 => ?_) (fun h55 => ?_)
                            · exact absurd h55 (by decide)
                            · skip
                              refine lv_iload S.1 S.2.1 dX8_sentHome_143 (lv_at hl 0 rfl) ?_
                              refine lv_if_eq (tgt := 169) S.1 S.2.1 dX8_sentHome_145 rfl (fun h56 => ?_) (fun h56 => ?_)
                              · skip
                                refine lv_iload_n S.1 S.2.1 dX8_sentHome_169 rfl (lv_at hl 2 rfl) ?_
                                refine lv_istore_n S.1 S.2.1 dX8_sentHome_170 rfl hl (by decide) rfl (fun ls hl => ?_)
                                have hl : lv_has ls 6 [(2, .int (nI j4)), (5, .int (nI 0)), (4, .int (nI 0)), (3, .int (nI i)), (0, .ref M), (1, .int (nI 1))] := hl
                                refine lv_iinc (k := 3) (v := (nI (i + 1))) S.1 S.2.1 dX8_sentHome_171 hl rfl (iincP i 1) (by decide) rfl (fun ls hl => ?_)
                                have hl : lv_has ls 6 [(3, .int (nI (i + 1))), (2, .int (nI j4)), (5, .int (nI 0)), (4, .int (nI 0)), (0, .ref M), (1, .int (nI 1))] := hl
                                refine lv_goto (tgt := 19) S.1 S.2.1 dX8_sentHome_174 rfl ?_
                                have hl : lv_has ls 6 [(2, .int (oi (rfSH σ (nI 1) (i + 1)))), (3, .int (nI (i + 1))), (0, .ref M), (1, .int (nI 1))] := by
                                  rw [show (oi (rfSH σ (nI 1) (i + 1))) = (nI j4) from by rw [rfSH_nay (z := (nI 1)) (Or.inr ⟨by decide, h43⟩) hv4 (by unfold rfBt; rw [decide_eq_false h48, decide_eq_false h50, decide_eq_false h54]; first | done | rfl)]; first | done | rfl]
                                  exact lv_sub hl [1, 0, 4, 5] rfl
                                exact ih _ (by omega) (i + 1) ls rfl (by omega) (Or.inr (i_nle h41))  (lv_sub hl [0, 1, 2, 3] rfl)
                              · exact absurd h56 (by decide)
                          · skip
                            refine lv_iconst (v := (nI 1)) S.1 S.2.1 dX8_sentHome_131 (by decide) ?_
                            refine lv_goto (tgt := 136) S.1 S.2.1 dX8_sentHome_132 rfl ?_
                            refine lv_istore S.1 S.2.1 dX8_sentHome_136 hl (by decide) rfl (fun ls hl => ?_)
                            have hl : lv_has ls 6 [(5, .int (nI 1)), (4, .int (nI 0)), (2, .int (nI j4)), (3, .int (nI i)), (0, .ref M), (1, .int (nI 1))] := hl
                            refine lv_iload S.1 S.2.1 dX8_sentHome_138 (lv_at hl 1 rfl) ?_
                            refine lv_if_ne (tgt := 165) S.1 S.2.1 dX8_sentHome_140 rfl (fun h57 => ?_) (fun h57 => ?_)
                            · exact absurd h57 (by decide)
                            · skip
                              refine lv_iload S.1 S.2.1 dX8_sentHome_143 (lv_at hl 0 rfl) ?_
                              refine lv_if_eq (tgt := 169) S.1 S.2.1 dX8_sentHome_145 rfl (fun h58 => ?_) (fun h58 => ?_)
                              · exact absurd h58 (by decide)
                              · skip
                                refine lv_aload_n S.1 S.2.1 dX8_sentHome_148 rfl (lv_at hl 4 rfl) ?_
                                refine lv_iload_n S.1 S.2.1 dX8_sentHome_149 rfl (lv_at hl 3 rfl) ?_
                                refine lv_bipush (v := (nI 7)) S.1 S.2.1 dX8_sentHome_150 (by decide) ?_
                                refine xk_R (v := (nf σ i 7)) (x_runV (As := [.int (nI i), .int (nI 7)]) (rest := []) S hE hS (fun _ h => h.elim) (c_X8_of l E M ps ty re σ i 7 _ ho hs (by omega) (by omega)) kv_X8_of kw12_22 kw12_23 kw13_0 (x_recv hE (ho) (ci := 8) rfl) ⟨Nat.le_of_ble_eq_true rfl, Nat.le_of_ble_eq_true rfl⟩ rfl rfl rfl hl.1 rfl (Nat.le_of_ble_eq_true rfl) dX8_sentHome_152 ⟨Nat.zero_le _, Nat.zero_le _⟩) ?_
                                refine lv_aload_n S.1 S.2.1 dX8_sentHome_155 rfl (lv_at hl 4 rfl) ?_
                                refine lv_iload_n S.1 S.2.1 dX8_sentHome_156 rfl (lv_at hl 2 rfl) ?_
                                refine lv_bipush (v := (nI 7)) S.1 S.2.1 dX8_sentHome_157 (by decide) ?_
                                refine xk_R (v := (nf σ j4 7)) (x_runV (As := [.int (nI j4), .int (nI 7)]) (rest := [.int (nf σ i 7)]) S hE hS (fun _ h => h.elim) (c_X8_of l E M ps ty re σ j4 7 _ ho hs (by omega) (by omega)) kv_X8_of kw12_22 kw12_23 kw13_0 (x_recv hE (ho) (ci := 8) rfl) ⟨Nat.le_of_ble_eq_true rfl, Nat.le_of_ble_eq_true rfl⟩ rfl rfl rfl hl.1 rfl (Nat.le_of_ble_eq_true rfl) dX8_sentHome_159 ⟨Nat.zero_le _, Nat.zero_le _⟩) ?_
                                refine lv_icmp_ge (tgt := 169) S.1 S.2.1 dX8_sentHome_162 rfl (fun h59 => ?_) (fun h59 => ?_)
                                · skip
                                  refine lv_iload_n S.1 S.2.1 dX8_sentHome_169 rfl (lv_at hl 2 rfl) ?_
                                  refine lv_istore_n S.1 S.2.1 dX8_sentHome_170 rfl hl (by decide) rfl (fun ls hl => ?_)
                                  have hl : lv_has ls 6 [(2, .int (nI j4)), (5, .int (nI 1)), (4, .int (nI 0)), (3, .int (nI i)), (0, .ref M), (1, .int (nI 1))] := hl
                                  refine lv_iinc (k := 3) (v := (nI (i + 1))) S.1 S.2.1 dX8_sentHome_171 hl rfl (iincP i 1) (by decide) rfl (fun ls hl => ?_)
                                  have hl : lv_has ls 6 [(3, .int (nI (i + 1))), (2, .int (nI j4)), (5, .int (nI 1)), (4, .int (nI 0)), (0, .ref M), (1, .int (nI 1))] := hl
                                  refine lv_goto (tgt := 19) S.1 S.2.1 dX8_sentHome_174 rfl ?_
                                  have hl : lv_has ls 6 [(2, .int (oi (rfSH σ (nI 1) (i + 1)))), (3, .int (nI (i + 1))), (0, .ref M), (1, .int (nI 1))] := by
                                    rw [show (oi (rfSH σ (nI 1) (i + 1))) = (nI j4) from by rw [rfSH_nay (z := (nI 1)) (Or.inr ⟨by decide, h43⟩) hv4 (by unfold rfBt; rw [decide_eq_false h48, decide_eq_false h50, decide_eq_true h54, decide_eq_false (Int32.not_lt.mpr h59)]; first | done | rfl)]; first | done | rfl]
                                    exact lv_sub hl [1, 0, 4, 5] rfl
                                  exact ih _ (by omega) (i + 1) ls rfl (by omega) (Or.inr (i_nle h41))  (lv_sub hl [0, 1, 2, 3] rfl)
                                · skip
                                  refine lv_iload_n S.1 S.2.1 dX8_sentHome_165 rfl (lv_at hl 3 rfl) ?_
                                  refine lv_goto (tgt := 170) S.1 S.2.1 dX8_sentHome_166 rfl ?_
                                  refine lv_istore_n S.1 S.2.1 dX8_sentHome_170 rfl hl (by decide) rfl (fun ls hl => ?_)
                                  have hl : lv_has ls 6 [(2, .int (nI i)), (5, .int (nI 1)), (4, .int (nI 0)), (3, .int (nI i)), (0, .ref M), (1, .int (nI 1))] := hl
                                  refine lv_iinc (k := 3) (v := (nI (i + 1))) S.1 S.2.1 dX8_sentHome_171 hl rfl (iincP i 1) (by decide) rfl (fun ls hl => ?_)
                                  have hl : lv_has ls 6 [(3, .int (nI (i + 1))), (2, .int (nI i)), (5, .int (nI 1)), (4, .int (nI 0)), (0, .ref M), (1, .int (nI 1))] := hl
                                  refine lv_goto (tgt := 19) S.1 S.2.1 dX8_sentHome_174 rfl ?_
                                  have hl : lv_has ls 6 [(2, .int (oi (rfSH σ (nI 1) (i + 1)))), (3, .int (nI (i + 1))), (0, .ref M), (1, .int (nI 1))] := by
                                    rw [show (oi (rfSH σ (nI 1) (i + 1))) = (nI i) from by rw [rfSH_yes (z := (nI 1)) (Or.inr ⟨by decide, h43⟩) hv4 (by unfold rfBt; rw [decide_eq_false h48, decide_eq_false h50, decide_eq_true h54, decide_eq_true (i_nle h59)]; first | done | rfl)]; first | done | rfl]
                                    exact lv_sub hl [1, 0, 4, 5] rfl
                                  exact ih _ (by omega) (i + 1) ls rfl (by omega) (Or.inr (i_nle h41))  (lv_sub hl [0, 1, 2, 3] rfl)
                    · skip
                      refine lv_aload_n S.1 S.2.1 dX8_sentHome_79 rfl (lv_at hl 2 rfl) ?_
                      refine lv_iload_n S.1 S.2.1 dX8_sentHome_80 rfl (lv_at hl 1 rfl) ?_
                      refine lv_iconst (v := (nI 4)) S.1 S.2.1 dX8_sentHome_81 (by decide) ?_
                      refine xk_R (v := (nf σ i 4)) (x_runV (As := [.int (nI i), .int (nI 4)]) (rest := []) S hE hS (fun _ h => h.elim) (c_X8_of l E M ps ty re σ i 4 _ ho hs (by omega) (by omega)) kv_X8_of kw12_22 kw12_23 kw13_0 (x_recv hE (ho) (ci := 8) rfl) ⟨Nat.le_of_ble_eq_true rfl, Nat.le_of_ble_eq_true rfl⟩ rfl rfl rfl hl.1 rfl (Nat.le_of_ble_eq_true rfl) dX8_sentHome_82 ⟨Nat.zero_le _, Nat.zero_le _⟩) ?_
                      refine lv_aload_n S.1 S.2.1 dX8_sentHome_85 rfl (lv_at hl 2 rfl) ?_
                      refine lv_iload_n S.1 S.2.1 dX8_sentHome_86 rfl (lv_at hl 0 rfl) ?_
                      refine lv_iconst (v := (nI 4)) S.1 S.2.1 dX8_sentHome_87 (by decide) ?_
                      refine xk_R (v := (nf σ j4 4)) (x_runV (As := [.int (nI j4), .int (nI 4)]) (rest := [.int (nf σ i 4)]) S hE hS (fun _ h => h.elim) (c_X8_of l E M ps ty re σ j4 4 _ ho hs (by omega) (by omega)) kv_X8_of kw12_22 kw12_23 kw13_0 (x_recv hE (ho) (ci := 8) rfl) ⟨Nat.le_of_ble_eq_true rfl, Nat.le_of_ble_eq_true rfl⟩ rfl rfl rfl hl.1 rfl (Nat.le_of_ble_eq_true rfl) dX8_sentHome_88 ⟨Nat.zero_le _, Nat.zero_le _⟩) ?_
                      refine lv_icmp_ge (tgt := 98) S.1 S.2.1 dX8_sentHome_91 rfl (fun h60 => ?_) (fun h60 => ?_)
                      · skip
                        refine lv_iconst (v := (nI 0)) S.1 S.2.1 dX8_sentHome_98 (by decide) ?_
                        refine lv_istore S.1 S.2.1 dX8_sentHome_99 hl (by decide) rfl (fun ls hl => ?_)
                        have hl : lv_has ls 6 [(4, .int (nI 0)), (2, .int (nI j4)), (3, .int (nI i)), (0, .ref M), (1, .int (nI 1))] := hl
                        refine lv_iload_n S.1 S.2.1 dX8_sentHome_101 rfl (lv_at hl 1 rfl) ?_
                        refine lv_if_lt (tgt := 135) S.1 S.2.1 dX8_sentHome_102 rfl (fun h61 => ?_) (fun h61 => ?_)
                        · exact absurd h61 (nI_pos (by omega))
                        · skip
                          refine lv_aload_n S.1 S.2.1 dX8_sentHome_105 rfl (lv_at hl 3 rfl) ?_
                          refine x_get S hE (ho) (C := RX8) (T := TX8) (N := 10) rfl inlX8 0 (by decide) (v := .ref (M + 1)) rfl kw7_6 rfl dX8_sentHome_106 ?_
                          refine lv_bipush (v := (nI 7)) S.1 S.2.1 dX8_sentHome_109 (by decide) ?_
                          refine x_iald S hE (hs) 7 rfl (by decide) (by decide) dX8_sentHome_111 ?_
                          refine lv_iconst (v := (nI 1)) S.1 S.2.1 dX8_sentHome_112 (by decide) ?_
                          refine lv_icmp_eq (tgt := 131) S.1 S.2.1 dX8_sentHome_113 rfl (fun h62 => ?_) (fun h62 => ?_)
                          · skip
                            refine lv_iconst (v := (nI 1)) S.1 S.2.1 dX8_sentHome_131 (by decide) ?_
                            refine lv_goto (tgt := 136) S.1 S.2.1 dX8_sentHome_132 rfl ?_
                            refine lv_istore S.1 S.2.1 dX8_sentHome_136 hl (by decide) rfl (fun ls hl => ?_)
                            have hl : lv_has ls 6 [(5, .int (nI 1)), (4, .int (nI 0)), (2, .int (nI j4)), (3, .int (nI i)), (0, .ref M), (1, .int (nI 1))] := hl
                            refine lv_iload S.1 S.2.1 dX8_sentHome_138 (lv_at hl 1 rfl) ?_
                            refine lv_if_ne (tgt := 165) S.1 S.2.1 dX8_sentHome_140 rfl (fun h63 => ?_) (fun h63 => ?_)
                            · exact absurd h63 (by decide)
                            · skip
                              refine lv_iload S.1 S.2.1 dX8_sentHome_143 (lv_at hl 0 rfl) ?_
                              refine lv_if_eq (tgt := 169) S.1 S.2.1 dX8_sentHome_145 rfl (fun h64 => ?_) (fun h64 => ?_)
                              · exact absurd h64 (by decide)
                              · skip
                                refine lv_aload_n S.1 S.2.1 dX8_sentHome_148 rfl (lv_at hl 4 rfl) ?_
                                refine lv_iload_n S.1 S.2.1 dX8_sentHome_149 rfl (lv_at hl 3 rfl) ?_
                                refine lv_bipush (v := (nI 7)) S.1 S.2.1 dX8_sentHome_150 (by decide) ?_
                                refine xk_R (v := (nf σ i 7)) (x_runV (As := [.int (nI i), .int (nI 7)]) (rest := []) S hE hS (fun _ h => h.elim) (c_X8_of l E M ps ty re σ i 7 _ ho hs (by omega) (by omega)) kv_X8_of kw12_22 kw12_23 kw13_0 (x_recv hE (ho) (ci := 8) rfl) ⟨Nat.le_of_ble_eq_true rfl, Nat.le_of_ble_eq_true rfl⟩ rfl rfl rfl hl.1 rfl (Nat.le_of_ble_eq_true rfl) dX8_sentHome_152 ⟨Nat.zero_le _, Nat.zero_le _⟩) ?_
                                refine lv_aload_n S.1 S.2.1 dX8_sentHome_155 rfl (lv_at hl 4 rfl) ?_
                                refine lv_iload_n S.1 S.2.1 dX8_sentHome_156 rfl (lv_at hl 2 rfl) ?_
                                refine lv_bipush (v := (nI 7)) S.1 S.2.1 dX8_sentHome_157 (by decide) ?_
                                refine xk_R (v := (nf σ j4 7)) (x_runV (As := [.int (nI j4), .int (nI 7)]) (rest := [.int (nf σ i 7)]) S hE hS (fun _ h => h.elim) (c_X8_of l E M ps ty re σ j4 7 _ ho hs (by omega) (by omega)) kv_X8_of kw12_22 kw12_23 kw13_0 (x_recv hE (ho) (ci := 8) rfl) ⟨Nat.le_of_ble_eq_true rfl, Nat.le_of_ble_eq_true rfl⟩ rfl rfl rfl hl.1 rfl (Nat.le_of_ble_eq_true rfl) dX8_sentHome_159 ⟨Nat.zero_le _, Nat.zero_le _⟩) ?_
                                refine lv_icmp_ge (tgt := 169) S.1 S.2.1 dX8_sentHome_162 rfl (fun h65 => ?_) (fun h65 => ?_)
                                · skip
                                  refine lv_iload_n S.1 S.2.1 dX8_sentHome_169 rfl (lv_at hl 2 rfl) ?_
                                  refine lv_istore_n S.1 S.2.1 dX8_sentHome_170 rfl hl (by decide) rfl (fun ls hl => ?_)
                                  have hl : lv_has ls 6 [(2, .int (nI j4)), (5, .int (nI 1)), (4, .int (nI 0)), (3, .int (nI i)), (0, .ref M), (1, .int (nI 1))] := hl
                                  refine lv_iinc (k := 3) (v := (nI (i + 1))) S.1 S.2.1 dX8_sentHome_171 hl rfl (iincP i 1) (by decide) rfl (fun ls hl => ?_)
                                  have hl : lv_has ls 6 [(3, .int (nI (i + 1))), (2, .int (nI j4)), (5, .int (nI 1)), (4, .int (nI 0)), (0, .ref M), (1, .int (nI 1))] := hl
                                  refine lv_goto (tgt := 19) S.1 S.2.1 dX8_sentHome_174 rfl ?_
                                  have hl : lv_has ls 6 [(2, .int (oi (rfSH σ (nI 1) (i + 1)))), (3, .int (nI (i + 1))), (0, .ref M), (1, .int (nI 1))] := by
                                    rw [show (oi (rfSH σ (nI 1) (i + 1))) = (nI j4) from by rw [rfSH_nay (z := (nI 1)) (Or.inr ⟨by decide, h43⟩) hv4 (by unfold rfBt; rw [decide_eq_true h48, decide_eq_false (Int32.not_lt.mpr h60), decide_eq_true h62, decide_eq_false (Int32.not_lt.mpr h65)]; first | done | rfl)]; first | done | rfl]
                                    exact lv_sub hl [1, 0, 4, 5] rfl
                                  exact ih _ (by omega) (i + 1) ls rfl (by omega) (Or.inr (i_nle h41))  (lv_sub hl [0, 1, 2, 3] rfl)
                                · skip
                                  refine lv_iload_n S.1 S.2.1 dX8_sentHome_165 rfl (lv_at hl 3 rfl) ?_
                                  refine lv_goto (tgt := 170) S.1 S.2.1 dX8_sentHome_166 rfl ?_
                                  refine lv_istore_n S.1 S.2.1 dX8_sentHome_170 rfl hl (by decide) rfl (fun ls hl => ?_)
                                  have hl : lv_has ls 6 [(2, .int (nI i)), (5, .int (nI 1)), (4, .int (nI 0)), (3, .int (nI i)), (0, .ref M), (1, .int (nI 1))] := hl
                                  refine lv_iinc (k := 3) (v := (nI (i + 1))) S.1 S.2.1 dX8_sentHome_171 hl rfl (iincP i 1) (by decide) rfl (fun ls hl => ?_)
                                  have hl : lv_has ls 6 [(3, .int (nI (i + 1))), (2, .int (nI i)), (5, .int (nI 1)), (4, .int (nI 0)), (0, .ref M), (1, .int (nI 1))] := hl
                                  refine lv_goto (tgt := 19) S.1 S.2.1 dX8_sentHome_174 rfl ?_
                                  have hl : lv_has ls 6 [(2, .int (oi (rfSH σ (nI 1) (i + 1)))), (3, .int (nI (i + 1))), (0, .ref M), (1, .int (nI 1))] := by
                                    rw [show (oi (rfSH σ (nI 1) (i + 1))) = (nI i) from by rw [rfSH_yes (z := (nI 1)) (Or.inr ⟨by decide, h43⟩) hv4 (by unfold rfBt; rw [decide_eq_true h48, decide_eq_false (Int32.not_lt.mpr h60), decide_eq_true h62, decide_eq_true (i_nle h65)]; first | done | rfl)]; first | done | rfl]
                                    exact lv_sub hl [1, 0, 4, 5] rfl
                                  exact ih _ (by omega) (i + 1) ls rfl (by omega) (Or.inr (i_nle h41))  (lv_sub hl [0, 1, 2, 3] rfl)
                          · skip
                            refine lv_aload_n S.1 S.2.1 dX8_sentHome_116 rfl (lv_at hl 3 rfl) ?_
                            refine lv_iload_n S.1 S.2.1 dX8_sentHome_117 rfl (lv_at hl 2 rfl) ?_
                            refine lv_iconst (v := (nI 4)) S.1 S.2.1 dX8_sentHome_118 (by decide) ?_
                            refine xk_R (v := (nf σ i 4)) (x_runV (As := [.int (nI i), .int (nI 4)]) (rest := []) S hE hS (fun _ h => h.elim) (c_X8_of l E M ps ty re σ i 4 _ ho hs (by omega) (by omega)) kv_X8_of kw12_22 kw12_23 kw13_0 (x_recv hE (ho) (ci := 8) rfl) ⟨Nat.le_of_ble_eq_true rfl, Nat.le_of_ble_eq_true rfl⟩ rfl rfl rfl hl.1 rfl (Nat.le_of_ble_eq_true rfl) dX8_sentHome_119 ⟨Nat.zero_le _, Nat.zero_le _⟩) ?_
                            refine lv_aload_n S.1 S.2.1 dX8_sentHome_122 rfl (lv_at hl 3 rfl) ?_
                            refine lv_iload_n S.1 S.2.1 dX8_sentHome_123 rfl (lv_at hl 1 rfl) ?_
                            refine lv_iconst (v := (nI 4)) S.1 S.2.1 dX8_sentHome_124 (by decide) ?_
                            refine xk_R (v := (nf σ j4 4)) (x_runV (As := [.int (nI j4), .int (nI 4)]) (rest := [.int (nf σ i 4)]) S hE hS (fun _ h => h.elim) (c_X8_of l E M ps ty re σ j4 4 _ ho hs (by omega) (by omega)) kv_X8_of kw12_22 kw12_23 kw13_0 (x_recv hE (ho) (ci := 8) rfl) ⟨Nat.le_of_ble_eq_true rfl, Nat.le_of_ble_eq_true rfl⟩ rfl rfl rfl hl.1 rfl (Nat.le_of_ble_eq_true rfl) dX8_sentHome_125 ⟨Nat.zero_le _, Nat.zero_le _⟩) ?_
                            refine lv_icmp_ne (tgt := 135) S.1 S.2.1 dX8_sentHome_128 rfl (fun h66 => ?_) (fun h66 => ?_)
                            · skip
                              refine lv_iconst (v := (nI 0)) S.1 S.2.1 dX8_sentHome_135 (by decide) ?_
                              refine lv_istore S.1 S.2.1 dX8_sentHome_136 hl (by decide) rfl (fun ls hl => ?_)
                              have hl : lv_has ls 6 [(5, .int (nI 0)), (4, .int (nI 0)), (2, .int (nI j4)), (3, .int (nI i)), (0, .ref M), (1, .int (nI 1))] := hl
                              refine lv_iload S.1 S.2.1 dX8_sentHome_138 (lv_at hl 1 rfl) ?_
                              refine lv_if_ne (tgt := 165) S.1 S.2.1 dX8_sentHome_140 rfl (fun h67 => ?_) (fun h67 => ?_)
                              · exact absurd h67 (by decide)
                              · skip
                                refine lv_iload S.1 S.2.1 dX8_sentHome_143 (lv_at hl 0 rfl) ?_
                                refine lv_if_eq (tgt := 169) S.1 S.2.1 dX8_sentHome_145 rfl (fun h68 => ?_) (fun h68 => ?_)
                                · skip
                                  refine lv_iload_n S.1 S.2.1 dX8_sentHome_169 rfl (lv_at hl 2 rfl) ?_
                                  refine lv_istore_n S.1 S.2.1 dX8_sentHome_170 rfl hl (by decide) rfl (fun ls hl => ?_)
                                  have hl : lv_has ls 6 [(2, .int (nI j4)), (5, .int (nI 0)), (4, .int (nI 0)), (3, .int (nI i)), (0, .ref M), (1, .int (nI 1))] := hl
                                  refine lv_iinc (k := 3) (v := (nI (i + 1))) S.1 S.2.1 dX8_sentHome_171 hl rfl (iincP i 1) (by decide) rfl (fun ls hl => ?_)
                                  have hl : lv_has ls 6 [(3, .int (nI (i + 1))), (2, .int (nI j4)), (5, .int (nI 0)), (4, .int (nI 0)), (0, .ref M), (1, .int (nI 1))] := hl
                                  refine lv_goto (tgt := 19) S.1 S.2.1 dX8_sentHome_174 rfl ?_
                                  have hl : lv_has ls 6 [(2, .int (oi (rfSH σ (nI 1) (i + 1)))), (3, .int (nI (i + 1))), (0, .ref M), (1, .int (nI 1))] := by
                                    rw [show (oi (rfSH σ (nI 1) (i + 1))) = (nI j4) from by rw [rfSH_nay (z := (nI 1)) (Or.inr ⟨by decide, h43⟩) hv4 (by unfold rfBt; rw [decide_eq_true h48, decide_eq_false (Int32.not_lt.mpr h60), decide_eq_false h62, decide_eq_false h66]; first | done | rfl)]; first | done | rfl]
                                    exact lv_sub hl [1, 0, 4, 5] rfl
                                  exact ih _ (by omega) (i + 1) ls rfl (by omega) (Or.inr (i_nle h41))  (lv_sub hl [0, 1, 2, 3] rfl)
                                · exact absurd h68 (by decide)
                            · skip
                              refine lv_iconst (v := (nI 1)) S.1 S.2.1 dX8_sentHome_131 (by decide) ?_
                              refine lv_goto (tgt := 136) S.1 S.2.1 dX8_sentHome_132 rfl ?_
                              refine lv_istore S.1 S.2.1 dX8_sentHome_136 hl (by decide) rfl (fun ls hl => ?_)
                              have hl : lv_has ls 6 [(5, .int (nI 1)), (4, .int (nI 0)), (2, .int (nI j4)), (3, .int (nI i)), (0, .ref M), (1, .int (nI 1))] := hl
                              refine lv_iload S.1 S.2.1 dX8_sentHome_138 (lv_at hl 1 rfl) ?_
                              refine lv_if_ne (tgt := 165) S.1 S.2.1 dX8_sentHome_140 rfl (fun h69 => ?_) (fun h69 => ?_)
                              · exact absurd h69 (by decide)
                              · skip
                                refine lv_iload S.1 S.2.1 dX8_sentHome_143 (lv_at hl 0 rfl) ?_
                                refine lv_if_eq (tgt := 169) S.1 S.2.1 dX8_sentHome_145 rfl (fun h70 => ?_) (fun h70 => ?_)
                                · exact absurd h70 (by decide)
                                · skip
                                  refine lv_aload_n S.1 S.2.1 dX8_sentHome_148 rfl (lv_at hl 4 rfl) ?_
                                  refine lv_iload_n S.1 S.2.1 dX8_sentHome_149 rfl (lv_at hl 3 rfl) ?_
                                  refine lv_bipush (v := (nI 7)) S.1 S.2.1 dX8_sentHome_150 (by decide) ?_
                                  refine xk_R (v := (nf σ i 7)) (x_runV (As := [.int (nI i), .int (nI 7)]) (rest := []) S hE hS (fun _ h => h.elim) (c_X8_of l E M ps ty re σ i 7 _ ho hs (by omega) (by omega)) kv_X8_of kw12_22 kw12_23 kw13_0 (x_recv hE (ho) (ci := 8) rfl) ⟨Nat.le_of_ble_eq_true rfl, Nat.le_of_ble_eq_true rfl⟩ rfl rfl rfl hl.1 rfl (Nat.le_of_ble_eq_true rfl) dX8_sentHome_152 ⟨Nat.zero_le _, Nat.zero_le _⟩) ?_
                                  refine lv_aload_n S.1 S.2.1 dX8_sentHome_155 rfl (lv_at hl 4 rfl) ?_
                                  refine lv_iload_n S.1 S.2.1 dX8_sentHome_156 rfl (lv_at hl 2 rfl) ?_
                                  refine lv_bipush (v := (nI 7)) S.1 S.2.1 dX8_sentHome_157 (by decide) ?_
                                  refine xk_R (v := (nf σ j4 7)) (x_runV (As := [.int (nI j4), .int (nI 7)]) (rest := [.int (nf σ i 7)]) S hE hS (fun _ h => h.elim) (c_X8_of l E M ps ty re σ j4 7 _ ho hs (by omega) (by omega)) kv_X8_of kw12_22 kw12_23 kw13_0 (x_recv hE (ho) (ci := 8) rfl) ⟨Nat.le_of_ble_eq_true rfl, Nat.le_of_ble_eq_true rfl⟩ rfl rfl rfl hl.1 rfl (Nat.le_of_ble_eq_true rfl) dX8_sentHome_159 ⟨Nat.zero_le _, Nat.zero_le _⟩) ?_
                                  refine lv_icmp_ge (tgt := 169) S.1 S.2.1 dX8_sentHome_162 rfl (fun h71 => ?_) (fun h71 => ?_)
                                  · skip
                                    refine lv_iload_n S.1 S.2.1 dX8_sentHome_169 rfl (lv_at hl 2 rfl) ?_
                                    refine lv_istore_n S.1 S.2.1 dX8_sentHome_170 rfl hl (by decide) rfl (fun ls hl => ?_)
                                    have hl : lv_has ls 6 [(2, .int (nI j4)), (5, .int (nI 1)), (4, .int (nI 0)), (3, .int (nI i)), (0, .ref M), (1, .int (nI 1))] := hl
                                    refine lv_iinc (k := 3) (v := (nI (i + 1))) S.1 S.2.1 dX8_sentHome_171 hl rfl (iincP i 1) (by decide) rfl (fun ls hl => ?_)
                                    have hl : lv_has ls 6 [(3, .int (nI (i + 1))), (2, .int (nI j4)), (5, .int (nI 1)), (4, .int (nI 0)), (0, .ref M), (1, .int (nI 1))] := hl
                                    refine lv_goto (tgt := 19) S.1 S.2.1 dX8_sentHome_174 rfl ?_
                                    have hl : lv_has ls 6 [(2, .int (oi (rfSH σ (nI 1) (i + 1)))), (3, .int (nI (i + 1))), (0, .ref M), (1, .int (nI 1))] := by
                                      rw [show (oi (rfSH σ (nI 1) (i + 1))) = (nI j4) from by rw [rfSH_nay (z := (nI 1)) (Or.inr ⟨by decide, h43⟩) hv4 (by unfold rfBt; rw [decide_eq_true h48, decide_eq_false (Int32.not_lt.mpr h60), decide_eq_false h62, decide_eq_true h66, decide_eq_false (Int32.not_lt.mpr h71)]; first | done | rfl)]; first | done | rfl]
                                      exact lv_sub hl [1, 0, 4, 5] rfl
                                    exact ih _ (by omega) (i + 1) ls rfl (by omega) (Or.inr (i_nle h41))  (lv_sub hl [0, 1, 2, 3] rfl)
                                  · skip
                                    refine lv_iload_n S.1 S.2.1 dX8_sentHome_165 rfl (lv_at hl 3 rfl) ?_
                                    refine lv_goto (tgt := 170) S.1 S.2.1 dX8_sentHome_166 rfl ?_
                                    refine lv_istore_n S.1 S.2.1 dX8_sentHome_170 rfl hl (by decide) rfl (fun ls hl => ?_)
                                    have hl : lv_has ls 6 [(2, .int (nI i)), (5, .int (nI 1)), (4, .int (nI 0)), (3, .int (nI i)), (0, .ref M), (1, .int (nI 1))] := hl
                                    refine lv_iinc (k := 3) (v := (nI (i + 1))) S.1 S.2.1 dX8_sentHome_171 hl rfl (iincP i 1) (by decide) rfl (fun ls hl => ?_)
                                    have hl : lv_has ls 6 [(3, .int (nI (i + 1))), (2, .int (nI i)), (5, .int (nI 1)), (4, .int (nI 0)), (0, .ref M), (1, .int (nI 1))] := hl
                                    refine lv_goto (tgt := 19) S.1 S.2.1 dX8_sentHome_174 rfl ?_
                                    have hl : lv_has ls 6 [(2, .int (oi (rfSH σ (nI 1) (i + 1)))), (3, .int (nI (i + 1))), (0, .ref M), (1, .int (nI 1))] := by
                                      rw [show (oi (rfSH σ (nI 1) (i + 1))) = (nI i) from by rw [rfSH_yes (z := (nI 1)) (Or.inr ⟨by decide, h43⟩) hv4 (by unfold rfBt; rw [decide_eq_true h48, decide_eq_false (Int32.not_lt.mpr h60), decide_eq_false h62, decide_eq_true h66, decide_eq_true (i_nle h71)]; first | done | rfl)]; first | done | rfl]
                                      exact lv_sub hl [1, 0, 4, 5] rfl
                                    exact ih _ (by omega) (i + 1) ls rfl (by omega) (Or.inr (i_nle h41))  (lv_sub hl [0, 1, 2, 3] rfl)
                      · skip
                        refine lv_iconst (v := (nI 1)) S.1 S.2.1 dX8_sentHome_94 (by decide) ?_
                        refine lv_goto (tgt := 99) S.1 S.2.1 dX8_sentHome_95 rfl ?_
                        refine lv_istore S.1 S.2.1 dX8_sentHome_99 hl (by decide) rfl (fun ls hl => ?_)
                        have hl : lv_has ls 6 [(4, .int (nI 1)), (2, .int (nI j4)), (3, .int (nI i)), (0, .ref M), (1, .int (nI 1))] := hl
                        refine lv_iload_n S.1 S.2.1 dX8_sentHome_101 rfl (lv_at hl 1 rfl) ?_
                        refine lv_if_lt (tgt := 135) S.1 S.2.1 dX8_sentHome_102 rfl (fun h72 => ?_) (fun h72 => ?_)
                        · exact absurd h72 (nI_pos (by omega))
                        · skip
                          refine lv_aload_n S.1 S.2.1 dX8_sentHome_105 rfl (lv_at hl 3 rfl) ?_
                          refine x_get S hE (ho) (C := RX8) (T := TX8) (N := 10) rfl inlX8 0 (by decide) (v := .ref (M + 1)) rfl kw7_6 rfl dX8_sentHome_106 ?_
                          refine lv_bipush (v := (nI 7)) S.1 S.2.1 dX8_sentHome_109 (by decide) ?_
                          refine x_iald S hE (hs) 7 rfl (by decide) (by decide) dX8_sentHome_111 ?_
                          refine lv_iconst (v := (nI 1)) S.1 S.2.1 dX8_sentHome_112 (by decide) ?_
                          refine lv_icmp_eq (tgt := 131) S.1 S.2.1 dX8_sentHome_113 rfl (fun h73 => ?_) (fun h73 => ?_)
                          · skip
                            refine lv_iconst (v := (nI 1)) S.1 S.2.1 dX8_sentHome_131 (by decide) ?_
                            refine lv_goto (tgt := 136) S.1 S.2.1 dX8_sentHome_132 rfl ?_
                            refine lv_istore S.1 S.2.1 dX8_sentHome_136 hl (by decide) rfl (fun ls hl => ?_)
                            have hl : lv_has ls 6 [(5, .int (nI 1)), (4, .int (nI 1)), (2, .int (nI j4)), (3, .int (nI i)), (0, .ref M), (1, .int (nI 1))] := hl
                            refine lv_iload S.1 S.2.1 dX8_sentHome_138 (lv_at hl 1 rfl) ?_
                            refine lv_if_ne (tgt := 165) S.1 S.2.1 dX8_sentHome_140 rfl (fun h74 => ?_) (fun h74 => ?_)
                            · skip
                              refine lv_iload_n S.1 S.2.1 dX8_sentHome_165 rfl (lv_at hl 3 rfl) ?_
                              refine lv_goto (tgt := 170) S.1 S.2.1 dX8_sentHome_166 rfl ?_
                              refine lv_istore_n S.1 S.2.1 dX8_sentHome_170 rfl hl (by decide) rfl (fun ls hl => ?_)
                              have hl : lv_has ls 6 [(2, .int (nI i)), (5, .int (nI 1)), (4, .int (nI 1)), (3, .int (nI i)), (0, .ref M), (1, .int (nI 1))] := hl
                              refine lv_iinc (k := 3) (v := (nI (i + 1))) S.1 S.2.1 dX8_sentHome_171 hl rfl (iincP i 1) (by decide) rfl (fun ls hl => ?_)
                              have hl : lv_has ls 6 [(3, .int (nI (i + 1))), (2, .int (nI i)), (5, .int (nI 1)), (4, .int (nI 1)), (0, .ref M), (1, .int (nI 1))] := hl
                              refine lv_goto (tgt := 19) S.1 S.2.1 dX8_sentHome_174 rfl ?_
                              have hl : lv_has ls 6 [(2, .int (oi (rfSH σ (nI 1) (i + 1)))), (3, .int (nI (i + 1))), (0, .ref M), (1, .int (nI 1))] := by
                                rw [show (oi (rfSH σ (nI 1) (i + 1))) = (nI i) from by rw [rfSH_yes (z := (nI 1)) (Or.inr ⟨by decide, h43⟩) hv4 (by unfold rfBt; rw [decide_eq_true h48, decide_eq_true (i_nle h60), decide_eq_true h73]; first | done | rfl)]; first | done | rfl]
                                exact lv_sub hl [1, 0, 4, 5] rfl
                              exact ih _ (by omega) (i + 1) ls rfl (by omega) (Or.inr (i_nle h41))  (lv_sub hl [0, 1, 2, 3] rfl)
                            · exact absurd h74 (by decide)
                          · skip
                            refine lv_aload_n S.1 S.2.1 dX8_sentHome_116 rfl (lv_at hl 3 rfl) ?_
                            refine lv_iload_n S.1 S.2.1 dX8_sentHome_117 rfl (lv_at hl 2 rfl) ?_
                            refine lv_iconst (v := (nI 4)) S.1 S.2.1 dX8_sentHome_118 (by decide) ?_
                            refine xk_R (v := (nf σ i 4)) (x_runV (As := [.int (nI i), .int (nI 4)]) (rest := []) S hE hS (fun _ h => h.elim) (c_X8_of l E M ps ty re σ i 4 _ ho hs (by omega) (by omega)) kv_X8_of kw12_22 kw12_23 kw13_0 (x_recv hE (ho) (ci := 8) rfl) ⟨Nat.le_of_ble_eq_true rfl, Nat.le_of_ble_eq_true rfl⟩ rfl rfl rfl hl.1 rfl (Nat.le_of_ble_eq_true rfl) dX8_sentHome_119 ⟨Nat.zero_le _, Nat.zero_le _⟩) ?_
                            refine lv_aload_n S.1 S.2.1 dX8_sentHome_122 rfl (lv_at hl 3 rfl) ?_
                            refine lv_iload_n S.1 S.2.1 dX8_sentHome_123 rfl (lv_at hl 1 rfl) ?_
                            refine lv_iconst (v := (nI 4)) S.1 S.2.1 dX8_sentHome_124 (by decide) ?_
                            refine xk_R (v := (nf σ j4 4)) (x_runV (As := [.int (nI j4), .int (nI 4)]) (rest := [.int (nf σ i 4)]) S hE hS (fun _ h => h.elim) (c_X8_of l E M ps ty re σ j4 4 _ ho hs (by omega) (by omega)) kv_X8_of kw12_22 kw12_23 kw13_0 (x_recv hE (ho) (ci := 8) rfl) ⟨Nat.le_of_ble_eq_true rfl, Nat.le_of_ble_eq_true rfl⟩ rfl rfl rfl hl.1 rfl (Nat.le_of_ble_eq_true rfl) dX8_sentHome_125 ⟨Nat.zero_le _, Nat.zero_le _⟩) ?_
                            refine lv_icmp_ne (tgt := 135) S.1 S.2.1 dX8_sentHome_128 rfl (fun h75 => ?_) (fun h75 => ?_)
                            · skip
                              refine lv_iconst (v := (nI 0)) S.1 S.2.1 dX8_sentHome_135 (by decide) ?_
                              refine lv_istore S.1 S.2.1 dX8_sentHome_136 hl (by decide) rfl (fun ls hl => ?_)
                              have hl : lv_has ls 6 [(5, .int (nI 0)), (4, .int (nI 1)), (2, .int (nI j4)), (3, .int (nI i)), (0, .ref M), (1, .int (nI 1))] := hl
                              refine lv_iload S.1 S.2.1 dX8_sentHome_138 (lv_at hl 1 rfl) ?_
                              refine lv_if_ne (tgt := 165) S.1 S.2.1 dX8_sentHome_140 rfl (fun h76 => ?_) (fun h76 => ?_)
                              · skip
                                refine lv_iload_n S.1 S.2.1 dX8_sentHome_165 rfl (lv_at hl 3 rfl) ?_
                                refine lv_goto (tgt := 170) S.1 S.2.1 dX8_sentHome_166 rfl ?_
                                refine lv_istore_n S.1 S.2.1 dX8_sentHome_170 rfl hl (by decide) rfl (fun ls hl => ?_)
                                have hl : lv_has ls 6 [(2, .int (nI i)), (5, .int (nI 0)), (4, .int (nI 1)), (3, .int (nI i)), (0, .ref M), (1, .int (nI 1))] := hl
                                refine lv_iinc (k := 3) (v := (nI (i + 1))) S.1 S.2.1 dX8_sentHome_171 hl rfl (iincP i 1) (by decide) rfl (fun ls hl => ?_)
                                have hl : lv_has ls 6 [(3, .int (nI (i + 1))), (2, .int (nI i)), (5, .int (nI 0)), (4, .int (nI 1)), (0, .ref M), (1, .int (nI 1))] := hl
                                refine lv_goto (tgt := 19) S.1 S.2.1 dX8_sentHome_174 rfl ?_
                                have hl : lv_has ls 6 [(2, .int (oi (rfSH σ (nI 1) (i + 1)))), (3, .int (nI (i + 1))), (0, .ref M), (1, .int (nI 1))] := by
                                  rw [show (oi (rfSH σ (nI 1) (i + 1))) = (nI i) from by rw [rfSH_yes (z := (nI 1)) (Or.inr ⟨by decide, h43⟩) hv4 (by unfold rfBt; rw [decide_eq_true h48, decide_eq_true (i_nle h60), decide_eq_false h73, decide_eq_false h75]; first | done | rfl)]; first | done | rfl]
                                  exact lv_sub hl [1, 0, 4, 5] rfl
                                exact ih _ (by omega) (i + 1) ls rfl (by omega) (Or.inr (i_nle h41))  (lv_sub hl [0, 1, 2, 3] rfl)
                              · exact absurd h76 (by decide)
                            · skip
                              refine lv_iconst (v := (nI 1)) S.1 S.2.1 dX8_sentHome_131 (by decide) ?_
                              refine lv_goto (tgt := 136) S.1 S.2.1 dX8_sentHome_132 rfl ?_
                              refine lv_istore S.1 S.2.1 dX8_sentHome_136 hl (by decide) rfl (fun ls hl => ?_)
                              have hl : lv_has ls 6 [(5, .int (nI 1)), (4, .int (nI 1)), (2, .int (nI j4)), (3, .int (nI i)), (0, .ref M), (1, .int (nI 1))] := hl
                              refine lv_iload S.1 S.2.1 dX8_sentHome_138 (lv_at hl 1 rfl) ?_
                              refine lv_if_ne (tgt := 165) S.1 S.2.1 dX8_sentHome_140 rfl (fun h77 => ?_) (fun h77 => ?_)
                              · skip
                                refine lv_iload_n S.1 S.2.1 dX8_sentHome_165 rfl (lv_at hl 3 rfl) ?_
                                refine lv_goto (tgt := 170) S.1 S.2.1 dX8_sentHome_166 rfl ?_
                                refine lv_istore_n S.1 S.2.1 dX8_sentHome_170 rfl hl (by decide) rfl (fun ls hl => ?_)
                                have hl : lv_has ls 6 [(2, .int (nI i)), (5, .int (nI 1)), (4, .int (nI 1)), (3, .int (nI i)), (0, .ref M), (1, .int (nI 1))] := hl
                                refine lv_iinc (k := 3) (v := (nI (i + 1))) S.1 S.2.1 dX8_sentHome_171 hl rfl (iincP i 1) (by decide) rfl (fun ls hl => ?_)
                                have hl : lv_has ls 6 [(3, .int (nI (i + 1))), (2, .int (nI i)), (5, .int (nI 1)), (4, .int (nI 1)), (0, .ref M), (1, .int (nI 1))] := hl
                                refine lv_goto (tgt := 19) S.1 S.2.1 dX8_sentHome_174 rfl ?_
                                have hl : lv_has ls 6 [(2, .int (oi (rfSH σ (nI 1) (i + 1)))), (3, .int (nI (i + 1))), (0, .ref M), (1, .int (nI 1))] := by
                                  rw [show (oi (rfSH σ (nI 1) (i + 1))) = (nI i) from by rw [rfSH_yes (z := (nI 1)) (Or.inr ⟨by decide, h43⟩) hv4 (by unfold rfBt; rw [decide_eq_true h48, decide_eq_true (i_nle h60), decide_eq_false h73, decide_eq_true h75]; first | done | rfl)]; first | done | rfl]
                                  exact lv_sub hl [1, 0, 4, 5] rfl
                                exact ih _ (by omega) (i + 1) ls rfl (by omega) (Or.inr (i_nle h41))  (lv_sub hl [0, 1, 2, 3] rfl)
                              · exact absurd h77 (by decide)
    exact hloop19 _ 0 ls rfl (Nat.zero_le _) (Or.inl rfl)  (lv_sub hl [1, 0, 3, 2] rfl)
abbrev rm_X8_copies : Room := ({ frames := 0, cells := 0, slots := 0, locals := 0 } : Room)
set_option maxRecDepth 100000 in
set_option maxHeartbeats 600000 in
theorem c_X8_copies (l : Launch) (E : XE) (M fa ta : Nat) (f g : Nat → Int32) (H : Heap) (hf : XI E fa 1670 f H) (hg : XI E ta 1670 g H) (hfa : ¬ fa = ta) : Wv l E yX8_copies cX8_copies 4 rm_X8_copies [.ref M, .ref fa, .ref ta] H (fun q => q = ta) (XI E ta 1670 f) := by
  refine met_of (by decide) (Nat.le_of_ble_eq_true rfl) (fun p e s m args below meth c hBD Q hQ ls hl => ?_)
  obtain ⟨S, hr, hlk, hnm, hE, hH⟩ := hBD
  subst hH
  have hl : lv_has ls 4 [(0, .ref M), (1, .ref fa), (2, .ref ta)] := hl
  have hO : Out (fun q => q = ta) s.heap s.heap := Out.rf
  have hS : va_S (fun q => q = ta) s.heap s.heap [] := va_S.rf
  refine lv_iconst (v := (nI 0)) S.1 S.2.1 dX8_copies_0 (by decide) ?_
  refine lv_istore_n S.1 S.2.1 dX8_copies_1 rfl hl (by decide) rfl (fun ls hl => ?_)
  have hl : lv_has ls 4 [(3, .int (nI 0)), (0, .ref M), (1, .ref fa), (2, .ref ta)] := hl
  have hloop2 : ∀ (d : Nat) (i : Nat) (r : Nat → Int32) (H : Heap) (locs : List Loc) (ls : Array Slot), 1670 - i = d → i ≤ 1670 → (∀ j, r j = if j < i then f j else g j) → XI E fa 1670 f H → XI E ta 1670 r H → Out (fun q => q = ta) s.heap H → va_S (fun q => q = ta) s.heap H locs → lv_has ls 4 [(3, .int (nI i)), (0, .ref M), (1, .ref fa), (2, .ref ta)] → W p l e rm_X8_copies s m args below meth c H locs 0 0 Q (F0 m 2 ls []) := by
    intro d
    induction d using Nat.strongRecOn with
    | ind d ih =>
      intro i r H locs ls hd hi hrw hf hg hO hS hl
      refine lv_iload_n S.1 S.2.1 dX8_copies_2 rfl (lv_at hl 0 rfl) ?_
      refine lv_sipush (v := (nI 1670)) S.1 S.2.1 dX8_copies_3 (by decide) ?_
      refine lv_icmp_ge (tgt := 21) S.1 S.2.1 dX8_copies_6 rfl (fun h1 => ?_) (fun h1 => ?_)
      · skip
        have hge : i = 1670 := (by have := ge_of_le (by omega) (by omega) h1; omega)
        subst hQ
        refine x_retV S hr hlk hS hO ?_ dX8_copies_21
        exact xi_ext hg (fun k hk => by rw [hrw k, if_pos (by omega)])
      · skip
        have hlt : i < 1670 := lt_of_nle (by omega) (by omega) h1
        refine lv_aload_n S.1 S.2.1 dX8_copies_9 rfl (lv_at hl 3 rfl) ?_
        refine lv_iload_n S.1 S.2.1 dX8_copies_10 rfl (lv_at hl 0 rfl) ?_
        refine lv_aload_n S.1 S.2.1 dX8_copies_11 rfl (lv_at hl 2 rfl) ?_
        refine lv_iload_n S.1 S.2.1 dX8_copies_12 rfl (lv_at hl 0 rfl) ?_
        refine x_iald S hE (hf) i rfl (by omega) (by decide) dX8_copies_13 ?_
        refine x_iast S hE hS (rfl) (hg) i rfl (by omega) (by decide) dX8_copies_14 (fun H locs hX hO1 hS => ?_)
        have hO := hO.tr hO1 (fun q h => h)
        have hf := va_at.kept hf (hO1.2 _ (fun z => hfa z))
        have hg := hX
        refine lv_iinc (k := 0) (v := (nI (i + 1))) S.1 S.2.1 dX8_copies_15 hl rfl (iincP i 1) (by decide) rfl (fun ls hl => ?_)
        have hl : lv_has ls 4 [(3, .int (nI (i + 1))), (0, .ref M), (1, .ref fa), (2, .ref ta)] := hl
        refine lv_goto (tgt := 2) S.1 S.2.1 dX8_copies_18 rfl ?_
        exact ih _ (by omega) (i + 1) (upd r i (f i)) _ _ ls rfl (by omega) (upd_row hrw) (hf) (hg) (hO) (hS) (lv_sub hl [0, 1, 2, 3] rfl)
  exact hloop2 _ 0 g _ _ ls rfl (Nat.zero_le _) (fun j => rfl) (hf) (hg) (hO) (hS) (lv_sub hl [0, 1, 2, 3] rfl)
