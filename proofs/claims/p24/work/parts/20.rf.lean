/-! 20.rf: the notes as rows of numbers: what each call does to them (pure; written for another claim of this class) -/
def oi : Option Nat → Int32
  | none => (-4)
  | some k => nI k
def nf (σ : Nat → Int32) (k w : Nat) : Int32 := σ (70 + 8 * k + w)
def nset (σ : Nat → Int32) (k w : Nat) (v : Int32) : Nat → Int32 := upd σ (70 + 8 * k + w) v
theorem nset_lo {σ : Nat → Int32} {k w : Nat} {v : Int32} {j : Nat} (h : j < 70) : nset σ k w v j = σ j := pk_un (by omega)
abbrev rfPl (σ : Nat → Int32) (k : Nat) : Prop := nI 1 ≤ nf σ k 3 ∧ nf σ k 3 ≤ nI 4
abbrev rfVo (σ : Nat → Int32) (k : Nat) : Prop := nI 1 ≤ nf σ k 3 ∧ nf σ k 3 ≤ nI 5
def rfRise (p : Int32) : Int32 := if p = 0 then nI 2 else if p = nI 1 then nI 4 else if p = nI 2 then nI 5 else nI 8
def rfSink (p : Int32) : Int32 := if p = 0 then nI 10 else if p = nI 1 then nI 8 else if p = nI 2 then nI 12 else nI 6
def rfFade (p : Int32) : Int32 := if p = 0 then nI 6 else if p = nI 1 then nI 8 else if p = nI 2 then nI 10 else nI 16
def rfPeak (σ : Nat → Int32) (k : Nat) : Int32 := nI 8 * nf σ k 2
def rfRest (σ : Nat → Int32) (k : Nat) : Int32 := rfPeak σ k * (nI 600 + nI 100 * nf σ k 0) / nI 1000
def rfUp (v b : Int32) : Int32 := (v + b - nI 1) / b
def rfMany (σ : Nat → Int32) (z : Int32) : Nat → Int32
  | 0 => nI 0
  | i + 1 => rfMany σ z i + (if nf σ i 3 = z then nI 1 else nI 0)
def rfPlc (σ : Nat → Int32) : Nat → Int32
  | 0 => nI 0
  | i + 1 => rfPlc σ i + (if rfPl σ i then nI 1 else nI 0)
def rfV (σ : Nat → Int32) (p q : Int32) : Nat → Option Nat
  | 0 => none
  | i + 1 => if rfPl σ i ∧ nf σ i 0 = p ∧ nf σ i 1 = q then some i else rfV σ p q i
theorem rfV_lt {σ : Nat → Int32} {p q : Int32} {n j : Nat} (h : rfV σ p q n = some j) : j < n := by
  induction n with
  | zero => cases h
  | succ i ih =>
    rw [rfV] at h
    by_cases c : rfPl σ i ∧ nf σ i 0 = p ∧ nf σ i 1 = q
    · rw [if_pos c] at h; cases h; omega
    · rw [if_neg c] at h; have := ih h; omega
theorem upd_row {r f g : Nat → Int32} {i : Nat} (hr : ∀ j, r j = if j < i then f j else g j) : ∀ j, upd r i (f i) j = if j < i + 1 then f j else g j := by
  intro j
  by_cases c : j = i
  · subst c; rw [pk_us, if_pos (by omega)]
  · rw [pk_un (by omega), hr j]
    by_cases d : j < i
    · rw [if_pos d, if_pos (by omega)]
    · rw [if_neg d, if_neg (by omega)]
theorem xi_ext {E : XE} {a n : Nat} {f g : Nat → Int32} {H : Heap} (h : XI E a n f H) (e : ∀ k, k < n → f k = g k) : XI E a n g H := by
  have h : H[a]? = some (vp_cell (E.2.1 0) (n, .inl f)) := h
  show H[a]? = some (vp_cell (E.2.1 0) (n, .inl g))
  rw [h]
  have q : Array.ofFn (n := n) (fun j => Value.int (f j.1)) = Array.ofFn (n := n) (fun j => Value.int (g j.1)) := by
    congr 1; funext j; rw [e j.1 j.2]
  exact congrArg (fun v => some ({ cls := E.2.1 0, slots := v, vm := .none } : Cell)) q
def rfFl (η : Nat → Nat → Int32) (j : Nat) : Int32 := η (j / 1670) (j % 1670)
def rfRec (η : Nat → Nat → Int32) (np : Nat) (σ : Nat → Int32) : Nat → Nat → Int32 := if np = 4 then (fun i => if i = 3 then σ else η (i + 1)) else (fun i => if i = np then σ else η i)
def rfStamp (σ : Nat → Int32) (k : Nat) : Nat → Int32 := upd (nset σ k 7 (σ 5)) 5 ((nset σ k 7 (σ 5)) 5 + nI 1)
def rfSings (σ : Nat → Int32) (k : Nat) : Nat → Int32 := rfStamp (nset (nset (nset σ k 3 (nI 1)) k 4 (nI 0)) k 6 (nI 0)) k
def rfAn (σ : Nat → Int32) (k : Nat) (z : Int32) : Nat → Int32 := if nf (nset σ k 2 z) k 4 < rfPeak (nset σ k 2 z) k then nset (nset σ k 2 z) k 3 (nI 1) else nset (nset σ k 2 z) k 3 (nI 2)
def rfAnew (σ : Nat → Int32) (k : Nat) (z : Int32) : Nat → Int32 := upd (rfStamp (nset (rfAn σ k z) k 6 (nI 0)) k) 4 ((rfStamp (nset (rfAn σ k z) k 6 (nI 0)) k) 4 + nI 1)
def rfFades (σ : Nat → Int32) (k : Nat) : Nat → Int32 := nset (nset (nset σ k 3 (nI 4)) k 5 (nf (nset σ k 3 (nI 4)) k 4)) k 6 (nI 0)
theorem rfStamp_0 {σ : Nat → Int32} {k j : Nat} (h : j < 5) : rfStamp σ k j = σ j := by
  rw [rfStamp, pk_un (by omega), nset_lo (by omega)]
theorem rfSings_0 {σ : Nat → Int32} {k j : Nat} (h : j < 5) : rfSings σ k j = σ j := by
  rw [rfSings, rfStamp_0 h, nset_lo (by omega), nset_lo (by omega), nset_lo (by omega)]
theorem rfAn_0 {σ : Nat → Int32} {k j : Nat} {z : Int32} (h : j < 70) : rfAn σ k z j = σ j := by
  unfold rfAn
  by_cases c : nf (nset σ k 2 z) k 4 < rfPeak (nset σ k 2 z) k
  · rw [if_pos c, nset_lo h, nset_lo h]
  · rw [if_neg c, nset_lo h, nset_lo h]
theorem rfAnew_0 {σ : Nat → Int32} {k j : Nat} {z : Int32} (h : j < 4) : rfAnew σ k z j = σ j := by
  rw [rfAnew, pk_un (by omega), rfStamp_0 (by omega), nset_lo (by omega), rfAn_0 (by omega)]
theorem rfFades_0 {σ : Nat → Int32} {k j : Nat} (h : j < 70) : rfFades σ k j = σ j := by
  rw [rfFades, nset_lo h, nset_lo h, nset_lo h]
def yMin (a b : Int32) : Int32 := if a ≤ b then a else b
def yMax (a b : Int32) : Int32 := if b ≤ a then a else b
def rfRs (σ : Nat → Int32) (k : Nat) : Int32 := yMin (nf σ k 4 + rfUp (rfPeak σ k) (rfRise (nf σ k 0))) (rfPeak σ k)
def rfSk (σ : Nat → Int32) (k : Nat) : Int32 := yMax (nf σ k 4 - rfUp (rfPeak σ k - rfRest σ k) (rfSink (nf σ k 0))) (rfRest σ k)
def rfDn (σ : Nat → Int32) (k : Nat) (b : Int32) : Int32 := yMax (nf σ k 4 - rfUp (nf σ k 5) b) 0
def rfMv (σ : Nat → Int32) (k : Nat) : Nat → Int32 :=
  if nf σ k 3 = nI 1 then nset (nset σ k 3 (if rfRs σ k = rfPeak σ k then nI 2 else nI 1)) k 4 (rfRs σ k) else
  if nf σ k 3 = nI 2 then nset (nset σ k 3 (if rfSk σ k = rfRest σ k then nI 3 else nI 2)) k 4 (rfSk σ k) else
  if nf σ k 3 = nI 4 then nset (nset σ k 3 (if rfDn σ k (rfFade (nf σ k 0)) = 0 then nI 6 else nI 4)) k 4 (rfDn σ k (rfFade (nf σ k 0))) else
  if nf σ k 3 = nI 5 then nset (nset σ k 3 (if rfDn σ k (nI 3) = 0 then nI 6 else nI 5)) k 4 (rfDn σ k (nI 3)) else nset σ k 4 (nf σ k 4)
theorem rfMv_0 {σ : Nat → Int32} {k j : Nat} (h : j < 70) : rfMv σ k j = σ j := by
  unfold rfMv
  by_cases c1 : nf σ k 3 = nI 1
  · rw [if_pos c1, nset_lo h, nset_lo h]
  rw [if_neg c1]
  by_cases c2 : nf σ k 3 = nI 2
  · rw [if_pos c2, nset_lo h, nset_lo h]
  rw [if_neg c2]
  by_cases c3 : nf σ k 3 = nI 4
  · rw [if_pos c3, nset_lo h, nset_lo h]
  rw [if_neg c3]
  by_cases c4 : nf σ k 3 = nI 5
  · rw [if_pos c4, nset_lo h, nset_lo h]
  rw [if_neg c4, nset_lo h]
def rfSum (σ : Nat → Int32) : Nat → Int32
  | 0 => nI 0
  | i + 1 => rfSum σ i + (if rfVo σ i then nf σ i 4 else nI 0)
def rfHrd (σ : Nat → Int32) (n k : Nat) : Int32 := if rfSum σ n ≤ σ 8 then nf σ k 4 else nf σ k 4 * σ 8 / rfSum σ n
def rfAhd (σ : Nat → Int32) : Nat → Int32
  | 0 => nI 0
  | i + 1 => rfAhd σ i + (if nf σ i 3 = 0 then nI 1 else nI 0)
def rfHrO (σ : Nat → Int32) (n : Nat) (p : Int32) : Nat → Int32
  | 0 => nI 0
  | i + 1 => rfHrO σ n p i + (if rfVo σ i then (if nf σ i 0 = p then rfHrd σ n i else nI 0) else nI 0)
def rfHrA (σ : Nat → Int32) (n : Nat) : Int32 := rfHrO σ n (nI 0) n + rfHrO σ n (nI 1) n + rfHrO σ n (nI 2) n + rfHrO σ n (nI 3) n
def rfFree (σ : Nat → Int32) (n : Nat) : Int32 := if 0 ≤ σ 6 - rfPlc σ n then σ 6 - rfPlc σ n else nI 0
def rfLN (σ : Nat → Int32) : Nat → (Nat → Int32) × Int32
  | 0 => (upd σ 2 (nI 0), nI 0)
  | i + 1 => if rfPl (rfLN σ i).1 i ∧ nf (rfLN σ i).1 i 6 = nI 1 then (rfFades (rfLN σ i).1 i, (rfLN σ i).2 + nI 1) else rfLN σ i
theorem rfLN_0 {σ : Nat → Int32} {i j : Nat} (h : j < 70) (h2 : ¬ j = 2) : (rfLN σ i).1 j = σ j := by
  induction i with
  | zero => exact pk_un h2
  | succ i ih =>
    rw [rfLN]
    by_cases c : rfPl (rfLN σ i).1 i ∧ nf (rfLN σ i).1 i 6 = nI 1
    · rw [if_pos c]; exact (rfFades_0 h).trans ih
    · rw [if_neg c]; exact ih
def rfMvN (σ : Nat → Int32) : Nat → Nat → Int32
  | 0 => upd σ 1 (σ 1 + nI 1)
  | i + 1 => rfMv (rfMvN σ i) i
theorem rfMvN_0 {σ : Nat → Int32} {i j : Nat} (h : j < 70) (h2 : ¬ j = 1) : rfMvN σ i j = σ j := by
  induction i with
  | zero => exact pk_un h2
  | succ i ih => exact (rfMv_0 h).trans ih
def rfCi (n : Nat) : Nat → Nat → (Nat → Int32) → (Nat → Int32)
  | 0, _, σ => σ
  | f + 1, k, σ => if nf σ k 3 = 0 then (match rfV σ (nf σ k 0) (nf σ k 1) n with
      | some j => rfCi n f (k + 1) (rfAnew (nset σ k 3 (nI 6)) j (nf (nset σ k 3 (nI 6)) k 2))
      | none => if rfPlc σ n < σ 6 then rfCi n f (k + 1) (rfSings σ k) else σ) else rfCi n f (k + 1) σ
def rfTick (σ : Nat → Int32) (n : Nat) : Nat → Int32 := rfCi n n 0 (rfMvN σ n)
theorem rfCi_0 {n j : Nat} (h : j < 4) : ∀ (f k : Nat) (σ : Nat → Int32), rfCi n f k σ j = σ j := by
  intro f
  induction f with
  | zero => intro k σ; rfl
  | succ f ih =>
    intro k σ
    rw [rfCi]
    by_cases c : nf σ k 3 = 0
    · rw [if_pos c]
      cases hv : rfV σ (nf σ k 0) (nf σ k 1) n with
      | some v => simp only []; rw [ih, rfAnew_0 h, nset_lo (by omega)]
      | none =>
        simp only []
        by_cases c2 : rfPlc σ n < σ 6
        · rw [if_pos c2, ih, rfSings_0 (by omega)]
        · rw [if_neg c2]
    · rw [if_neg c, ih]
theorem rfTick_0 {n j : Nat} {σ : Nat → Int32} (h : j < 4) (h2 : ¬ j = 1) : rfTick σ n j = σ j := by
  rw [rfTick, rfCi_0 h, rfMvN_0 (by omega) h2]
theorem nz_of {a b : Int32} (h0 : 0 ≤ a) (h : a < b) : ¬ b = 0 := by
  intro z; subst z; exact absurd h (Int32.not_lt.mpr h0)
def rfBt (σ : Nat → Int32) (i j : Nat) : Bool := decide (σ 7 = 0) && decide (nf σ i 4 < nf σ j 4) || (decide (σ 7 = nI 1) || decide (nf σ i 4 = nf σ j 4)) && decide (nf σ i 7 < nf σ j 7)
abbrev rfMay (σ : Nat → Int32) (z : Int32) (i : Nat) : Prop := (z = 0 ∧ rfPl σ i) ∨ (¬ z = 0 ∧ nf σ i 3 = nI 4)
def rfSH (σ : Nat → Int32) (z : Int32) : Nat → Option Nat
  | 0 => none
  | i + 1 => if rfMay σ z i then (match rfSH σ z i with
      | none => some i
      | some j => if rfBt σ i j = true then some i else some j) else rfSH σ z i
theorem rfSH_lt {σ : Nat → Int32} {z : Int32} {n j : Nat} (h : rfSH σ z n = some j) : j < n := by
  induction n generalizing j with
  | zero => cases h
  | succ i ih =>
    rw [rfSH] at h
    by_cases c : rfMay σ z i
    · rw [if_pos c] at h
      cases hv : rfSH σ z i with
      | none => rw [hv] at h; cases h; omega
      | some v =>
        rw [hv] at h
        have h : (if rfBt σ i v = true then some i else some v) = some j := h
        have := ih hv
        by_cases d : rfBt σ i v = true
        · rw [if_pos d] at h; cases h; omega
        · rw [if_neg d] at h; cases h; omega
    · rw [if_neg c] at h; have := ih h; omega
theorem rfSH_no {σ : Nat → Int32} {z : Int32} {i : Nat} (h : rfMay σ z i) (hv : rfSH σ z i = none) : rfSH σ z (i + 1) = some i := by
  rw [rfSH, if_pos h, hv]
theorem rfSH_yes {σ : Nat → Int32} {z : Int32} {i j : Nat} (h : rfMay σ z i) (hv : rfSH σ z i = some j) (c : rfBt σ i j = true) : rfSH σ z (i + 1) = some i := by
  rw [rfSH, if_pos h, hv]; exact if_pos c
theorem rfSH_nay {σ : Nat → Int32} {z : Int32} {i j : Nat} (h : rfMay σ z i) (hv : rfSH σ z i = some j) (c : rfBt σ i j = false) : rfSH σ z (i + 1) = some j := by
  rw [rfSH, if_pos h, hv]; exact if_neg (by rw [c]; decide)
def rfSz (σ : Nat → Int32) (n : Nat) : Int32 := if rfMany σ (nI 4) n ≤ 0 then nI 0 else nI 1
def rfNx (σ : Nat → Int32) (n : Nat) : Option Nat := if σ 7 < nI 2 then rfSH σ (rfSz σ n) n else none
theorem rfNx_a {σ : Nat → Int32} {n : Nat} {z : Int32} (hz : rfSz σ n = z) (h : n = 0 ∨ σ 7 < nI 2) : rfSH σ z n = rfNx σ n := by
  subst hz
  unfold rfNx
  by_cases c : σ 7 < nI 2
  · rw [if_pos c]
  · rw [if_neg c]
    rcases h with h | h
    · subst h; rfl
    · exact absurd h c
theorem rfNx_b {σ : Nat → Int32} {n i : Nat} {z : Int32} (h : i = 0 ∨ σ 7 < nI 2) (hg : nI 2 ≤ σ 7) : rfSH σ z i = rfNx σ n := by
  unfold rfNx
  rw [if_neg (Int32.not_lt.mpr hg)]
  rcases h with h | h
  · subst h; rfl
  · exact absurd h (Int32.not_lt.mpr hg)
theorem rise_nz (p : Int32) : ¬ rfRise p = 0 := by
  unfold rfRise; by_cases h0 : p = 0
  · rw [if_pos h0]; decide
  rw [if_neg h0]; by_cases h1 : p = nI 1
  · rw [if_pos h1]; decide
  rw [if_neg h1]; by_cases h2 : p = nI 2
  · rw [if_pos h2]; decide
  rw [if_neg h2]; decide
theorem sink_nz (p : Int32) : ¬ rfSink p = 0 := by
  unfold rfSink; by_cases h0 : p = 0
  · rw [if_pos h0]; decide
  rw [if_neg h0]; by_cases h1 : p = nI 1
  · rw [if_pos h1]; decide
  rw [if_neg h1]; by_cases h2 : p = nI 2
  · rw [if_pos h2]; decide
  rw [if_neg h2]; decide
theorem fade_nz (p : Int32) : ¬ rfFade p = 0 := by
  unfold rfFade; by_cases h0 : p = 0
  · rw [if_pos h0]; decide
  rw [if_neg h0]; by_cases h1 : p = nI 1
  · rw [if_pos h1]; decide
  rw [if_neg h1]; by_cases h2 : p = nI 2
  · rw [if_pos h2]; decide
  rw [if_neg h2]; decide
abbrev RS : Type := (Nat → Int32) × ((Nat → Nat → Int32) × Nat) × ((Nat → Int32) × Nat)
/-- the reference's box at M (8 cells): notes and counts, the past, the text; the other rows hold anything -/
theorem hiLen_le {np : Nat} (h : np ≤ 4) : hiLen np ≤ 4 := by
  unfold hiLen; by_cases c : np = 4
  · rw [if_pos c]; exact Nat.le_refl 4
  · rw [if_neg c]; omega
theorem upd_win {v b σ : Nat → Int32} {q k : Nat} (hv : ∀ j, v j = if 1670 * q ≤ j ∧ j < 1670 * q + k then σ (j - 1670 * q) else b j) : ∀ j, upd v (1670 * q + k) (σ k) j = if 1670 * q ≤ j ∧ j < 1670 * q + (k + 1) then σ (j - 1670 * q) else b j := by
  intro j
  by_cases c : j = 1670 * q + k
  · subst c; rw [pk_us, if_pos (by omega), show 1670 * q + k - 1670 * q = k from by omega]
  · rw [pk_un c, hv j]
    by_cases d : 1670 * q ≤ j ∧ j < 1670 * q + k
    · rw [if_pos d, if_pos (by omega)]
    · rw [if_neg d, if_neg (by omega)]
theorem past_new {v σ : Nat → Int32} {η : Nat → Nat → Int32} {np : Nat} (hne : ¬ np = 4) (hv : ∀ j, v j = if 1670 * np ≤ j ∧ j < 1670 * np + 1670 then σ (j - 1670 * np) else rfFl η j) (j : Nat) : v j = rfFl (rfRec η np σ) j := by
  rw [hv j, rfRec, if_neg hne]
  unfold rfFl
  by_cases c : j / 1670 = np
  · rw [if_pos (by omega)]; show _ = (if j / 1670 = np then σ else η (j / 1670)) (j % 1670); rw [if_pos c]; exact congrArg σ (by omega)
  · rw [if_neg (by omega)]; show _ = (if j / 1670 = np then σ else η (j / 1670)) (j % 1670); rw [if_neg c]
theorem past_full {v r σ : Nat → Int32} {η : Nat → Nat → Int32} (hr : ∀ j, r j = if j < 5010 then rfFl η (j + 1670) else rfFl η j) (hv : ∀ j, v j = if 1670 * 3 ≤ j ∧ j < 1670 * 3 + 1670 then σ (j - 1670 * 3) else r j) (j : Nat) (hj : j < 6680) : v j = rfFl (rfRec η 4 σ) j := by
  rw [hv j, rfRec, if_pos rfl]
  unfold rfFl
  by_cases c : j / 1670 = 3
  · rw [if_pos (by omega)]; show _ = (if j / 1670 = 3 then σ else η (j / 1670 + 1)) (j % 1670); rw [if_pos c]; exact congrArg σ (by omega)
  · rw [if_neg (by omega)]; show _ = (if j / 1670 = 3 then σ else η (j / 1670 + 1)) (j % 1670); rw [if_neg c, hr j, if_pos (by omega)]
    unfold rfFl
    rw [show (j + 1670) / 1670 = j / 1670 + 1 from by omega, show (j + 1670) % 1670 = j % 1670 from by omega]
theorem bkM {M q k : Nat} (h : q = M + k) (hk : k < 8) : bk M 8 q := ⟨by omega, by omega⟩
abbrev KR : Type := (Nat → Int32) × Int32 × Bool
def rfMu (σ : Nat → Int32) (η : Nat → Nat → Int32) (np : Nat) (tx : Nat → Int32) (ty : Nat) (r : KR) : RS := match r.2.2 with
  | true => (r.1, (rfRec η np σ, hiLen np), (tx, ty))
  | false => (σ, (η, np), (tx, ty))
def rfNew0 (σ : Nat → Int32) (n : Nat) (pa qa za : Int32) : Nat → Int32 := nset (nset (nset (nset (nset (nset σ n 0 pa) n 1 qa) n 2 za) n 3 (nI 0)) n 4 (nI 0)) n 6 (nI 0)
def rfNew (σ : Nat → Int32) (n : Nat) (pa qa za : Int32) : Nat → Int32 := upd (rfNew0 σ n pa qa za) 0 (nI (n + 1))
def rfSent0 (σ : Nat → Int32) (j : Nat) : Nat → Int32 := nset (nset (nset σ j 3 (nI 5)) j 5 (nf (nset σ j 3 (nI 5)) j 4)) j 6 (nI 0)
def rfSent (σ : Nat → Int32) (j : Nat) : Nat → Int32 := upd (rfSent0 σ j) 3 (rfSent0 σ j 3 + nI 1)
def rfLv (σ : Nat → Int32) (n : Nat) : Option Nat := if rfPlc σ n < σ 6 then none else if rfMany σ (nI 5) n = nI 4 then none else rfNx σ n
def rfKnN (σ : Nat → Int32) (n : Nat) (pa qa za : Int32) : KR := if n = 200 then (σ, (-3), false) else if rfPlc σ n < σ 6 then (rfSings (rfNew σ n pa qa za) n, nI n, true) else match rfLv σ n with
  | some j => (rfSings (rfSent (rfNew σ n pa qa za) j) n, nI n, true)
  | none => if rfMany σ (nI 0) n = nI 6 then (σ, (-3), false) else (rfNew σ n pa qa za, nI n, true)
def rfKn (σ : Nat → Int32) (n : Nat) (pa qa za : Int32) : KR := if (nI 0 ≤ pa ∧ pa ≤ nI 3) ∧ (nI 0 ≤ qa ∧ qa ≤ nI 127) ∧ (nI 1 ≤ za ∧ za ≤ nI 127) then (match rfV σ pa qa n with
  | some j => (rfAnew σ j za, nI j, true)
  | none => rfKnN σ n pa qa za) else (σ, (-1), false)
def rfWt (σ : Nat → Int32) (pa qa : Int32) : Nat → Nat → Option Nat
  | 0, _ => none
  | f + 1, k => if nf σ k 3 = 0 ∧ nf σ k 0 = pa ∧ nf σ k 1 = qa then some k else rfWt σ pa qa f (k + 1)
def rfRlW (σ : Nat → Int32) (n : Nat) (pa qa : Int32) : KR := match rfWt σ pa qa n 0 with
  | some k => (nset σ k 3 (nI 6), nI k, true)
  | none => (σ, (-2), false)
def rfRl (σ : Nat → Int32) (n : Nat) (pa qa : Int32) : KR := if (nI 0 ≤ pa ∧ pa ≤ nI 3) ∧ (nI 0 ≤ qa ∧ qa ≤ nI 127) then (match rfV σ pa qa n with
  | some j => if ¬ nf σ j 3 = nI 4 ∧ nf σ j 6 = 0 then (if σ 2 = nI 1 then (nset σ j 6 (nI 1), nI j, true) else (rfFades σ j, nI j, true)) else rfRlW σ n pa qa
  | none => rfRlW σ n pa qa) else (σ, (-1), false)
def rfPd (σ : Nat → Int32) (n : Nat) (da : Int32) : KR := if nI 0 ≤ da ∧ da ≤ nI 1 then (if σ 2 = da then (σ, (-2), false) else if da = nI 1 then (upd σ 2 da, nI 0, true) else ((rfLN (upd σ 2 da) n).1, (rfLN (upd σ 2 da) n).2, true)) else (σ, (-1), false)
def rfIt (σ : Nat → Int32) (n : Nat) : Nat → Nat → Int32
  | 0 => σ
  | t + 1 => rfTick (rfIt σ n t) n
theorem rfIt_0 {σ : Nat → Int32} {n j : Nat} (h : j < 4) (h2 : ¬ j = 1) : ∀ t, rfIt σ n t j = σ j := by
  intro t
  induction t with
  | zero => rfl
  | succ t ih => exact (rfTick_0 h h2).trans ih
def rfTk (σ : Nat → Int32) (n : Nat) (ta : Int32) : KR := if nI 1 ≤ ta ∧ ta ≤ nI 100 then (if σ 1 + ta ≤ nI 50000 then (rfIt σ n ta.toNatClampNeg, rfSum (rfIt σ n ta.toNatClampNeg) n, true) else (σ, (-3), false)) else (σ, (-1), false)
def rfSt (σ : Nat → Int32) (wa va : Int32) : KR :=
  if wa = 0 then (if nI 1 ≤ va ∧ va ≤ nI 8 then (upd σ 6 va, σ 6, true) else (σ, (-1), false)) else
  if wa = nI 1 then (if nI 0 ≤ va ∧ va ≤ nI 2 then (upd σ 7 va, σ 7, true) else (σ, (-1), false)) else
  if wa = nI 2 then (if nI 100 ≤ va ∧ va ≤ nI 8000 then (upd σ 8 va, σ 8, true) else (σ, (-1), false)) else (σ, (-1), false)
theorem rfNx_lt {σ : Nat → Int32} {n j : Nat} (h : rfNx σ n = some j) : j < n := by
  unfold rfNx at h
  by_cases c : σ 7 < nI 2
  · rw [if_pos c] at h; exact rfSH_lt h
  · rw [if_neg c] at h; cases h
theorem i_nat {x : Int32} {n : Nat} (hn : n < 2 ^ 31) (h0 : nI 0 ≤ x) (h1 : x ≤ nI n) : ∃ k, k ≤ n ∧ x = nI k := by
  refine ⟨x.toNatClampNeg, xcl_le hn h1, ?_⟩
  have h0 : 0 ≤ x.toInt := Int32.le_iff_toInt_le.mp h0
  apply Int32.toInt.inj
  have hx : x.toNatClampNeg = x.toInt.toNat := rfl
  have hl := xcl_le hn h1
  rw [hx] at hl
  rw [hx, nI_toInt (show x.toInt.toNat < 2 ^ 31 by omega)]
  omega
def rfNo (σ : Nat → Int32) (n k : Nat) (wa : Int32) : Int32 :=
  if wa = nI 0 then nf σ k 0 else if wa = nI 1 then nf σ k 1 else if wa = nI 2 then nf σ k 2 else if wa = nI 3 then nf σ k 3 else
  if wa = nI 4 then (if rfVo σ k then nf σ k 4 else (-4)) else if wa = nI 5 then (if rfVo σ k then rfHrd σ n k else (-4)) else
  if wa = nI 6 then nf σ k 6 else if wa = nI 7 then (if nf σ k 3 = 0 then rfAhd σ k else (-4)) else (-1)
def rfNoteOf (σ : Nat → Int32) (n : Nat) (no wa : Int32) : Int32 := if 0 ≤ no ∧ no < nI n then rfNo σ n no.toNatClampNeg wa else (-1)
theorem i_natL {x : Int32} {n : Nat} (hn : n < 2 ^ 31) (h0 : 0 ≤ x) (h1 : x < nI n) : ∃ k, k < n ∧ x = nI k := by
  obtain ⟨k, hk, e⟩ := i_nat hn h0 (Int32.le_of_lt h1)
  subst e
  refine ⟨k, ?_, rfl⟩
  by_cases c : k = n
  · subst c; exact absurd (Int32.lt_iff_toInt_lt.mp h1) (Int.lt_irrefl _)
  · omega
def rfOld (σ : Nat → Int32) (k : Nat) : Nat → Int32
  | 0 => nI 0
  | j + 1 => rfOld σ k j + (if rfPl σ j ∧ nf σ j 7 < nf σ k 7 then nI 1 else nI 0)
def rfVa (σ : Nat → Int32) (n : Nat) (ia : Int32) : Nat → Option Nat
  | 0 => none
  | i + 1 => if rfPl σ i ∧ rfOld σ i n = ia then some i else rfVa σ n ia i
def rfVoiceAt (σ : Nat → Int32) (n : Nat) (ia : Int32) : Int32 := if 0 ≤ ia then oi (rfVa σ n ia n) else (-1)
def rfFind (σ : Nat → Int32) (n : Nat) (pa qa : Int32) : Int32 := if (nI 0 ≤ pa ∧ pa ≤ nI 3) ∧ (nI 0 ≤ qa ∧ qa ≤ nI 127) then oi (rfV σ pa qa n) else (-1)
abbrev rfIts (σ : Nat → Int32) (wa : Int32) (i : Nat) : Prop := (wa = 0 ∧ rfPl σ i) ∨ (wa = nI 1 ∧ nf σ i 3 = nI 5) ∨ (wa = nI 2 ∧ rfVo σ i) ∨ (¬ wa = 0 ∧ ¬ wa = nI 1 ∧ ¬ wa = nI 2 ∧ nf σ i 3 = 0)
def rfPo (σ : Nat → Int32) (pa wa : Int32) : Nat → Int32
  | 0 => nI 0
  | i + 1 => rfPo σ pa wa i + (if rfIts σ wa i then (if nf σ i 0 = pa then (if wa = nI 2 then nf σ i 4 else nI 1) else nI 0) else nI 0)
def rfPartOf (σ : Nat → Int32) (n : Nat) (pa wa : Int32) : Int32 := if (nI 0 ≤ pa ∧ pa ≤ nI 3) ∧ (nI 0 ≤ wa ∧ wa ≤ nI 4) then (if wa = nI 3 then rfHrO σ n pa n else rfPo σ pa wa n) else (-1)
def rfCount (σ : Nat → Int32) (n : Nat) (np ty : Int32) (wa : Int32) : Int32 :=
  if wa = nI 0 then nI n else if wa = nI 1 then rfPlc σ n else if wa = nI 2 then rfFree σ n else if wa = nI 3 then rfMany σ (nI 5) n else if wa = nI 4 then rfMany σ (nI 0) n else
  if wa = nI 5 then σ 1 else if wa = nI 6 then rfSum σ n else if wa = nI 7 then rfHrA σ n else if wa = nI 8 then σ 2 else if wa = nI 9 then σ 3 else if wa = nI 10 then σ 4 else
  if wa = nI 11 then np else if wa = nI 12 then ty else if wa = nI 20 then σ 6 else if wa = nI 21 then σ 7 else if wa = nI 22 then σ 8 else (-1)
def rfPk (σ : Nat → Int32) (n : Nat) : Nat → Int32
  | 0 => nI 0
  | t + 1 => if rfPk σ n t < rfSum (rfTick (rfIt σ n t) n) n then rfSum (rfTick (rfIt σ n t) n) n else rfPk σ n t
def rfPeakOf (σ : Nat → Int32) (n : Nat) (ta : Int32) : Int32 := if nI 1 ≤ ta ∧ ta ≤ nI 200 then rfPk σ n ta.toNatClampNeg else (-1)
def rfSl1 (r : (Nat → Int32) × Int32) (i : Nat) : (Nat → Int32) × Int32 := if nI 1 ≤ nf r.1 i 3 ∧ nf r.1 i 3 ≤ nI 3 then (rfFades r.1 i, r.2 + nI 1) else r
def rfSl2 (r : (Nat → Int32) × Int32) (i : Nat) : (Nat → Int32) × Int32 := (nset r.1 i 3 (if nf r.1 i 3 = 0 then nI 6 else nf r.1 i 3), r.2)
def rfSl (σ : Nat → Int32) (n : Nat) : Nat → (Nat → Int32) × Int32
  | 0 => rfLN σ n
  | i + 1 => rfSl2 (rfSl1 (rfSl σ n i) i) i
def rfCon (σ : Nat → Int32) (n : Nat) : Int32 := rfPlc σ n + rfMany σ (nI 5) n
def rfTy (tx : Nat → Int32) (ty : Nat) (ca : Int32) : ((Nat → Int32) × Nat) × Int32 := if nI 32 ≤ ca ∧ ca ≤ nI 126 then (if ty = 60 then ((tx, ty), (-3)) else ((upd tx ty ca, ty + 1), nI (ty + 1))) else ((tx, ty), (-1))
theorem rfFl_at {η : Nat → Nat → Int32} {q j : Nat} (h : j < 1670) : rfFl η (1670 * q + j) = η q j := by
  unfold rfFl
  rw [show (1670 * q + j) / 1670 = q from by omega, show (1670 * q + j) % 1670 = j from by omega]
theorem upd_rowS {r f g : Nat → Int32} {i : Nat} {v : Int32} (hr : ∀ j, r j = if j < i then f j else g j) (hv : v = f i) : ∀ j, upd r i v j = if j < i + 1 then f j else g j := by
  subst hv; exact upd_row hr
def rfPB (c : Int32) : Int32 := if c = nI 115 then nI 0 else if c = nI 97 then nI 1 else if c = nI 116 then nI 2 else if c = nI 98 then nI 3 else (-4)
def rfFz (z o c : Int32) : RZ :=
  if z = 0 then (if c = nI 40 then (if o = nI 6 then (z, o, nI 2) else (nI 0, o + nI 1, nI 0)) else if 0 ≤ rfPB c then (nI 1, o + nI 0, nI 0) else (z, o, nI 1)) else
  if z = nI 2 then (if nI 48 ≤ c ∧ c ≤ nI 57 then (nI 3, o, nI 0) else (z, o, nI 1)) else
  if c = nI 41 ∧ 0 < o then (nI 1, o + Int32.ofInt (-1), nI 0) else
  if c = nI 42 ∧ z = nI 1 then (nI 2, o, nI 0) else
  if c = nI 43 ∨ c = nI 94 then (nI 0, o, nI 0) else (z, o, nI 1)
abbrev rfFe (z o : Int32) : Prop := z = 0 ∨ z = nI 2 ∨ 0 < o
def rfFa (tx : Nat → Int32) : Nat → Nat → Int32 → Int32 → Int32 × Int32
  | 0, k, z, o => (if rfFe z o then nI k else (-4), nI 3)
  | f + 1, k, z, o => if (rfFz z o (tx k)).2.2 = 0 then rfFa tx f (k + 1) (rfFz z o (tx k)).1 (rfFz z o (tx k)).2.1 else (nI k, (rfFz z o (tx k)).2.2)
theorem rfFa_t {tx : Nat → Int32} {ty k : Nat} {z o z2 o2 : Int32} {r : Int32 × Int32} (hlt : k < ty) (hq : rfFz z o (tx k) = (z2, o2, nI 0)) (hv : rfFa tx (ty - k) k z o = r) : rfFa tx (ty - (k + 1)) (k + 1) z2 o2 = r := by
  rw [show ty - k = (ty - (k + 1)) + 1 from by omega, rfFa, hq, if_pos (show (nI 0 : Int32) = 0 from by decide)] at hv; exact hv
theorem rfFa_f {tx : Nat → Int32} {ty k : Nat} {z o z2 o2 b : Int32} {r : Int32 × Int32} (hlt : k < ty) (hb : ¬ b = 0) (hq : rfFz z o (tx k) = (z2, o2, b)) (hv : rfFa tx (ty - k) k z o = r) : r = (nI k, b) := by
  rw [show ty - k = (ty - (k + 1)) + 1 from by omega, rfFa, hq, if_neg hb] at hv; exact hv.symm
theorem rfFa_e {tx : Nat → Int32} {ty k : Nat} {z o : Int32} {r : Int32 × Int32} (hge : k = ty) (hv : rfFa tx (ty - k) k z o = r) : r = (if rfFe z o then nI ty else (-4), nI 3) := by
  subst hge; rw [Nat.sub_self, rfFa] at hv; exact hv.symm
abbrev rfFt (tx : Nat → Int32) (ty : Nat) : Int32 × Int32 := rfFa tx ty 0 (nI 0) (nI 0)
def rfFV (tx : Nat → Int32) (ty : Nat) (wa : Int32) : Int32 := if nI 0 ≤ wa ∧ wa ≤ nI 1 then (if (rfFt tx ty).1 = (-4) then (rfFt tx ty).1 else if wa = 0 then (rfFt tx ty).1 else (rfFt tx ty).2) else (-1)
def rfAdN (tx : Nat → Int32) (ty : Nat) : Nat → Int32
  | 0 => nI 0
  | k + 1 => rfAdN tx ty k + (if k < ty ∧ ¬ rfPB (tx k) < 0 then nI 1 else nI 0)
def rfAdA (σ : Nat → Int32) (tx : Nat → Int32) (ty i : Nat) : Nat → Int32 := fun j => if 10 ≤ j ∧ j < 10 + i then (if j - 10 < ty then tx (j - 10) else nI 0) else upd σ 9 (nI ty) j
theorem rfAdA_0 {σ tx : Nat → Int32} {ty j : Nat} : upd σ 9 (nI ty) j = rfAdA σ tx ty 0 j := by
  rw [rfAdA, if_neg (by omega)]
theorem rfAdA_s {r σ tx : Nat → Int32} {ty i : Nat} {x : Int32} (hr : ∀ j, r j = rfAdA σ tx ty i j) (hx : x = if i < ty then tx i else nI 0) : ∀ j, upd r (10 + i) x j = rfAdA σ tx ty (i + 1) j := by
  intro j
  by_cases c : j = 10 + i
  · subst c; rw [pk_us, rfAdA, if_pos (by omega), hx, show 10 + i - 10 = i from by omega]
  · rw [pk_un c, hr j]
    unfold rfAdA
    by_cases d : 10 ≤ j ∧ j < 10 + i
    · rw [if_pos d, if_pos (show 10 ≤ j ∧ j < 10 + (i + 1) from by omega)]
    · rw [if_neg d, if_neg (show ¬ (10 ≤ j ∧ j < 10 + (i + 1)) from by omega)]
def rfAdo (σ : Nat → Int32) (tx : Nat → Int32) (ty : Nat) : KR := if (rfFt tx ty).1 = (-4) then (rfAdA σ tx ty 60, rfAdN tx ty 60, true) else (σ, (-2), false)
def rfCut (v : Int32) : Int32 := if v ≤ nI 1000000 then v else nI 1000000
def rfJo (s g v : Int32) : Int32 := if g = nI 43 then rfCut (s + v) else if g = nI 94 then (if s ≤ v then v else s) else v
theorem idecQ {a : Nat} (h : 0 < a) : nI a + Int32.ofInt (-1) = nI (a - 1) := by
  obtain ⟨b, rfl⟩ : ∃ b, a = b + 1 := ⟨a - 1, by omega⟩
  exact idecP b
def rfDp (σ : Nat → Int32) : Nat → Nat
  | 0 => 0
  | i + 1 => if σ (10 + i) = nI 40 then rfDp σ i + 1 else if σ (10 + i) = nI 41 then rfDp σ i - 1 else rfDp σ i
abbrev RM : Type := Int32 × (Nat → Int32) × (Nat → Int32)
def rfMkS (pr : Nat → Int32) (d : Nat) (c : Int32) (r : RM) : RM :=
  if c = nI 40 then (r.1, upd r.2.1 (d + 1) (nI 0), upd r.2.2 (d + 1) (nI 0)) else
  if c = nI 43 ∨ c = nI 94 then (r.1, upd r.2.1 d (rfJo (r.2.1 d) (r.2.2 d) r.1), upd r.2.2 d c) else
  if c = nI 41 then (rfJo (r.2.1 d) (r.2.2 d) r.1, r.2.1, r.2.2) else
  if c = nI 42 then r else
  if nI 48 ≤ c ∧ c ≤ nI 57 then (rfCut (r.1 * (c - nI 48)), r.2.1, r.2.2) else (pr (rfPB c).toNatClampNeg, r.2.1, r.2.2)
def rfMkN (σ pr f6 f7 : Nat → Int32) : Nat → RM
  | 0 => (nI 0, upd f6 0 (nI 0), upd f7 0 (nI 0))
  | i + 1 => rfMkS pr (rfDp σ i) (σ (10 + i)) (rfMkN σ pr f6 f7 i)
def rfMakes (σ pr f6 f7 : Nat → Int32) (m : Nat) : Int32 := rfJo ((rfMkN σ pr f6 f7 m).2.1 0) ((rfMkN σ pr f6 f7 m).2.2 0) (rfMkN σ pr f6 f7 m).1
abbrev rfOk (d : Nat) (c : Int32) : Prop := (c = nI 40 → d < 6) ∧ (c = nI 41 → 0 < d) ∧ (¬ c = nI 40 → ¬ (c = nI 43 ∨ c = nI 94) → ¬ c = nI 41 → ¬ c = nI 42 → ¬ (nI 48 ≤ c ∧ c ≤ nI 57) → ∃ j, j < 4 ∧ rfPB c = nI j)
def MadeR (σ g : Nat → Int32) (m : Nat) (v : Int32) : Prop := ∃ pr f6 f7 : Nat → Int32, (∀ j, j < 4 → pr j = g j) ∧ v = rfMakes σ pr f6 f7 m
def rfSl4 (r : AZ) (k : Nat) (v : Int32) : AZ := (r.1 + (if v ≤ 0 then nI 0 else nI 1), if v ≤ r.2.1 then r.2.1 else v, if v ≤ r.2.1 then r.2.2 else nI k)
def rfAl (m : Nat → Int32) : Nat → AZ
  | 0 => (nI 0, nI 0, (-4))
  | k + 1 => rfSl4 (rfAl m k) k (m k)
def rfAlone (m : Nat → Int32) (w : Int32) : Int32 := if nI 0 ≤ w ∧ w ≤ nI 1 then (if w = 0 then (rfAl m 4).1 else (rfAl m 4).2.2) else (-1)
theorem rfAl_up {m : Nat → Int32} {k : Nat} {v : Int32} : ∀ j, j ≤ k → rfAl (upd m k v) j = rfAl m j := by
  intro j
  induction j with
  | zero => intro _; rfl
  | succ j ih => intro h; rw [rfAl, rfAl, ih (by omega), pk_un (by omega)]
theorem rl_1 {m : Nat → Int32} {k : Nat} {v : Int32} : (rfAl (upd m k v) (k + 1)).1 = (rfAl m k).1 + (if v ≤ 0 then nI 0 else nI 1) := by
  rw [rfAl, rfAl_up k (Nat.le_refl _), pk_us]; rfl
theorem rl_2 {m : Nat → Int32} {k : Nat} {v : Int32} : (rfAl (upd m k v) (k + 1)).2.1 = if v ≤ (rfAl m k).2.1 then (rfAl m k).2.1 else v := by
  rw [rfAl, rfAl_up k (Nat.le_refl _), pk_us]; rfl
theorem rl_3 {m : Nat → Int32} {k : Nat} {v : Int32} : (rfAl (upd m k v) (k + 1)).2.2 = if v ≤ (rfAl m k).2.1 then (rfAl m k).2.2 else nI k := by
  rw [rfAl, rfAl_up k (Nat.le_refl _), pk_us]; rfl
