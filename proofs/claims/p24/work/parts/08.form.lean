/-! 08.form: walks, by program -/
def isCh (x : Int32) : Prop := ∃ q, q < 65536 ∧ x = nI q
theorem isCh.nar {x : Int32} (h : isCh x) : narrow .char (.int x) = .int x := by
  obtain ⟨q, hq, rfl⟩ := h
  exact (pk_charN hq).1
theorem isCh_0 : isCh (nI 0) := ⟨0, by omega, rfl⟩
def ForP (E : XE) (a : Nat) (L : List Int32) (H : Heap) : Prop := XO E a 1 [.ref (a + 1), .int (nI L.length)] H ∧ L.length ≤ 60 ∧ (∀ x ∈ L, isCh x) ∧ ∃ f : Nat → Int32, XC E (a + 1) 60 f H ∧ ∀ j, j < L.length → f j = L.getD j 0
theorem ForP.fr {E : XE} {a : Nat} {L : List Int32} {H H1 : Heap} (h : ForP E a L H) (hq : ∀ q, bk a 2 q → H1[q]? = H[q]?) : ForP E a L H1 := by
  obtain ⟨h1, h2, h5, f, h3, h4⟩ := h
  exact ⟨va_at.kept h1 (hq a ⟨Nat.le_refl _, by omega⟩), h2, h5, f, va_at.kept h3 (hq (a + 1) ⟨by omega, by omega⟩), h4⟩
theorem getD_mem {L : List Int32} {j : Nat} (h : j < L.length) : L.getD j 0 ∈ L := by
  rw [List.getD_eq_getElem?_getD, List.getElem?_eq_getElem h]
  exact List.getElem_mem h
def fsAt (L : List Int32) (i : Int32) : Int32 := if 0 ≤ i ∧ i < nI L.length then L.getD i.toNatClampNeg 0 else nI 0
theorem fsAt_in {L : List Int32} {i : Int32} {N : Nat} {f : Nat → Int32} (hN : N < 2 ^ 31) (hL : L.length ≤ N) (hf : ∀ j, j < L.length → f j = L.getD j 0) (h0 : ¬ i < 0) (h1 : ¬ nI L.length ≤ i) : f i.toNatClampNeg = fsAt L i := by
  obtain ⟨j, hj, rfl⟩ := nI_of h0
  have hjL : j < L.length := by
    rcases Nat.lt_or_ge j L.length with h | h
    · exact h
    · exact absurd (nI_le h hj) h1
  rw [fsAt, if_pos ⟨nI_pos' hj, nI_lt hjL (by omega)⟩, nI_clamp hj, hf j hjL]
theorem fsAt_nI {L : List Int32} {j : Nat} (hj : j < L.length) (hL : L.length ≤ 60) : fsAt L (nI j) = L.getD j 0 := by
  rw [fsAt, if_pos ⟨nI_pos' (by omega), nI_lt hj (by omega)⟩, nI_clamp (by omega)]
theorem fsAt_ch {L : List Int32} {i : Int32} (h : ∀ x ∈ L, isCh x) (hL : L.length ≤ 60) : isCh (fsAt L i) := by
  by_cases q : 0 ≤ i ∧ i < nI L.length
  · rw [fsAt, if_pos q]
    have h0 : ¬ i < 0 := Int32.not_lt.mpr q.1
    obtain ⟨j, hj, rfl⟩ := nI_of h0
    rw [nI_clamp hj]
    exact h _ (getD_mem ((nI_ltI hj (by omega)).mp q.2))
  · rw [fsAt, if_neg q]; exact isCh_0
def foApp (L : List Int32) (x : Int32) : List Int32 := if L.length < 60 then L ++ [x] else L
abbrev rm_X1_signAt : Room := ({ frames := 0, cells := 0, slots := 0, locals := 0 } : Room)
set_option maxRecDepth 100000 in
set_option maxHeartbeats 600000 in
theorem c_X1_signAt (l : Launch) (E : XE) (a : Nat) (L : List Int32) (i : Int32) (H : Heap) (hP : ForP E a L H) : Rd l E yX1_signAt cX1_signAt 2 (some .char) rm_X1_signAt [.ref a, .int i] H (fsAt L i) := by
  refine met_of (by decide) (Nat.le_of_ble_eq_true rfl) (fun p e s m args below meth c hBD Q hQ ls hl => ?_)
  obtain ⟨S, hr, hlk, hnm, hE, hH⟩ := hBD
  subst hH
  have hl : lv_has ls 2 [(0, .ref a), (1, .int i)] := hl
  have hS : va_S (fun _ => False) s.heap s.heap [] := va_S.rf
  obtain ⟨ho, hL, hch, f, hf0, hf⟩ := hP
  refine lv_iload_n S.1 S.2.1 dX1_signAt_0 rfl (lv_at hl 1 rfl) ?_
  refine lv_if_lt (tgt := 30) S.1 S.2.1 dX1_signAt_1 rfl (fun h1 => ?_) (fun h1 => ?_)
  · skip
    refine lv_iconst (v := (nI 0)) S.1 S.2.1 dX1_signAt_30 (by decide) ?_
    subst hQ
    exact x_retR S hr hlk (isCh_0.nar) (by rw [fsAt, if_neg (fun z => by first | exact absurd h1 (Int32.not_lt.mpr z.1) | exact absurd h2 (Int32.not_le.mpr z.2) | exact absurd h3 (Int32.not_le.mpr (Int32.lt_of_lt_of_le z.2 (nI_le hL (by decide)))))]) dX1_signAt_31
  · skip
    refine lv_iload_n S.1 S.2.1 dX1_signAt_4 rfl (lv_at hl 1 rfl) ?_
    refine lv_aload_n S.1 S.2.1 dX1_signAt_5 rfl (lv_at hl 0 rfl) ?_
    refine x_get S hE (ho) (C := RX1) (T := TX1) (N := 2) rfl inlX1 1 (by decide) (v := .int (nI L.length)) rfl kw4_4 rfl dX1_signAt_6 ?_
    refine lv_icmp_ge (tgt := 30) S.1 S.2.1 dX1_signAt_9 rfl (fun h2 => ?_) (fun h2 => ?_)
    · skip
      refine lv_iconst (v := (nI 0)) S.1 S.2.1 dX1_signAt_30 (by decide) ?_
      subst hQ
      exact x_retR S hr hlk (isCh_0.nar) (by rw [fsAt, if_neg (fun z => by first | exact absurd h1 (Int32.not_lt.mpr z.1) | exact absurd h2 (Int32.not_le.mpr z.2) | exact absurd h3 (Int32.not_le.mpr (Int32.lt_of_lt_of_le z.2 (nI_le hL (by decide)))))]) dX1_signAt_31
    · skip
      refine lv_iload_n S.1 S.2.1 dX1_signAt_12 rfl (lv_at hl 1 rfl) ?_
      refine lv_aload_n S.1 S.2.1 dX1_signAt_13 rfl (lv_at hl 0 rfl) ?_
      refine x_get S hE (ho) (C := RX1) (T := TX1) (N := 2) rfl inlX1 0 (by decide) (v := .ref (a + 1)) rfl kw4_0 rfl dX1_signAt_14 ?_
      refine x_alenC S hE hf0 (by decide) dX1_signAt_17 ?_
      refine lv_icmp_ge (tgt := 30) S.1 S.2.1 dX1_signAt_18 rfl (fun h3 => ?_) (fun h3 => ?_)
      · skip
        refine lv_iconst (v := (nI 0)) S.1 S.2.1 dX1_signAt_30 (by decide) ?_
        subst hQ
        exact x_retR S hr hlk (isCh_0.nar) (by rw [fsAt, if_neg (fun z => by first | exact absurd h1 (Int32.not_lt.mpr z.1) | exact absurd h2 (Int32.not_le.mpr z.2) | exact absurd h3 (Int32.not_le.mpr (Int32.lt_of_lt_of_le z.2 (nI_le hL (by decide)))))]) dX1_signAt_31
      · skip
        refine lv_aload_n S.1 S.2.1 dX1_signAt_21 rfl (lv_at hl 0 rfl) ?_
        refine x_get S hE (ho) (C := RX1) (T := TX1) (N := 2) rfl inlX1 0 (by decide) (v := .ref (a + 1)) rfl kw4_0 rfl dX1_signAt_22 ?_
        refine lv_iload_n S.1 S.2.1 dX1_signAt_25 rfl (lv_at hl 1 rfl) ?_
        refine x_caldI S hE (hf0) (xin_of (by decide) h1 h3) dX1_signAt_26 ?_
        refine x_top (y := (fsAt L i)) (fsAt_in (by decide) hL hf h1 h2) ?_
        refine lv_goto (tgt := 31) S.1 S.2.1 dX1_signAt_27 rfl ?_
        subst hQ
        exact x_retR S hr hlk ((fsAt_ch hch hL).nar) (rfl) dX1_signAt_31
abbrev rm_X1_copyFrom : Room := ({ frames := 1, cells := 0, slots := 0, locals := 21 } : Room)
set_option maxRecDepth 100000 in
set_option maxHeartbeats 600000 in
theorem c_X1_copyFrom (l : Launch) (E : XE) (a b : Nat) (L M : List Int32) (H : Heap) (hP : ForP E a M H) (hP2 : ForP E b L H) (hd : a + 2 ≤ b ∨ b + 2 ≤ a) : Wv l E yX1_copyFrom cX1_copyFrom 4 rm_X1_copyFrom [.ref a, .ref b] H (bk a 2) (ForP E a L) := by
  refine met_of (by decide) (Nat.le_of_ble_eq_true rfl) (fun p e s m args below meth c hBD Q hQ ls hl => ?_)
  obtain ⟨S, hr, hlk, hnm, hE, hH⟩ := hBD
  subst hH
  have hl : lv_has ls 4 [(0, .ref a), (1, .ref b)] := hl
  have hO : Out (bk a 2) s.heap s.heap := Out.rf
  have hS : va_S (bk a 2) s.heap s.heap [] := va_S.rf
  obtain ⟨ho, hM, hchM, g, hg0, hg⟩ := hP
  obtain ⟨-, hL, hch, -⟩ := id hP2
  refine lv_aload_n S.1 S.2.1 dX1_copyFrom_0 rfl (lv_at hl 1 rfl) ?_
  refine x_get S hE (hP2.1) (C := RX1) (T := TX1) (N := 2) rfl inlX1 1 (by decide) (v := .int (nI L.length)) rfl kw4_4 rfl dX1_copyFrom_1 ?_
  refine lv_bipush (v := (nI 60)) S.1 S.2.1 dX1_copyFrom_4 (by decide) ?_
  refine va_mmin S.1 S.2.1 (S.2.2.1.trans hl.1.symm) S.2.2.2.1 (S.2.2.2.2 _ kw4_1) (S.2.2.2.2 _ kw4_2) (S.2.2.2.2 _ kw3_17) (S.2.2.2.2 _ kw4_3) (Nat.le_of_ble_eq_true rfl) (Nat.le_of_ble_eq_true rfl) (Nat.zero_le _) (Nat.zero_le _) dX1_copyFrom_6 ?_
  refine x_top (y := (xmin (nI L.length) (nI 60))) rfl ?_
  refine x_top (y := (nI L.length)) (by rw [xmin, if_neg (nI_nlt hL (by decide))]) ?_
  refine lv_istore_n S.1 S.2.1 dX1_copyFrom_9 rfl hl (by decide) rfl (fun ls hl => ?_)
  have hl : lv_has ls 4 [(2, .int (nI L.length)), (0, .ref a), (1, .ref b)] := hl
  refine lv_iconst (v := (nI 0)) S.1 S.2.1 dX1_copyFrom_10 (by decide) ?_
  refine lv_istore_n S.1 S.2.1 dX1_copyFrom_11 rfl hl (by decide) rfl (fun ls hl => ?_)
  have hl : lv_has ls 4 [(3, .int (nI 0)), (2, .int (nI L.length)), (0, .ref a), (1, .ref b)] := hl
  have hloop12 : ∀ (d : Nat) (i : Nat) (g : Nat → Int32) (H : Heap) (locs : List Loc) (ls : Array Slot), L.length - i = d → i ≤ L.length → (∀ j, j < i → g j = L.getD j 0) → XO E a 1 [.ref (a + 1), .int (nI M.length)] H → XC E (a + 1) 60 g H → ForP E b L H → Out (bk a 2) s.heap H → va_S (bk a 2) s.heap H locs → lv_has ls 4 [(3, .int (nI i)), (2, .int (nI L.length)), (0, .ref a), (1, .ref b)] → W p l e rm_X1_copyFrom s m args below meth c H locs 0 0 Q (F0 m 12 ls []) := by
    intro d
    induction d using Nat.strongRecOn with
    | ind d ih =>
      intro i g H locs ls hd hi hg1 ho hg0 hP2 hO hS hl
      refine lv_iload_n S.1 S.2.1 dX1_copyFrom_12 rfl (lv_at hl 0 rfl) ?_
      refine lv_iload_n S.1 S.2.1 dX1_copyFrom_13 rfl (lv_at hl 1 rfl) ?_
      refine lv_icmp_ge (tgt := 34) S.1 S.2.1 dX1_copyFrom_14 rfl (fun h1 => ?_) (fun h1 => ?_)
      · skip
        refine lv_aload_n S.1 S.2.1 dX1_copyFrom_34 rfl (lv_at hl 2 rfl) ?_
        refine lv_iload_n S.1 S.2.1 dX1_copyFrom_35 rfl (lv_at hl 1 rfl) ?_
        refine x_put S hE hS (bk1 (by omega)) (ho) (C := RX1) (T := TX1) (N := 2) rfl inlX1 tyX1 tyX1_ok nmX1 1 (by decide) (Nat.le_of_ble_eq_true rfl) kw4_4 rfl rfl (v := .int (nI L.length)) rfl rfl dX1_copyFrom_36 (fun H locs hX hO1 hS => ?_)
        have hg0 := va_at.kept hg0 (hO1.2 (a + 1) (fun z => by have z : a + 1 = a := z; omega))
        have hO := hO.tr hO1 (fun q h => by rw [h]; exact bk1 (by omega))
        subst hQ
        refine x_retV S hr hlk hS hO ?_ dX1_copyFrom_39
        exact ⟨hX, hL, hch, g, hg0, fun j hj => hg1 j (by have := ge_of_le (by omega) (by omega) h1; omega)⟩
      · skip
        have hlt := lt_of_nle (by omega) (by omega) h1
        refine lv_aload_n S.1 S.2.1 dX1_copyFrom_17 rfl (lv_at hl 2 rfl) ?_
        refine x_get S hE (ho) (C := RX1) (T := TX1) (N := 2) rfl inlX1 0 (by decide) (v := .ref (a + 1)) rfl kw4_0 rfl dX1_copyFrom_18 ?_
        refine lv_iload_n S.1 S.2.1 dX1_copyFrom_21 rfl (lv_at hl 0 rfl) ?_
        refine lv_aload_n S.1 S.2.1 dX1_copyFrom_22 rfl (lv_at hl 3 rfl) ?_
        refine lv_iload_n S.1 S.2.1 dX1_copyFrom_23 rfl (lv_at hl 0 rfl) ?_
        refine xk_R (v := (fsAt L (nI i))) (x_runV (As := [.int (nI i)]) (rest := [.int (nI i), .ref (a + 1)]) S hE hS (fun _ h => h.elim) (c_X1_signAt l E b L (nI i) _ hP2) kv_X1_signAt kw18_11 kw12_19 kw12_20 (x_recv hE (hP2.1) (ci := 1) rfl) ⟨Nat.le_of_ble_eq_true rfl, Nat.le_of_ble_eq_true rfl⟩ rfl rfl rfl hl.1 rfl (Nat.le_of_ble_eq_true rfl) dX1_copyFrom_24 ⟨Nat.zero_le _, Nat.zero_le _⟩) ?_
        refine x_top (y := (L.getD i 0)) (fsAt_nI hlt hL) ?_
        refine x_castI S hE hS (⟨by omega, by omega⟩) (hg0) (vp_in_nI (by omega) (by decide)) ((hch _ (getD_mem hlt)).nar) dX1_copyFrom_27 (fun H locs hX hO1 hS => ?_)
        have ho := va_at.kept ho (hO1.2 a (fun z => by have z : a = a + 1 := z; omega))
        have hO := hO.tr hO1 (fun q h => by rw [h]; exact bkk (by omega))
        rw [nI_clamp (by omega)] at hX
        have hg0 := hX
        have hP2 := hP2.fr (fun q h => hO1.2 q (fun z => by have z : q = a + 1 := z; rcases h with ⟨u, v⟩; omega))
        refine lv_iinc (k := 0) (v := (nI (i + 1))) S.1 S.2.1 dX1_copyFrom_28 hl rfl (iincP i 1) (by decide) rfl (fun ls hl => ?_)
        have hl : lv_has ls 4 [(3, .int (nI (i + 1))), (2, .int (nI L.length)), (0, .ref a), (1, .ref b)] := hl
        refine lv_goto (tgt := 12) S.1 S.2.1 dX1_copyFrom_31 rfl ?_
        exact ih _ (by omega) (i + 1) (upd g i (L.getD i 0)) _ _ ls rfl (by omega) (fun j hj => (Nat.lt_or_ge j i).elim (fun q => by rw [pk_un (by omega)]; exact hg1 j q) (fun q => by have e : j = i := (by omega); rw [e, pk_us])) (ho) (hg0) (hP2) (hO) (hS) (lv_sub hl [0, 1, 2, 3] rfl)
  exact hloop12 _ 0 g _ _ ls rfl (Nat.zero_le _) (fun j hj => absurd hj (Nat.not_lt_zero _)) (ho) (hg0) (hP2) (hO) (hS) (lv_sub hl [0, 1, 2, 3] rfl)
