/-! 22.refc: walks, by program -/
def rfNo (σ : Nat → Int32) (n k : Nat) (wa : Int32) : Int32 :=
  if wa = nI 0 then nf σ k 0 else if wa = nI 1 then nf σ k 1 else if wa = nI 2 then nf σ k 2 else if wa = nI 3 then nf σ k 3 else
  if wa = nI 4 then (if rfVo σ k then nf σ k 4 else (-4)) else if wa = nI 5 then (if rfVo σ k then rfHrd σ n k else (-4)) else
  if wa = nI 6 then nf σ k 6 else if wa = nI 7 then (if nf σ k 3 = 0 then rfAhd σ k else (-4)) else (-1)
def rfNoteOf (σ : Nat → Int32) (n : Nat) (no wa : Int32) : Int32 := if 0 ≤ no ∧ no < nI n then rfNo σ n no.toNatClampNeg wa else (-1)
theorem i_natL {x : Int32} {n : Nat} (hn : n < 2 ^ 31) (h0 : 0 ≤ x) (h1 : x < nI n) : ∃ k, k < n ∧ x = nI k := by
  obtain ⟨k, hk, e⟩ := i_nat hn h0 (Int32.le_of_lt h1)
  subst e
  refine ⟨k, ?_, rfl⟩
  by_cases c : k = n
  · subst c; exact absurd (Int32.lt_iff_toInt_lt.mp h1) (Int.lt_irrefl _)
  · omega
def rfOld (σ : Nat → Int32) (k : Nat) : Nat → Int32
  | 0 => nI 0
  | j + 1 => rfOld σ k j + (if rfPl σ j ∧ nf σ j 7 < nf σ k 7 then nI 1 else nI 0)
def rfVa (σ : Nat → Int32) (n : Nat) (ia : Int32) : Nat → Option Nat
  | 0 => none
  | i + 1 => if rfPl σ i ∧ rfOld σ i n = ia then some i else rfVa σ n ia i
def rfVoiceAt (σ : Nat → Int32) (n : Nat) (ia : Int32) : Int32 := if 0 ≤ ia then oi (rfVa σ n ia n) else (-1)
def rfFind (σ : Nat → Int32) (n : Nat) (pa qa : Int32) : Int32 := if (nI 0 ≤ pa ∧ pa ≤ nI 3) ∧ (nI 0 ≤ qa ∧ qa ≤ nI 127) then oi (rfV σ pa qa n) else (-1)
abbrev rfIts (σ : Nat → Int32) (wa : Int32) (i : Nat) : Prop := (wa = 0 ∧ rfPl σ i) ∨ (wa = nI 1 ∧ nf σ i 3 = nI 5) ∨ (wa = nI 2 ∧ rfVo σ i) ∨ (¬ wa = 0 ∧ ¬ wa = nI 1 ∧ ¬ wa = nI 2 ∧ nf σ i 3 = 0)
def rfPo (σ : Nat → Int32) (pa wa : Int32) : Nat → Int32
  | 0 => nI 0
  | i + 1 => rfPo σ pa wa i + (if rfIts σ wa i then (if nf σ i 0 = pa then (if wa = nI 2 then nf σ i 4 else nI 1) else nI 0) else nI 0)
def rfPartOf (σ : Nat → Int32) (n : Nat) (pa wa : Int32) : Int32 := if (nI 0 ≤ pa ∧ pa ≤ nI 3) ∧ (nI 0 ≤ wa ∧ wa ≤ nI 4) then (if wa = nI 3 then rfHrO σ n pa n else rfPo σ pa wa n) else (-1)
def rfCount (σ : Nat → Int32) (n : Nat) (np ty : Int32) (wa : Int32) : Int32 :=
  if wa = nI 0 then nI n else if wa = nI 1 then rfPlc σ n else if wa = nI 2 then rfFree σ n else if wa = nI 3 then rfMany σ (nI 5) n else if wa = nI 4 then rfMany σ (nI 0) n else
  if wa = nI 5 then σ 1 else if wa = nI 6 then rfSum σ n else if wa = nI 7 then rfHrA σ n else if wa = nI 8 then σ 2 else if wa = nI 9 then σ 3 else if wa = nI 10 then σ 4 else
  if wa = nI 11 then np else if wa = nI 12 then ty else if wa = nI 20 then σ 6 else if wa = nI 21 then σ 7 else if wa = nI 22 then σ 8 else (-1)
abbrev rm_X8_noteOf : Room := ({ frames := 4, cells := 0, slots := 0, locals := 87 } : Room)
set_option maxRecDepth 100000 in
set_option maxHeartbeats 600000 in
theorem c_X8_noteOf (l : Launch) (E : XE) (M : Nat) (ps ty re : Int32) (σ : Nat → Int32) (no : Int32) (wa : Int32) (n : Nat) (H : Heap) (ho : RfO E M ps ty re H) (hs : XI E (M + 1) 1670 σ H) (hn : σ 0 = nI n) (hn2 : n ≤ 200) (hb : 0 ≤ σ 8) : Rd l E yX8_noteOf cX8_noteOf 3 (some .int) rm_X8_noteOf [.ref M, .int no, .int wa] H (rfNoteOf σ n no wa) := by
  refine met_of (by decide) (Nat.le_of_ble_eq_true rfl) (fun p e s m args below meth c hBD Q hQ ls hl => ?_)
  obtain ⟨S, hr, hlk, hnm, hE, hH⟩ := hBD
  subst hH
  have hl : lv_has ls 3 [(0, .ref M), (1, .int no), (2, .int wa)] := hl
  have hS : va_S (fun _ => False) s.heap s.heap [] := va_S.rf
  refine lv_aload_n S.1 S.2.1 dX8_noteOf_0 rfl (lv_at hl 0 rfl) ?_
  refine lv_iload_n S.1 S.2.1 dX8_noteOf_1 rfl (lv_at hl 1 rfl) ?_
  refine xk_R (v := (bI (0 ≤ no ∧ no < nI n))) (x_runV (As := [.int no]) (rest := []) S hE hS (fun _ h => h.elim) (c_X8_isNote l E M ps ty re σ no n _ ho hs hn hn2) kv_X8_isNote kw21_4 kw21_5 kw21_6 (x_recv hE (ho) (ci := 8) rfl) ⟨Nat.le_of_ble_eq_true rfl, Nat.le_of_ble_eq_true rfl⟩ rfl rfl rfl hl.1 rfl (Nat.le_of_ble_eq_true rfl) dX8_noteOf_2 ⟨Nat.zero_le _, Nat.zero_le _⟩) ?_
  refine lv_if_ne (tgt := 10) S.1 S.2.1 dX8_noteOf_5 rfl (fun h1 => ?_) (fun h1 => ?_)
  · have h1 := bI_n0 h1
    obtain ⟨k, hk, rfl⟩ := i_natL (by omega) h1.1 h1.2
    refine lv_iload_n S.1 S.2.1 dX8_noteOf_10 rfl (lv_at hl 2 rfl) ?_
    by_cases h2_0 : wa = (nI 0)
    · refine x_top h2_0 ?_
      refine lv_tableIn (tgt := 56) S.1 S.2.1 dX8_noteOf_11 (by decide) (by decide) (show _ = some (45) from rfl) rfl ?_
      refine lv_aload_n S.1 S.2.1 dX8_noteOf_56 rfl (lv_at hl 0 rfl) ?_
      refine lv_iload_n S.1 S.2.1 dX8_noteOf_57 rfl (lv_at hl 1 rfl) ?_
      refine lv_iload_n S.1 S.2.1 dX8_noteOf_58 rfl (lv_at hl 2 rfl) ?_
      refine x_top (y := (nI 0)) (h2_0) ?_
      refine xk_R (v := (nf σ k 0)) (x_runV (As := [.int (nI k), .int (nI 0)]) (rest := []) S hE hS (fun _ h => h.elim) (c_X8_of l E M ps ty re σ k 0 _ ho hs (by omega) (by omega)) kv_X8_of kw12_22 kw12_23 kw13_0 (x_recv hE (ho) (ci := 8) rfl) ⟨Nat.le_of_ble_eq_true rfl, Nat.le_of_ble_eq_true rfl⟩ rfl rfl rfl hl.1 rfl (Nat.le_of_ble_eq_true rfl) dX8_noteOf_59 ⟨Nat.zero_le _, Nat.zero_le _⟩) ?_
      subst hQ
      exact x_retR S hr hlk (rfl) (by rw [rfNoteOf, if_pos ⟨nI_pos' (by omega), (nI_ltI (by omega) (by omega)).mpr hk⟩, nI_clamp (by omega), rfNo, if_pos h2_0]) dX8_noteOf_62
    by_cases h2_1 : wa = (nI 1)
    · refine x_top h2_1 ?_
      refine lv_tableIn (tgt := 56) S.1 S.2.1 dX8_noteOf_11 (by decide) (by decide) (show _ = some (45) from rfl) rfl ?_
      refine lv_aload_n S.1 S.2.1 dX8_noteOf_56 rfl (lv_at hl 0 rfl) ?_
      refine lv_iload_n S.1 S.2.1 dX8_noteOf_57 rfl (lv_at hl 1 rfl) ?_
      refine lv_iload_n S.1 S.2.1 dX8_noteOf_58 rfl (lv_at hl 2 rfl) ?_
      refine x_top (y := (nI 1)) (h2_1) ?_
      refine xk_R (v := (nf σ k 1)) (x_runV (As := [.int (nI k), .int (nI 1)]) (rest := []) S hE hS (fun _ h => h.elim) (c_X8_of l E M ps ty re σ k 1 _ ho hs (by omega) (by omega)) kv_X8_of kw12_22 kw12_23 kw13_0 (x_recv hE (ho) (ci := 8) rfl) ⟨Nat.le_of_ble_eq_true rfl, Nat.le_of_ble_eq_true rfl⟩ rfl rfl rfl hl.1 rfl (Nat.le_of_ble_eq_true rfl) dX8_noteOf_59 ⟨Nat.zero_le _, Nat.zero_le _⟩) ?_
      subst hQ
      exact x_retR S hr hlk (rfl) (by rw [rfNoteOf, if_pos ⟨nI_pos' (by omega), (nI_ltI (by omega) (by omega)).mpr hk⟩, nI_clamp (by omega), rfNo, if_neg (by rw [h2_1]; decide), if_pos h2_1]) dX8_noteOf_62
    by_cases h2_2 : wa = (nI 2)
    · refine x_top h2_2 ?_
      refine lv_tableIn (tgt := 56) S.1 S.2.1 dX8_noteOf_11 (by decide) (by decide) (show _ = some (45) from rfl) rfl ?_
      refine lv_aload_n S.1 S.2.1 dX8_noteOf_56 rfl (lv_at hl 0 rfl) ?_
      refine lv_iload_n S.1 S.2.1 dX8_noteOf_57 rfl (lv_at hl 1 rfl) ?_
      refine lv_iload_n S.1 S.2.1 dX8_noteOf_58 rfl (lv_at hl 2 rfl) ?_
      refine x_top (y := (nI 2)) (h2_2) ?_
      refine xk_R (v := (nf σ k 2)) (x_runV (As := [.int (nI k), .int (nI 2)]) (rest := []) S hE hS (fun _ h => h.elim) (c_X8_of l E M ps ty re σ k 2 _ ho hs (by omega) (by omega)) kv_X8_of kw12_22 kw12_23 kw13_0 (x_recv hE (ho) (ci := 8) rfl) ⟨Nat.le_of_ble_eq_true rfl, Nat.le_of_ble_eq_true rfl⟩ rfl rfl rfl hl.1 rfl (Nat.le_of_ble_eq_true rfl) dX8_noteOf_59 ⟨Nat.zero_le _, Nat.zero_le _⟩) ?_
      subst hQ
      exact x_retR S hr hlk (rfl) (by rw [rfNoteOf, if_pos ⟨nI_pos' (by omega), (nI_ltI (by omega) (by omega)).mpr hk⟩, nI_clamp (by omega), rfNo, if_neg (by rw [h2_2]; decide), if_neg (by rw [h2_2]; decide), if_pos h2_2]) dX8_noteOf_62
    by_cases h2_3 : wa = (nI 3)
    · refine x_top h2_3 ?_
      refine lv_tableIn (tgt := 56) S.1 S.2.1 dX8_noteOf_11 (by decide) (by decide) (show _ = some (45) from rfl) rfl ?_
      refine lv_aload_n S.1 S.2.1 dX8_noteOf_56 rfl (lv_at hl 0 rfl) ?_
      refine lv_iload_n S.1 S.2.1 dX8_noteOf_57 rfl (lv_at hl 1 rfl) ?_
      refine lv_iload_n S.1 S.2.1 dX8_noteOf_58 rfl (lv_at hl 2 rfl) ?_
      refine x_top (y := (nI 3)) (h2_3) ?_
      refine xk_R (v := (nf σ k 3)) (x_runV (As := [.int (nI k), .int (nI 3)]) (rest := []) S hE hS (fun _ h => h.elim) (c_X8_of l E M ps ty re σ k 3 _ ho hs (by omega) (by omega)) kv_X8_of kw12_22 kw12_23 kw13_0 (x_recv hE (ho) (ci := 8) rfl) ⟨Nat.le_of_ble_eq_true rfl, Nat.le_of_ble_eq_true rfl⟩ rfl rfl rfl hl.1 rfl (Nat.le_of_ble_eq_true rfl) dX8_noteOf_59 ⟨Nat.zero_le _, Nat.zero_le _⟩) ?_
      subst hQ
      exact x_retR S hr hlk (rfl) (by rw [rfNoteOf, if_pos ⟨nI_pos' (by omega), (nI_ltI (by omega) (by omega)).mpr hk⟩, nI_clamp (by omega), rfNo, if_neg (by rw [h2_3]; decide), if_neg (by rw [h2_3]; decide), if_neg (by rw [h2_3]; decide), if_pos h2_3]) dX8_noteOf_62
    by_cases h2_4 : wa = (nI 4)
    · refine x_top h2_4 ?_
      refine lv_tableIn (tgt := 63) S.1 S.2.1 dX8_noteOf_11 (by decide) (by decide) (show _ = some (52) from rfl) rfl ?_
      refine lv_aload_n S.1 S.2.1 dX8_noteOf_63 rfl (lv_at hl 0 rfl) ?_
      refine lv_iload_n S.1 S.2.1 dX8_noteOf_64 rfl (lv_at hl 1 rfl) ?_
      refine xk_R (v := (bI (rfVo σ k))) (x_runV (As := [.int (nI k)]) (rest := []) S hE hS (fun _ h => h.elim) (c_X8_isVoice l E M ps ty re σ k _ ho hs (by omega)) kv_X8_isVoice kw19_19 kw19_20 kw19_21 (x_recv hE (ho) (ci := 8) rfl) ⟨Nat.le_of_ble_eq_true rfl, Nat.le_of_ble_eq_true rfl⟩ rfl rfl rfl hl.1 rfl (Nat.le_of_ble_eq_true rfl) dX8_noteOf_65 ⟨Nat.zero_le _, Nat.zero_le _⟩) ?_
      refine lv_if_eq (tgt := 80) S.1 S.2.1 dX8_noteOf_68 rfl (fun h3 => ?_) (fun h3 => ?_)
      · skip
        have h3 := bI_0 h3
        refine lv_bipush (v := (-4)) S.1 S.2.1 dX8_noteOf_80 (by decide) ?_
        subst hQ
        exact x_retR S hr hlk (rfl) (by rw [rfNoteOf, if_pos ⟨nI_pos' (by omega), (nI_ltI (by omega) (by omega)).mpr hk⟩, nI_clamp (by omega), rfNo, if_neg (by rw [h2_4]; decide), if_neg (by rw [h2_4]; decide), if_neg (by rw [h2_4]; decide), if_neg (by rw [h2_4]; decide), if_pos h2_4, if_neg h3]) dX8_noteOf_82
      · skip
        have h3 := bI_n0 h3
        refine lv_aload_n S.1 S.2.1 dX8_noteOf_71 rfl (lv_at hl 0 rfl) ?_
        refine lv_iload_n S.1 S.2.1 dX8_noteOf_72 rfl (lv_at hl 1 rfl) ?_
        refine lv_iconst (v := (nI 4)) S.1 S.2.1 dX8_noteOf_73 (by decide) ?_
        refine xk_R (v := (nf σ k 4)) (x_runV (As := [.int (nI k), .int (nI 4)]) (rest := []) S hE hS (fun _ h => h.elim) (c_X8_of l E M ps ty re σ k 4 _ ho hs (by omega) (by omega)) kv_X8_of kw12_22 kw12_23 kw13_0 (x_recv hE (ho) (ci := 8) rfl) ⟨Nat.le_of_ble_eq_true rfl, Nat.le_of_ble_eq_true rfl⟩ rfl rfl rfl hl.1 rfl (Nat.le_of_ble_eq_true rfl) dX8_noteOf_74 ⟨Nat.zero_le _, Nat.zero_le _⟩) ?_
        refine lv_goto (tgt := 82) S.1 S.2.1 dX8_noteOf_77 rfl ?_
        subst hQ
        exact x_retR S hr hlk (rfl) (by rw [rfNoteOf, if_pos ⟨nI_pos' (by omega), (nI_ltI (by omega) (by omega)).mpr hk⟩, nI_clamp (by omega), rfNo, if_neg (by rw [h2_4]; decide), if_neg (by rw [h2_4]; decide), if_neg (by rw [h2_4]; decide), if_neg (by rw [h2_4]; decide), if_pos h2_4, if_pos h3]) dX8_noteOf_82
    by_cases h2_5 : wa = (nI 5)
    · refine x_top h2_5 ?_
      refine lv_tableIn (tgt := 83) S.1 S.2.1 dX8_noteOf_11 (by decide) (by decide) (show _ = some (72) from rfl) rfl ?_
      refine lv_aload_n S.1 S.2.1 dX8_noteOf_83 rfl (lv_at hl 0 rfl) ?_
      refine lv_iload_n S.1 S.2.1 dX8_noteOf_84 rfl (lv_at hl 1 rfl) ?_
      refine xk_R (v := (bI (rfVo σ k))) (x_runV (As := [.int (nI k)]) (rest := []) S hE hS (fun _ h => h.elim) (c_X8_isVoice l E M ps ty re σ k _ ho hs (by omega)) kv_X8_isVoice kw19_19 kw19_20 kw19_21 (x_recv hE (ho) (ci := 8) rfl) ⟨Nat.le_of_ble_eq_true rfl, Nat.le_of_ble_eq_true rfl⟩ rfl rfl rfl hl.1 rfl (Nat.le_of_ble_eq_true rfl) dX8_noteOf_85 ⟨Nat.zero_le _, Nat.zero_le _⟩) ?_
      refine lv_if_eq (tgt := 99) S.1 S.2.1 dX8_noteOf_88 rfl (fun h4 => ?_) (fun h4 => ?_)
      · skip
        have h4 := bI_0 h4
        refine lv_bipush (v := (-4)) S.1 S.2.1 dX8_noteOf_99 (by decide) ?_
        subst hQ
        exact x_retR S hr hlk (rfl) (by rw [rfNoteOf, if_pos ⟨nI_pos' (by omega), (nI_ltI (by omega) (by omega)).mpr hk⟩, nI_clamp (by omega), rfNo, if_neg (by rw [h2_5]; decide), if_neg (by rw [h2_5]; decide), if_neg (by rw [h2_5]; decide), if_neg (by rw [h2_5]; decide), if_neg (by rw [h2_5]; decide), if_pos h2_5, if_neg h4]) dX8_noteOf_101
      · skip
        have h4 := bI_n0 h4
        refine lv_aload_n S.1 S.2.1 dX8_noteOf_91 rfl (lv_at hl 0 rfl) ?_
        refine lv_iload_n S.1 S.2.1 dX8_noteOf_92 rfl (lv_at hl 1 rfl) ?_
        refine xk_R (v := (rfHrd σ n k)) (x_runV (As := [.int (nI k)]) (rest := []) S hE hS (fun _ h => h.elim) (c_X8_heard l E M ps ty re σ k n _ ho hs hn hn2 hb (by omega)) kv_X8_heard kw21_8 kw21_9 kw21_10 (x_recv hE (ho) (ci := 8) rfl) ⟨Nat.le_of_ble_eq_true rfl, Nat.le_of_ble_eq_true rfl⟩ rfl rfl rfl hl.1 rfl (Nat.le_of_ble_eq_true rfl) dX8_noteOf_93 ⟨Nat.zero_le _, Nat.zero_le _⟩) ?_
        refine lv_goto (tgt := 101) S.1 S.2.1 dX8_noteOf_96 rfl ?_
        subst hQ
        exact x_retR S hr hlk (rfl) (by rw [rfNoteOf, if_pos ⟨nI_pos' (by omega), (nI_ltI (by omega) (by omega)).mpr hk⟩, nI_clamp (by omega), rfNo, if_neg (by rw [h2_5]; decide), if_neg (by rw [h2_5]; decide), if_neg (by rw [h2_5]; decide), if_neg (by rw [h2_5]; decide), if_neg (by rw [h2_5]; decide), if_pos h2_5, if_pos h4]) dX8_noteOf_101
    by_cases h2_6 : wa = (nI 6)
    · refine x_top h2_6 ?_
      refine lv_tableIn (tgt := 102) S.1 S.2.1 dX8_noteOf_11 (by decide) (by decide) (show _ = some (91) from rfl) rfl ?_
      refine lv_aload_n S.1 S.2.1 dX8_noteOf_102 rfl (lv_at hl 0 rfl) ?_
      refine lv_iload_n S.1 S.2.1 dX8_noteOf_103 rfl (lv_at hl 1 rfl) ?_
      refine lv_bipush (v := (nI 6)) S.1 S.2.1 dX8_noteOf_104 (by decide) ?_
      refine xk_R (v := (nf σ k 6)) (x_runV (As := [.int (nI k), .int (nI 6)]) (rest := []) S hE hS (fun _ h => h.elim) (c_X8_of l E M ps ty re σ k 6 _ ho hs (by omega) (by omega)) kv_X8_of kw12_22 kw12_23 kw13_0 (x_recv hE (ho) (ci := 8) rfl) ⟨Nat.le_of_ble_eq_true rfl, Nat.le_of_ble_eq_true rfl⟩ rfl rfl rfl hl.1 rfl (Nat.le_of_ble_eq_true rfl) dX8_noteOf_106 ⟨Nat.zero_le _, Nat.zero_le _⟩) ?_
      subst hQ
      exact x_retR S hr hlk (rfl) (by rw [rfNoteOf, if_pos ⟨nI_pos' (by omega), (nI_ltI (by omega) (by omega)).mpr hk⟩, nI_clamp (by omega), rfNo, if_neg (by rw [h2_6]; decide), if_neg (by rw [h2_6]; decide), if_neg (by rw [h2_6]; decide), if_neg (by rw [h2_6]; decide), if_neg (by rw [h2_6]; decide), if_neg (by rw [h2_6]; decide), if_pos h2_6]) dX8_noteOf_109
    by_cases h2_7 : wa = (nI 7)
    · refine x_top h2_7 ?_
      refine lv_tableIn (tgt := 110) S.1 S.2.1 dX8_noteOf_11 (by decide) (by decide) (show _ = some (99) from rfl) rfl ?_
      refine lv_aload_n S.1 S.2.1 dX8_noteOf_110 rfl (lv_at hl 0 rfl) ?_
      refine lv_iload_n S.1 S.2.1 dX8_noteOf_111 rfl (lv_at hl 1 rfl) ?_
      refine lv_iconst (v := (nI 3)) S.1 S.2.1 dX8_noteOf_112 (by decide) ?_
      refine xk_R (v := (nf σ k 3)) (x_runV (As := [.int (nI k), .int (nI 3)]) (rest := []) S hE hS (fun _ h => h.elim) (c_X8_of l E M ps ty re σ k 3 _ ho hs (by omega) (by omega)) kv_X8_of kw12_22 kw12_23 kw13_0 (x_recv hE (ho) (ci := 8) rfl) ⟨Nat.le_of_ble_eq_true rfl, Nat.le_of_ble_eq_true rfl⟩ rfl rfl rfl hl.1 rfl (Nat.le_of_ble_eq_true rfl) dX8_noteOf_113 ⟨Nat.zero_le _, Nat.zero_le _⟩) ?_
      refine lv_if_ne (tgt := 127) S.1 S.2.1 dX8_noteOf_116 rfl (fun h5 => ?_) (fun h5 => ?_)
      · skip
        refine lv_bipush (v := (-4)) S.1 S.2.1 dX8_noteOf_127 (by decide) ?_
        subst hQ
        exact x_retR S hr hlk (rfl) (by rw [rfNoteOf, if_pos ⟨nI_pos' (by omega), (nI_ltI (by omega) (by omega)).mpr hk⟩, nI_clamp (by omega), rfNo, if_neg (by rw [h2_7]; decide), if_neg (by rw [h2_7]; decide), if_neg (by rw [h2_7]; decide), if_neg (by rw [h2_7]; decide), if_neg (by rw [h2_7]; decide), if_neg (by rw [h2_7]; decide), if_neg (by rw [h2_7]; decide), if_pos h2_7, if_neg h5]) dX8_noteOf_129
      · skip
        refine lv_aload_n S.1 S.2.1 dX8_noteOf_119 rfl (lv_at hl 0 rfl) ?_
        refine lv_iload_n S.1 S.2.1 dX8_noteOf_120 rfl (lv_at hl 1 rfl) ?_
        refine xk_R (v := (rfAhd σ k)) (x_runV (As := [.int (nI k)]) (rest := []) S hE hS (fun _ h => h.elim) (c_X8_ahead l E M ps ty re σ k _ ho hs (by omega)) kv_X8_ahead kw21_12 kw21_13 kw21_14 (x_recv hE (ho) (ci := 8) rfl) ⟨Nat.le_of_ble_eq_true rfl, Nat.le_of_ble_eq_true rfl⟩ rfl rfl rfl hl.1 rfl (Nat.le_of_ble_eq_true rfl) dX8_noteOf_121 ⟨Nat.zero_le _, Nat.zero_le _⟩) ?_
        refine lv_goto (tgt := 129) S.1 S.2.1 dX8_noteOf_124 rfl ?_
        subst hQ
        exact x_retR S hr hlk (rfl) (by rw [rfNoteOf, if_pos ⟨nI_pos' (by omega), (nI_ltI (by omega) (by omega)).mpr hk⟩, nI_clamp (by omega), rfNo, if_neg (by rw [h2_7]; decide), if_neg (by rw [h2_7]; decide), if_neg (by rw [h2_7]; decide), if_neg (by rw [h2_7]; decide), if_neg (by rw [h2_7]; decide), if_neg (by rw [h2_7]; decide), if_neg (by rw [h2_7]; decide), if_pos h2_7, if_pos h5]) dX8_noteOf_129
    refine lv_tableOut (tgt := 130) S.1 S.2.1 dX8_noteOf_11 (tsw0_8 h2_0 h2_1 h2_2 h2_3 h2_4 h2_5 h2_6 h2_7) rfl ?_
    refine lv_iconst (v := (-1)) S.1 S.2.1 dX8_noteOf_130 (by decide) ?_
    subst hQ
    exact x_retR S hr hlk (rfl) (by rw [rfNoteOf, if_pos ⟨nI_pos' (by omega), (nI_ltI (by omega) (by omega)).mpr hk⟩, nI_clamp (by omega), rfNo, if_neg h2_0, if_neg h2_1, if_neg h2_2, if_neg h2_3, if_neg h2_4, if_neg h2_5, if_neg h2_6, if_neg h2_7]) dX8_noteOf_131
  · have h1 := bI_0 h1
    refine lv_iconst (v := (-1)) S.1 S.2.1 dX8_noteOf_8 (by decide) ?_
    subst hQ
    exact x_retR S hr hlk (rfl) (by rw [rfNoteOf, if_neg h1]) dX8_noteOf_9
abbrev rm_X8_voiceAt : Room := ({ frames := 2, cells := 0, slots := 0, locals := 43 } : Room)
set_option maxRecDepth 100000 in
set_option maxHeartbeats 600000 in
theorem c_X8_voiceAt (l : Launch) (E : XE) (M : Nat) (ps ty re : Int32) (σ : Nat → Int32) (ia : Int32) (n : Nat) (H : Heap) (ho : RfO E M ps ty re H) (hs : XI E (M + 1) 1670 σ H) (hn : σ 0 = nI n) (hn2 : n ≤ 200) : Rd l E yX8_voiceAt cX8_voiceAt 6 (some .int) rm_X8_voiceAt [.ref M, .int ia] H (rfVoiceAt σ n ia) := by
  refine met_of (by decide) (Nat.le_of_ble_eq_true rfl) (fun p e s m args below meth c hBD Q hQ ls hl => ?_)
  obtain ⟨S, hr, hlk, hnm, hE, hH⟩ := hBD
  subst hH
  have hl : lv_has ls 6 [(0, .ref M), (1, .int ia)] := hl
  have hS : va_S (fun _ => False) s.heap s.heap [] := va_S.rf
  refine lv_iload_n S.1 S.2.1 dX8_voiceAt_0 rfl (lv_at hl 1 rfl) ?_
  refine lv_if_ge (tgt := 6) S.1 S.2.1 dX8_voiceAt_1 rfl (fun h1 => ?_) (fun h1 => ?_)
  · skip
    refine lv_bipush (v := (-4)) S.1 S.2.1 dX8_voiceAt_6 (by decide) ?_
    refine lv_istore_n S.1 S.2.1 dX8_voiceAt_8 rfl hl (by decide) rfl (fun ls hl => ?_)
    have hl : lv_has ls 6 [(2, .int (-4)), (0, .ref M), (1, .int ia)] := hl
    refine lv_iconst (v := (nI 0)) S.1 S.2.1 dX8_voiceAt_9 (by decide) ?_
    refine lv_istore_n S.1 S.2.1 dX8_voiceAt_10 rfl hl (by decide) rfl (fun ls hl => ?_)
    have hl : lv_has ls 6 [(3, .int (nI 0)), (2, .int (-4)), (0, .ref M), (1, .int ia)] := hl
    have hloop11 : ∀ (d : Nat) (i : Nat) (ls : Array Slot), n - i = d → i ≤ n → lv_has ls 6 [(2, .int (oi (rfVa σ n ia i))), (3, .int (nI i)), (0, .ref M), (1, .int ia)] → W p l e rm_X8_voiceAt s m args below meth c s.heap [] 0 0 Q (F0 m 11 ls []) := by
      intro d11
      induction d11 using Nat.strongRecOn with
      | ind d11 ih11 =>
        intro i ls hd11 hi  hl
        refine lv_iload_n S.1 S.2.1 dX8_voiceAt_11 rfl (lv_at hl 1 rfl) ?_
        refine lv_aload_n S.1 S.2.1 dX8_voiceAt_12 rfl (lv_at hl 2 rfl) ?_
        refine x_get S hE (ho) (C := RX8) (T := TX8) (N := 10) rfl inlX8 0 (by decide) (v := .ref (M + 1)) rfl kw7_6 rfl dX8_voiceAt_13 ?_
        refine lv_iconst (v := (nI 0)) S.1 S.2.1 dX8_voiceAt_16 (by decide) ?_
        refine x_iald S hE (hs) 0 rfl (by decide) (by decide) dX8_voiceAt_17 ?_
        refine x_top (y := (nI n)) (hn) ?_
        refine lv_icmp_ge (tgt := 115) S.1 S.2.1 dX8_voiceAt_18 rfl (fun h2 => ?_) (fun h2 => ?_)
        · skip
          have hge : i = n := (by have := ge_of_le (by omega) (by omega) h2; omega)
          refine lv_iload_n S.1 S.2.1 dX8_voiceAt_115 rfl (lv_at hl 0 rfl) ?_
          subst hQ
          exact x_retR S hr hlk (rfl) (by rw [rfVoiceAt, if_pos h1, hge]) dX8_voiceAt_116
        · skip
          have hlt : i < n := lt_of_nle (by omega) (by omega) h2
          refine lv_iconst (v := (nI 0)) S.1 S.2.1 dX8_voiceAt_21 (by decide) ?_
          refine lv_istore S.1 S.2.1 dX8_voiceAt_22 hl (by decide) rfl (fun ls hl => ?_)
          have hl : lv_has ls 6 [(4, .int (nI 0)), (2, .int (oi (rfVa σ n ia i))), (3, .int (nI i)), (0, .ref M), (1, .int ia)] := hl
          refine lv_iconst (v := (nI 0)) S.1 S.2.1 dX8_voiceAt_24 (by decide) ?_
          refine lv_istore S.1 S.2.1 dX8_voiceAt_25 hl (by decide) rfl (fun ls hl => ?_)
          have hl : lv_has ls 6 [(5, .int (nI 0)), (4, .int (nI 0)), (2, .int (oi (rfVa σ n ia i))), (3, .int (nI i)), (0, .ref M), (1, .int ia)] := hl
          have hloop27 : ∀ (d : Nat) (j : Nat) (ls : Array Slot), n - j = d → j ≤ n → lv_has ls 6 [(4, .int (rfOld σ i j)), (5, .int (nI j)), (2, .int (oi (rfVa σ n ia i))), (3, .int (nI i)), (0, .ref M), (1, .int ia)] → W p l e rm_X8_voiceAt s m args below meth c s.heap [] 0 0 Q (F0 m 27 ls []) := by
            intro d27
            induction d27 using Nat.strongRecOn with
            | ind d27 ih27 =>
              intro j ls hd27 hj  hl
              refine lv_iload S.1 S.2.1 dX8_voiceAt_27 (lv_at hl 1 rfl) ?_
              refine lv_aload_n S.1 S.2.1 dX8_voiceAt_29 rfl (lv_at hl 4 rfl) ?_
              refine x_get S hE (ho) (C := RX8) (T := TX8) (N := 10) rfl inlX8 0 (by decide) (v := .ref (M + 1)) rfl kw7_6 rfl dX8_voiceAt_30 ?_
              refine lv_iconst (v := (nI 0)) S.1 S.2.1 dX8_voiceAt_33 (by decide) ?_
              refine x_iald S hE (hs) 0 rfl (by decide) (by decide) dX8_voiceAt_34 ?_
              refine x_top (y := (nI n)) (hn) ?_
              refine lv_icmp_ge (tgt := 89) S.1 S.2.1 dX8_voiceAt_35 rfl (fun h3 => ?_) (fun h3 => ?_)
              · have hge2 : j = n := (by have := ge_of_le (by omega) (by omega) h3; omega)
                refine lv_aload_n S.1 S.2.1 dX8_voiceAt_89 rfl (lv_at hl 4 rfl) ?_
                refine lv_iload_n S.1 S.2.1 dX8_voiceAt_90 rfl (lv_at hl 3 rfl) ?_
                refine xk_R (v := (bI (rfPl σ i))) (x_runV (As := [.int (nI i)]) (rest := []) S hE hS (fun _ h => h.elim) (c_X8_hasPlace l E M ps ty re σ i _ ho hs (by omega)) kv_X8_hasPlace kw12_18 kw12_19 kw12_20 (x_recv hE (ho) (ci := 8) rfl) ⟨Nat.le_of_ble_eq_true rfl, Nat.le_of_ble_eq_true rfl⟩ rfl rfl rfl hl.1 rfl (Nat.le_of_ble_eq_true rfl) dX8_voiceAt_91 ⟨Nat.zero_le _, Nat.zero_le _⟩) ?_
                refine lv_if_eq (tgt := 107) S.1 S.2.1 dX8_voiceAt_94 rfl (fun h4 => ?_) (fun h4 => ?_)
                · have h4 := bI_0 h4
                  refine lv_iload_n S.1 S.2.1 dX8_voiceAt_107 rfl (lv_at hl 2 rfl) ?_
                  refine lv_istore_n S.1 S.2.1 dX8_voiceAt_108 rfl hl (by decide) rfl (fun ls hl => ?_)
                  have hl : lv_has ls 6 [(2, .int (oi (rfVa σ n ia i))), (4, .int (rfOld σ i j)), (5, .int (nI j)), (3, .int (nI i)), (0, .ref M), (1, .int ia)] := hl
                  refine lv_iinc (k := 3) (v := (nI (i + 1))) S.1 S.2.1 dX8_voiceAt_109 hl rfl (iincP i 1) (by decide) rfl (fun ls hl => ?_)
                  have hl : lv_has ls 6 [(3, .int (nI (i + 1))), (2, .int (oi (rfVa σ n ia i))), (4, .int (rfOld σ i j)), (5, .int (nI j)), (0, .ref M), (1, .int ia)] := hl
                  refine lv_goto (tgt := 11) S.1 S.2.1 dX8_voiceAt_112 rfl ?_
                  have hl : lv_has ls 6 [(2, .int (oi (rfVa σ n ia (i + 1)))), (3, .int (nI (i + 1))), (0, .ref M), (1, .int ia)] := by
                    rw [show (oi (rfVa σ n ia (i + 1))) = (oi (rfVa σ n ia i)) from by rw [rfVa, if_neg (fun z => h4 z.1)]]
                    exact lv_sub hl [1, 0, 4, 5] rfl
                  exact ih11 _ (by omega) (i + 1) ls rfl (by omega)  (lv_sub hl [0, 1, 2, 3] rfl)
                · have h4 := bI_n0 h4
                  refine lv_iload S.1 S.2.1 dX8_voiceAt_97 (lv_at hl 0 rfl) ?_
                  refine lv_iload_n S.1 S.2.1 dX8_voiceAt_99 rfl (lv_at hl 5 rfl) ?_
                  refine lv_icmp_ne (tgt := 107) S.1 S.2.1 dX8_voiceAt_100 rfl (fun h5 => ?_) (fun h5 => ?_)
                  · skip
                    refine lv_iload_n S.1 S.2.1 dX8_voiceAt_107 rfl (lv_at hl 2 rfl) ?_
                    refine lv_istore_n S.1 S.2.1 dX8_voiceAt_108 rfl hl (by decide) rfl (fun ls hl => ?_)
                    have hl : lv_has ls 6 [(2, .int (oi (rfVa σ n ia i))), (4, .int (rfOld σ i j)), (5, .int (nI j)), (3, .int (nI i)), (0, .ref M), (1, .int ia)] := hl
                    refine lv_iinc (k := 3) (v := (nI (i + 1))) S.1 S.2.1 dX8_voiceAt_109 hl rfl (iincP i 1) (by decide) rfl (fun ls hl => ?_)
                    have hl : lv_has ls 6 [(3, .int (nI (i + 1))), (2, .int (oi (rfVa σ n ia i))), (4, .int (rfOld σ i j)), (5, .int (nI j)), (0, .ref M), (1, .int ia)] := hl
                    refine lv_goto (tgt := 11) S.1 S.2.1 dX8_voiceAt_112 rfl ?_
                    have hl : lv_has ls 6 [(2, .int (oi (rfVa σ n ia (i + 1)))), (3, .int (nI (i + 1))), (0, .ref M), (1, .int ia)] := by
                      rw [show (oi (rfVa σ n ia (i + 1))) = (oi (rfVa σ n ia i)) from by rw [rfVa, if_neg (fun z => h5 (hge2 ▸ z.2))]]
                      exact lv_sub hl [1, 0, 4, 5] rfl
                    exact ih11 _ (by omega) (i + 1) ls rfl (by omega)  (lv_sub hl [0, 1, 2, 3] rfl)
                  · skip
                    refine lv_iload_n S.1 S.2.1 dX8_voiceAt_103 rfl (lv_at hl 3 rfl) ?_
                    refine lv_goto (tgt := 108) S.1 S.2.1 dX8_voiceAt_104 rfl ?_
                    refine lv_istore_n S.1 S.2.1 dX8_voiceAt_108 rfl hl (by decide) rfl (fun ls hl => ?_)
                    have hl : lv_has ls 6 [(2, .int (nI i)), (4, .int (rfOld σ i j)), (5, .int (nI j)), (3, .int (nI i)), (0, .ref M), (1, .int ia)] := hl
                    refine lv_iinc (k := 3) (v := (nI (i + 1))) S.1 S.2.1 dX8_voiceAt_109 hl rfl (iincP i 1) (by decide) rfl (fun ls hl => ?_)
                    have hl : lv_has ls 6 [(3, .int (nI (i + 1))), (2, .int (nI i)), (4, .int (rfOld σ i j)), (5, .int (nI j)), (0, .ref M), (1, .int ia)] := hl
                    refine lv_goto (tgt := 11) S.1 S.2.1 dX8_voiceAt_112 rfl ?_
                    have hl : lv_has ls 6 [(2, .int (oi (rfVa σ n ia (i + 1)))), (3, .int (nI (i + 1))), (0, .ref M), (1, .int ia)] := by
                      rw [show (oi (rfVa σ n ia (i + 1))) = (nI i) from by rw [rfVa, if_pos ⟨h4, hge2 ▸ h5⟩]; first | done | rfl]
                      exact lv_sub hl [1, 0, 4, 5] rfl
                    exact ih11 _ (by omega) (i + 1) ls rfl (by omega)  (lv_sub hl [0, 1, 2, 3] rfl)
              · have hlt2 : j < n := lt_of_nle (by omega) (by omega) h3
                refine lv_aload_n S.1 S.2.1 dX8_voiceAt_38 rfl (lv_at hl 4 rfl) ?_
                refine lv_iload_n S.1 S.2.1 dX8_voiceAt_39 rfl (lv_at hl 3 rfl) ?_
                refine xk_R (v := (bI (rfPl σ i))) (x_runV (As := [.int (nI i)]) (rest := []) S hE hS (fun _ h => h.elim) (c_X8_hasPlace l E M ps ty re σ i _ ho hs (by omega)) kv_X8_hasPlace kw12_18 kw12_19 kw12_20 (x_recv hE (ho) (ci := 8) rfl) ⟨Nat.le_of_ble_eq_true rfl, Nat.le_of_ble_eq_true rfl⟩ rfl rfl rfl hl.1 rfl (Nat.le_of_ble_eq_true rfl) dX8_voiceAt_40 ⟨Nat.zero_le _, Nat.zero_le _⟩) ?_
                refine lv_if_eq (tgt := 89) S.1 S.2.1 dX8_voiceAt_43 rfl (fun h6 => ?_) (fun h6 => ?_)
                · skip
                  have h6 := bI_0 h6
                  refine lv_aload_n S.1 S.2.1 dX8_voiceAt_89 rfl (lv_at hl 4 rfl) ?_
                  refine lv_iload_n S.1 S.2.1 dX8_voiceAt_90 rfl (lv_at hl 3 rfl) ?_
                  refine xk_R (v := (bI (rfPl σ i))) (x_runV (As := [.int (nI i)]) (rest := []) S hE hS (fun _ h => h.elim) (c_X8_hasPlace l E M ps ty re σ i _ ho hs (by omega)) kv_X8_hasPlace kw12_18 kw12_19 kw12_20 (x_recv hE (ho) (ci := 8) rfl) ⟨Nat.le_of_ble_eq_true rfl, Nat.le_of_ble_eq_true rfl⟩ rfl rfl rfl hl.1 rfl (Nat.le_of_ble_eq_true rfl) dX8_voiceAt_91 ⟨Nat.zero_le _, Nat.zero_le _⟩) ?_
                  refine lv_if_eq (tgt := 107) S.1 S.2.1 dX8_voiceAt_94 rfl (fun h7 => ?_) (fun h7 => ?_)
                  · have h7 := bI_0 h7
                    refine lv_iload_n S.1 S.2.1 dX8_voiceAt_107 rfl (lv_at hl 2 rfl) ?_
                    refine lv_istore_n S.1 S.2.1 dX8_voiceAt_108 rfl hl (by decide) rfl (fun ls hl => ?_)
                    have hl : lv_has ls 6 [(2, .int (oi (rfVa σ n ia i))), (4, .int (rfOld σ i j)), (5, .int (nI j)), (3, .int (nI i)), (0, .ref M), (1, .int ia)] := hl
                    refine lv_iinc (k := 3) (v := (nI (i + 1))) S.1 S.2.1 dX8_voiceAt_109 hl rfl (iincP i 1) (by decide) rfl (fun ls hl => ?_)
                    have hl : lv_has ls 6 [(3, .int (nI (i + 1))), (2, .int (oi (rfVa σ n ia i))), (4, .int (rfOld σ i j)), (5, .int (nI j)), (0, .ref M), (1, .int ia)] := hl
                    refine lv_goto (tgt := 11) S.1 S.2.1 dX8_voiceAt_112 rfl ?_
                    have hl : lv_has ls 6 [(2, .int (oi (rfVa σ n ia (i + 1)))), (3, .int (nI (i + 1))), (0, .ref M), (1, .int ia)] := by
                      rw [show (oi (rfVa σ n ia (i + 1))) = (oi (rfVa σ n ia i)) from by rw [rfVa, if_neg (fun z => h7 z.1)]]
                      exact lv_sub hl [1, 0, 4, 5] rfl
                    exact ih11 _ (by omega) (i + 1) ls rfl (by omega)  (lv_sub hl [0, 1, 2, 3] rfl)
                  · have h7 := bI_n0 h7
                    exact absurd h7 h6
                · skip
                  have h6 := bI_n0 h6
                  refine lv_iload S.1 S.2.1 dX8_voiceAt_46 (lv_at hl 0 rfl) ?_
                  refine lv_aload_n S.1 S.2.1 dX8_voiceAt_48 rfl (lv_at hl 4 rfl) ?_
                  refine lv_iload S.1 S.2.1 dX8_voiceAt_49 (lv_at hl 1 rfl) ?_
                  refine xk_R (v := (bI (rfPl σ j))) (x_runV (As := [.int (nI j)]) (rest := [.int (rfOld σ i j)]) S hE hS (fun _ h => h.elim) (c_X8_hasPlace l E M ps ty re σ j _ ho hs (by omega)) kv_X8_hasPlace kw12_18 kw12_19 kw12_20 (x_recv hE (ho) (ci := 8) rfl) ⟨Nat.le_of_ble_eq_true rfl, Nat.le_of_ble_eq_true rfl⟩ rfl rfl rfl hl.1 rfl (Nat.le_of_ble_eq_true rfl) dX8_voiceAt_51 ⟨Nat.zero_le _, Nat.zero_le _⟩) ?_
                  refine lv_if_eq (tgt := 79) S.1 S.2.1 dX8_voiceAt_54 rfl (fun h8 => ?_) (fun h8 => ?_)
                  · skip
                    have h8 := bI_0 h8
                    refine lv_iconst (v := (nI 0)) S.1 S.2.1 dX8_voiceAt_79 (by decide) ?_
                    refine lv_iadd S.1 S.2.1 dX8_voiceAt_80 ?_
                    refine lv_istore S.1 S.2.1 dX8_voiceAt_81 hl (by decide) rfl (fun ls hl => ?_)
                    have hl : lv_has ls 6 [(4, .int ((rfOld σ i j) + (nI 0))), (5, .int (nI j)), (2, .int (oi (rfVa σ n ia i))), (3, .int (nI i)), (0, .ref M), (1, .int ia)] := hl
                    refine lv_iinc (k := 1) (v := (nI (j + 1))) S.1 S.2.1 dX8_voiceAt_83 hl rfl (iincP j 1) (by decide) rfl (fun ls hl => ?_)
                    have hl : lv_has ls 6 [(5, .int (nI (j + 1))), (4, .int ((rfOld σ i j) + (nI 0))), (2, .int (oi (rfVa σ n ia i))), (3, .int (nI i)), (0, .ref M), (1, .int ia)] := hl
                    refine lv_goto (tgt := 27) S.1 S.2.1 dX8_voiceAt_86 rfl ?_
                    have hl : lv_has ls 6 [(4, .int (rfOld σ i (j + 1))), (5, .int (nI (j + 1))), (2, .int (oi (rfVa σ n ia i))), (3, .int (nI i)), (0, .ref M), (1, .int ia)] := by
                      rw [show (rfOld σ i (j + 1)) = ((rfOld σ i j) + (nI 0)) from by rw [rfOld, if_neg (fun z => h8 z.1)]]
                      exact lv_sub hl [1, 0, 2, 3, 4, 5] rfl
                    exact ih27 _ (by omega) (j + 1) ls rfl (by omega)  (lv_sub hl [0, 1, 2, 3, 4, 5] rfl)
                  · skip
                    have h8 := bI_n0 h8
                    refine lv_aload_n S.1 S.2.1 dX8_voiceAt_57 rfl (lv_at hl 4 rfl) ?_
                    refine lv_iload S.1 S.2.1 dX8_voiceAt_58 (lv_at hl 1 rfl) ?_
                    refine lv_bipush (v := (nI 7)) S.1 S.2.1 dX8_voiceAt_60 (by decide) ?_
                    refine xk_R (v := (nf σ j 7)) (x_runV (As := [.int (nI j), .int (nI 7)]) (rest := [.int (rfOld σ i j)]) S hE hS (fun _ h => h.elim) (c_X8_of l E M ps ty re σ j 7 _ ho hs (by omega) (by omega)) kv_X8_of kw12_22 kw12_23 kw13_0 (x_recv hE (ho) (ci := 8) rfl) ⟨Nat.le_of_ble_eq_true rfl, Nat.le_of_ble_eq_true rfl⟩ rfl rfl rfl hl.1 rfl (Nat.le_of_ble_eq_true rfl) dX8_voiceAt_62 ⟨Nat.zero_le _, Nat.zero_le _⟩) ?_
                    refine lv_aload_n S.1 S.2.1 dX8_voiceAt_65 rfl (lv_at hl 4 rfl) ?_
                    refine lv_iload_n S.1 S.2.1 dX8_voiceAt_66 rfl (lv_at hl 3 rfl) ?_
                    refine lv_bipush (v := (nI 7)) S.1 S.2.1 dX8_voiceAt_67 (by decide) ?_
                    refine xk_R (v := (nf σ i 7)) (x_runV (As := [.int (nI i), .int (nI 7)]) (rest := [.int (nf σ j 7), .int (rfOld σ i j)]) S hE hS (fun _ h => h.elim) (c_X8_of l E M ps ty re σ i 7 _ ho hs (by omega) (by omega)) kv_X8_of kw12_22 kw12_23 kw13_0 (x_recv hE (ho) (ci := 8) rfl) ⟨Nat.le_of_ble_eq_true rfl, Nat.le_of_ble_eq_true rfl⟩ rfl rfl rfl hl.1 rfl (Nat.le_of_ble_eq_true rfl) dX8_voiceAt_69 ⟨Nat.zero_le _, Nat.zero_le _⟩) ?_
                    refine lv_icmp_ge (tgt := 79) S.1 S.2.1 dX8_voiceAt_72 rfl (fun h9 => ?_) (fun h9 => ?_)
                    · skip
                      refine lv_iconst (v := (nI 0)) S.1 S.2.1 dX8_voiceAt_79 (by decide) ?_
                      refine lv_iadd S.1 S.2.1 dX8_voiceAt_80 ?_
                      refine lv_istore S.1 S.2.1 dX8_voiceAt_81 hl (by decide) rfl (fun ls hl => ?_)
                      have hl : lv_has ls 6 [(4, .int ((rfOld σ i j) + (nI 0))), (5, .int (nI j)), (2, .int (oi (rfVa σ n ia i))), (3, .int (nI i)), (0, .ref M), (1, .int ia)] := hl
                      refine lv_iinc (k := 1) (v := (nI (j + 1))) S.1 S.2.1 dX8_voiceAt_83 hl rfl (iincP j 1) (by decide) rfl (fun ls hl => ?_)
                      have hl : lv_has ls 6 [(5, .int (nI (j + 1))), (4, .int ((rfOld σ i j) + (nI 0))), (2, .int (oi (rfVa σ n ia i))), (3, .int (nI i)), (0, .ref M), (1, .int ia)] := hl
                      refine lv_goto (tgt := 27) S.1 S.2.1 dX8_voiceAt_86 rfl ?_
                      have hl : lv_has ls 6 [(4, .int (rfOld σ i (j + 1))), (5, .int (nI (j + 1))), (2, .int (oi (rfVa σ n ia i))), (3, .int (nI i)), (0, .ref M), (1, .int ia)] := by
                        rw [show (rfOld σ i (j + 1)) = ((rfOld σ i j) + (nI 0)) from by rw [rfOld, if_neg (fun z => Int32.not_lt.mpr h9 z.2)]]
                        exact lv_sub hl [1, 0, 2, 3, 4, 5] rfl
                      exact ih27 _ (by omega) (j + 1) ls rfl (by omega)  (lv_sub hl [0, 1, 2, 3, 4, 5] rfl)
                    · skip
                      refine lv_iconst (v := (nI 1)) S.1 S.2.1 dX8_voiceAt_75 (by decide) ?_
                      refine lv_goto (tgt := 80) S.1 S.2.1 dX8_voiceAt_76 rfl ?_
                      refine lv_iadd S.1 S.2.1 dX8_voiceAt_80 ?_
                      refine lv_istore S.1 S.2.1 dX8_voiceAt_81 hl (by decide) rfl (fun ls hl => ?_)
                      have hl : lv_has ls 6 [(4, .int ((rfOld σ i j) + (nI 1))), (5, .int (nI j)), (2, .int (oi (rfVa σ n ia i))), (3, .int (nI i)), (0, .ref M), (1, .int ia)] := hl
                      refine lv_iinc (k := 1) (v := (nI (j + 1))) S.1 S.2.1 dX8_voiceAt_83 hl rfl (iincP j 1) (by decide) rfl (fun ls hl => ?_)
                      have hl : lv_has ls 6 [(5, .int (nI (j + 1))), (4, .int ((rfOld σ i j) + (nI 1))), (2, .int (oi (rfVa σ n ia i))), (3, .int (nI i)), (0, .ref M), (1, .int ia)] := hl
                      refine lv_goto (tgt := 27) S.1 S.2.1 dX8_voiceAt_86 rfl ?_
                      have hl : lv_has ls 6 [(4, .int (rfOld σ i (j + 1))), (5, .int (nI (j + 1))), (2, .int (oi (rfVa σ n ia i))), (3, .int (nI i)), (0, .ref M), (1, .int ia)] := by
                        rw [show (rfOld σ i (j + 1)) = ((rfOld σ i j) + (nI 1)) from by rw [rfOld, if_pos ⟨h8, i_nle h9⟩]]
                        exact lv_sub hl [1, 0, 2, 3, 4, 5] rfl
                      exact ih27 _ (by omega) (j + 1) ls rfl (by omega)  (lv_sub hl [0, 1, 2, 3, 4, 5] rfl)
          exact hloop27 _ 0 ls rfl (Nat.zero_le _)  (lv_sub hl [1, 0, 2, 3, 4, 5] rfl)
    exact hloop11 _ 0 ls rfl (Nat.zero_le _)  (lv_sub hl [1, 0, 2, 3] rfl)
  · skip
    refine lv_iconst (v := (-1)) S.1 S.2.1 dX8_voiceAt_4 (by decide) ?_
    subst hQ
    exact x_retR S hr hlk (rfl) (by rw [rfVoiceAt, if_neg h1]) dX8_voiceAt_5
abbrev rm_X8_find : Room := ({ frames := 3, cells := 0, slots := 0, locals := 67 } : Room)
set_option maxRecDepth 100000 in
set_option maxHeartbeats 600000 in
theorem c_X8_find (l : Launch) (E : XE) (M : Nat) (ps ty re : Int32) (σ : Nat → Int32) (pa : Int32) (qa : Int32) (n : Nat) (H : Heap) (ho : RfO E M ps ty re H) (hs : XI E (M + 1) 1670 σ H) (hn : σ 0 = nI n) (hn2 : n ≤ 200) : Rd l E yX8_find cX8_find 3 (some .int) rm_X8_find [.ref M, .int pa, .int qa] H (rfFind σ n pa qa) := by
  refine met_of (by decide) (Nat.le_of_ble_eq_true rfl) (fun p e s m args below meth c hBD Q hQ ls hl => ?_)
  obtain ⟨S, hr, hlk, hnm, hE, hH⟩ := hBD
  subst hH
  have hl : lv_has ls 3 [(0, .ref M), (1, .int pa), (2, .int qa)] := hl
  have hS : va_S (fun _ => False) s.heap s.heap [] := va_S.rf
  refine lv_iload_n S.1 S.2.1 dX8_find_0 rfl (lv_at hl 1 rfl) ?_
  refine lv_iconst (v := (nI 0)) S.1 S.2.1 dX8_find_1 (by decide) ?_
  refine lv_iconst (v := (nI 3)) S.1 S.2.1 dX8_find_2 (by decide) ?_
  refine xk_R (v := (bI ((nI 0) ≤ pa ∧ pa ≤ (nI 3)))) (x_runS (As := [.int pa, .int (nI 0), .int (nI 3)]) (rest := []) S hE hS (fun _ h => h.elim) (c_X8_in l E pa (nI 0) (nI 3) _) kv_X8_in kw12_11 kw12_12 ⟨Nat.le_of_ble_eq_true rfl, Nat.le_of_ble_eq_true rfl⟩ rfl rfl rfl hl.1 rfl (Nat.le_of_ble_eq_true rfl) dX8_find_3 ⟨Nat.zero_le _, Nat.zero_le _⟩) ?_
  refine lv_if_eq (tgt := 28) S.1 S.2.1 dX8_find_6 rfl (fun h1 => ?_) (fun h1 => ?_)
  · skip
    have h1 := bI_0 h1
    refine lv_iconst (v := (-1)) S.1 S.2.1 dX8_find_28 (by decide) ?_
    subst hQ
    exact x_retR S hr hlk (rfl) (by rw [rfFind, if_neg (fun z => h1 z.1)]) dX8_find_29
  · skip
    have h1 := bI_n0 h1
    refine lv_iload_n S.1 S.2.1 dX8_find_9 rfl (lv_at hl 2 rfl) ?_
    refine lv_iconst (v := (nI 0)) S.1 S.2.1 dX8_find_10 (by decide) ?_
    refine lv_bipush (v := (nI 127)) S.1 S.2.1 dX8_find_11 (by decide) ?_
    refine xk_R (v := (bI ((nI 0) ≤ qa ∧ qa ≤ (nI 127)))) (x_runS (As := [.int qa, .int (nI 0), .int (nI 127)]) (rest := []) S hE hS (fun _ h => h.elim) (c_X8_in l E qa (nI 0) (nI 127) _) kv_X8_in kw12_11 kw12_12 ⟨Nat.le_of_ble_eq_true rfl, Nat.le_of_ble_eq_true rfl⟩ rfl rfl rfl hl.1 rfl (Nat.le_of_ble_eq_true rfl) dX8_find_13 ⟨Nat.zero_le _, Nat.zero_le _⟩) ?_
    refine lv_if_eq (tgt := 28) S.1 S.2.1 dX8_find_16 rfl (fun h2 => ?_) (fun h2 => ?_)
    · skip
      have h2 := bI_0 h2
      refine lv_iconst (v := (-1)) S.1 S.2.1 dX8_find_28 (by decide) ?_
      subst hQ
      exact x_retR S hr hlk (rfl) (by rw [rfFind, if_neg (fun z => h2 z.2)]) dX8_find_29
    · skip
      have h2 := bI_n0 h2
      refine lv_aload_n S.1 S.2.1 dX8_find_19 rfl (lv_at hl 0 rfl) ?_
      refine lv_iload_n S.1 S.2.1 dX8_find_20 rfl (lv_at hl 1 rfl) ?_
      refine lv_iload_n S.1 S.2.1 dX8_find_21 rfl (lv_at hl 2 rfl) ?_
      refine xk_R (v := (oi (rfV σ pa qa n))) (x_runV (As := [.int pa, .int qa]) (rest := []) S hE hS (fun _ h => h.elim) (c_X8_voiceOf l E M ps ty re σ pa qa n _ ho hs hn hn2) kv_X8_voiceOf kw12_14 kw12_15 kw12_16 (x_recv hE (ho) (ci := 8) rfl) ⟨Nat.le_of_ble_eq_true rfl, Nat.le_of_ble_eq_true rfl⟩ rfl rfl rfl hl.1 rfl (Nat.le_of_ble_eq_true rfl) dX8_find_22 ⟨Nat.zero_le _, Nat.zero_le _⟩) ?_
      refine lv_goto (tgt := 29) S.1 S.2.1 dX8_find_25 rfl ?_
      subst hQ
      exact x_retR S hr hlk (rfl) (by rw [rfFind, if_pos ⟨h1, h2⟩]) dX8_find_29
abbrev rm_X8_partOf : Room := ({ frames := 5, cells := 0, slots := 0, locals := 110 } : Room)
set_option maxRecDepth 100000 in
set_option maxHeartbeats 600000 in
theorem c_X8_partOf (l : Launch) (E : XE) (M : Nat) (ps ty re : Int32) (σ : Nat → Int32) (pa : Int32) (wa : Int32) (n : Nat) (H : Heap) (ho : RfO E M ps ty re H) (hs : XI E (M + 1) 1670 σ H) (hn : σ 0 = nI n) (hn2 : n ≤ 200) (hb : 0 ≤ σ 8) : Rd l E yX8_partOf cX8_partOf 6 (some .int) rm_X8_partOf [.ref M, .int pa, .int wa] H (rfPartOf σ n pa wa) := by
  refine met_of (by decide) (Nat.le_of_ble_eq_true rfl) (fun p e s m args below meth c hBD Q hQ ls hl => ?_)
  obtain ⟨S, hr, hlk, hnm, hE, hH⟩ := hBD
  subst hH
  have hl : lv_has ls 6 [(0, .ref M), (1, .int pa), (2, .int wa)] := hl
  have hS : va_S (fun _ => False) s.heap s.heap [] := va_S.rf
  refine lv_iload_n S.1 S.2.1 dX8_partOf_0 rfl (lv_at hl 1 rfl) ?_
  refine lv_iconst (v := (nI 0)) S.1 S.2.1 dX8_partOf_1 (by decide) ?_
  refine lv_iconst (v := (nI 3)) S.1 S.2.1 dX8_partOf_2 (by decide) ?_
  refine xk_R (v := (bI ((nI 0) ≤ pa ∧ pa ≤ (nI 3)))) (x_runS (As := [.int pa, .int (nI 0), .int (nI 3)]) (rest := []) S hE hS (fun _ h => h.elim) (c_X8_in l E pa (nI 0) (nI 3) _) kv_X8_in kw12_11 kw12_12 ⟨Nat.le_of_ble_eq_true rfl, Nat.le_of_ble_eq_true rfl⟩ rfl rfl rfl hl.1 rfl (Nat.le_of_ble_eq_true rfl) dX8_partOf_3 ⟨Nat.zero_le _, Nat.zero_le _⟩) ?_
  refine lv_if_eq (tgt := 18) S.1 S.2.1 dX8_partOf_6 rfl (fun h1 => ?_) (fun h1 => ?_)
  · skip
    have h1 := bI_0 h1
    refine lv_iconst (v := (-1)) S.1 S.2.1 dX8_partOf_18 (by decide) ?_
    subst hQ
    exact x_retR S hr hlk (rfl) (by rw [rfPartOf, if_neg (fun z => h1 z.1)]) dX8_partOf_19
  · skip
    have h1 := bI_n0 h1
    refine lv_iload_n S.1 S.2.1 dX8_partOf_9 rfl (lv_at hl 2 rfl) ?_
    refine lv_iconst (v := (nI 0)) S.1 S.2.1 dX8_partOf_10 (by decide) ?_
    refine lv_iconst (v := (nI 4)) S.1 S.2.1 dX8_partOf_11 (by decide) ?_
    refine xk_R (v := (bI ((nI 0) ≤ wa ∧ wa ≤ (nI 4)))) (x_runS (As := [.int wa, .int (nI 0), .int (nI 4)]) (rest := []) S hE hS (fun _ h => h.elim) (c_X8_in l E wa (nI 0) (nI 4) _) kv_X8_in kw12_11 kw12_12 ⟨Nat.le_of_ble_eq_true rfl, Nat.le_of_ble_eq_true rfl⟩ rfl rfl rfl hl.1 rfl (Nat.le_of_ble_eq_true rfl) dX8_partOf_12 ⟨Nat.zero_le _, Nat.zero_le _⟩) ?_
    refine lv_if_ne (tgt := 20) S.1 S.2.1 dX8_partOf_15 rfl (fun h2 => ?_) (fun h2 => ?_)
    · skip
      have h2 := bI_n0 h2
      refine lv_iconst (v := (nI 0)) S.1 S.2.1 dX8_partOf_20 (by decide) ?_
      refine lv_istore_n S.1 S.2.1 dX8_partOf_21 rfl hl (by decide) rfl (fun ls hl => ?_)
      have hl : lv_has ls 6 [(3, .int (nI 0)), (0, .ref M), (1, .int pa), (2, .int wa)] := hl
      refine lv_iconst (v := (nI 0)) S.1 S.2.1 dX8_partOf_22 (by decide) ?_
      refine lv_istore S.1 S.2.1 dX8_partOf_23 hl (by decide) rfl (fun ls hl => ?_)
      have hl : lv_has ls 6 [(4, .int (nI 0)), (3, .int (nI 0)), (0, .ref M), (1, .int pa), (2, .int wa)] := hl
      have hloop25 : ∀ (d : Nat) (i : Nat) (ls : Array Slot), n - i = d → i ≤ n → lv_has ls 6 [(3, .int (rfPo σ pa wa i)), (4, .int (nI i)), (0, .ref M), (1, .int pa), (2, .int wa)] → W p l e rm_X8_partOf s m args below meth c s.heap [] 0 0 Q (F0 m 25 ls []) := by
        intro d
        induction d using Nat.strongRecOn with
        | ind d ih =>
          intro i ls hd hi  hl
          refine lv_iload S.1 S.2.1 dX8_partOf_25 (lv_at hl 1 rfl) ?_
          refine lv_aload_n S.1 S.2.1 dX8_partOf_27 rfl (lv_at hl 2 rfl) ?_
          refine x_get S hE (ho) (C := RX8) (T := TX8) (N := 10) rfl inlX8 0 (by decide) (v := .ref (M + 1)) rfl kw7_6 rfl dX8_partOf_28 ?_
          refine lv_iconst (v := (nI 0)) S.1 S.2.1 dX8_partOf_31 (by decide) ?_
          refine x_iald S hE (hs) 0 rfl (by decide) (by decide) dX8_partOf_32 ?_
          refine x_top (y := (nI n)) (hn) ?_
          refine lv_icmp_ge (tgt := 154) S.1 S.2.1 dX8_partOf_33 rfl (fun h3 => ?_) (fun h3 => ?_)
          · skip
            have hge : i = n := (by have := ge_of_le (by omega) (by omega) h3; omega)
            refine lv_iload_n S.1 S.2.1 dX8_partOf_154 rfl (lv_at hl 4 rfl) ?_
            refine lv_iconst (v := (nI 3)) S.1 S.2.1 dX8_partOf_155 (by decide) ?_
            refine lv_icmp_ne (tgt := 167) S.1 S.2.1 dX8_partOf_156 rfl (fun h4 => ?_) (fun h4 => ?_)
            · skip
              refine lv_iload_n S.1 S.2.1 dX8_partOf_167 rfl (lv_at hl 0 rfl) ?_
              subst hQ
              exact x_retR S hr hlk (rfl) (by rw [rfPartOf, if_pos ⟨h1, h2⟩, if_neg h4, hge]) dX8_partOf_168
            · skip
              refine lv_aload_n S.1 S.2.1 dX8_partOf_159 rfl (lv_at hl 2 rfl) ?_
              refine lv_iload_n S.1 S.2.1 dX8_partOf_160 rfl (lv_at hl 3 rfl) ?_
              refine xk_R (v := (rfHrO σ n pa n)) (x_runV (As := [.int pa]) (rest := []) S hE hS (fun _ h => h.elim) (c_X8_heardOf l E M ps ty re σ pa n _ ho hs hn hn2 hb) kv_X8_heardOf kw23_4 kw23_5 kw23_6 (x_recv hE (ho) (ci := 8) rfl) ⟨Nat.le_of_ble_eq_true rfl, Nat.le_of_ble_eq_true rfl⟩ rfl rfl rfl hl.1 rfl (Nat.le_of_ble_eq_true rfl) dX8_partOf_161 ⟨Nat.zero_le _, Nat.zero_le _⟩) ?_
              refine lv_goto (tgt := 168) S.1 S.2.1 dX8_partOf_164 rfl ?_
              subst hQ
              exact x_retR S hr hlk (rfl) (by rw [rfPartOf, if_pos ⟨h1, h2⟩, if_pos h4]) dX8_partOf_168
          · skip
            have hlt : i < n := lt_of_nle (by omega) (by omega) h3
            refine lv_iload_n S.1 S.2.1 dX8_partOf_36 rfl (lv_at hl 4 rfl) ?_
            refine lv_iconst (v := (nI 3)) S.1 S.2.1 dX8_partOf_37 (by decide) ?_
            refine lv_icmp_eq (tgt := 154) S.1 S.2.1 dX8_partOf_38 rfl (fun h5 => ?_) (fun h5 => ?_)
            · skip
              refine lv_iload_n S.1 S.2.1 dX8_partOf_154 rfl (lv_at hl 4 rfl) ?_
              refine lv_iconst (v := (nI 3)) S.1 S.2.1 dX8_partOf_155 (by decide) ?_
              refine lv_icmp_ne (tgt := 167) S.1 S.2.1 dX8_partOf_156 rfl (fun h6 => ?_) (fun h6 => ?_)
              · exact absurd h5 h6
              · skip
                refine lv_aload_n S.1 S.2.1 dX8_partOf_159 rfl (lv_at hl 2 rfl) ?_
                refine lv_iload_n S.1 S.2.1 dX8_partOf_160 rfl (lv_at hl 3 rfl) ?_
                refine xk_R (v := (rfHrO σ n pa n)) (x_runV (As := [.int pa]) (rest := []) S hE hS (fun _ h => h.elim) (c_X8_heardOf l E M ps ty re σ pa n _ ho hs hn hn2 hb) kv_X8_heardOf kw23_4 kw23_5 kw23_6 (x_recv hE (ho) (ci := 8) rfl) ⟨Nat.le_of_ble_eq_true rfl, Nat.le_of_ble_eq_true rfl⟩ rfl rfl rfl hl.1 rfl (Nat.le_of_ble_eq_true rfl) dX8_partOf_161 ⟨Nat.zero_le _, Nat.zero_le _⟩) ?_
                refine lv_goto (tgt := 168) S.1 S.2.1 dX8_partOf_164 rfl ?_
                subst hQ
                exact x_retR S hr hlk (rfl) (by rw [rfPartOf, if_pos ⟨h1, h2⟩, if_pos h6]) dX8_partOf_168
            · skip
              refine lv_iload_n S.1 S.2.1 dX8_partOf_41 rfl (lv_at hl 4 rfl) ?_
              refine lv_if_ne (tgt := 54) S.1 S.2.1 dX8_partOf_42 rfl (fun h7 => ?_) (fun h7 => ?_)
              · skip
                refine lv_iload_n S.1 S.2.1 dX8_partOf_54 rfl (lv_at hl 4 rfl) ?_
                refine lv_iconst (v := (nI 1)) S.1 S.2.1 dX8_partOf_55 (by decide) ?_
                refine lv_icmp_ne (tgt := 78) S.1 S.2.1 dX8_partOf_56 rfl (fun h8 => ?_) (fun h8 => ?_)
                · skip
                  refine lv_iload_n S.1 S.2.1 dX8_partOf_78 rfl (lv_at hl 4 rfl) ?_
                  refine lv_iconst (v := (nI 2)) S.1 S.2.1 dX8_partOf_79 (by decide) ?_
                  refine lv_icmp_ne (tgt := 92) S.1 S.2.1 dX8_partOf_80 rfl (fun h9 => ?_) (fun h9 => ?_)
                  · skip
                    refine lv_aload_n S.1 S.2.1 dX8_partOf_92 rfl (lv_at hl 2 rfl) ?_
                    refine lv_iload S.1 S.2.1 dX8_partOf_93 (lv_at hl 1 rfl) ?_
                    refine lv_iconst (v := (nI 3)) S.1 S.2.1 dX8_partOf_95 (by decide) ?_
                    refine xk_R (v := (nf σ i 3)) (x_runV (As := [.int (nI i), .int (nI 3)]) (rest := []) S hE hS (fun _ h => h.elim) (c_X8_of l E M ps ty re σ i 3 _ ho hs (by omega) (by omega)) kv_X8_of kw12_22 kw12_23 kw13_0 (x_recv hE (ho) (ci := 8) rfl) ⟨Nat.le_of_ble_eq_true rfl, Nat.le_of_ble_eq_true rfl⟩ rfl rfl rfl hl.1 rfl (Nat.le_of_ble_eq_true rfl) dX8_partOf_96 ⟨Nat.zero_le _, Nat.zero_le _⟩) ?_
                    refine lv_if_ne (tgt := 106) S.1 S.2.1 dX8_partOf_99 rfl (fun h10 => ?_) (fun h10 => ?_)
                    · skip
                      refine lv_iconst (v := (nI 0)) S.1 S.2.1 dX8_partOf_106 (by decide) ?_
                      refine lv_istore S.1 S.2.1 dX8_partOf_107 hl (by decide) rfl (fun ls hl => ?_)
                      have hl : lv_has ls 6 [(5, .int (nI 0)), (3, .int (rfPo σ pa wa i)), (4, .int (nI i)), (0, .ref M), (1, .int pa), (2, .int wa)] := hl
                      refine lv_iload_n S.1 S.2.1 dX8_partOf_109 rfl (lv_at hl 1 rfl) ?_
                      refine lv_iload S.1 S.2.1 dX8_partOf_110 (lv_at hl 0 rfl) ?_
                      refine lv_if_eq (tgt := 126) S.1 S.2.1 dX8_partOf_112 rfl (fun h11 => ?_) (fun h11 => ?_)
                      · skip
                        refine lv_iconst (v := (nI 0)) S.1 S.2.1 dX8_partOf_126 (by decide) ?_
                        refine lv_goto (tgt := 146) S.1 S.2.1 dX8_partOf_127 rfl ?_
                        refine lv_iadd S.1 S.2.1 dX8_partOf_146 ?_
                        refine lv_istore_n S.1 S.2.1 dX8_partOf_147 rfl hl (by decide) rfl (fun ls hl => ?_)
                        have hl : lv_has ls 6 [(3, .int ((rfPo σ pa wa i) + (nI 0))), (5, .int (nI 0)), (4, .int (nI i)), (0, .ref M), (1, .int pa), (2, .int wa)] := hl
                        refine lv_iinc (k := 2) (v := (nI (i + 1))) S.1 S.2.1 dX8_partOf_148 hl rfl (iincP i 1) (by decide) rfl (fun ls hl => ?_)
                        have hl : lv_has ls 6 [(4, .int (nI (i + 1))), (3, .int ((rfPo σ pa wa i) + (nI 0))), (5, .int (nI 0)), (0, .ref M), (1, .int pa), (2, .int wa)] := hl
                        refine lv_goto (tgt := 25) S.1 S.2.1 dX8_partOf_151 rfl ?_
                        have hl : lv_has ls 6 [(3, .int (rfPo σ pa wa (i + 1))), (4, .int (nI (i + 1))), (0, .ref M), (1, .int pa), (2, .int wa)] := by
                          rw [show (rfPo σ pa wa (i + 1)) = ((rfPo σ pa wa i) + (nI 0)) from by rw [rfPo, if_neg (by rintro (z | z | z | z) <;> first | exact h10 z.2 | exact h10 z.2.2.2 | exact h7 z.1 | exact h8 z.1 | exact h9 z.1)]]
                          exact lv_sub hl [1, 0, 3, 4, 5] rfl
                        exact ih _ (by omega) (i + 1) ls rfl (by omega)  (lv_sub hl [0, 1, 2, 3, 4] rfl)
                      · exact absurd h11 (by decide)
                    · skip
                      refine lv_iconst (v := (nI 1)) S.1 S.2.1 dX8_partOf_102 (by decide) ?_
                      refine lv_goto (tgt := 107) S.1 S.2.1 dX8_partOf_103 rfl ?_
                      refine lv_istore S.1 S.2.1 dX8_partOf_107 hl (by decide) rfl (fun ls hl => ?_)
                      have hl : lv_has ls 6 [(5, .int (nI 1)), (3, .int (rfPo σ pa wa i)), (4, .int (nI i)), (0, .ref M), (1, .int pa), (2, .int wa)] := hl
                      refine lv_iload_n S.1 S.2.1 dX8_partOf_109 rfl (lv_at hl 1 rfl) ?_
                      refine lv_iload S.1 S.2.1 dX8_partOf_110 (lv_at hl 0 rfl) ?_
                      refine lv_if_eq (tgt := 126) S.1 S.2.1 dX8_partOf_112 rfl (fun h12 => ?_) (fun h12 => ?_)
                      · exact absurd h12 (by decide)
                      · skip
                        refine lv_aload_n S.1 S.2.1 dX8_partOf_115 rfl (lv_at hl 3 rfl) ?_
                        refine lv_iload S.1 S.2.1 dX8_partOf_116 (lv_at hl 2 rfl) ?_
                        refine lv_iconst (v := (nI 0)) S.1 S.2.1 dX8_partOf_118 (by decide) ?_
                        refine xk_R (v := (nf σ i 0)) (x_runV (As := [.int (nI i), .int (nI 0)]) (rest := [.int (rfPo σ pa wa i)]) S hE hS (fun _ h => h.elim) (c_X8_of l E M ps ty re σ i 0 _ ho hs (by omega) (by omega)) kv_X8_of kw12_22 kw12_23 kw13_0 (x_recv hE (ho) (ci := 8) rfl) ⟨Nat.le_of_ble_eq_true rfl, Nat.le_of_ble_eq_true rfl⟩ rfl rfl rfl hl.1 rfl (Nat.le_of_ble_eq_true rfl) dX8_partOf_119 ⟨Nat.zero_le _, Nat.zero_le _⟩) ?_
                        refine lv_iload_n S.1 S.2.1 dX8_partOf_122 rfl (lv_at hl 4 rfl) ?_
                        refine lv_icmp_eq (tgt := 130) S.1 S.2.1 dX8_partOf_123 rfl (fun h13 => ?_) (fun h13 => ?_)
                        · skip
                          refine lv_iload_n S.1 S.2.1 dX8_partOf_130 rfl (lv_at hl 5 rfl) ?_
                          refine lv_iconst (v := (nI 2)) S.1 S.2.1 dX8_partOf_131 (by decide) ?_
                          refine lv_icmp_ne (tgt := 145) S.1 S.2.1 dX8_partOf_132 rfl (fun h14 => ?_) (fun h14 => ?_)
                          · skip
                            refine lv_iconst (v := (nI 1)) S.1 S.2.1 dX8_partOf_145 (by decide) ?_
                            refine lv_iadd S.1 S.2.1 dX8_partOf_146 ?_
                            refine lv_istore_n S.1 S.2.1 dX8_partOf_147 rfl hl (by decide) rfl (fun ls hl => ?_)
                            have hl : lv_has ls 6 [(3, .int ((rfPo σ pa wa i) + (nI 1))), (5, .int (nI 1)), (4, .int (nI i)), (0, .ref M), (1, .int pa), (2, .int wa)] := hl
                            refine lv_iinc (k := 2) (v := (nI (i + 1))) S.1 S.2.1 dX8_partOf_148 hl rfl (iincP i 1) (by decide) rfl (fun ls hl => ?_)
                            have hl : lv_has ls 6 [(4, .int (nI (i + 1))), (3, .int ((rfPo σ pa wa i) + (nI 1))), (5, .int (nI 1)), (0, .ref M), (1, .int pa), (2, .int wa)] := hl
                            refine lv_goto (tgt := 25) S.1 S.2.1 dX8_partOf_151 rfl ?_
                            have hl : lv_has ls 6 [(3, .int (rfPo σ pa wa (i + 1))), (4, .int (nI (i + 1))), (0, .ref M), (1, .int pa), (2, .int wa)] := by
                              rw [show (rfPo σ pa wa (i + 1)) = ((rfPo σ pa wa i) + (nI 1)) from by rw [rfPo, if_pos (show rfIts σ wa i from Or.inr (Or.inr (Or.inr ⟨h7, h8, h9, h10⟩))), if_pos h13, if_neg h14]]
                              exact lv_sub hl [1, 0, 3, 4, 5] rfl
                            exact ih _ (by omega) (i + 1) ls rfl (by omega)  (lv_sub hl [0, 1, 2, 3, 4] rfl)
                          · exact absurd h14 h9
                        · skip
                          refine lv_iconst (v := (nI 0)) S.1 S.2.1 dX8_partOf_126 (by decide) ?_
                          refine lv_goto (tgt := 146) S.1 S.2.1 dX8_partOf_127 rfl ?_
                          refine lv_iadd S.1 S.2.1 dX8_partOf_146 ?_
                          refine lv_istore_n S.1 S.2.1 dX8_partOf_147 rfl hl (by decide) rfl (fun ls hl => ?_)
                          have hl : lv_has ls 6 [(3, .int ((rfPo σ pa wa i) + (nI 0))), (5, .int (nI 1)), (4, .int (nI i)), (0, .ref M), (1, .int pa), (2, .int wa)] := hl
                          refine lv_iinc (k := 2) (v := (nI (i + 1))) S.1 S.2.1 dX8_partOf_148 hl rfl (iincP i 1) (by decide) rfl (fun ls hl => ?_)
                          have hl : lv_has ls 6 [(4, .int (nI (i + 1))), (3, .int ((rfPo σ pa wa i) + (nI 0))), (5, .int (nI 1)), (0, .ref M), (1, .int pa), (2, .int wa)] := hl
                          refine lv_goto (tgt := 25) S.1 S.2.1 dX8_partOf_151 rfl ?_
                          have hl : lv_has ls 6 [(3, .int (rfPo σ pa wa (i + 1))), (4, .int (nI (i + 1))), (0, .ref M), (1, .int pa), (2, .int wa)] := by
                            rw [show (rfPo σ pa wa (i + 1)) = ((rfPo σ pa wa i) + (nI 0)) from by rw [rfPo, if_pos (show rfIts σ wa i from Or.inr (Or.inr (Or.inr ⟨h7, h8, h9, h10⟩))), if_neg h13]]
                            exact lv_sub hl [1, 0, 3, 4, 5] rfl
                          exact ih _ (by omega) (i + 1) ls rfl (by omega)  (lv_sub hl [0, 1, 2, 3, 4] rfl)
                  · skip
                    refine lv_aload_n S.1 S.2.1 dX8_partOf_83 rfl (lv_at hl 2 rfl) ?_
                    refine lv_iload S.1 S.2.1 dX8_partOf_84 (lv_at hl 1 rfl) ?_
                    refine xk_R (v := (bI (rfVo σ i))) (x_runV (As := [.int (nI i)]) (rest := []) S hE hS (fun _ h => h.elim) (c_X8_isVoice l E M ps ty re σ i _ ho hs (by omega)) kv_X8_isVoice kw19_19 kw19_20 kw19_21 (x_recv hE (ho) (ci := 8) rfl) ⟨Nat.le_of_ble_eq_true rfl, Nat.le_of_ble_eq_true rfl⟩ rfl rfl rfl hl.1 rfl (Nat.le_of_ble_eq_true rfl) dX8_partOf_86 ⟨Nat.zero_le _, Nat.zero_le _⟩) ?_
                    refine lv_goto (tgt := 107) S.1 S.2.1 dX8_partOf_89 rfl ?_
                    refine lv_istore S.1 S.2.1 dX8_partOf_107 hl (by decide) rfl (fun ls hl => ?_)
                    have hl : lv_has ls 6 [(5, .int (bI (rfVo σ i))), (3, .int (rfPo σ pa wa i)), (4, .int (nI i)), (0, .ref M), (1, .int pa), (2, .int wa)] := hl
                    refine lv_iload_n S.1 S.2.1 dX8_partOf_109 rfl (lv_at hl 1 rfl) ?_
                    refine lv_iload S.1 S.2.1 dX8_partOf_110 (lv_at hl 0 rfl) ?_
                    refine lv_if_eq (tgt := 126) S.1 S.2.1 dX8_partOf_112 rfl (fun h15 => ?_) (fun h15 => ?_)
                    · skip
                      have h15 := bI_0 h15
                      refine lv_iconst (v := (nI 0)) S.1 S.2.1 dX8_partOf_126 (by decide) ?_
                      refine lv_goto (tgt := 146) S.1 S.2.1 dX8_partOf_127 rfl ?_
                      refine lv_iadd S.1 S.2.1 dX8_partOf_146 ?_
                      refine lv_istore_n S.1 S.2.1 dX8_partOf_147 rfl hl (by decide) rfl (fun ls hl => ?_)
                      have hl : lv_has ls 6 [(3, .int ((rfPo σ pa wa i) + (nI 0))), (5, .int (bI (rfVo σ i))), (4, .int (nI i)), (0, .ref M), (1, .int pa), (2, .int wa)] := hl
                      refine lv_iinc (k := 2) (v := (nI (i + 1))) S.1 S.2.1 dX8_partOf_148 hl rfl (iincP i 1) (by decide) rfl (fun ls hl => ?_)
                      have hl : lv_has ls 6 [(4, .int (nI (i + 1))), (3, .int ((rfPo σ pa wa i) + (nI 0))), (5, .int (bI (rfVo σ i))), (0, .ref M), (1, .int pa), (2, .int wa)] := hl
                      refine lv_goto (tgt := 25) S.1 S.2.1 dX8_partOf_151 rfl ?_
                      have hl : lv_has ls 6 [(3, .int (rfPo σ pa wa (i + 1))), (4, .int (nI (i + 1))), (0, .ref M), (1, .int pa), (2, .int wa)] := by
                        rw [show (rfPo σ pa wa (i + 1)) = ((rfPo σ pa wa i) + (nI 0)) from by rw [rfPo, if_neg (by rintro (z | z | z | z) <;> first | exact h15 z.2 | exact h15 z.2.2.2 | exact absurd (h9.symm.trans z.1) (by decide) | exact h7 z.1 | exact h8 z.1 | exact z.1 h9 | exact z.2.1 h9 | exact z.2.2.1 h9)]]
                        exact lv_sub hl [1, 0, 3, 4, 5] rfl
                      exact ih _ (by omega) (i + 1) ls rfl (by omega)  (lv_sub hl [0, 1, 2, 3, 4] rfl)
                    · skip
                      have h15 := bI_n0 h15
                      refine lv_aload_n S.1 S.2.1 dX8_partOf_115 rfl (lv_at hl 3 rfl) ?_
                      refine lv_iload S.1 S.2.1 dX8_partOf_116 (lv_at hl 2 rfl) ?_
                      refine lv_iconst (v := (nI 0)) S.1 S.2.1 dX8_partOf_118 (by decide) ?_
                      refine xk_R (v := (nf σ i 0)) (x_runV (As := [.int (nI i), .int (nI 0)]) (rest := [.int (rfPo σ pa wa i)]) S hE hS (fun _ h => h.elim) (c_X8_of l E M ps ty re σ i 0 _ ho hs (by omega) (by omega)) kv_X8_of kw12_22 kw12_23 kw13_0 (x_recv hE (ho) (ci := 8) rfl) ⟨Nat.le_of_ble_eq_true rfl, Nat.le_of_ble_eq_true rfl⟩ rfl rfl rfl hl.1 rfl (Nat.le_of_ble_eq_true rfl) dX8_partOf_119 ⟨Nat.zero_le _, Nat.zero_le _⟩) ?_
                      refine lv_iload_n S.1 S.2.1 dX8_partOf_122 rfl (lv_at hl 4 rfl) ?_
                      refine lv_icmp_eq (tgt := 130) S.1 S.2.1 dX8_partOf_123 rfl (fun h16 => ?_) (fun h16 => ?_)
                      · skip
                        refine lv_iload_n S.1 S.2.1 dX8_partOf_130 rfl (lv_at hl 5 rfl) ?_
                        refine lv_iconst (v := (nI 2)) S.1 S.2.1 dX8_partOf_131 (by decide) ?_
                        refine lv_icmp_ne (tgt := 145) S.1 S.2.1 dX8_partOf_132 rfl (fun h17 => ?_) (fun h17 => ?_)
                        · exact absurd h9 h17
                        · skip
                          refine lv_aload_n S.1 S.2.1 dX8_partOf_135 rfl (lv_at hl 3 rfl) ?_
                          refine lv_iload S.1 S.2.1 dX8_partOf_136 (lv_at hl 2 rfl) ?_
                          refine lv_iconst (v := (nI 4)) S.1 S.2.1 dX8_partOf_138 (by decide) ?_
                          refine xk_R (v := (nf σ i 4)) (x_runV (As := [.int (nI i), .int (nI 4)]) (rest := [.int (rfPo σ pa wa i)]) S hE hS (fun _ h => h.elim) (c_X8_of l E M ps ty re σ i 4 _ ho hs (by omega) (by omega)) kv_X8_of kw12_22 kw12_23 kw13_0 (x_recv hE (ho) (ci := 8) rfl) ⟨Nat.le_of_ble_eq_true rfl, Nat.le_of_ble_eq_true rfl⟩ rfl rfl rfl hl.1 rfl (Nat.le_of_ble_eq_true rfl) dX8_partOf_139 ⟨Nat.zero_le _, Nat.zero_le _⟩) ?_
                          refine lv_goto (tgt := 146) S.1 S.2.1 dX8_partOf_142 rfl ?_
                          refine lv_iadd S.1 S.2.1 dX8_partOf_146 ?_
                          refine lv_istore_n S.1 S.2.1 dX8_partOf_147 rfl hl (by decide) rfl (fun ls hl => ?_)
                          have hl : lv_has ls 6 [(3, .int ((rfPo σ pa wa i) + (nf σ i 4))), (5, .int (bI (rfVo σ i))), (4, .int (nI i)), (0, .ref M), (1, .int pa), (2, .int wa)] := hl
                          refine lv_iinc (k := 2) (v := (nI (i + 1))) S.1 S.2.1 dX8_partOf_148 hl rfl (iincP i 1) (by decide) rfl (fun ls hl => ?_)
                          have hl : lv_has ls 6 [(4, .int (nI (i + 1))), (3, .int ((rfPo σ pa wa i) + (nf σ i 4))), (5, .int (bI (rfVo σ i))), (0, .ref M), (1, .int pa), (2, .int wa)] := hl
                          refine lv_goto (tgt := 25) S.1 S.2.1 dX8_partOf_151 rfl ?_
                          have hl : lv_has ls 6 [(3, .int (rfPo σ pa wa (i + 1))), (4, .int (nI (i + 1))), (0, .ref M), (1, .int pa), (2, .int wa)] := by
                            rw [show (rfPo σ pa wa (i + 1)) = ((rfPo σ pa wa i) + (nf σ i 4)) from by rw [rfPo, if_pos (show rfIts σ wa i from Or.inr (Or.inr (Or.inl ⟨h9, h15⟩))), if_pos h16, if_pos h17]]
                            exact lv_sub hl [1, 0, 3, 4, 5] rfl
                          exact ih _ (by omega) (i + 1) ls rfl (by omega)  (lv_sub hl [0, 1, 2, 3, 4] rfl)
                      · skip
                        refine lv_iconst (v := (nI 0)) S.1 S.2.1 dX8_partOf_126 (by decide) ?_
                        refine lv_goto (tgt := 146) S.1 S.2.1 dX8_partOf_127 rfl ?_
                        refine lv_iadd S.1 S.2.1 dX8_partOf_146 ?_
                        refine lv_istore_n S.1 S.2.1 dX8_partOf_147 rfl hl (by decide) rfl (fun ls hl => ?_)
                        have hl : lv_has ls 6 [(3, .int ((rfPo σ pa wa i) + (nI 0))), (5, .int (bI (rfVo σ i))), (4, .int (nI i)), (0, .ref M), (1, .int pa), (2, .int wa)] := hl
                        refine lv_iinc (k := 2) (v := (nI (i + 1))) S.1 S.2.1 dX8_partOf_148 hl rfl (iincP i 1) (by decide) rfl (fun ls hl => ?_)
                        have hl : lv_has ls 6 [(4, .int (nI (i + 1))), (3, .int ((rfPo σ pa wa i) + (nI 0))), (5, .int (bI (rfVo σ i))), (0, .ref M), (1, .int pa), (2, .int wa)] := hl
                        refine lv_goto (tgt := 25) S.1 S.2.1 dX8_partOf_151 rfl ?_
                        have hl : lv_has ls 6 [(3, .int (rfPo σ pa wa (i + 1))), (4, .int (nI (i + 1))), (0, .ref M), (1, .int pa), (2, .int wa)] := by
                          rw [show (rfPo σ pa wa (i + 1)) = ((rfPo σ pa wa i) + (nI 0)) from by rw [rfPo, if_pos (show rfIts σ wa i from Or.inr (Or.inr (Or.inl ⟨h9, h15⟩))), if_neg h16]]
                          exact lv_sub hl [1, 0, 3, 4, 5] rfl
                        exact ih _ (by omega) (i + 1) ls rfl (by omega)  (lv_sub hl [0, 1, 2, 3, 4] rfl)
                · skip
                  refine lv_aload_n S.1 S.2.1 dX8_partOf_59 rfl (lv_at hl 2 rfl) ?_
                  refine lv_iload S.1 S.2.1 dX8_partOf_60 (lv_at hl 1 rfl) ?_
                  refine lv_iconst (v := (nI 3)) S.1 S.2.1 dX8_partOf_62 (by decide) ?_
                  refine xk_R (v := (nf σ i 3)) (x_runV (As := [.int (nI i), .int (nI 3)]) (rest := []) S hE hS (fun _ h => h.elim) (c_X8_of l E M ps ty re σ i 3 _ ho hs (by omega) (by omega)) kv_X8_of kw12_22 kw12_23 kw13_0 (x_recv hE (ho) (ci := 8) rfl) ⟨Nat.le_of_ble_eq_true rfl, Nat.le_of_ble_eq_true rfl⟩ rfl rfl rfl hl.1 rfl (Nat.le_of_ble_eq_true rfl) dX8_partOf_63 ⟨Nat.zero_le _, Nat.zero_le _⟩) ?_
                  refine lv_iconst (v := (nI 5)) S.1 S.2.1 dX8_partOf_66 (by decide) ?_
                  refine lv_icmp_ne (tgt := 74) S.1 S.2.1 dX8_partOf_67 rfl (fun h18 => ?_) (fun h18 => ?_)
                  · skip
                    refine lv_iconst (v := (nI 0)) S.1 S.2.1 dX8_partOf_74 (by decide) ?_
                    refine lv_goto (tgt := 107) S.1 S.2.1 dX8_partOf_75 rfl ?_
                    refine lv_istore S.1 S.2.1 dX8_partOf_107 hl (by decide) rfl (fun ls hl => ?_)
                    have hl : lv_has ls 6 [(5, .int (nI 0)), (3, .int (rfPo σ pa wa i)), (4, .int (nI i)), (0, .ref M), (1, .int pa), (2, .int wa)] := hl
                    refine lv_iload_n S.1 S.2.1 dX8_partOf_109 rfl (lv_at hl 1 rfl) ?_
                    refine lv_iload S.1 S.2.1 dX8_partOf_110 (lv_at hl 0 rfl) ?_
                    refine lv_if_eq (tgt := 126) S.1 S.2.1 dX8_partOf_112 rfl (fun h19 => ?_) (fun h19 => ?_)
                    · skip
                      refine lv_iconst (v := (nI 0)) S.1 S.2.1 dX8_partOf_126 (by decide) ?_
                      refine lv_goto (tgt := 146) S.1 S.2.1 dX8_partOf_127 rfl ?_
                      refine lv_iadd S.1 S.2.1 dX8_partOf_146 ?_
                      refine lv_istore_n S.1 S.2.1 dX8_partOf_147 rfl hl (by decide) rfl (fun ls hl => ?_)
                      have hl : lv_has ls 6 [(3, .int ((rfPo σ pa wa i) + (nI 0))), (5, .int (nI 0)), (4, .int (nI i)), (0, .ref M), (1, .int pa), (2, .int wa)] := hl
                      refine lv_iinc (k := 2) (v := (nI (i + 1))) S.1 S.2.1 dX8_partOf_148 hl rfl (iincP i 1) (by decide) rfl (fun ls hl => ?_)
                      have hl : lv_has ls 6 [(4, .int (nI (i + 1))), (3, .int ((rfPo σ pa wa i) + (nI 0))), (5, .int (nI 0)), (0, .ref M), (1, .int pa), (2, .int wa)] := hl
                      refine lv_goto (tgt := 25) S.1 S.2.1 dX8_partOf_151 rfl ?_
                      have hl : lv_has ls 6 [(3, .int (rfPo σ pa wa (i + 1))), (4, .int (nI (i + 1))), (0, .ref M), (1, .int pa), (2, .int wa)] := by
                        rw [show (rfPo σ pa wa (i + 1)) = ((rfPo σ pa wa i) + (nI 0)) from by rw [rfPo, if_neg (by rintro (z | z | z | z) <;> first | exact h18 z.2 | exact h18 z.2.2.2 | exact absurd (h8.symm.trans z.1) (by decide) | exact h7 z.1 | exact z.1 h8 | exact z.2.1 h8 | exact z.2.2.1 h8)]]
                        exact lv_sub hl [1, 0, 3, 4, 5] rfl
                      exact ih _ (by omega) (i + 1) ls rfl (by omega)  (lv_sub hl [0, 1, 2, 3, 4] rfl)
                    · exact absurd h19 (by decide)
                  · skip
                    refine lv_iconst (v := (nI 1)) S.1 S.2.1 dX8_partOf_70 (by decide) ?_
                    refine lv_goto (tgt := 107) S.1 S.2.1 dX8_partOf_71 rfl ?_
                    refine lv_istore S.1 S.2.1 dX8_partOf_107 hl (by decide) rfl (fun ls hl => ?_)
                    have hl : lv_has ls 6 [(5, .int (nI 1)), (3, .int (rfPo σ pa wa i)), (4, .int (nI i)), (0, .ref M), (1, .int pa), (2, .int wa)] := hl
                    refine lv_iload_n S.1 S.2.1 dX8_partOf_109 rfl (lv_at hl 1 rfl) ?_
                    refine lv_iload S.1 S.2.1 dX8_partOf_110 (lv_at hl 0 rfl) ?_
                    refine lv_if_eq (tgt := 126) S.1 S.2.1 dX8_partOf_112 rfl (fun h20 => ?_) (fun h20 => ?_)
                    · exact absurd h20 (by decide)
                    · skip
                      refine lv_aload_n S.1 S.2.1 dX8_partOf_115 rfl (lv_at hl 3 rfl) ?_
                      refine lv_iload S.1 S.2.1 dX8_partOf_116 (lv_at hl 2 rfl) ?_
                      refine lv_iconst (v := (nI 0)) S.1 S.2.1 dX8_partOf_118 (by decide) ?_
                      refine xk_R (v := (nf σ i 0)) (x_runV (As := [.int (nI i), .int (nI 0)]) (rest := [.int (rfPo σ pa wa i)]) S hE hS (fun _ h => h.elim) (c_X8_of l E M ps ty re σ i 0 _ ho hs (by omega) (by omega)) kv_X8_of kw12_22 kw12_23 kw13_0 (x_recv hE (ho) (ci := 8) rfl) ⟨Nat.le_of_ble_eq_true rfl, Nat.le_of_ble_eq_true rfl⟩ rfl rfl rfl hl.1 rfl (Nat.le_of_ble_eq_true rfl) dX8_partOf_119 ⟨Nat.zero_le _, Nat.zero_le _⟩) ?_
                      refine lv_iload_n S.1 S.2.1 dX8_partOf_122 rfl (lv_at hl 4 rfl) ?_
                      refine lv_icmp_eq (tgt := 130) S.1 S.2.1 dX8_partOf_123 rfl (fun h21 => ?_) (fun h21 => ?_)
                      · skip
                        refine lv_iload_n S.1 S.2.1 dX8_partOf_130 rfl (lv_at hl 5 rfl) ?_
                        refine lv_iconst (v := (nI 2)) S.1 S.2.1 dX8_partOf_131 (by decide) ?_
                        refine lv_icmp_ne (tgt := 145) S.1 S.2.1 dX8_partOf_132 rfl (fun h22 => ?_) (fun h22 => ?_)
                        · skip
                          refine lv_iconst (v := (nI 1)) S.1 S.2.1 dX8_partOf_145 (by decide) ?_
                          refine lv_iadd S.1 S.2.1 dX8_partOf_146 ?_
                          refine lv_istore_n S.1 S.2.1 dX8_partOf_147 rfl hl (by decide) rfl (fun ls hl => ?_)
                          have hl : lv_has ls 6 [(3, .int ((rfPo σ pa wa i) + (nI 1))), (5, .int (nI 1)), (4, .int (nI i)), (0, .ref M), (1, .int pa), (2, .int wa)] := hl
                          refine lv_iinc (k := 2) (v := (nI (i + 1))) S.1 S.2.1 dX8_partOf_148 hl rfl (iincP i 1) (by decide) rfl (fun ls hl => ?_)
                          have hl : lv_has ls 6 [(4, .int (nI (i + 1))), (3, .int ((rfPo σ pa wa i) + (nI 1))), (5, .int (nI 1)), (0, .ref M), (1, .int pa), (2, .int wa)] := hl
                          refine lv_goto (tgt := 25) S.1 S.2.1 dX8_partOf_151 rfl ?_
                          have hl : lv_has ls 6 [(3, .int (rfPo σ pa wa (i + 1))), (4, .int (nI (i + 1))), (0, .ref M), (1, .int pa), (2, .int wa)] := by
                            rw [show (rfPo σ pa wa (i + 1)) = ((rfPo σ pa wa i) + (nI 1)) from by rw [rfPo, if_pos (show rfIts σ wa i from Or.inr (Or.inl ⟨h8, h18⟩)), if_pos h21, if_neg h22]]
                            exact lv_sub hl [1, 0, 3, 4, 5] rfl
                          exact ih _ (by omega) (i + 1) ls rfl (by omega)  (lv_sub hl [0, 1, 2, 3, 4] rfl)
                        · exact absurd (h8.symm.trans h22) (by decide)
                      · skip
                        refine lv_iconst (v := (nI 0)) S.1 S.2.1 dX8_partOf_126 (by decide) ?_
                        refine lv_goto (tgt := 146) S.1 S.2.1 dX8_partOf_127 rfl ?_
                        refine lv_iadd S.1 S.2.1 dX8_partOf_146 ?_
                        refine lv_istore_n S.1 S.2.1 dX8_partOf_147 rfl hl (by decide) rfl (fun ls hl => ?_)
                        have hl : lv_has ls 6 [(3, .int ((rfPo σ pa wa i) + (nI 0))), (5, .int (nI 1)), (4, .int (nI i)), (0, .ref M), (1, .int pa), (2, .int wa)] := hl
                        refine lv_iinc (k := 2) (v := (nI (i + 1))) S.1 S.2.1 dX8_partOf_148 hl rfl (iincP i 1) (by decide) rfl (fun ls hl => ?_)
                        have hl : lv_has ls 6 [(4, .int (nI (i + 1))), (3, .int ((rfPo σ pa wa i) + (nI 0))), (5, .int (nI 1)), (0, .ref M), (1, .int pa), (2, .int wa)] := hl
                        refine lv_goto (tgt := 25) S.1 S.2.1 dX8_partOf_151 rfl ?_
                        have hl : lv_has ls 6 [(3, .int (rfPo σ pa wa (i + 1))), (4, .int (nI (i + 1))), (0, .ref M), (1, .int pa), (2, .int wa)] := by
                          rw [show (rfPo σ pa wa (i + 1)) = ((rfPo σ pa wa i) + (nI 0)) from by rw [rfPo, if_pos (show rfIts σ wa i from Or.inr (Or.inl ⟨h8, h18⟩)), if_neg h21]]
                          exact lv_sub hl [1, 0, 3, 4, 5] rfl
                        exact ih _ (by omega) (i + 1) ls rfl (by omega)  (lv_sub hl [0, 1, 2, 3, 4] rfl)
              · skip
                refine lv_aload_n S.1 S.2.1 dX8_partOf_45 rfl (lv_at hl 2 rfl) ?_
                refine lv_iload S.1 S.2.1 dX8_partOf_46 (lv_at hl 1 rfl) ?_
                refine xk_R (v := (bI (rfPl σ i))) (x_runV (As := [.int (nI i)]) (rest := []) S hE hS (fun _ h => h.elim) (c_X8_hasPlace l E M ps ty re σ i _ ho hs (by omega)) kv_X8_hasPlace kw12_18 kw12_19 kw12_20 (x_recv hE (ho) (ci := 8) rfl) ⟨Nat.le_of_ble_eq_true rfl, Nat.le_of_ble_eq_true rfl⟩ rfl rfl rfl hl.1 rfl (Nat.le_of_ble_eq_true rfl) dX8_partOf_48 ⟨Nat.zero_le _, Nat.zero_le _⟩) ?_
                refine lv_goto (tgt := 107) S.1 S.2.1 dX8_partOf_51 rfl ?_
                refine lv_istore S.1 S.2.1 dX8_partOf_107 hl (by decide) rfl (fun ls hl => ?_)
                have hl : lv_has ls 6 [(5, .int (bI (rfPl σ i))), (3, .int (rfPo σ pa wa i)), (4, .int (nI i)), (0, .ref M), (1, .int pa), (2, .int wa)] := hl
                refine lv_iload_n S.1 S.2.1 dX8_partOf_109 rfl (lv_at hl 1 rfl) ?_
                refine lv_iload S.1 S.2.1 dX8_partOf_110 (lv_at hl 0 rfl) ?_
                refine lv_if_eq (tgt := 126) S.1 S.2.1 dX8_partOf_112 rfl (fun h23 => ?_) (fun h23 => ?_)
                · skip
                  have h23 := bI_0 h23
                  refine lv_iconst (v := (nI 0)) S.1 S.2.1 dX8_partOf_126 (by decide) ?_
                  refine lv_goto (tgt := 146) S.1 S.2.1 dX8_partOf_127 rfl ?_
                  refine lv_iadd S.1 S.2.1 dX8_partOf_146 ?_
                  refine lv_istore_n S.1 S.2.1 dX8_partOf_147 rfl hl (by decide) rfl (fun ls hl => ?_)
                  have hl : lv_has ls 6 [(3, .int ((rfPo σ pa wa i) + (nI 0))), (5, .int (bI (rfPl σ i))), (4, .int (nI i)), (0, .ref M), (1, .int pa), (2, .int wa)] := hl
                  refine lv_iinc (k := 2) (v := (nI (i + 1))) S.1 S.2.1 dX8_partOf_148 hl rfl (iincP i 1) (by decide) rfl (fun ls hl => ?_)
                  have hl : lv_has ls 6 [(4, .int (nI (i + 1))), (3, .int ((rfPo σ pa wa i) + (nI 0))), (5, .int (bI (rfPl σ i))), (0, .ref M), (1, .int pa), (2, .int wa)] := hl
                  refine lv_goto (tgt := 25) S.1 S.2.1 dX8_partOf_151 rfl ?_
                  have hl : lv_has ls 6 [(3, .int (rfPo σ pa wa (i + 1))), (4, .int (nI (i + 1))), (0, .ref M), (1, .int pa), (2, .int wa)] := by
                    rw [show (rfPo σ pa wa (i + 1)) = ((rfPo σ pa wa i) + (nI 0)) from by rw [rfPo, if_neg (by rintro (z | z | z | z) <;> first | exact h23 z.2 | exact h23 z.2.2.2 | exact absurd (h7.symm.trans z.1) (by decide) | exact z.1 h7 | exact z.2.1 h7 | exact z.2.2.1 h7)]]
                    exact lv_sub hl [1, 0, 3, 4, 5] rfl
                  exact ih _ (by omega) (i + 1) ls rfl (by omega)  (lv_sub hl [0, 1, 2, 3, 4] rfl)
                · skip
                  have h23 := bI_n0 h23
                  refine lv_aload_n S.1 S.2.1 dX8_partOf_115 rfl (lv_at hl 3 rfl) ?_
                  refine lv_iload S.1 S.2.1 dX8_partOf_116 (lv_at hl 2 rfl) ?_
                  refine lv_iconst (v := (nI 0)) S.1 S.2.1 dX8_partOf_118 (by decide) ?_
                  refine xk_R (v := (nf σ i 0)) (x_runV (As := [.int (nI i), .int (nI 0)]) (rest := [.int (rfPo σ pa wa i)]) S hE hS (fun _ h => h.elim) (c_X8_of l E M ps ty re σ i 0 _ ho hs (by omega) (by omega)) kv_X8_of kw12_22 kw12_23 kw13_0 (x_recv hE (ho) (ci := 8) rfl) ⟨Nat.le_of_ble_eq_true rfl, Nat.le_of_ble_eq_true rfl⟩ rfl rfl rfl hl.1 rfl (Nat.le_of_ble_eq_true rfl) dX8_partOf_119 ⟨Nat.zero_le _, Nat.zero_le _⟩) ?_
                  refine lv_iload_n S.1 S.2.1 dX8_partOf_122 rfl (lv_at hl 4 rfl) ?_
                  refine lv_icmp_eq (tgt := 130) S.1 S.2.1 dX8_partOf_123 rfl (fun h24 => ?_) (fun h24 => ?_)
                  · skip
                    refine lv_iload_n S.1 S.2.1 dX8_partOf_130 rfl (lv_at hl 5 rfl) ?_
                    refine lv_iconst (v := (nI 2)) S.1 S.2.1 dX8_partOf_131 (by decide) ?_
                    refine lv_icmp_ne (tgt := 145) S.1 S.2.1 dX8_partOf_132 rfl (fun h25 => ?_) (fun h25 => ?_)
                    · skip
                      refine lv_iconst (v := (nI 1)) S.1 S.2.1 dX8_partOf_145 (by decide) ?_
                      refine lv_iadd S.1 S.2.1 dX8_partOf_146 ?_
                      refine lv_istore_n S.1 S.2.1 dX8_partOf_147 rfl hl (by decide) rfl (fun ls hl => ?_)
                      have hl : lv_has ls 6 [(3, .int ((rfPo σ pa wa i) + (nI 1))), (5, .int (bI (rfPl σ i))), (4, .int (nI i)), (0, .ref M), (1, .int pa), (2, .int wa)] := hl
                      refine lv_iinc (k := 2) (v := (nI (i + 1))) S.1 S.2.1 dX8_partOf_148 hl rfl (iincP i 1) (by decide) rfl (fun ls hl => ?_)
                      have hl : lv_has ls 6 [(4, .int (nI (i + 1))), (3, .int ((rfPo σ pa wa i) + (nI 1))), (5, .int (bI (rfPl σ i))), (0, .ref M), (1, .int pa), (2, .int wa)] := hl
                      refine lv_goto (tgt := 25) S.1 S.2.1 dX8_partOf_151 rfl ?_
                      have hl : lv_has ls 6 [(3, .int (rfPo σ pa wa (i + 1))), (4, .int (nI (i + 1))), (0, .ref M), (1, .int pa), (2, .int wa)] := by
                        rw [show (rfPo σ pa wa (i + 1)) = ((rfPo σ pa wa i) + (nI 1)) from by rw [rfPo, if_pos (show rfIts σ wa i from Or.inl ⟨h7, h23⟩), if_pos h24, if_neg h25]]
                        exact lv_sub hl [1, 0, 3, 4, 5] rfl
                      exact ih _ (by omega) (i + 1) ls rfl (by omega)  (lv_sub hl [0, 1, 2, 3, 4] rfl)
                    · exact absurd (h7.symm.trans h25) (by decide)
                  · skip
                    refine lv_iconst (v := (nI 0)) S.1 S.2.1 dX8_partOf_126 (by decide) ?_
                    refine lv_goto (tgt := 146) S.1 S.2.1 dX8_partOf_127 rfl ?_
                    refine lv_iadd S.1 S.2.1 dX8_partOf_146 ?_
                    refine lv_istore_n S.1 S.2.1 dX8_partOf_147 rfl hl (by decide) rfl (fun ls hl => ?_)
                    have hl : lv_has ls 6 [(3, .int ((rfPo σ pa wa i) + (nI 0))), (5, .int (bI (rfPl σ i))), (4, .int (nI i)), (0, .ref M), (1, .int pa), (2, .int wa)] := hl
                    refine lv_iinc (k := 2) (v := (nI (i + 1))) S.1 S.2.1 dX8_partOf_148 hl rfl (iincP i 1) (by decide) rfl (fun ls hl => ?_)
                    have hl : lv_has ls 6 [(4, .int (nI (i + 1))), (3, .int ((rfPo σ pa wa i) + (nI 0))), (5, .int (bI (rfPl σ i))), (0, .ref M), (1, .int pa), (2, .int wa)] := hl
                    refine lv_goto (tgt := 25) S.1 S.2.1 dX8_partOf_151 rfl ?_
                    have hl : lv_has ls 6 [(3, .int (rfPo σ pa wa (i + 1))), (4, .int (nI (i + 1))), (0, .ref M), (1, .int pa), (2, .int wa)] := by
                      rw [show (rfPo σ pa wa (i + 1)) = ((rfPo σ pa wa i) + (nI 0)) from by rw [rfPo, if_pos (show rfIts σ wa i from Or.inl ⟨h7, h23⟩), if_neg h24]]
                      exact lv_sub hl [1, 0, 3, 4, 5] rfl
                    exact ih _ (by omega) (i + 1) ls rfl (by omega)  (lv_sub hl [0, 1, 2, 3, 4] rfl)
      exact hloop25 _ 0 ls rfl (Nat.zero_le _)  (lv_sub hl [1, 0, 2, 3, 4] rfl)
    · skip
      have h2 := bI_0 h2
      refine lv_iconst (v := (-1)) S.1 S.2.1 dX8_partOf_18 (by decide) ?_
      subst hQ
      exact x_retR S hr hlk (rfl) (by rw [rfPartOf, if_neg (fun z => h2 z.2)]) dX8_partOf_19
abbrev rm_X8_count : Room := ({ frames := 6, cells := 0, slots := 0, locals := 130 } : Room)
set_option maxRecDepth 100000 in
set_option maxHeartbeats 600000 in
theorem c_X8_count (l : Launch) (E : XE) (M : Nat) (ps ty re : Int32) (σ : Nat → Int32) (wa : Int32) (n : Nat) (H : Heap) (ho : RfO E M ps ty re H) (hs : XI E (M + 1) 1670 σ H) (hn : σ 0 = nI n) (hn2 : n ≤ 200) (hb : 0 ≤ σ 8) : Rd l E yX8_count cX8_count 2 (some .int) rm_X8_count [.ref M, .int wa] H (rfCount σ n ps ty wa) := by
  refine met_of (by decide) (Nat.le_of_ble_eq_true rfl) (fun p e s m args below meth c hBD Q hQ ls hl => ?_)
  obtain ⟨S, hr, hlk, hnm, hE, hH⟩ := hBD
  subst hH
  have hl : lv_has ls 2 [(0, .ref M), (1, .int wa)] := hl
  have hS : va_S (fun _ => False) s.heap s.heap [] := va_S.rf
  refine lv_iload_n S.1 S.2.1 dX8_count_0 rfl (lv_at hl 1 rfl) ?_
  by_cases h1_0 : wa = (nI 0)
  · refine x_top h1_0 ?_
    refine lv_tableIn (tgt := 108) S.1 S.2.1 dX8_count_1 (by decide) (by decide) (show _ = some (107) from rfl) rfl ?_
    refine lv_aload_n S.1 S.2.1 dX8_count_108 rfl (lv_at hl 0 rfl) ?_
    refine x_get S hE (ho) (C := RX8) (T := TX8) (N := 10) rfl inlX8 0 (by decide) (v := .ref (M + 1)) rfl kw7_6 rfl dX8_count_109 ?_
    refine lv_iconst (v := (nI 0)) S.1 S.2.1 dX8_count_112 (by decide) ?_
    refine x_iald S hE (hs) 0 rfl (by decide) (by decide) dX8_count_113 ?_
    refine x_top (y := (nI n)) (hn) ?_
    subst hQ
    exact x_retR S hr hlk (rfl) (by rw [rfCount, if_pos h1_0]) dX8_count_114
  by_cases h1_1 : wa = (nI 1)
  · refine x_top h1_1 ?_
    refine lv_tableIn (tgt := 115) S.1 S.2.1 dX8_count_1 (by decide) (by decide) (show _ = some (114) from rfl) rfl ?_
    refine lv_aload_n S.1 S.2.1 dX8_count_115 rfl (lv_at hl 0 rfl) ?_
    refine xk_R (v := (rfPlc σ n)) (x_runV (As := []) (rest := []) S hE hS (fun _ h => h.elim) (c_X8_placed l E M ps ty re σ n _ ho hs hn hn2) kv_X8_placed kw13_19 kw13_20 kw13_21 (x_recv hE (ho) (ci := 8) rfl) ⟨Nat.le_of_ble_eq_true rfl, Nat.le_of_ble_eq_true rfl⟩ rfl rfl rfl hl.1 rfl (Nat.le_of_ble_eq_true rfl) dX8_count_116 ⟨Nat.zero_le _, Nat.zero_le _⟩) ?_
    subst hQ
    exact x_retR S hr hlk (rfl) (by rw [rfCount, if_neg (by rw [h1_1]; decide), if_pos h1_1]) dX8_count_119
  by_cases h1_2 : wa = (nI 2)
  · refine x_top h1_2 ?_
    refine lv_tableIn (tgt := 120) S.1 S.2.1 dX8_count_1 (by decide) (by decide) (show _ = some (119) from rfl) rfl ?_
    refine lv_aload_n S.1 S.2.1 dX8_count_120 rfl (lv_at hl 0 rfl) ?_
    refine xk_R (v := (rfFree σ n)) (x_runV (As := []) (rest := []) S hE hS (fun _ h => h.elim) (c_X8_free l E M ps ty re σ n _ ho hs hn hn2) kv_X8_free kw23_21 kw23_22 kw23_23 (x_recv hE (ho) (ci := 8) rfl) ⟨Nat.le_of_ble_eq_true rfl, Nat.le_of_ble_eq_true rfl⟩ rfl rfl rfl hl.1 rfl (Nat.le_of_ble_eq_true rfl) dX8_count_121 ⟨Nat.zero_le _, Nat.zero_le _⟩) ?_
    subst hQ
    exact x_retR S hr hlk (rfl) (by rw [rfCount, if_neg (by rw [h1_2]; decide), if_neg (by rw [h1_2]; decide), if_pos h1_2]) dX8_count_124
  by_cases h1_3 : wa = (nI 3)
  · refine x_top h1_3 ?_
    refine lv_tableIn (tgt := 125) S.1 S.2.1 dX8_count_1 (by decide) (by decide) (show _ = some (124) from rfl) rfl ?_
    refine lv_aload_n S.1 S.2.1 dX8_count_125 rfl (lv_at hl 0 rfl) ?_
    refine lv_iconst (v := (nI 5)) S.1 S.2.1 dX8_count_126 (by decide) ?_
    refine xk_R (v := (rfMany σ (nI 5) n)) (x_runV (As := [.int (nI 5)]) (rest := []) S hE hS (fun _ h => h.elim) (c_X8_many l E M ps ty re σ (nI 5) n _ ho hs hn hn2) kv_X8_many kw13_23 kw14_0 kw14_1 (x_recv hE (ho) (ci := 8) rfl) ⟨Nat.le_of_ble_eq_true rfl, Nat.le_of_ble_eq_true rfl⟩ rfl rfl rfl hl.1 rfl (Nat.le_of_ble_eq_true rfl) dX8_count_127 ⟨Nat.zero_le _, Nat.zero_le _⟩) ?_
    subst hQ
    exact x_retR S hr hlk (rfl) (by rw [rfCount, if_neg (by rw [h1_3]; decide), if_neg (by rw [h1_3]; decide), if_neg (by rw [h1_3]; decide), if_pos h1_3]) dX8_count_130
  by_cases h1_4 : wa = (nI 4)
  · refine x_top h1_4 ?_
    refine lv_tableIn (tgt := 131) S.1 S.2.1 dX8_count_1 (by decide) (by decide) (show _ = some (130) from rfl) rfl ?_
    refine lv_aload_n S.1 S.2.1 dX8_count_131 rfl (lv_at hl 0 rfl) ?_
    refine lv_iconst (v := (nI 0)) S.1 S.2.1 dX8_count_132 (by decide) ?_
    refine xk_R (v := (rfMany σ (nI 0) n)) (x_runV (As := [.int (nI 0)]) (rest := []) S hE hS (fun _ h => h.elim) (c_X8_many l E M ps ty re σ (nI 0) n _ ho hs hn hn2) kv_X8_many kw13_23 kw14_0 kw14_1 (x_recv hE (ho) (ci := 8) rfl) ⟨Nat.le_of_ble_eq_true rfl, Nat.le_of_ble_eq_true rfl⟩ rfl rfl rfl hl.1 rfl (Nat.le_of_ble_eq_true rfl) dX8_count_133 ⟨Nat.zero_le _, Nat.zero_le _⟩) ?_
    subst hQ
    exact x_retR S hr hlk (rfl) (by rw [rfCount, if_neg (by rw [h1_4]; decide), if_neg (by rw [h1_4]; decide), if_neg (by rw [h1_4]; decide), if_neg (by rw [h1_4]; decide), if_pos h1_4]) dX8_count_136
  by_cases h1_5 : wa = (nI 5)
  · refine x_top h1_5 ?_
    refine lv_tableIn (tgt := 137) S.1 S.2.1 dX8_count_1 (by decide) (by decide) (show _ = some (136) from rfl) rfl ?_
    refine lv_aload_n S.1 S.2.1 dX8_count_137 rfl (lv_at hl 0 rfl) ?_
    refine x_get S hE (ho) (C := RX8) (T := TX8) (N := 10) rfl inlX8 0 (by decide) (v := .ref (M + 1)) rfl kw7_6 rfl dX8_count_138 ?_
    refine lv_iconst (v := (nI 1)) S.1 S.2.1 dX8_count_141 (by decide) ?_
    refine x_iald S hE (hs) 1 rfl (by decide) (by decide) dX8_count_142 ?_
    subst hQ
    exact x_retR S hr hlk (rfl) (by rw [rfCount, if_neg (by rw [h1_5]; decide), if_neg (by rw [h1_5]; decide), if_neg (by rw [h1_5]; decide), if_neg (by rw [h1_5]; decide), if_neg (by rw [h1_5]; decide), if_pos h1_5]) dX8_count_143
  by_cases h1_6 : wa = (nI 6)
  · refine x_top h1_6 ?_
    refine lv_tableIn (tgt := 144) S.1 S.2.1 dX8_count_1 (by decide) (by decide) (show _ = some (143) from rfl) rfl ?_
    refine lv_aload_n S.1 S.2.1 dX8_count_144 rfl (lv_at hl 0 rfl) ?_
    refine xk_R (v := (rfSum σ n)) (x_runV (As := []) (rest := []) S hE hS (fun _ h => h.elim) (c_X8_sum l E M ps ty re σ n _ ho hs hn hn2) kv_X8_sum kw19_15 kw19_16 kw19_17 (x_recv hE (ho) (ci := 8) rfl) ⟨Nat.le_of_ble_eq_true rfl, Nat.le_of_ble_eq_true rfl⟩ rfl rfl rfl hl.1 rfl (Nat.le_of_ble_eq_true rfl) dX8_count_145 ⟨Nat.zero_le _, Nat.zero_le _⟩) ?_
    subst hQ
    exact x_retR S hr hlk (rfl) (by rw [rfCount, if_neg (by rw [h1_6]; decide), if_neg (by rw [h1_6]; decide), if_neg (by rw [h1_6]; decide), if_neg (by rw [h1_6]; decide), if_neg (by rw [h1_6]; decide), if_neg (by rw [h1_6]; decide), if_pos h1_6]) dX8_count_148
  by_cases h1_7 : wa = (nI 7)
  · refine x_top h1_7 ?_
    refine lv_tableIn (tgt := 149) S.1 S.2.1 dX8_count_1 (by decide) (by decide) (show _ = some (148) from rfl) rfl ?_
    refine lv_aload_n S.1 S.2.1 dX8_count_149 rfl (lv_at hl 0 rfl) ?_
    refine xk_R (v := (rfHrA σ n)) (x_runV (As := []) (rest := []) S hE hS (fun _ h => h.elim) (c_X8_heardOfAll l E M ps ty re σ n _ ho hs hn hn2 hb) kv_X8_heardOfAll kw24_1 kw24_2 kw24_3 (x_recv hE (ho) (ci := 8) rfl) ⟨Nat.le_of_ble_eq_true rfl, Nat.le_of_ble_eq_true rfl⟩ rfl rfl rfl hl.1 rfl (Nat.le_of_ble_eq_true rfl) dX8_count_150 ⟨Nat.zero_le _, Nat.zero_le _⟩) ?_
    subst hQ
    exact x_retR S hr hlk (rfl) (by rw [rfCount, if_neg (by rw [h1_7]; decide), if_neg (by rw [h1_7]; decide), if_neg (by rw [h1_7]; decide), if_neg (by rw [h1_7]; decide), if_neg (by rw [h1_7]; decide), if_neg (by rw [h1_7]; decide), if_neg (by rw [h1_7]; decide), if_pos h1_7]) dX8_count_153
  by_cases h1_8 : wa = (nI 8)
  · refine x_top h1_8 ?_
    refine lv_tableIn (tgt := 154) S.1 S.2.1 dX8_count_1 (by decide) (by decide) (show _ = some (153) from rfl) rfl ?_
    refine lv_aload_n S.1 S.2.1 dX8_count_154 rfl (lv_at hl 0 rfl) ?_
    refine x_get S hE (ho) (C := RX8) (T := TX8) (N := 10) rfl inlX8 0 (by decide) (v := .ref (M + 1)) rfl kw7_6 rfl dX8_count_155 ?_
    refine lv_iconst (v := (nI 2)) S.1 S.2.1 dX8_count_158 (by decide) ?_
    refine x_iald S hE (hs) 2 rfl (by decide) (by decide) dX8_count_159 ?_
    subst hQ
    exact x_retR S hr hlk (rfl) (by rw [rfCount, if_neg (by rw [h1_8]; decide), if_neg (by rw [h1_8]; decide), if_neg (by rw [h1_8]; decide), if_neg (by rw [h1_8]; decide), if_neg (by rw [h1_8]; decide), if_neg (by rw [h1_8]; decide), if_neg (by rw [h1_8]; decide), if_neg (by rw [h1_8]; decide), if_pos h1_8]) dX8_count_160
  by_cases h1_9 : wa = (nI 9)
  · refine x_top h1_9 ?_
    refine lv_tableIn (tgt := 161) S.1 S.2.1 dX8_count_1 (by decide) (by decide) (show _ = some (160) from rfl) rfl ?_
    refine lv_aload_n S.1 S.2.1 dX8_count_161 rfl (lv_at hl 0 rfl) ?_
    refine x_get S hE (ho) (C := RX8) (T := TX8) (N := 10) rfl inlX8 0 (by decide) (v := .ref (M + 1)) rfl kw7_6 rfl dX8_count_162 ?_
    refine lv_iconst (v := (nI 3)) S.1 S.2.1 dX8_count_165 (by decide) ?_
    refine x_iald S hE (hs) 3 rfl (by decide) (by decide) dX8_count_166 ?_
    subst hQ
    exact x_retR S hr hlk (rfl) (by rw [rfCount, if_neg (by rw [h1_9]; decide), if_neg (by rw [h1_9]; decide), if_neg (by rw [h1_9]; decide), if_neg (by rw [h1_9]; decide), if_neg (by rw [h1_9]; decide), if_neg (by rw [h1_9]; decide), if_neg (by rw [h1_9]; decide), if_neg (by rw [h1_9]; decide), if_neg (by rw [h1_9]; decide), if_pos h1_9]) dX8_count_167
  by_cases h1_10 : wa = (nI 10)
  · refine x_top h1_10 ?_
    refine lv_tableIn (tgt := 168) S.1 S.2.1 dX8_count_1 (by decide) (by decide) (show _ = some (167) from rfl) rfl ?_
    refine lv_aload_n S.1 S.2.1 dX8_count_168 rfl (lv_at hl 0 rfl) ?_
    refine x_get S hE (ho) (C := RX8) (T := TX8) (N := 10) rfl inlX8 0 (by decide) (v := .ref (M + 1)) rfl kw7_6 rfl dX8_count_169 ?_
    refine lv_iconst (v := (nI 4)) S.1 S.2.1 dX8_count_172 (by decide) ?_
    refine x_iald S hE (hs) 4 rfl (by decide) (by decide) dX8_count_173 ?_
    subst hQ
    exact x_retR S hr hlk (rfl) (by rw [rfCount, if_neg (by rw [h1_10]; decide), if_neg (by rw [h1_10]; decide), if_neg (by rw [h1_10]; decide), if_neg (by rw [h1_10]; decide), if_neg (by rw [h1_10]; decide), if_neg (by rw [h1_10]; decide), if_neg (by rw [h1_10]; decide), if_neg (by rw [h1_10]; decide), if_neg (by rw [h1_10]; decide), if_neg (by rw [h1_10]; decide), if_pos h1_10]) dX8_count_174
  by_cases h1_11 : wa = (nI 11)
  · refine x_top h1_11 ?_
    refine lv_tableIn (tgt := 175) S.1 S.2.1 dX8_count_1 (by decide) (by decide) (show _ = some (174) from rfl) rfl ?_
    refine lv_aload_n S.1 S.2.1 dX8_count_175 rfl (lv_at hl 0 rfl) ?_
    refine x_get S hE (ho) (C := RX8) (T := TX8) (N := 10) rfl inlX8 3 (by decide) (v := .int ps) rfl kw13_6 rfl dX8_count_176 ?_
    subst hQ
    exact x_retR S hr hlk (rfl) (by rw [rfCount, if_neg (by rw [h1_11]; decide), if_neg (by rw [h1_11]; decide), if_neg (by rw [h1_11]; decide), if_neg (by rw [h1_11]; decide), if_neg (by rw [h1_11]; decide), if_neg (by rw [h1_11]; decide), if_neg (by rw [h1_11]; decide), if_neg (by rw [h1_11]; decide), if_neg (by rw [h1_11]; decide), if_neg (by rw [h1_11]; decide), if_neg (by rw [h1_11]; decide), if_pos h1_11]) dX8_count_179
  by_cases h1_12 : wa = (nI 12)
  · refine x_top h1_12 ?_
    refine lv_tableIn (tgt := 180) S.1 S.2.1 dX8_count_1 (by decide) (by decide) (show _ = some (179) from rfl) rfl ?_
    refine lv_aload_n S.1 S.2.1 dX8_count_180 rfl (lv_at hl 0 rfl) ?_
    refine x_get S hE (ho) (C := RX8) (T := TX8) (N := 10) rfl inlX8 5 (by decide) (v := .int ty) rfl kw23_20 rfl dX8_count_181 ?_
    subst hQ
    exact x_retR S hr hlk (rfl) (by rw [rfCount, if_neg (by rw [h1_12]; decide), if_neg (by rw [h1_12]; decide), if_neg (by rw [h1_12]; decide), if_neg (by rw [h1_12]; decide), if_neg (by rw [h1_12]; decide), if_neg (by rw [h1_12]; decide), if_neg (by rw [h1_12]; decide), if_neg (by rw [h1_12]; decide), if_neg (by rw [h1_12]; decide), if_neg (by rw [h1_12]; decide), if_neg (by rw [h1_12]; decide), if_neg (by rw [h1_12]; decide), if_pos h1_12]) dX8_count_184
  by_cases h1_13 : wa = (nI 13)
  · refine x_top h1_13 ?_
    refine lv_tableIn (tgt := 198) S.1 S.2.1 dX8_count_1 (by decide) (by decide) (show _ = some (197) from rfl) rfl ?_
    refine lv_iconst (v := (-1)) S.1 S.2.1 dX8_count_198 (by decide) ?_
    subst hQ
    exact x_retR S hr hlk (rfl) (by rw [rfCount, if_neg (by rw [h1_13]; decide), if_neg (by rw [h1_13]; decide), if_neg (by rw [h1_13]; decide), if_neg (by rw [h1_13]; decide), if_neg (by rw [h1_13]; decide), if_neg (by rw [h1_13]; decide), if_neg (by rw [h1_13]; decide), if_neg (by rw [h1_13]; decide), if_neg (by rw [h1_13]; decide), if_neg (by rw [h1_13]; decide), if_neg (by rw [h1_13]; decide), if_neg (by rw [h1_13]; decide), if_neg (by rw [h1_13]; decide), if_neg (by rw [h1_13]; decide), if_neg (by rw [h1_13]; decide), if_neg (by rw [h1_13]; decide)]) dX8_count_199
  by_cases h1_14 : wa = (nI 14)
  · refine x_top h1_14 ?_
    refine lv_tableIn (tgt := 198) S.1 S.2.1 dX8_count_1 (by decide) (by decide) (show _ = some (197) from rfl) rfl ?_
    refine lv_iconst (v := (-1)) S.1 S.2.1 dX8_count_198 (by decide) ?_
    subst hQ
    exact x_retR S hr hlk (rfl) (by rw [rfCount, if_neg (by rw [h1_14]; decide), if_neg (by rw [h1_14]; decide), if_neg (by rw [h1_14]; decide), if_neg (by rw [h1_14]; decide), if_neg (by rw [h1_14]; decide), if_neg (by rw [h1_14]; decide), if_neg (by rw [h1_14]; decide), if_neg (by rw [h1_14]; decide), if_neg (by rw [h1_14]; decide), if_neg (by rw [h1_14]; decide), if_neg (by rw [h1_14]; decide), if_neg (by rw [h1_14]; decide), if_neg (by rw [h1_14]; decide), if_neg (by rw [h1_14]; decide), if_neg (by rw [h1_14]; decide), if_neg (by rw [h1_14]; decide)]) dX8_count_199
  by_cases h1_15 : wa = (nI 15)
  · refine x_top h1_15 ?_
    refine lv_tableIn (tgt := 198) S.1 S.2.1 dX8_count_1 (by decide) (by decide) (show _ = some (197) from rfl) rfl ?_
    refine lv_iconst (v := (-1)) S.1 S.2.1 dX8_count_198 (by decide) ?_
    subst hQ
    exact x_retR S hr hlk (rfl) (by rw [rfCount, if_neg (by rw [h1_15]; decide), if_neg (by rw [h1_15]; decide), if_neg (by rw [h1_15]; decide), if_neg (by rw [h1_15]; decide), if_neg (by rw [h1_15]; decide), if_neg (by rw [h1_15]; decide), if_neg (by rw [h1_15]; decide), if_neg (by rw [h1_15]; decide), if_neg (by rw [h1_15]; decide), if_neg (by rw [h1_15]; decide), if_neg (by rw [h1_15]; decide), if_neg (by rw [h1_15]; decide), if_neg (by rw [h1_15]; decide), if_neg (by rw [h1_15]; decide), if_neg (by rw [h1_15]; decide), if_neg (by rw [h1_15]; decide)]) dX8_count_199
  by_cases h1_16 : wa = (nI 16)
  · refine x_top h1_16 ?_
    refine lv_tableIn (tgt := 198) S.1 S.2.1 dX8_count_1 (by decide) (by decide) (show _ = some (197) from rfl) rfl ?_
    refine lv_iconst (v := (-1)) S.1 S.2.1 dX8_count_198 (by decide) ?_
    subst hQ
    exact x_retR S hr hlk (rfl) (by rw [rfCount, if_neg (by rw [h1_16]; decide), if_neg (by rw [h1_16]; decide), if_neg (by rw [h1_16]; decide), if_neg (by rw [h1_16]; decide), if_neg (by rw [h1_16]; decide), if_neg (by rw [h1_16]; decide), if_neg (by rw [h1_16]; decide), if_neg (by rw [h1_16]; decide), if_neg (by rw [h1_16]; decide), if_neg (by rw [h1_16]; decide), if_neg (by rw [h1_16]; decide), if_neg (by rw [h1_16]; decide), if_neg (by rw [h1_16]; decide), if_neg (by rw [h1_16]; decide), if_neg (by rw [h1_16]; decide), if_neg (by rw [h1_16]; decide)]) dX8_count_199
  by_cases h1_17 : wa = (nI 17)
  · refine x_top h1_17 ?_
    refine lv_tableIn (tgt := 198) S.1 S.2.1 dX8_count_1 (by decide) (by decide) (show _ = some (197) from rfl) rfl ?_
    refine lv_iconst (v := (-1)) S.1 S.2.1 dX8_count_198 (by decide) ?_
    subst hQ
    exact x_retR S hr hlk (rfl) (by rw [rfCount, if_neg (by rw [h1_17]; decide), if_neg (by rw [h1_17]; decide), if_neg (by rw [h1_17]; decide), if_neg (by rw [h1_17]; decide), if_neg (by rw [h1_17]; decide), if_neg (by rw [h1_17]; decide), if_neg (by rw [h1_17]; decide), if_neg (by rw [h1_17]; decide), if_neg (by rw [h1_17]; decide), if_neg (by rw [h1_17]; decide), if_neg (by rw [h1_17]; decide), if_neg (by rw [h1_17]; decide), if_neg (by rw [h1_17]; decide), if_neg (by rw [h1_17]; decide), if_neg (by rw [h1_17]; decide), if_neg (by rw [h1_17]; decide)]) dX8_count_199
  by_cases h1_18 : wa = (nI 18)
  · refine x_top h1_18 ?_
    refine lv_tableIn (tgt := 198) S.1 S.2.1 dX8_count_1 (by decide) (by decide) (show _ = some (197) from rfl) rfl ?_
    refine lv_iconst (v := (-1)) S.1 S.2.1 dX8_count_198 (by decide) ?_
    subst hQ
    exact x_retR S hr hlk (rfl) (by rw [rfCount, if_neg (by rw [h1_18]; decide), if_neg (by rw [h1_18]; decide), if_neg (by rw [h1_18]; decide), if_neg (by rw [h1_18]; decide), if_neg (by rw [h1_18]; decide), if_neg (by rw [h1_18]; decide), if_neg (by rw [h1_18]; decide), if_neg (by rw [h1_18]; decide), if_neg (by rw [h1_18]; decide), if_neg (by rw [h1_18]; decide), if_neg (by rw [h1_18]; decide), if_neg (by rw [h1_18]; decide), if_neg (by rw [h1_18]; decide), if_neg (by rw [h1_18]; decide), if_neg (by rw [h1_18]; decide), if_neg (by rw [h1_18]; decide)]) dX8_count_199
  by_cases h1_19 : wa = (nI 19)
  · refine x_top h1_19 ?_
    refine lv_tableIn (tgt := 198) S.1 S.2.1 dX8_count_1 (by decide) (by decide) (show _ = some (197) from rfl) rfl ?_
    refine lv_iconst (v := (-1)) S.1 S.2.1 dX8_count_198 (by decide) ?_
    subst hQ
    exact x_retR S hr hlk (rfl) (by rw [rfCount, if_neg (by rw [h1_19]; decide), if_neg (by rw [h1_19]; decide), if_neg (by rw [h1_19]; decide), if_neg (by rw [h1_19]; decide), if_neg (by rw [h1_19]; decide), if_neg (by rw [h1_19]; decide), if_neg (by rw [h1_19]; decide), if_neg (by rw [h1_19]; decide), if_neg (by rw [h1_19]; decide), if_neg (by rw [h1_19]; decide), if_neg (by rw [h1_19]; decide), if_neg (by rw [h1_19]; decide), if_neg (by rw [h1_19]; decide), if_neg (by rw [h1_19]; decide), if_neg (by rw [h1_19]; decide), if_neg (by rw [h1_19]; decide)]) dX8_count_199
  by_cases h1_20 : wa = (nI 20)
  · refine x_top h1_20 ?_
    refine lv_tableIn (tgt := 185) S.1 S.2.1 dX8_count_1 (by decide) (by decide) (show _ = some (184) from rfl) rfl ?_
    refine lv_aload_n S.1 S.2.1 dX8_count_185 rfl (lv_at hl 0 rfl) ?_
    refine x_get S hE (ho) (C := RX8) (T := TX8) (N := 10) rfl inlX8 0 (by decide) (v := .ref (M + 1)) rfl kw7_6 rfl dX8_count_186 ?_
    refine lv_bipush (v := (nI 6)) S.1 S.2.1 dX8_count_189 (by decide) ?_
    refine lv_iload_n S.1 S.2.1 dX8_count_191 rfl (lv_at hl 1 rfl) ?_
    refine lv_iadd S.1 S.2.1 dX8_count_192 ?_
    refine lv_bipush (v := (nI 20)) S.1 S.2.1 dX8_count_193 (by decide) ?_
    refine lv_isub S.1 S.2.1 dX8_count_195 ?_
    refine x_top (y := (nI 6)) (by rw [h1_20]; decide) ?_
    refine x_iald S hE (hs) 6 rfl (by decide) (by decide) dX8_count_196 ?_
    subst hQ
    exact x_retR S hr hlk (rfl) (by rw [rfCount, if_neg (by rw [h1_20]; decide), if_neg (by rw [h1_20]; decide), if_neg (by rw [h1_20]; decide), if_neg (by rw [h1_20]; decide), if_neg (by rw [h1_20]; decide), if_neg (by rw [h1_20]; decide), if_neg (by rw [h1_20]; decide), if_neg (by rw [h1_20]; decide), if_neg (by rw [h1_20]; decide), if_neg (by rw [h1_20]; decide), if_neg (by rw [h1_20]; decide), if_neg (by rw [h1_20]; decide), if_neg (by rw [h1_20]; decide), if_pos h1_20]) dX8_count_197
  by_cases h1_21 : wa = (nI 21)
  · refine x_top h1_21 ?_
    refine lv_tableIn (tgt := 185) S.1 S.2.1 dX8_count_1 (by decide) (by decide) (show _ = some (184) from rfl) rfl ?_
    refine lv_aload_n S.1 S.2.1 dX8_count_185 rfl (lv_at hl 0 rfl) ?_
    refine x_get S hE (ho) (C := RX8) (T := TX8) (N := 10) rfl inlX8 0 (by decide) (v := .ref (M + 1)) rfl kw7_6 rfl dX8_count_186 ?_
    refine lv_bipush (v := (nI 6)) S.1 S.2.1 dX8_count_189 (by decide) ?_
    refine lv_iload_n S.1 S.2.1 dX8_count_191 rfl (lv_at hl 1 rfl) ?_
    refine lv_iadd S.1 S.2.1 dX8_count_192 ?_
    refine lv_bipush (v := (nI 20)) S.1 S.2.1 dX8_count_193 (by decide) ?_
    refine lv_isub S.1 S.2.1 dX8_count_195 ?_
    refine x_top (y := (nI 7)) (by rw [h1_21]; decide) ?_
    refine x_iald S hE (hs) 7 rfl (by decide) (by decide) dX8_count_196 ?_
    subst hQ
    exact x_retR S hr hlk (rfl) (by rw [rfCount, if_neg (by rw [h1_21]; decide), if_neg (by rw [h1_21]; decide), if_neg (by rw [h1_21]; decide), if_neg (by rw [h1_21]; decide), if_neg (by rw [h1_21]; decide), if_neg (by rw [h1_21]; decide), if_neg (by rw [h1_21]; decide), if_neg (by rw [h1_21]; decide), if_neg (by rw [h1_21]; decide), if_neg (by rw [h1_21]; decide), if_neg (by rw [h1_21]; decide), if_neg (by rw [h1_21]; decide), if_neg (by rw [h1_21]; decide), if_neg (by rw [h1_21]; decide), if_pos h1_21]) dX8_count_197
  by_cases h1_22 : wa = (nI 22)
  · refine x_top h1_22 ?_
    refine lv_tableIn (tgt := 185) S.1 S.2.1 dX8_count_1 (by decide) (by decide) (show _ = some (184) from rfl) rfl ?_
    refine lv_aload_n S.1 S.2.1 dX8_count_185 rfl (lv_at hl 0 rfl) ?_
    refine x_get S hE (ho) (C := RX8) (T := TX8) (N := 10) rfl inlX8 0 (by decide) (v := .ref (M + 1)) rfl kw7_6 rfl dX8_count_186 ?_
    refine lv_bipush (v := (nI 6)) S.1 S.2.1 dX8_count_189 (by decide) ?_
    refine lv_iload_n S.1 S.2.1 dX8_count_191 rfl (lv_at hl 1 rfl) ?_
    refine lv_iadd S.1 S.2.1 dX8_count_192 ?_
    refine lv_bipush (v := (nI 20)) S.1 S.2.1 dX8_count_193 (by decide) ?_
    refine lv_isub S.1 S.2.1 dX8_count_195 ?_
    refine x_top (y := (nI 8)) (by rw [h1_22]; decide) ?_
    refine x_iald S hE (hs) 8 rfl (by decide) (by decide) dX8_count_196 ?_
    subst hQ
    exact x_retR S hr hlk (rfl) (by rw [rfCount, if_neg (by rw [h1_22]; decide), if_neg (by rw [h1_22]; decide), if_neg (by rw [h1_22]; decide), if_neg (by rw [h1_22]; decide), if_neg (by rw [h1_22]; decide), if_neg (by rw [h1_22]; decide), if_neg (by rw [h1_22]; decide), if_neg (by rw [h1_22]; decide), if_neg (by rw [h1_22]; decide), if_neg (by rw [h1_22]; decide), if_neg (by rw [h1_22]; decide), if_neg (by rw [h1_22]; decide), if_neg (by rw [h1_22]; decide), if_neg (by rw [h1_22]; decide), if_neg (by rw [h1_22]; decide), if_pos h1_22]) dX8_count_197
  refine lv_tableOut (tgt := 198) S.1 S.2.1 dX8_count_1 (tsw0_23 h1_0 h1_1 h1_2 h1_3 h1_4 h1_5 h1_6 h1_7 h1_8 h1_9 h1_10 h1_11 h1_12 h1_13 h1_14 h1_15 h1_16 h1_17 h1_18 h1_19 h1_20 h1_21 h1_22) rfl ?_
  refine lv_iconst (v := (-1)) S.1 S.2.1 dX8_count_198 (by decide) ?_
  subst hQ
  exact x_retR S hr hlk (rfl) (by rw [rfCount, if_neg h1_0, if_neg h1_1, if_neg h1_2, if_neg h1_3, if_neg h1_4, if_neg h1_5, if_neg h1_6, if_neg h1_7, if_neg h1_8, if_neg h1_9, if_neg h1_10, if_neg h1_11, if_neg h1_12, if_neg h1_20, if_neg h1_21, if_neg h1_22]) dX8_count_199
abbrev rm_X8_next : Room := ({ frames := 3, cells := 0, slots := 0, locals := 70 } : Room)
set_option maxRecDepth 100000 in
set_option maxHeartbeats 600000 in
theorem c_X8_next (l : Launch) (E : XE) (M : Nat) (ps ty re : Int32) (σ : Nat → Int32) (n : Nat) (H : Heap) (ho : RfO E M ps ty re H) (hs : XI E (M + 1) 1670 σ H) (hn : σ 0 = nI n) (hn2 : n ≤ 200) : Rd l E yX8_next cX8_next 1 (some .int) rm_X8_next [.ref M] H (oi (rfNx σ n)) := by
  refine met_of (by decide) (Nat.le_of_ble_eq_true rfl) (fun p e s m args below meth c hBD Q hQ ls hl => ?_)
  obtain ⟨S, hr, hlk, hnm, hE, hH⟩ := hBD
  subst hH
  have hl : lv_has ls 1 [(0, .ref M)] := hl
  have hS : va_S (fun _ => False) s.heap s.heap [] := va_S.rf
  refine lv_aload_n S.1 S.2.1 dX8_next_0 rfl (lv_at hl 0 rfl) ?_
  refine xk_R (v := (oi (rfNx σ n))) (x_runV (As := []) (rest := []) S hE hS (fun _ h => h.elim) (c_X8_sentHome l E M ps ty re σ n _ ho hs hn hn2) kv_X8_sentHome kw14_3 kw14_4 kw14_5 (x_recv hE (ho) (ci := 8) rfl) ⟨Nat.le_of_ble_eq_true rfl, Nat.le_of_ble_eq_true rfl⟩ rfl rfl rfl hl.1 rfl (Nat.le_of_ble_eq_true rfl) dX8_next_1 ⟨Nat.zero_le _, Nat.zero_le _⟩) ?_
  subst hQ
  exact x_retR S hr hlk (rfl) (rfl) dX8_next_4
