/-! 60.ls: the law's loop, and the law from its entry -/
theorem tsw0_21 {x : Int32} (h0 : ¬ x = nI 0) (h1 : ¬ x = nI 1) (h2 : ¬ x = nI 2) (h3 : ¬ x = nI 3) (h4 : ¬ x = nI 4) (h5 : ¬ x = nI 5) (h6 : ¬ x = nI 6) (h7 : ¬ x = nI 7) (h8 : ¬ x = nI 8) (h9 : ¬ x = nI 9) (h10 : ¬ x = nI 10) (h11 : ¬ x = nI 11) (h12 : ¬ x = nI 12) (h13 : ¬ x = nI 13) (h14 : ¬ x = nI 14) (h15 : ¬ x = nI 15) (h16 : ¬ x = nI 16) (h17 : ¬ x = nI 17) (h18 : ¬ x = nI 18) (h19 : ¬ x = nI 19) (h20 : ¬ x = nI 20) : x.toInt < 0 ∨ 20 < x.toInt := by
  have e (k : Nat) (hk : k < 21) : (nI k).toInt = k := nI_toInt (by omega)
  have g (k : Nat) (hk : k < 21) (h : ¬ x = nI k) : x.toInt ≠ k := fun z => h (Int32.toInt_inj.mp (by rw [e k hk]; exact z))
  have := g 0 (by omega) h0
  have := g 1 (by omega) h1
  have := g 2 (by omega) h2
  have := g 3 (by omega) h3
  have := g 4 (by omega) h4
  have := g 5 (by omega) h5
  have := g 6 (by omega) h6
  have := g 7 (by omega) h7
  have := g 8 (by omega) h8
  have := g 9 (by omega) h9
  have := g 10 (by omega) h10
  have := g 11 (by omega) h11
  have := g 12 (by omega) h12
  have := g 13 (by omega) h13
  have := g 14 (by omega) h14
  have := g 15 (by omega) h15
  have := g 16 (by omega) h16
  have := g 17 (by omega) h17
  have := g 18 (by omega) h18
  have := g 19 (by omega) h19
  have := g 20 (by omega) h20
  omega
theorem lp_lt {L i : Nat} (hL : L ≤ 2048) (hi : i ≤ 2048) (h : ¬ Int32.ofNat L - nI 4 < nI i) : i + 4 ≤ L := by
  by_cases c : 4 ≤ L
  · obtain ⟨k, rfl⟩ : ∃ k, L = k + 4 := ⟨L - 4, by omega⟩
    have e : Int32.ofNat (k + 4) - nI 4 = nI k := by
      show nI (k + 4) - nI 4 = nI k
      rw [← nI_add, Int32.add_sub_cancel]
    rw [e, nI_ltI (by omega) (by omega)] at h
    omega
  · exfalso
    apply h
    have h0 : (0 : Int32) ≤ nI i := nI_pos' (by omega)
    refine Int32.lt_of_lt_of_le ?_ h0
    rcases (show L = 0 ∨ L = 1 ∨ L = 2 ∨ L = 3 by omega) with rfl | rfl | rfl | rfl <;> decide +kernel
section
variable {p : Program} {l : Launch} {e : Env} {s : State} {m : MethodId} {below : List Frame} {meth : Method} {c : Code} {b L : Nat} {xs : Nat → Int32} {E : XE}
set_option maxRecDepth 100000 in
set_option maxHeartbeats 1000000 in
theorem lw_head (S : CallFix p m c cL_law 4 s #[Value.ref b] GW RL) (hEA : EA E (fun q => s.heap.size ≤ q) s) (hX : va_X b L xs s s.heap) (hbl : b < s.heap.size) (hL : L ≤ 2048) (hr : meth.sig.returnType = ret) (hlk : meth.locks = false) {i : Nat} (hi : i ≤ L) {H : Heap} {locs : List Loc} {ls : Array Slot} {β : BS} {μ : RS} (hP : BoxP E s.heap.size β H) (hM : RfP E (s.heap.size + 118) μ H) (hJ : JR i β μ) (hS : va_S (fun q => s.heap.size ≤ q) s.heap H locs)
    (hl : lv_has ls 4 [(3, .int (nI i)), (2, .ref (s.heap.size + 118)), (1, .ref s.heap.size), (0, .ref b)])
    (kl : i + 4 ≤ L → ∀ (β' : BS) (μ' : RS) (H' : Heap) (locs' : List Loc) (ls' : Array Slot), BoxP E s.heap.size β' H' → RfP E (s.heap.size + 118) μ' H' → JR (i + 4) β' μ' → va_S (fun q => s.heap.size ≤ q) s.heap H' locs' → lv_has ls' 4 [(3, .int (nI (i + 4))), (2, .ref (s.heap.size + 118)), (1, .ref s.heap.size), (0, .ref b)] → W p l e room_1 s m #[Value.ref b] below meth c H' locs' 600000 7302250 (lw_Z below #[Value.ref b] s) (F0 m 18 ls' [])) :
    W p l e room_1 s m #[Value.ref b] below meth c H locs 600000 7302250 (lw_Z below #[Value.ref b] s) (F0 m 18 ls []) := by
  have hbA : ¬ (fun q => s.heap.size ≤ q) b := Nat.not_le.mpr hbl
  refine lv_iload_n S.1 S.2.1 dL_law_18 rfl (lv_at hl 0 rfl) ?_
  refine lv_aload_n S.1 S.2.1 dL_law_19 rfl (lv_at hl 3 rfl) ?_
  refine va_slen S.1 S.2.1 hX hbl hbA hS dL_law_20 ?_
  refine lv_iconst (v := nI 4) S.1 S.2.1 dL_law_21 (by decide) ?_
  refine lv_isub S.1 S.2.1 dL_law_22 ?_
  refine lv_icmp_gt (tgt := 621) S.1 S.2.1 dL_law_23 (by decide) (fun _ => ?_) (fun c0 => ?_)
  · refine lv_iconst (v := 1) S.1 S.2.1 dL_law_621 (by decide) ?_
    refine va_forget (fun q hq => hS.2.2 q hq) ?_
    exact lw_ret S.1 S.2.1 hr hlk dL_law_622
  have hi4 : i + 4 ≤ L := lp_lt hL (Nat.le_trans hi hL) c0
  have hi3 : i + 3 < L := by omega
  refine lv_aload_n S.1 S.2.1 dL_law_26 rfl (lv_at hl 3 rfl) ?_
  refine lv_iload_n S.1 S.2.1 dL_law_27 rfl (lv_at hl 0 rfl) ?_
  refine va_sld S.1 S.2.1 hX hbl hbA hS (vp_in_nI (by omega) (by omega)) dL_law_28 ?_
  refine lv_bipush (v := nI 31) S.1 S.2.1 dL_law_29 (by decide) ?_
  refine lv_iand S.1 S.2.1 dL_law_31 ?_
  have kk : ∀ (β' : BS) (μ' : RS) (H' : Heap) (locs' : List Loc), BoxP E s.heap.size β' H' → RfP E (s.heap.size + 118) μ' H' → JR (i + 1) β' μ' → va_S (fun q => s.heap.size ≤ q) s.heap H' locs' → W p l e room_1 s m #[Value.ref b] below meth c H' locs' 600000 7302250 (lw_Z below #[Value.ref b] s) (F0 m 615 ls []) := by
    intro β' μ' H' locs' hP' hM' hJ' hS'
    refine lv_iinc (v := nI (i + 4)) (lv' := [(3, .int (nI (i + 4))), (2, .ref (s.heap.size + 118)), (1, .ref s.heap.size), (0, .ref b)]) S.1 S.2.1 dL_law_615 hl (k := 0) rfl (iincP i 4) (by decide) rfl (fun ls' hl' => ?_)
    refine lv_goto (tgt := 18) S.1 S.2.1 dL_law_618 (by decide) ?_
    exact kl hi4 β' μ' H' locs' ls' hP' hM' (jr_C hJ' (by omega)) hS' hl'
  obtain ⟨σ, ⟨η, np⟩, tx, ty⟩ := μ
  generalize (xs (nI i).toNatClampNeg &&& nI 31) = x
  by_cases h0 : x = nI 0
  · subst h0
    refine lv_tableIn (off := 100) (tgt := 132) S.1 S.2.1 dL_law_32 (by decide) (by decide) rfl (by decide) ?_
    exact lc_knock S hEA hX hbl hi3 hL hP hM hJ hS hl kk
  by_cases h1 : x = nI 1
  · subst h1
    refine lv_tableIn (off := 143) (tgt := 175) S.1 S.2.1 dL_law_32 (by decide) (by decide) rfl (by decide) ?_
    exact lc_release S hEA hX hbl hi3 hL hP hM hJ hS hl kk
  by_cases h2 : x = nI 2
  · subst h2
    refine lv_tableIn (off := 176) (tgt := 208) S.1 S.2.1 dL_law_32 (by decide) (by decide) rfl (by decide) ?_
    exact lc_pedal S hEA hX hbl hi3 hL hP hM hJ hS hl kk
  by_cases h3 : x = nI 3
  · subst h3
    refine lv_tableIn (off := 199) (tgt := 231) S.1 S.2.1 dL_law_32 (by decide) (by decide) rfl (by decide) ?_
    exact lc_tick S hEA hX hbl hi3 hL hP hM hJ hS hl kk
  by_cases h4 : x = nI 4
  · subst h4
    refine lv_tableIn (off := 222) (tgt := 254) S.1 S.2.1 dL_law_32 (by decide) (by decide) rfl (by decide) ?_
    exact lc_set S hEA hX hbl hi3 hL hP hM hJ hS hl kk
  by_cases h5 : x = nI 5
  · subst h5
    refine lv_tableIn (off := 255) (tgt := 287) S.1 S.2.1 dL_law_32 (by decide) (by decide) rfl (by decide) ?_
    exact lc_noteOf S hEA hX hbl hi3 hL hP hM hJ hS hl kk
  by_cases h6 : x = nI 6
  · subst h6
    refine lv_tableIn (off := 288) (tgt := 320) S.1 S.2.1 dL_law_32 (by decide) (by decide) rfl (by decide) ?_
    exact lc_voiceAt S hEA hX hbl hi3 hL hP hM hJ hS hl kk
  by_cases h7 : x = nI 7
  · subst h7
    refine lv_tableIn (off := 311) (tgt := 343) S.1 S.2.1 dL_law_32 (by decide) (by decide) rfl (by decide) ?_
    exact lc_find S hEA hX hbl hi3 hL hP hM hJ hS hl kk
  by_cases h8 : x = nI 8
  · subst h8
    refine lv_tableIn (off := 344) (tgt := 376) S.1 S.2.1 dL_law_32 (by decide) (by decide) rfl (by decide) ?_
    exact lc_partOf S hEA hX hbl hi3 hL hP hM hJ hS hl kk
  by_cases h9 : x = nI 9
  · subst h9
    refine lv_tableIn (off := 377) (tgt := 409) S.1 S.2.1 dL_law_32 (by decide) (by decide) rfl (by decide) ?_
    exact lc_count S hEA hX hbl hi3 hL hP hM hJ hS hl kk
  by_cases h10 : x = nI 10
  · subst h10
    refine lv_tableIn (off := 400) (tgt := 432) S.1 S.2.1 dL_law_32 (by decide) (by decide) rfl (by decide) ?_
    exact lc_next S hEA hX hbl hi3 hL hP hM hJ hS hl kk
  by_cases h11 : x = nI 11
  · subst h11
    refine lv_tableIn (off := 413) (tgt := 445) S.1 S.2.1 dL_law_32 (by decide) (by decide) rfl (by decide) ?_
    exact lc_peak S hEA hX hbl hi3 hL hP hM hJ hS hl kk
  by_cases h12 : x = nI 12
  · subst h12
    refine lv_tableIn (off := 436) (tgt := 468) S.1 S.2.1 dL_law_32 (by decide) (by decide) rfl (by decide) ?_
    exact lc_silence S hEA hX hbl hi3 hL hP hM hJ hS hl kk
  by_cases h13 : x = nI 13
  · subst h13
    refine lv_tableIn (off := 449) (tgt := 481) S.1 S.2.1 dL_law_32 (by decide) (by decide) rfl (by decide) ?_
    exact lc_freeIn S hEA hX hbl hi3 hL hP hM hJ hS hl kk
  by_cases h14 : x = nI 14
  · subst h14
    refine lv_tableIn (off := 462) (tgt := 494) S.1 S.2.1 dL_law_32 (by decide) (by decide) rfl (by decide) ?_
    exact lc_undo S hEA hX hbl hi3 hL hP hM hJ hS hl kk
  by_cases h15 : x = nI 15
  · subst h15
    refine lv_tableIn (off := 475) (tgt := 507) S.1 S.2.1 dL_law_32 (by decide) (by decide) rfl (by decide) ?_
    exact lc_type S hEA hX hbl hi3 hL hP hM hJ hS hl kk
  by_cases h16 : x = nI 16
  · subst h16
    refine lv_tableIn (off := 498) (tgt := 530) S.1 S.2.1 dL_law_32 (by decide) (by decide) rfl (by decide) ?_
    exact lc_clearText S hEA hX hbl hi3 hL hP hM hJ hS hl kk
  by_cases h17 : x = nI 17
  · subst h17
    refine lv_tableIn (off := 511) (tgt := 543) S.1 S.2.1 dL_law_32 (by decide) (by decide) rfl (by decide) ?_
    exact lc_fault S hEA hX hbl hi3 hL hP hM hJ hS hl kk
  by_cases h18 : x = nI 18
  · subst h18
    refine lv_tableIn (off := 534) (tgt := 566) S.1 S.2.1 dL_law_32 (by decide) (by decide) rfl (by decide) ?_
    exact lc_adopt S hEA hX hbl hi3 hL hP hM hJ hS hl kk
  by_cases h19 : x = nI 19
  · subst h19
    refine lv_tableIn (off := 547) (tgt := 579) S.1 S.2.1 dL_law_32 (by decide) (by decide) rfl (by decide) ?_
    exact lc_mix S hEA hX hbl hi3 hL hP hM hJ hS hl kk
  by_cases h20 : x = nI 20
  · subst h20
    refine lv_tableIn (off := 560) (tgt := 592) S.1 S.2.1 dL_law_32 (by decide) (by decide) rfl (by decide) ?_
    exact lc_alone S hEA hX hbl hi3 hL hP hM hJ hS hl kk
  refine lv_tableOut (tgt := 615) S.1 S.2.1 dL_law_32 (tsw0_21 h0 h1 h2 h3 h4 h5 h6 h7 h8 h9 h10 h11 h12 h13 h14 h15 h16 h17 h18 h19 h20) (by decide) ?_
  exact kk _ _ _ _ hP hM (jr_C hJ (Nat.le_succ i)) hS
theorem lw_loop (S : CallFix p m c cL_law 4 s #[Value.ref b] GW RL) (hEA : EA E (fun q => s.heap.size ≤ q) s) (hX : va_X b L xs s s.heap) (hbl : b < s.heap.size) (hL : L ≤ 2048) (hr : meth.sig.returnType = ret) (hlk : meth.locks = false) : ∀ (f i : Nat), L ≤ i + f → i ≤ L → ∀ (H : Heap) (locs : List Loc) (ls : Array Slot) (β : BS) (μ : RS), BoxP E s.heap.size β H → RfP E (s.heap.size + 118) μ H → JR i β μ → va_S (fun q => s.heap.size ≤ q) s.heap H locs → lv_has ls 4 [(3, .int (nI i)), (2, .ref (s.heap.size + 118)), (1, .ref s.heap.size), (0, .ref b)] →
    W p l e room_1 s m #[Value.ref b] below meth c H locs 600000 7302250 (lw_Z below #[Value.ref b] s) (F0 m 18 ls []) := by
  intro f
  induction f with
  | zero =>
    intro i h1 h2 H locs ls β μ hP hM hJ hS hl
    exact lw_head S hEA hX hbl hL hr hlk h2 hP hM hJ hS hl (fun h => absurd h (by omega))
  | succ f ih =>
    intro i h1 h2 H locs ls β μ hP hM hJ hS hl
    exact lw_head S hEA hX hbl hL hr hlk h2 hP hM hJ hS hl (fun h β' μ' H' locs' ls' hP' hM' hJ' hS' hl' => ih (i + 4) (by omega) h H' locs' ls' β' μ' hP' hM' hJ' hS' hl')
end
set_option maxRecDepth 100000 in
set_option maxHeartbeats 1000000 in
/-- YOUR PART: from the entry, for every script of at most 2048 ints, the law comes to its end with true ('hflags': the launch's flags, for a law that throws: no stack traces) -/
theorem whole_start {p : Program} {e : Env} {s : State} {m : MethodId} {below : List Frame} {meth : Method} {c : Code} (l : Launch) (hflags : l.flags = flags0) {b L : Nat} {xs : Nat → Int32} (hL : L ≤ 2048) (C0 : lw_At p s m meth c b L xs) : W p l e room_1 s m #[Value.ref b] below meth c s.heap [] 0 0 (lw_Z below #[Value.ref b] s) (entryFrame m ([Value.ref b] : List Value).toArray 4) := by
  obtain ⟨E, hQt, hEA⟩ := lw_ea C0
  obtain ⟨hx, hb, hr, hml, hown, hts, hX, hbl, hlk, hgv⟩ := id C0
  have S : CallFix p m c cL_law 4 s #[Value.ref b] GW RL := ⟨hx, hb, hml, hown, fun w h => hts w (wsL_law_in w h)⟩
  have hE := hEA.1
  have hS : va_S (fun q => s.heap.size ≤ q) s.heap s.heap [] := va_S.rf
  have hl := lv_entry ([.ref b]) (n := 4) (Nat.le_of_ble_eq_true rfl)
  rw [lg_entry_eq]
  generalize (lg_sl ([.ref b]) ++ List.replicate (4 - (lg_sl ([.ref b])).length) Slot.unset).toArray = ls at hl ⊢
  have hl : lv_has ls 4 [(0, .ref b)] := hl
  refine x_newO S hE hS (ci := 7) (C := RX7) (T := TX7) (N := 7) (fs := [.null, .null, .null, .null, .null, .null, .null]) rfl inlX7 tyX7 tyX7_ok kw1_0 kw1_1 kw1_2 (fun j hj => by rcases (show j = 0 ∨ j = 1 ∨ j = 2 ∨ j = 3 ∨ j = 4 ∨ j = 5 ∨ j = 6 by omega) with rfl | rfl | rfl | rfl | rfl | rfl | rfl <;> rfl) (Nat.le_of_ble_eq_true rfl) (Nat.le_of_ble_eq_true rfl) dL_law_0 (z := s.heap.size) rfl (fun H hX7 hz hK hS => ?_)
  refine W.widen (k := 1) (n := 7) (Nat.le_of_ble_eq_true rfl) (Nat.le_of_ble_eq_true rfl) ?_
  refine lv_dup S.1 S.2.1 dL_law_3 rfl ?_
  refine xk_C (x_runI (As := []) (rest := [.ref s.heap.size]) S hEA hS (fun q h => h) (c_X7_init l E s.heap.size _ hQt hz hX7) kv_X7_init kw1_6 kw1_7 rfl ⟨Nat.le_of_ble_eq_true rfl, Nat.le_of_ble_eq_true rfl⟩ rfl rfl rfl hl.1 rfl (Nat.le_of_ble_eq_true rfl) dL_law_4 ⟨Nat.le_of_ble_eq_true rfl, Nat.le_of_ble_eq_true rfl⟩) hS (fun q h => h) (fun H locs hB hS => ?_)
  obtain ⟨hP, hz, hK⟩ := hB
  refine W.widen (k := 118) (n := 9142) (Nat.le_of_ble_eq_true rfl) (Nat.le_of_ble_eq_true rfl) ?_
  refine lv_astore_n (lv' := [(1, .ref s.heap.size), (0, .ref b)]) S.1 S.2.1 dL_law_7 rfl hl (by decide) rfl (fun ls hl => ?_)
  refine x_newO S hE hS (ci := 8) (C := RX8) (T := TX8) (N := 10) (fs := [.null, .null, .null, .int (nI 0), .null, .int (nI 0), .int (nI 0), .null, .null, .null]) rfl inlX8 tyX8 tyX8_ok kw1_3 kw1_4 kw1_5 (fun j hj => by rcases (show j = 0 ∨ j = 1 ∨ j = 2 ∨ j = 3 ∨ j = 4 ∨ j = 5 ∨ j = 6 ∨ j = 7 ∨ j = 8 ∨ j = 9 by omega) with rfl | rfl | rfl | rfl | rfl | rfl | rfl | rfl | rfl | rfl <;> rfl) (Nat.le_of_ble_eq_true rfl) (Nat.le_of_ble_eq_true rfl) dL_law_8 (z := s.heap.size + 118) hz (fun H1 hX8 hz1 hK1 hS => ?_)
  have hP := hP.fr (H1 := H1) (fun q hq => hK1 q hq.2)
  refine W.widen (k := 119) (n := 9152) (Nat.le_of_ble_eq_true rfl) (Nat.le_of_ble_eq_true rfl) ?_
  refine lv_dup S.1 S.2.1 dL_law_11 rfl ?_
  refine xk_C (x_runI (As := []) (rest := [.ref (s.heap.size + 118)]) S hEA hS (fun q h => Nat.le_trans (Nat.le_add_right _ 118) h) (c_X8_init l E (s.heap.size + 118) _ hz1 hX8) kv_X8_init kw7_2 kw7_3 rfl ⟨Nat.le_of_ble_eq_true rfl, Nat.le_of_ble_eq_true rfl⟩ rfl rfl rfl hl.1 rfl (Nat.le_of_ble_eq_true rfl) dL_law_12 ⟨Nat.le_of_ble_eq_true rfl, Nat.le_of_ble_eq_true rfl⟩) hS (fun q h => Nat.le_trans (Nat.le_add_right _ 118) h) (fun H2 locs2 hB2 hS => ?_)
  obtain ⟨hM, hz2, hK2⟩ := hB2
  have hP := hP.fr (H1 := H2) (fun q hq => hK2 q hq.2)
  refine W.widen (k := 600000) (n := 7302250) (Nat.le_of_ble_eq_true rfl) (Nat.le_of_ble_eq_true rfl) ?_
  refine lv_astore_n (lv' := [(2, .ref (s.heap.size + 118)), (1, .ref s.heap.size), (0, .ref b)]) S.1 S.2.1 dL_law_15 rfl hl (by decide) rfl (fun ls hl => ?_)
  refine lv_iconst (v := nI 0) S.1 S.2.1 dL_law_16 (by decide) ?_
  refine lv_istore_n (lv' := [(3, .int (nI 0)), (2, .ref (s.heap.size + 118)), (1, .ref s.heap.size), (0, .ref b)]) S.1 S.2.1 dL_law_17 rfl hl (by decide) rfl (fun ls hl => ?_)
  exact lw_loop S hEA hX hbl hL hr hlk L 0 (by omega) (Nat.zero_le L) _ _ _ _ _ hP hM jr_start hS hl
