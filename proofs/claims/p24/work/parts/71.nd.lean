/-! 71.nd: an int of the script; the law's start and its refused calls -/
def lwC (L : Nat) (xs : Nat → Int32) (i : Nat) : Int32 := if i < L then xs i else nI 40503 * (nI i + nI 3)
abbrev rm_L_cell : Room := ({ frames := 0, cells := 0, slots := 0, locals := 0 } : Room)
theorem c_L_cell (l : Launch) (E : XE) (bb L i : Nat) (xs : Nat → Int32) (H : Heap) (hL : L ≤ 260) (hi : i ≤ 260) : Rx l E yL_cell cL_cell 2 (some .int) rm_L_cell [.ref bb, .int (nI i)] H bb L xs (lwC L xs i) := by
  refine met_ofX (by decide) (Nat.le_of_ble_eq_true rfl) (fun p e s m args below meth c hBD hX Q hQ ls hl => ?_)
  obtain ⟨S, hr, hlk, hnm, hE, hH⟩ := hBD
  subst hH
  have hl : lv_has ls 2 [(0, .ref bb), (1, .int (nI i))] := hl
  have hS : va_S (fun _ => False) s.heap s.heap [] := va_S.rf
  have hbl : bb < s.heap.size := by obtain ⟨scr, h1, -⟩ := hX; exact (Array.getElem?_eq_some_iff.mp h1).1
  refine lv_iload_n S.1 S.2.1 dL_cell_0 rfl (lv_at hl 1 rfl) ?_
  refine lv_aload_n S.1 S.2.1 dL_cell_1 rfl (lv_at hl 0 rfl) ?_
  refine va_slen S.1 S.2.1 hX hbl (fun z => z) hS dL_cell_2 ?_
  refine lv_icmp_ge (tgt := 12) S.1 S.2.1 dL_cell_3 rfl (fun h1 => ?_) (fun h1 => ?_)
  · skip
    refine lv_ldc (v := 40503) S.1 S.2.1 S.2.2.2.1 (S.2.2.2.2 _ kw15_21) dL_cell_12 ?_
    refine x_top (y := (nI 40503)) (by decide) ?_
    refine lv_iload_n S.1 S.2.1 dL_cell_14 rfl (lv_at hl 1 rfl) ?_
    refine lv_iconst (v := (nI 3)) S.1 S.2.1 dL_cell_15 (by decide) ?_
    refine lv_iadd S.1 S.2.1 dL_cell_16 ?_
    refine lv_imul S.1 S.2.1 dL_cell_17 ?_
    subst hQ
    exact x_retR S hr hlk (rfl) (by rw [lwC, if_neg (by have := ge_of_le (by omega) (by omega) h1; omega)]) dL_cell_18
  · skip
    refine lv_aload_n S.1 S.2.1 dL_cell_6 rfl (lv_at hl 0 rfl) ?_
    refine lv_iload_n S.1 S.2.1 dL_cell_7 rfl (lv_at hl 1 rfl) ?_
    refine va_sld S.1 S.2.1 hX hbl (fun z => z) hS (vp_in_nI (lt_of_nle (by omega) (by omega) h1) (by omega)) dL_cell_8 ?_
    refine x_top (y := (xs i)) (by rw [nI_clamp (by omega)]) ?_
    refine lv_goto (tgt := 18) S.1 S.2.1 dL_cell_9 rfl ?_
    subst hQ
    exact x_retR S hr hlk (rfl) (by rw [lwC, if_pos (lt_of_nle (by omega) (by omega) h1)]) dL_cell_18
theorem s0_sc : SC True 0 χ0 σ0 := by
  refine ⟨by omega, by decide +kernel, by decide +kernel, ?_, ?_, ⟨4, by omega, by omega, by decide +kernel⟩, ⟨0, by omega, by decide +kernel⟩, 2500, by omega, by omega, by decide +kernel⟩
  · intro j h1 h2 _
    rcases (show j = 1 ∨ j = 2 ∨ j = 3 ∨ j = 4 by omega) with rfl | rfl | rfl | rfl <;> decide +kernel
  · intro j h1
    rcases (show j = 0 ∨ j = 1 ∨ j = 2 by omega) with rfl | rfl | rfl <;> decide +kernel
theorem s0_fo : Fo χ0 σ0 := by
  refine ⟨7, by omega, by decide +kernel, by decide +kernel, ?_, by decide +kernel⟩
  intro j hj
  rcases (show j = 0 ∨ j = 1 ∨ j = 2 ∨ j = 3 ∨ j = 4 ∨ j = 5 ∨ j = 6 by omega) with rfl | rfl | rfl | rfl | rfl | rfl | rfl <;> decide +kernel
theorem s0_lz : LZ 0 0 σ0 [] [] [] := by
  have no {p : Nat → Prop} : ∀ k : Nat, k ∈ ([] : List Nat) ↔ k < 0 ∧ p k := fun k => ⟨fun h => absurd h List.not_mem_nil, fun h => absurd h.1 (Nat.not_lt_zero k)⟩
  exact ⟨no, no, no, List.Pairwise.nil, List.nodup_nil, List.Pairwise.nil, Nat.zero_le _, Nat.zero_le _, Nat.zero_le _, fun a h => absurd h List.not_mem_nil, 0, by decide +kernel, Nat.le_refl 0, fun k h => absurd h List.not_mem_nil⟩
theorem s0_st : St 0 0 χ0 σ0 := ⟨[], [], [], ⟨s0_sc, fun k h => absurd h (Nat.not_lt_zero k), s0_lz, rfl, rfl, rfl⟩, Nat.zero_le _, s0_fo⟩
theorem tr_start : TR 0 0 (χ0, (fun _ => χ0), 0, []) σ0 :=
  ⟨s0_st, Nat.le_refl 0, fun k h => absurd h (Nat.not_lt_zero k), fun _ _ _ => rfl, rfl, 0, by decide +kernel, Nat.zero_le _⟩
theorem σ0_hi {j : Nat} (h : 17 ≤ j) : σ0 j = 0 := by
  unfold σ0
  rw [pk_un (by omega), pk_un (by omega), pk_un (by omega), pk_un (by omega), pk_un (by omega), pk_un (by omega), pk_un (by omega), pk_un (by omega), pk_un (by omega), pk_un (by omega)]
theorem σ0_lo {j : Nat} (h : j < 9) : σ0 j = upd (upd (fun _ => 0) 6 (nI 4)) 8 (nI 2500) j := by
  unfold σ0
  rw [pk_un (by omega), pk_un (by omega), pk_un (by omega), pk_un (by omega), pk_un (by omega), pk_un (by omega), pk_un (by omega), pk_un (by omega)]
theorem lw_0 {E : XE} {a b : Nat} {H : Heap} (hg : XI E a 9 (upd (upd (fun _ => 0) 6 (nI 4)) 8 (nI 2500)) H) (hc : XL E b 64 (fun _ => 0) H) : LwP E a b σ0 H := by
  refine ⟨xi_ext hg (fun j hj => (σ0_lo hj).symm), _, hc, fun k w hk hw => ?_⟩
  unfold nf
  rw [σ0_hi (by omega)]
  show (0 : Int32) = nI (fvN 0 (fAt w) (fBt w))
  have e : fvN 0 (fAt w) (fBt w) = 0 := by
    unfold fvN
    rw [show (0 : Int64).toBitVec.toNat = 0 from by decide, Nat.zero_div, Nat.zero_mod]
  rw [e, nI_0]
section
variable {C n : Nat} {β : BS} {σ : Nat → Int32}
theorem z_note (h : TR C n β σ) : bxNote β.1 (nI n) (nI 0) = (-1) := by
  obtain ⟨P, Q, D, h1, -⟩ := h.1
  rw [q_note h1]
  unfold rfNoteOf
  rw [if_neg (fun z => absurd z.2 Int32.lt_irrefl)]
theorem z_voice {χ : CS} : bxVoice χ (-1) = (-1) := by unfold bxVoice; rw [if_neg (by decide)]
theorem z_find1 {χ : CS} : bxFind χ (nI 4) (nI 0) = (-1) := by unfold bxFind; rw [if_neg (by unfold xPart; decide)]
theorem z_find2 {χ : CS} : bxFind χ (nI 0) (nI 128) = (-1) := by unfold bxFind; rw [if_pos (by unfold xPart; decide), if_neg (by unfold xPitch; decide)]
theorem z_part1 {χ : CS} : bxPartOf χ (nI 4) (nI 0) = (-1) := by unfold bxPartOf; rw [if_neg (by unfold xPart; decide)]
theorem z_part2 {χ : CS} : bxPartOf χ (nI 0) (nI 5) = (-1) := by unfold bxPartOf; rw [if_pos (by unfold xPart; decide), if_neg (by decide), if_neg (by decide), if_neg (by decide), if_neg (by decide), if_neg (by decide)]
theorem ld_0 {z : Nat} : LD z (z + 118) (z + 119) := ⟨by omega, fun h => by have := h.2; omega, fun h => by have := h.2; omega⟩
end
