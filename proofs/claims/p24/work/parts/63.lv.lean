/-! 63.lv: walks of the law's own methods, by program -/
abbrev rm_L_get : Room := ({ frames := 0, cells := 0, slots := 0, locals := 0 } : Room)
set_option maxRecDepth 100000 in
set_option maxHeartbeats 600000 in
theorem c_L_get (l : Launch) (E : XE) (v : Int64) (a b : Int32) (H : Heap) : Rd l E yL_get cL_get 4 (some .int) rm_L_get [.long v, .int a, .int b] H (lwG v a b) := by
  refine met_of (by decide) (Nat.le_of_ble_eq_true rfl) (fun p e s m args below meth c hBD Q hQ ls hl => ?_)
  obtain ⟨S, hr, hlk, hnm, hE, hH⟩ := hBD
  subst hH
  have hl : lv_has ls 4 [(0, .long v), (2, .int a), (3, .int b)] := hl
  have hS : va_S (fun _ => False) s.heap s.heap [] := va_S.rf
  refine lv_lload_n S.1 S.2.1 dL_get_0 rfl (lv_at hl 0 rfl) ?_
  refine lv_iload_n S.1 S.2.1 dL_get_1 rfl (lv_at hl 1 rfl) ?_
  refine lv_lshr S.1 S.2.1 dL_get_2 rfl ?_
  refine lv_lconst (v := 1) S.1 S.2.1 dL_get_3 rfl ?_
  refine lv_iload_n S.1 S.2.1 dL_get_4 rfl (lv_at hl 2 rfl) ?_
  refine lv_lshl S.1 S.2.1 dL_get_5 rfl ?_
  refine lv_lconst (v := 1) S.1 S.2.1 dL_get_6 rfl ?_
  refine lv_lsub S.1 S.2.1 dL_get_7 ?_
  refine lv_land S.1 S.2.1 dL_get_8 ?_
  refine lv_l2i S.1 S.2.1 dL_get_9 rfl ?_
  subst hQ
  exact x_retR S hr hlk (rfl) (rfl) dL_get_10
abbrev rm_L_put : Room := ({ frames := 0, cells := 0, slots := 0, locals := 0 } : Room)
set_option maxRecDepth 100000 in
set_option maxHeartbeats 600000 in
theorem c_L_put (l : Launch) (E : XE) (v : Int64) (a b t : Int32) (H : Heap) : Rl l E yL_put cL_put 5 (some .long) rm_L_put [.long v, .int a, .int b, .int t] H (lwP v a b t) := by
  refine met_of (by decide) (Nat.le_of_ble_eq_true rfl) (fun p e s m args below meth c hBD Q hQ ls hl => ?_)
  obtain ⟨S, hr, hlk, hnm, hE, hH⟩ := hBD
  subst hH
  have hl : lv_has ls 5 [(0, .long v), (2, .int a), (3, .int b), (4, .int t)] := hl
  have hS : va_S (fun _ => False) s.heap s.heap [] := va_S.rf
  refine lv_lload_n S.1 S.2.1 dL_put_0 rfl (lv_at hl 0 rfl) ?_
  refine lv_lconst (v := 1) S.1 S.2.1 dL_put_1 rfl ?_
  refine lv_iload_n S.1 S.2.1 dL_put_2 rfl (lv_at hl 2 rfl) ?_
  refine lv_lshl S.1 S.2.1 dL_put_3 rfl ?_
  refine lv_lconst (v := 1) S.1 S.2.1 dL_put_4 rfl ?_
  refine lv_lsub S.1 S.2.1 dL_put_5 ?_
  refine lv_iload_n S.1 S.2.1 dL_put_6 rfl (lv_at hl 1 rfl) ?_
  refine lv_lshl S.1 S.2.1 dL_put_7 rfl ?_
  refine lv_ldc2 (v := (-1)) S.1 S.2.1 S.2.2.2.1 (S.2.2.2.2 _ kw7_5) dL_put_8 ?_
  refine lv_lxor S.1 S.2.1 dL_put_11 ?_
  refine lv_land S.1 S.2.1 dL_put_12 ?_
  refine lv_iload S.1 S.2.1 dL_put_13 (lv_at hl 3 rfl) ?_
  refine lv_i2l S.1 S.2.1 dL_put_15 rfl ?_
  refine lv_iload_n S.1 S.2.1 dL_put_16 rfl (lv_at hl 1 rfl) ?_
  refine lv_lshl S.1 S.2.1 dL_put_17 rfl ?_
  refine lv_lor S.1 S.2.1 dL_put_18 ?_
  subst hQ
  exact x_retL S hr hlk (rfl) dL_put_19
abbrev rm_L_is : Room := ({ frames := 1, cells := 0, slots := 0, locals := 23 } : Room)
set_option maxRecDepth 100000 in
set_option maxHeartbeats 600000 in
theorem c_L_is (l : Launch) (E : XE) (v : Int64) (H : Heap) : Rd l E yL_is cL_is 2 (some .int) rm_L_is [.long v] H (fld 3 v) := by
  refine met_of (by decide) (Nat.le_of_ble_eq_true rfl) (fun p e s m args below meth c hBD Q hQ ls hl => ?_)
  obtain ⟨S, hr, hlk, hnm, hE, hH⟩ := hBD
  subst hH
  have hl : lv_has ls 2 [(0, .long v)] := hl
  have hS : va_S (fun _ => False) s.heap s.heap [] := va_S.rf
  refine lv_lload_n S.1 S.2.1 dL_is_0 rfl (lv_at hl 0 rfl) ?_
  refine lv_bipush (v := (nI 16)) S.1 S.2.1 dL_is_1 (by decide) ?_
  refine lv_iconst (v := (nI 3)) S.1 S.2.1 dL_is_3 (by decide) ?_
  refine xk_R (v := (lwG v (nI 16) (nI 3))) (x_runS (As := [.long v, .int (nI 16), .int (nI 3)]) (rest := []) S hE hS (fun _ h => h.elim) (c_L_get l E v (nI 16) (nI 3) _) kv_L_get kw7_12 kw7_13 ⟨Nat.le_of_ble_eq_true rfl, Nat.le_of_ble_eq_true rfl⟩ rfl rfl rfl hl.1 rfl (Nat.le_of_ble_eq_true rfl) dL_is_4 ⟨Nat.zero_le _, Nat.zero_le _⟩) ?_
  refine x_top (y := (fld 3 v)) (lwG_eq _ (by decide) (by decide)) ?_
  subst hQ
  exact x_retR S hr hlk (rfl) (rfl) dL_is_7
abbrev rm_L_level : Room := ({ frames := 1, cells := 0, slots := 0, locals := 23 } : Room)
set_option maxRecDepth 100000 in
set_option maxHeartbeats 600000 in
theorem c_L_level (l : Launch) (E : XE) (v : Int64) (H : Heap) : Rd l E yL_level cL_level 2 (some .int) rm_L_level [.long v] H (fld 4 v) := by
  refine met_of (by decide) (Nat.le_of_ble_eq_true rfl) (fun p e s m args below meth c hBD Q hQ ls hl => ?_)
  obtain ⟨S, hr, hlk, hnm, hE, hH⟩ := hBD
  subst hH
  have hl : lv_has ls 2 [(0, .long v)] := hl
  have hS : va_S (fun _ => False) s.heap s.heap [] := va_S.rf
  refine lv_lload_n S.1 S.2.1 dL_level_0 rfl (lv_at hl 0 rfl) ?_
  refine lv_bipush (v := (nI 19)) S.1 S.2.1 dL_level_1 (by decide) ?_
  refine lv_bipush (v := (nI 11)) S.1 S.2.1 dL_level_3 (by decide) ?_
  refine xk_R (v := (lwG v (nI 19) (nI 11))) (x_runS (As := [.long v, .int (nI 19), .int (nI 11)]) (rest := []) S hE hS (fun _ h => h.elim) (c_L_get l E v (nI 19) (nI 11) _) kv_L_get kw7_12 kw7_13 ⟨Nat.le_of_ble_eq_true rfl, Nat.le_of_ble_eq_true rfl⟩ rfl rfl rfl hl.1 rfl (Nat.le_of_ble_eq_true rfl) dL_level_5 ⟨Nat.zero_le _, Nat.zero_le _⟩) ?_
  refine x_top (y := (fld 4 v)) (lwG_eq _ (by decide) (by decide)) ?_
  subst hQ
  exact x_retR S hr hlk (rfl) (rfl) dL_level_8
abbrev rm_L_placed : Room := ({ frames := 2, cells := 0, slots := 0, locals := 44 } : Room)
set_option maxRecDepth 100000 in
set_option maxHeartbeats 600000 in
theorem c_L_placed (l : Launch) (E : XE) (v : Int64) (H : Heap) : Rd l E yL_placed cL_placed 2 (some .boolean) rm_L_placed [.long v] H (bI (nI 1 ≤ fld 3 v ∧ fld 3 v ≤ nI 4)) := by
  refine met_of (by decide) (Nat.le_of_ble_eq_true rfl) (fun p e s m args below meth c hBD Q hQ ls hl => ?_)
  obtain ⟨S, hr, hlk, hnm, hE, hH⟩ := hBD
  subst hH
  have hl : lv_has ls 2 [(0, .long v)] := hl
  have hS : va_S (fun _ => False) s.heap s.heap [] := va_S.rf
  refine lv_lload_n S.1 S.2.1 dL_placed_0 rfl (lv_at hl 0 rfl) ?_
  refine xk_R (v := (fld 3 v)) (x_runS (As := [.long v]) (rest := []) S hE hS (fun _ h => h.elim) (c_L_is l E v _) kv_L_is kw7_9 kw7_10 ⟨Nat.le_of_ble_eq_true rfl, Nat.le_of_ble_eq_true rfl⟩ rfl rfl rfl hl.1 rfl (Nat.le_of_ble_eq_true rfl) dL_placed_1 ⟨Nat.zero_le _, Nat.zero_le _⟩) ?_
  refine lv_if_le (tgt := 19) S.1 S.2.1 dL_placed_4 rfl (fun h1 => ?_) (fun h1 => ?_)
  · skip
    refine lv_iconst (v := (nI 0)) S.1 S.2.1 dL_placed_19 (by decide) ?_
    subst hQ
    exact x_retR S hr hlk (by first | rfl | decide | exact bI_nar _) (bI_f (pl_f (by first | exact Or.inl h1 | exact Or.inr h2))) dL_placed_20
  · skip
    refine lv_lload_n S.1 S.2.1 dL_placed_7 rfl (lv_at hl 0 rfl) ?_
    refine xk_R (v := (fld 3 v)) (x_runS (As := [.long v]) (rest := []) S hE hS (fun _ h => h.elim) (c_L_is l E v _) kv_L_is kw7_9 kw7_10 ⟨Nat.le_of_ble_eq_true rfl, Nat.le_of_ble_eq_true rfl⟩ rfl rfl rfl hl.1 rfl (Nat.le_of_ble_eq_true rfl) dL_placed_8 ⟨Nat.zero_le _, Nat.zero_le _⟩) ?_
    refine lv_iconst (v := (nI 5)) S.1 S.2.1 dL_placed_11 (by decide) ?_
    refine lv_icmp_ge (tgt := 19) S.1 S.2.1 dL_placed_12 rfl (fun h2 => ?_) (fun h2 => ?_)
    · skip
      refine lv_iconst (v := (nI 0)) S.1 S.2.1 dL_placed_19 (by decide) ?_
      subst hQ
      exact x_retR S hr hlk (by first | rfl | decide | exact bI_nar _) (bI_f (pl_f (by first | exact Or.inl h1 | exact Or.inr h2))) dL_placed_20
    · skip
      refine lv_iconst (v := (nI 1)) S.1 S.2.1 dL_placed_15 (by decide) ?_
      refine lv_goto (tgt := 20) S.1 S.2.1 dL_placed_16 rfl ?_
      subst hQ
      exact x_retR S hr hlk (by first | rfl | decide | exact bI_nar _) (bI_t (pl_t h1 h2)) dL_placed_20
abbrev rm_L_low : Room := ({ frames := 0, cells := 0, slots := 0, locals := 0 } : Room)
set_option maxRecDepth 100000 in
set_option maxHeartbeats 600000 in
theorem c_L_low (l : Launch) (E : XE) (v : Int32) (n : Int32) (H : Heap) (hn : ¬ n = 0) : Rd l E yL_low cL_low 2 (some .int) rm_L_low [.int v, .int n] H (lowF v n) := by
  refine met_of (by decide) (Nat.le_of_ble_eq_true rfl) (fun p e s m args below meth c hBD Q hQ ls hl => ?_)
  obtain ⟨S, hr, hlk, hnm, hE, hH⟩ := hBD
  subst hH
  have hl : lv_has ls 2 [(0, .int v), (1, .int n)] := hl
  have hS : va_S (fun _ => False) s.heap s.heap [] := va_S.rf
  refine lv_iload_n S.1 S.2.1 dL_low_0 rfl (lv_at hl 0 rfl) ?_
  refine lv_ldc (v := 2147483647) S.1 S.2.1 S.2.2.2.1 (S.2.2.2.2 _ kw1_5) dL_low_1 ?_
  refine x_top (y := (nI 2147483647)) (by decide) ?_
  refine lv_iand S.1 S.2.1 dL_low_3 ?_
  refine lv_iload_n S.1 S.2.1 dL_low_4 rfl (lv_at hl 1 rfl) ?_
  refine lv_irem S.1 S.2.1 dL_low_5 (hn) ?_
  subst hQ
  exact x_retR S hr hlk (rfl) (rfl) dL_low_6
abbrev rm_L_share : Room := ({ frames := 0, cells := 0, slots := 0, locals := 0 } : Room)
set_option maxRecDepth 100000 in
set_option maxHeartbeats 600000 in
theorem c_L_share (l : Launch) (E : XE) (v w : Int32) (H : Heap) (hv : ∃ a, a < 2 ^ 20 ∧ v = nI a) (hw : ∃ b, 0 < b ∧ b < 100 ∧ w = nI b) : Rd l E yL_share cL_share 2 (some .int) rm_L_share [.int v, .int w] H (rfUp v w) := by
  refine met_of (by decide) (Nat.le_of_ble_eq_true rfl) (fun p e s m args below meth c hBD Q hQ ls hl => ?_)
  obtain ⟨S, hr, hlk, hnm, hE, hH⟩ := hBD
  subst hH
  have hl : lv_has ls 2 [(0, .int v), (1, .int w)] := hl
  have hS : va_S (fun _ => False) s.heap s.heap [] := va_S.rf
  obtain ⟨a, ha, ea⟩ := hv
  obtain ⟨b, hb, hb2, eb⟩ := hw
  have hw0 : ¬ w = 0 := by rw [eb]; exact fun z => absurd ((nI_eq (a := b) (b := 0) (by omega) (by omega)).mp z) (by omega)
  refine lv_iload_n S.1 S.2.1 dL_share_0 rfl (lv_at hl 0 rfl) ?_
  refine lv_iload_n S.1 S.2.1 dL_share_1 rfl (lv_at hl 1 rfl) ?_
  refine lv_idiv S.1 S.2.1 dL_share_2 (hw0) ?_
  refine lv_iload_n S.1 S.2.1 dL_share_3 rfl (lv_at hl 0 rfl) ?_
  refine lv_iload_n S.1 S.2.1 dL_share_4 rfl (lv_at hl 1 rfl) ?_
  refine lv_irem S.1 S.2.1 dL_share_5 (hw0) ?_
  refine lv_if_le (tgt := 13) S.1 S.2.1 dL_share_6 rfl (fun h1 => ?_) (fun h1 => ?_)
  · skip
    refine lv_iconst (v := (nI 0)) S.1 S.2.1 dL_share_13 (by decide) ?_
    refine lv_iadd S.1 S.2.1 dL_share_14 ?_
    subst hQ
    exact x_retR S hr hlk (rfl) (by rw [ea, eb] at *; first | exact sh_t ha hb hb2 h1 | exact sh_f ha hb hb2 h1) dL_share_15
  · skip
    refine lv_iconst (v := (nI 1)) S.1 S.2.1 dL_share_9 (by decide) ?_
    refine lv_goto (tgt := 14) S.1 S.2.1 dL_share_10 rfl ?_
    refine lv_iadd S.1 S.2.1 dL_share_14 ?_
    subst hQ
    exact x_retR S hr hlk (rfl) (by rw [ea, eb] at *; first | exact sh_t ha hb hb2 h1 | exact sh_f ha hb hb2 h1) dL_share_15
abbrev rm_L_many : Room := ({ frames := 3, cells := 0, slots := 0, locals := 65 } : Room)
set_option maxRecDepth 100000 in
set_option maxHeartbeats 600000 in
theorem c_L_many_0 (l : Launch) (E : XE) (a b n : Nat) (σ : Nat → Int32) (H : Heap) (hEL : EL E) (hL : LwP E a b σ H) (h0 : σ 0 = nI n) (hn : n ≤ 64) : Rd l E yL_many cL_many 5 (some .int) rm_L_many [.ref a, .ref b, .int (nI 9)] H (rfPlc σ n) := by
  refine met_of (by decide) (Nat.le_of_ble_eq_true rfl) (fun p e s m args below meth c hBD Q hQ ls hl => ?_)
  obtain ⟨S, hr, hlk, hnm, hE, hH⟩ := hBD
  subst hH
  have hl : lv_has ls 5 [(0, .ref a), (1, .ref b), (2, .int (nI 9))] := hl
  have hS : va_S (fun _ => False) s.heap s.heap [] := va_S.rf
  obtain ⟨hg, κ, hc, hU⟩ := hL
  refine lv_iconst (v := (nI 0)) S.1 S.2.1 dL_many_0 (by decide) ?_
  refine lv_istore_n S.1 S.2.1 dL_many_1 rfl hl (by decide) rfl (fun ls hl => ?_)
  have hl : lv_has ls 5 [(3, .int (nI 0)), (0, .ref a), (1, .ref b), (2, .int (nI 9))] := hl
  refine lv_iconst (v := (nI 0)) S.1 S.2.1 dL_many_2 (by decide) ?_
  refine lv_istore S.1 S.2.1 dL_many_3 hl (by decide) rfl (fun ls hl => ?_)
  have hl : lv_has ls 5 [(4, .int (nI 0)), (3, .int (nI 0)), (0, .ref a), (1, .ref b), (2, .int (nI 9))] := hl
  have hloop5 : ∀ (d : Nat) (i : Nat) (ls : Array Slot), n - i = d → i ≤ n → lv_has ls 5 [(3, .int (rfPlc σ i)), (4, .int (nI i)), (2, .int (nI 9)), (0, .ref a), (1, .ref b)] → W p l e rm_L_many s m args below meth c s.heap [] 0 0 Q (F0 m 5 ls []) := by
    intro d
    induction d using Nat.strongRecOn with
    | ind d ih =>
      intro i ls hd hi  hl
      refine lv_iload S.1 S.2.1 dL_many_5 (lv_at hl 1 rfl) ?_
      refine lv_aload_n S.1 S.2.1 dL_many_7 rfl (lv_at hl 3 rfl) ?_
      refine lv_iconst (v := (nI 0)) S.1 S.2.1 dL_many_8 (by decide) ?_
      refine x_iald S hE (hg) 0 rfl (by decide) (by decide) dL_many_9 ?_
      refine x_top (y := (nI n)) (h0) ?_
      refine lv_icmp_ge (tgt := 62) S.1 S.2.1 dL_many_10 rfl (fun h1 => ?_) (fun h1 => ?_)
      · skip
        refine lv_iload_n S.1 S.2.1 dL_many_62 rfl (lv_at hl 0 rfl) ?_
        subst hQ
        exact x_retR S hr hlk (rfl) (by rw [show i = n from (by have := ge_of_le (by omega) (by omega) h1; omega)]) dL_many_63
      · skip
        have hlt := lt_of_nle (by omega) (by omega) h1
        refine lv_iload_n S.1 S.2.1 dL_many_13 rfl (lv_at hl 0 rfl) ?_
        refine lv_iload_n S.1 S.2.1 dL_many_14 rfl (lv_at hl 2 rfl) ?_
        refine lv_bipush (v := (nI 9)) S.1 S.2.1 dL_many_15 (by decide) ?_
        refine lv_icmp_ne (tgt := 38) S.1 S.2.1 dL_many_17 rfl (fun h2 => ?_) (fun h2 => ?_)
        · exact absurd h2 (by decide)
        · skip
          refine lv_aload_n S.1 S.2.1 dL_many_20 rfl (lv_at hl 4 rfl) ?_
          refine lv_iload S.1 S.2.1 dL_many_21 (lv_at hl 1 rfl) ?_
          refine x_lald S hE hEL (hc) i rfl (by omega) (by decide) dL_many_23 ?_
          refine xk_R (v := (bI (nI 1 ≤ fld 3 (κ i) ∧ fld 3 (κ i) ≤ nI 4))) (x_runS (As := [.long (κ i)]) (rest := [.int (rfPlc σ i)]) S hE hS (fun _ h => h.elim) (c_L_placed l E (κ i) _) kv_L_placed kw7_18 kw7_19 ⟨Nat.le_of_ble_eq_true rfl, Nat.le_of_ble_eq_true rfl⟩ rfl rfl rfl hl.1 rfl (Nat.le_of_ble_eq_true rfl) dL_many_24 ⟨Nat.zero_le _, Nat.zero_le _⟩) ?_
          refine x_top (y := (bI (rfPl σ i))) (bI_iff (by show _ ↔ (nI 1 ≤ nf σ i 3 ∧ nf σ i 3 ≤ nI 4); rw [hU i 3 (by omega) (by decide)])) ?_
          refine lv_if_eq (tgt := 34) S.1 S.2.1 dL_many_27 rfl (fun h3 => ?_) (fun h3 => ?_)
          · skip
            have h3 := bI_0 h3
            refine lv_iconst (v := (nI 0)) S.1 S.2.1 dL_many_34 (by decide) ?_
            refine lv_goto (tgt := 54) S.1 S.2.1 dL_many_35 rfl ?_
            refine lv_iadd S.1 S.2.1 dL_many_54 ?_
            refine lv_istore_n S.1 S.2.1 dL_many_55 rfl hl (by decide) rfl (fun ls hl => ?_)
            have hl : lv_has ls 5 [(3, .int ((rfPlc σ i) + (nI 0))), (4, .int (nI i)), (2, .int (nI 9)), (0, .ref a), (1, .ref b)] := hl
            refine lv_iinc (k := 1) (v := (nI (i + 1))) S.1 S.2.1 dL_many_56 hl rfl (iincP i 1) (by decide) rfl (fun ls hl => ?_)
            have hl : lv_has ls 5 [(4, .int (nI (i + 1))), (3, .int ((rfPlc σ i) + (nI 0))), (2, .int (nI 9)), (0, .ref a), (1, .ref b)] := hl
            refine lv_goto (tgt := 5) S.1 S.2.1 dL_many_59 rfl ?_
            have hl : lv_has ls 5 [(3, .int (rfPlc σ (i + 1))), (4, .int (nI (i + 1))), (2, .int (nI 9)), (0, .ref a), (1, .ref b)] := by
              rw [show (rfPlc σ (i + 1)) = ((rfPlc σ i) + (nI 0)) from by rw [rfPlc]; first | rw [if_pos h2] | rw [if_neg h2] | rw [if_pos h3] | rw [if_neg h3]]
              exact lv_sub hl [1, 0, 2, 3, 4] rfl
            exact ih _ (by omega) (i + 1) ls rfl (by omega)  (lv_sub hl [0, 1, 2, 3, 4] rfl)
          · skip
            have h3 := bI_n0 h3
            refine lv_iconst (v := (nI 1)) S.1 S.2.1 dL_many_30 (by decide) ?_
            refine lv_goto (tgt := 54) S.1 S.2.1 dL_many_31 rfl ?_
            refine lv_iadd S.1 S.2.1 dL_many_54 ?_
            refine lv_istore_n S.1 S.2.1 dL_many_55 rfl hl (by decide) rfl (fun ls hl => ?_)
            have hl : lv_has ls 5 [(3, .int ((rfPlc σ i) + (nI 1))), (4, .int (nI i)), (2, .int (nI 9)), (0, .ref a), (1, .ref b)] := hl
            refine lv_iinc (k := 1) (v := (nI (i + 1))) S.1 S.2.1 dL_many_56 hl rfl (iincP i 1) (by decide) rfl (fun ls hl => ?_)
            have hl : lv_has ls 5 [(4, .int (nI (i + 1))), (3, .int ((rfPlc σ i) + (nI 1))), (2, .int (nI 9)), (0, .ref a), (1, .ref b)] := hl
            refine lv_goto (tgt := 5) S.1 S.2.1 dL_many_59 rfl ?_
            have hl : lv_has ls 5 [(3, .int (rfPlc σ (i + 1))), (4, .int (nI (i + 1))), (2, .int (nI 9)), (0, .ref a), (1, .ref b)] := by
              rw [show (rfPlc σ (i + 1)) = ((rfPlc σ i) + (nI 1)) from by rw [rfPlc]; first | rw [if_pos h2] | rw [if_neg h2] | rw [if_pos h3] | rw [if_neg h3]]
              exact lv_sub hl [1, 0, 2, 3, 4] rfl
            exact ih _ (by omega) (i + 1) ls rfl (by omega)  (lv_sub hl [0, 1, 2, 3, 4] rfl)
  exact hloop5 _ 0 ls rfl (Nat.zero_le _)  (lv_sub hl [1, 0, 4, 2, 3] rfl)
set_option maxRecDepth 100000 in
set_option maxHeartbeats 600000 in
theorem c_L_many_z (l : Launch) (E : XE) (a b n : Nat) (σ : Nat → Int32) (z : Nat) (H : Heap) (hEL : EL E) (hL : LwP E a b σ H) (h0 : σ 0 = nI n) (hn : n ≤ 64) (hz : z < 9) : Rd l E yL_many cL_many 5 (some .int) rm_L_many [.ref a, .ref b, .int (nI z)] H (rfMany σ (nI z) n) := by
  refine met_of (by decide) (Nat.le_of_ble_eq_true rfl) (fun p e s m args below meth c hBD Q hQ ls hl => ?_)
  obtain ⟨S, hr, hlk, hnm, hE, hH⟩ := hBD
  subst hH
  have hl : lv_has ls 5 [(0, .ref a), (1, .ref b), (2, .int (nI z))] := hl
  have hS : va_S (fun _ => False) s.heap s.heap [] := va_S.rf
  obtain ⟨hg, κ, hc, hU⟩ := hL
  refine lv_iconst (v := (nI 0)) S.1 S.2.1 dL_many_0 (by decide) ?_
  refine lv_istore_n S.1 S.2.1 dL_many_1 rfl hl (by decide) rfl (fun ls hl => ?_)
  have hl : lv_has ls 5 [(3, .int (nI 0)), (0, .ref a), (1, .ref b), (2, .int (nI z))] := hl
  refine lv_iconst (v := (nI 0)) S.1 S.2.1 dL_many_2 (by decide) ?_
  refine lv_istore S.1 S.2.1 dL_many_3 hl (by decide) rfl (fun ls hl => ?_)
  have hl : lv_has ls 5 [(4, .int (nI 0)), (3, .int (nI 0)), (0, .ref a), (1, .ref b), (2, .int (nI z))] := hl
  have hloop5 : ∀ (d : Nat) (i : Nat) (ls : Array Slot), n - i = d → i ≤ n → lv_has ls 5 [(3, .int (rfMany σ (nI z) i)), (4, .int (nI i)), (2, .int (nI z)), (0, .ref a), (1, .ref b)] → W p l e rm_L_many s m args below meth c s.heap [] 0 0 Q (F0 m 5 ls []) := by
    intro d
    induction d using Nat.strongRecOn with
    | ind d ih =>
      intro i ls hd hi  hl
      refine lv_iload S.1 S.2.1 dL_many_5 (lv_at hl 1 rfl) ?_
      refine lv_aload_n S.1 S.2.1 dL_many_7 rfl (lv_at hl 3 rfl) ?_
      refine lv_iconst (v := (nI 0)) S.1 S.2.1 dL_many_8 (by decide) ?_
      refine x_iald S hE (hg) 0 rfl (by decide) (by decide) dL_many_9 ?_
      refine x_top (y := (nI n)) (h0) ?_
      refine lv_icmp_ge (tgt := 62) S.1 S.2.1 dL_many_10 rfl (fun h1 => ?_) (fun h1 => ?_)
      · skip
        refine lv_iload_n S.1 S.2.1 dL_many_62 rfl (lv_at hl 0 rfl) ?_
        subst hQ
        exact x_retR S hr hlk (rfl) (by rw [show i = n from (by have := ge_of_le (by omega) (by omega) h1; omega)]) dL_many_63
      · skip
        have hlt := lt_of_nle (by omega) (by omega) h1
        refine lv_iload_n S.1 S.2.1 dL_many_13 rfl (lv_at hl 0 rfl) ?_
        refine lv_iload_n S.1 S.2.1 dL_many_14 rfl (lv_at hl 2 rfl) ?_
        refine lv_bipush (v := (nI 9)) S.1 S.2.1 dL_many_15 (by decide) ?_
        refine lv_icmp_ne (tgt := 38) S.1 S.2.1 dL_many_17 rfl (fun h2 => ?_) (fun h2 => ?_)
        · skip
          refine lv_aload_n S.1 S.2.1 dL_many_38 rfl (lv_at hl 4 rfl) ?_
          refine lv_iload S.1 S.2.1 dL_many_39 (lv_at hl 1 rfl) ?_
          refine x_lald S hE hEL (hc) i rfl (by omega) (by decide) dL_many_41 ?_
          refine xk_R (v := (fld 3 (κ i))) (x_runS (As := [.long (κ i)]) (rest := [.int (rfMany σ (nI z) i)]) S hE hS (fun _ h => h.elim) (c_L_is l E (κ i) _) kv_L_is kw7_9 kw7_10 ⟨Nat.le_of_ble_eq_true rfl, Nat.le_of_ble_eq_true rfl⟩ rfl rfl rfl hl.1 rfl (Nat.le_of_ble_eq_true rfl) dL_many_42 ⟨Nat.zero_le _, Nat.zero_le _⟩) ?_
          refine x_top (y := (nf σ i 3)) ((hU i 3 (by omega) (by decide)).symm) ?_
          refine lv_iload_n S.1 S.2.1 dL_many_45 rfl (lv_at hl 2 rfl) ?_
          refine lv_icmp_ne (tgt := 53) S.1 S.2.1 dL_many_46 rfl (fun h3 => ?_) (fun h3 => ?_)
          · skip
            refine lv_iconst (v := (nI 0)) S.1 S.2.1 dL_many_53 (by decide) ?_
            refine lv_iadd S.1 S.2.1 dL_many_54 ?_
            refine lv_istore_n S.1 S.2.1 dL_many_55 rfl hl (by decide) rfl (fun ls hl => ?_)
            have hl : lv_has ls 5 [(3, .int ((rfMany σ (nI z) i) + (nI 0))), (4, .int (nI i)), (2, .int (nI z)), (0, .ref a), (1, .ref b)] := hl
            refine lv_iinc (k := 1) (v := (nI (i + 1))) S.1 S.2.1 dL_many_56 hl rfl (iincP i 1) (by decide) rfl (fun ls hl => ?_)
            have hl : lv_has ls 5 [(4, .int (nI (i + 1))), (3, .int ((rfMany σ (nI z) i) + (nI 0))), (2, .int (nI z)), (0, .ref a), (1, .ref b)] := hl
            refine lv_goto (tgt := 5) S.1 S.2.1 dL_many_59 rfl ?_
            have hl : lv_has ls 5 [(3, .int (rfMany σ (nI z) (i + 1))), (4, .int (nI (i + 1))), (2, .int (nI z)), (0, .ref a), (1, .ref b)] := by
              rw [show (rfMany σ (nI z) (i + 1)) = ((rfMany σ (nI z) i) + (nI 0)) from by rw [rfMany]; first | rw [if_pos h2] | rw [if_neg h2] | rw [if_pos h3] | rw [if_neg h3]]
              exact lv_sub hl [1, 0, 2, 3, 4] rfl
            exact ih _ (by omega) (i + 1) ls rfl (by omega)  (lv_sub hl [0, 1, 2, 3, 4] rfl)
          · skip
            refine lv_iconst (v := (nI 1)) S.1 S.2.1 dL_many_49 (by decide) ?_
            refine lv_goto (tgt := 54) S.1 S.2.1 dL_many_50 rfl ?_
            refine lv_iadd S.1 S.2.1 dL_many_54 ?_
            refine lv_istore_n S.1 S.2.1 dL_many_55 rfl hl (by decide) rfl (fun ls hl => ?_)
            have hl : lv_has ls 5 [(3, .int ((rfMany σ (nI z) i) + (nI 1))), (4, .int (nI i)), (2, .int (nI z)), (0, .ref a), (1, .ref b)] := hl
            refine lv_iinc (k := 1) (v := (nI (i + 1))) S.1 S.2.1 dL_many_56 hl rfl (iincP i 1) (by decide) rfl (fun ls hl => ?_)
            have hl : lv_has ls 5 [(4, .int (nI (i + 1))), (3, .int ((rfMany σ (nI z) i) + (nI 1))), (2, .int (nI z)), (0, .ref a), (1, .ref b)] := hl
            refine lv_goto (tgt := 5) S.1 S.2.1 dL_many_59 rfl ?_
            have hl : lv_has ls 5 [(3, .int (rfMany σ (nI z) (i + 1))), (4, .int (nI (i + 1))), (2, .int (nI z)), (0, .ref a), (1, .ref b)] := by
              rw [show (rfMany σ (nI z) (i + 1)) = ((rfMany σ (nI z) i) + (nI 1)) from by rw [rfMany]; first | rw [if_pos h2] | rw [if_neg h2] | rw [if_pos h3] | rw [if_neg h3]]
              exact lv_sub hl [1, 0, 2, 3, 4] rfl
            exact ih _ (by omega) (i + 1) ls rfl (by omega)  (lv_sub hl [0, 1, 2, 3, 4] rfl)
        · exact absurd ((nI_eq (by omega) (by omega)).mp h2) (by omega)
  exact hloop5 _ 0 ls rfl (Nat.zero_le _)  (lv_sub hl [1, 0, 4, 2, 3] rfl)
abbrev rm_L_voice : Room := ({ frames := 3, cells := 0, slots := 0, locals := 65 } : Room)
set_option maxRecDepth 100000 in
set_option maxHeartbeats 600000 in
theorem c_L_voice (l : Launch) (E : XE) (a b n : Nat) (σ : Nat → Int32) (p0 q0 : Int32) (H : Heap) (hEL : EL E) (hL : LwP E a b σ H) (h0 : σ 0 = nI n) (hn : n ≤ 64) (hp0 : ∃ p, p < 4 ∧ p0 = nI p) (hq0 : ∃ q, q < 128 ∧ q0 = nI q) : Rd l E yL_voice cL_voice 5 (some .int) rm_L_voice [.ref a, .ref b, .int p0, .int q0] H (oi (lwV σ p0 q0 n 0)) := by
  refine met_of (by decide) (Nat.le_of_ble_eq_true rfl) (fun p e s m args below meth c hBD Q hQ ls hl => ?_)
  obtain ⟨S, hr, hlk, hnm, hE, hH⟩ := hBD
  subst hH
  have hl : lv_has ls 5 [(0, .ref a), (1, .ref b), (2, .int p0), (3, .int q0)] := hl
  have hS : va_S (fun _ => False) s.heap s.heap [] := va_S.rf
  obtain ⟨hg, κ, hc, hU⟩ := hL
  obtain ⟨pp, hp, ep⟩ := hp0
  obtain ⟨qq, hq, eqq⟩ := hq0
  refine lv_iconst (v := (nI 0)) S.1 S.2.1 dL_voice_0 (by decide) ?_
  refine lv_istore S.1 S.2.1 dL_voice_1 hl (by decide) rfl (fun ls hl => ?_)
  have hl : lv_has ls 5 [(4, .int (nI 0)), (0, .ref a), (1, .ref b), (2, .int p0), (3, .int q0)] := hl
  have hloop3 : ∀ (d : Nat) (i : Nat) (ls : Array Slot), n - i = d → i ≤ n → lwV σ p0 q0 n 0 = lwV σ p0 q0 (n - i) i → lv_has ls 5 [(4, .int (nI i)), (0, .ref a), (1, .ref b), (2, .int p0), (3, .int q0)] → W p l e rm_L_voice s m args below meth c s.heap [] 0 0 Q (F0 m 3 ls []) := by
    intro d
    induction d using Nat.strongRecOn with
    | ind d ih =>
      intro i ls hd hi hv  hl
      refine lv_iload S.1 S.2.1 dL_voice_3 (lv_at hl 0 rfl) ?_
      refine lv_aload_n S.1 S.2.1 dL_voice_5 rfl (lv_at hl 1 rfl) ?_
      refine lv_iconst (v := (nI 0)) S.1 S.2.1 dL_voice_6 (by decide) ?_
      refine x_iald S hE (hg) 0 rfl (by decide) (by decide) dL_voice_7 ?_
      refine x_top (y := (nI n)) (h0) ?_
      refine lv_icmp_ge (tgt := 48) S.1 S.2.1 dL_voice_8 rfl (fun h1 => ?_) (fun h1 => ?_)
      · skip
        refine lv_bipush (v := (-4)) S.1 S.2.1 dL_voice_48 (by decide) ?_
        subst hQ
        exact x_retR S hr hlk (rfl) (by rw [hv, show n - i = 0 from (by have := ge_of_le (by omega) (by omega) h1; omega)]; rfl) dL_voice_50
      · skip
        have hlt := lt_of_nle (by omega) (by omega) h1
        refine lv_aload_n S.1 S.2.1 dL_voice_11 rfl (lv_at hl 2 rfl) ?_
        refine lv_iload S.1 S.2.1 dL_voice_12 (lv_at hl 0 rfl) ?_
        refine x_lald S hE hEL (hc) i rfl (by omega) (by decide) dL_voice_14 ?_
        refine xk_R (v := (bI (nI 1 ≤ fld 3 (κ i) ∧ fld 3 (κ i) ≤ nI 4))) (x_runS (As := [.long (κ i)]) (rest := []) S hE hS (fun _ h => h.elim) (c_L_placed l E (κ i) _) kv_L_placed kw7_18 kw7_19 ⟨Nat.le_of_ble_eq_true rfl, Nat.le_of_ble_eq_true rfl⟩ rfl rfl rfl hl.1 rfl (Nat.le_of_ble_eq_true rfl) dL_voice_15 ⟨Nat.zero_le _, Nat.zero_le _⟩) ?_
        refine x_top (y := (bI (rfPl σ i))) (bI_iff (by show _ ↔ (nI 1 ≤ nf σ i 3 ∧ nf σ i 3 ≤ nI 4); rw [hU i 3 (by omega) (by decide)])) ?_
        refine lv_if_eq (tgt := 42) S.1 S.2.1 dL_voice_18 rfl (fun h2 => ?_) (fun h2 => ?_)
        · skip
          have h2 := bI_0 h2
          refine lv_iinc (k := 0) (v := (nI (i + 1))) S.1 S.2.1 dL_voice_42 hl rfl (iincP i 1) (by decide) rfl (fun ls hl => ?_)
          have hl : lv_has ls 5 [(4, .int (nI (i + 1))), (0, .ref a), (1, .ref b), (2, .int p0), (3, .int q0)] := hl
          refine lv_goto (tgt := 3) S.1 S.2.1 dL_voice_45 rfl ?_
          exact ih _ (by omega) (i + 1) ls rfl (by omega) (by rw [hv, lwV_s hlt]; first | rw [if_neg (fun z => h2 z.1)] | rw [if_neg (fun z => h3 z.2)])  (lv_sub hl [0, 1, 2, 3, 4] rfl)
        · skip
          have h2 := bI_n0 h2
          refine lv_aload_n S.1 S.2.1 dL_voice_21 rfl (lv_at hl 2 rfl) ?_
          refine lv_iload S.1 S.2.1 dL_voice_22 (lv_at hl 0 rfl) ?_
          refine x_lald S hE hEL (hc) i rfl (by omega) (by decide) dL_voice_24 ?_
          refine lv_iconst (v := (nI 0)) S.1 S.2.1 dL_voice_25 (by decide) ?_
          refine lv_bipush (v := (nI 9)) S.1 S.2.1 dL_voice_26 (by decide) ?_
          refine xk_R (v := (lwG (κ i) (nI 0) (nI 9))) (x_runS (As := [.long (κ i), .int (nI 0), .int (nI 9)]) (rest := []) S hE hS (fun _ h => h.elim) (c_L_get l E (κ i) (nI 0) (nI 9) _) kv_L_get kw7_12 kw7_13 ⟨Nat.le_of_ble_eq_true rfl, Nat.le_of_ble_eq_true rfl⟩ rfl rfl rfl hl.1 rfl (Nat.le_of_ble_eq_true rfl) dL_voice_28 ⟨Nat.zero_le _, Nat.zero_le _⟩) ?_
          refine x_top (y := (nI (fvN (κ i) 0 9))) (lwG_eq _ (by decide) (by decide)) ?_
          refine lv_iload_n S.1 S.2.1 dL_voice_31 rfl (lv_at hl 3 rfl) ?_
          refine lv_iconst (v := (nI 4)) S.1 S.2.1 dL_voice_32 (by decide) ?_
          refine lv_iload_n S.1 S.2.1 dL_voice_33 rfl (lv_at hl 4 rfl) ?_
          refine lv_imul S.1 S.2.1 dL_voice_34 ?_
          refine lv_iadd S.1 S.2.1 dL_voice_35 ?_
          refine lv_icmp_ne (tgt := 42) S.1 S.2.1 dL_voice_36 rfl (fun h3 => ?_) (fun h3 => ?_)
          · skip
            rw [ep, eqq, pk_mul, nI_add] at h3
            have h3 : ¬ (nf σ i 0 = p0 ∧ nf σ i 1 = q0) := fun z => h3 ((fld_09e hp hq).mpr ⟨(hU i 0 (by omega) (by decide)).symm.trans (z.1.trans ep), (hU i 1 (by omega) (by decide)).symm.trans (z.2.trans eqq)⟩)
            refine lv_iinc (k := 0) (v := (nI (i + 1))) S.1 S.2.1 dL_voice_42 hl rfl (iincP i 1) (by decide) rfl (fun ls hl => ?_)
            have hl : lv_has ls 5 [(4, .int (nI (i + 1))), (0, .ref a), (1, .ref b), (2, .int p0), (3, .int q0)] := hl
            refine lv_goto (tgt := 3) S.1 S.2.1 dL_voice_45 rfl ?_
            exact ih _ (by omega) (i + 1) ls rfl (by omega) (by rw [hv, lwV_s hlt]; first | rw [if_neg (fun z => h2 z.1)] | rw [if_neg (fun z => h3 z.2)])  (lv_sub hl [0, 1, 2, 3, 4] rfl)
          · skip
            rw [ep, eqq, pk_mul, nI_add] at h3
            have h3 := (fld_09e hp hq).mp h3
            have h3 : nf σ i 0 = p0 ∧ nf σ i 1 = q0 := ⟨(hU i 0 (by omega) (by decide)).trans (h3.1.trans ep.symm), (hU i 1 (by omega) (by decide)).trans (h3.2.trans eqq.symm)⟩
            refine lv_iload S.1 S.2.1 dL_voice_39 (lv_at hl 0 rfl) ?_
            subst hQ
            exact x_retR S hr hlk (rfl) (by rw [hv, lwV_s hlt, if_pos ⟨h2, h3⟩]; rfl) dL_voice_41
  exact hloop3 _ 0 ls rfl (Nat.zero_le _) (rfl)  (lv_sub hl [0, 1, 2, 3, 4] rfl)
abbrev rm_L_sum : Room := ({ frames := 2, cells := 0, slots := 0, locals := 44 } : Room)
set_option maxRecDepth 100000 in
set_option maxHeartbeats 600000 in
theorem c_L_sum (l : Launch) (E : XE) (a b n : Nat) (σ : Nat → Int32) (H : Heap) (hEL : EL E) (hL : LwP E a b σ H) (h0 : σ 0 = nI n) (hn : n ≤ 64) : Rd l E yL_sum cL_sum 4 (some .int) rm_L_sum [.ref a, .ref b] H (rfSum σ n) := by
  refine met_of (by decide) (Nat.le_of_ble_eq_true rfl) (fun p e s m args below meth c hBD Q hQ ls hl => ?_)
  obtain ⟨S, hr, hlk, hnm, hE, hH⟩ := hBD
  subst hH
  have hl : lv_has ls 4 [(0, .ref a), (1, .ref b)] := hl
  have hS : va_S (fun _ => False) s.heap s.heap [] := va_S.rf
  obtain ⟨hg, κ, hc, hU⟩ := hL
  refine lv_iconst (v := (nI 0)) S.1 S.2.1 dL_sum_0 (by decide) ?_
  refine lv_istore_n S.1 S.2.1 dL_sum_1 rfl hl (by decide) rfl (fun ls hl => ?_)
  have hl : lv_has ls 4 [(2, .int (nI 0)), (0, .ref a), (1, .ref b)] := hl
  refine lv_iconst (v := (nI 0)) S.1 S.2.1 dL_sum_2 (by decide) ?_
  refine lv_istore_n S.1 S.2.1 dL_sum_3 rfl hl (by decide) rfl (fun ls hl => ?_)
  have hl : lv_has ls 4 [(3, .int (nI 0)), (2, .int (nI 0)), (0, .ref a), (1, .ref b)] := hl
  have hloop4 : ∀ (d : Nat) (i : Nat) (ls : Array Slot), n - i = d → i ≤ n → lv_has ls 4 [(2, .int (rfSum σ i)), (3, .int (nI i)), (0, .ref a), (1, .ref b)] → W p l e rm_L_sum s m args below meth c s.heap [] 0 0 Q (F0 m 4 ls []) := by
    intro d
    induction d using Nat.strongRecOn with
    | ind d ih =>
      intro i ls hd hi  hl
      refine lv_iload_n S.1 S.2.1 dL_sum_4 rfl (lv_at hl 1 rfl) ?_
      refine lv_aload_n S.1 S.2.1 dL_sum_5 rfl (lv_at hl 2 rfl) ?_
      refine lv_iconst (v := (nI 0)) S.1 S.2.1 dL_sum_6 (by decide) ?_
      refine x_iald S hE (hg) 0 rfl (by decide) (by decide) dL_sum_7 ?_
      refine x_top (y := (nI n)) (h0) ?_
      refine lv_icmp_ge (tgt := 50) S.1 S.2.1 dL_sum_8 rfl (fun h1 => ?_) (fun h1 => ?_)
      · skip
        refine lv_iload_n S.1 S.2.1 dL_sum_50 rfl (lv_at hl 0 rfl) ?_
        subst hQ
        exact x_retR S hr hlk (rfl) (by rw [show i = n from (by have := ge_of_le (by omega) (by omega) h1; omega)]) dL_sum_51
      · skip
        have hlt := lt_of_nle (by omega) (by omega) h1
        refine lv_iload_n S.1 S.2.1 dL_sum_11 rfl (lv_at hl 0 rfl) ?_
        refine lv_aload_n S.1 S.2.1 dL_sum_12 rfl (lv_at hl 3 rfl) ?_
        refine lv_iload_n S.1 S.2.1 dL_sum_13 rfl (lv_at hl 1 rfl) ?_
        refine x_lald S hE hEL (hc) i rfl (by omega) (by decide) dL_sum_14 ?_
        refine xk_R (v := (fld 3 (κ i))) (x_runS (As := [.long (κ i)]) (rest := [.int (rfSum σ i)]) S hE hS (fun _ h => h.elim) (c_L_is l E (κ i) _) kv_L_is kw7_9 kw7_10 ⟨Nat.le_of_ble_eq_true rfl, Nat.le_of_ble_eq_true rfl⟩ rfl rfl rfl hl.1 rfl (Nat.le_of_ble_eq_true rfl) dL_sum_15 ⟨Nat.zero_le _, Nat.zero_le _⟩) ?_
        refine x_top (y := (nf σ i 3)) ((hU i 3 (by omega) (by decide)).symm) ?_
        refine lv_if_le (tgt := 41) S.1 S.2.1 dL_sum_18 rfl (fun h2 => ?_) (fun h2 => ?_)
        · skip
          refine lv_iconst (v := (nI 0)) S.1 S.2.1 dL_sum_41 (by decide) ?_
          refine lv_iadd S.1 S.2.1 dL_sum_42 ?_
          refine lv_istore_n S.1 S.2.1 dL_sum_43 rfl hl (by decide) rfl (fun ls hl => ?_)
          have hl : lv_has ls 4 [(2, .int ((rfSum σ i) + (nI 0))), (3, .int (nI i)), (0, .ref a), (1, .ref b)] := hl
          refine lv_iinc (k := 1) (v := (nI (i + 1))) S.1 S.2.1 dL_sum_44 hl rfl (iincP i 1) (by decide) rfl (fun ls hl => ?_)
          have hl : lv_has ls 4 [(3, .int (nI (i + 1))), (2, .int ((rfSum σ i) + (nI 0))), (0, .ref a), (1, .ref b)] := hl
          refine lv_goto (tgt := 4) S.1 S.2.1 dL_sum_47 rfl ?_
          have hl : lv_has ls 4 [(2, .int (rfSum σ (i + 1))), (3, .int (nI (i + 1))), (0, .ref a), (1, .ref b)] := by
            rw [show (rfSum σ (i + 1)) = ((rfSum σ i) + (nI 0)) from by rw [rfSum]; first | rw [if_pos (vo_t (fb_U hn hU i hlt 3 (by decide)) h2 h3)] | rw [if_neg (vo_f (fb_U hn hU i hlt 3 (by decide)) (by first | exact Or.inl h2 | exact Or.inr h3))]]
            exact lv_sub hl [1, 0, 2, 3] rfl
          exact ih _ (by omega) (i + 1) ls rfl (by omega)  (lv_sub hl [0, 1, 2, 3] rfl)
        · skip
          refine lv_aload_n S.1 S.2.1 dL_sum_21 rfl (lv_at hl 3 rfl) ?_
          refine lv_iload_n S.1 S.2.1 dL_sum_22 rfl (lv_at hl 1 rfl) ?_
          refine x_lald S hE hEL (hc) i rfl (by omega) (by decide) dL_sum_23 ?_
          refine xk_R (v := (fld 3 (κ i))) (x_runS (As := [.long (κ i)]) (rest := [.int (rfSum σ i)]) S hE hS (fun _ h => h.elim) (c_L_is l E (κ i) _) kv_L_is kw7_9 kw7_10 ⟨Nat.le_of_ble_eq_true rfl, Nat.le_of_ble_eq_true rfl⟩ rfl rfl rfl hl.1 rfl (Nat.le_of_ble_eq_true rfl) dL_sum_24 ⟨Nat.zero_le _, Nat.zero_le _⟩) ?_
          refine x_top (y := (nf σ i 3)) ((hU i 3 (by omega) (by decide)).symm) ?_
          refine lv_bipush (v := (nI 6)) S.1 S.2.1 dL_sum_27 (by decide) ?_
          refine lv_icmp_ge (tgt := 41) S.1 S.2.1 dL_sum_29 rfl (fun h3 => ?_) (fun h3 => ?_)
          · skip
            refine lv_iconst (v := (nI 0)) S.1 S.2.1 dL_sum_41 (by decide) ?_
            refine lv_iadd S.1 S.2.1 dL_sum_42 ?_
            refine lv_istore_n S.1 S.2.1 dL_sum_43 rfl hl (by decide) rfl (fun ls hl => ?_)
            have hl : lv_has ls 4 [(2, .int ((rfSum σ i) + (nI 0))), (3, .int (nI i)), (0, .ref a), (1, .ref b)] := hl
            refine lv_iinc (k := 1) (v := (nI (i + 1))) S.1 S.2.1 dL_sum_44 hl rfl (iincP i 1) (by decide) rfl (fun ls hl => ?_)
            have hl : lv_has ls 4 [(3, .int (nI (i + 1))), (2, .int ((rfSum σ i) + (nI 0))), (0, .ref a), (1, .ref b)] := hl
            refine lv_goto (tgt := 4) S.1 S.2.1 dL_sum_47 rfl ?_
            have hl : lv_has ls 4 [(2, .int (rfSum σ (i + 1))), (3, .int (nI (i + 1))), (0, .ref a), (1, .ref b)] := by
              rw [show (rfSum σ (i + 1)) = ((rfSum σ i) + (nI 0)) from by rw [rfSum]; first | rw [if_pos (vo_t (fb_U hn hU i hlt 3 (by decide)) h2 h3)] | rw [if_neg (vo_f (fb_U hn hU i hlt 3 (by decide)) (by first | exact Or.inl h2 | exact Or.inr h3))]]
              exact lv_sub hl [1, 0, 2, 3] rfl
            exact ih _ (by omega) (i + 1) ls rfl (by omega)  (lv_sub hl [0, 1, 2, 3] rfl)
          · skip
            refine lv_aload_n S.1 S.2.1 dL_sum_32 rfl (lv_at hl 3 rfl) ?_
            refine lv_iload_n S.1 S.2.1 dL_sum_33 rfl (lv_at hl 1 rfl) ?_
            refine x_lald S hE hEL (hc) i rfl (by omega) (by decide) dL_sum_34 ?_
            refine xk_R (v := (fld 4 (κ i))) (x_runS (As := [.long (κ i)]) (rest := [.int (rfSum σ i)]) S hE hS (fun _ h => h.elim) (c_L_level l E (κ i) _) kv_L_level kw7_15 kw7_16 ⟨Nat.le_of_ble_eq_true rfl, Nat.le_of_ble_eq_true rfl⟩ rfl rfl rfl hl.1 rfl (Nat.le_of_ble_eq_true rfl) dL_sum_35 ⟨Nat.zero_le _, Nat.zero_le _⟩) ?_
            refine x_top (y := (nf σ i 4)) ((hU i 4 (by omega) (by decide)).symm) ?_
            refine lv_goto (tgt := 42) S.1 S.2.1 dL_sum_38 rfl ?_
            refine lv_iadd S.1 S.2.1 dL_sum_42 ?_
            refine lv_istore_n S.1 S.2.1 dL_sum_43 rfl hl (by decide) rfl (fun ls hl => ?_)
            have hl : lv_has ls 4 [(2, .int ((rfSum σ i) + (nf σ i 4))), (3, .int (nI i)), (0, .ref a), (1, .ref b)] := hl
            refine lv_iinc (k := 1) (v := (nI (i + 1))) S.1 S.2.1 dL_sum_44 hl rfl (iincP i 1) (by decide) rfl (fun ls hl => ?_)
            have hl : lv_has ls 4 [(3, .int (nI (i + 1))), (2, .int ((rfSum σ i) + (nf σ i 4))), (0, .ref a), (1, .ref b)] := hl
            refine lv_goto (tgt := 4) S.1 S.2.1 dL_sum_47 rfl ?_
            have hl : lv_has ls 4 [(2, .int (rfSum σ (i + 1))), (3, .int (nI (i + 1))), (0, .ref a), (1, .ref b)] := by
              rw [show (rfSum σ (i + 1)) = ((rfSum σ i) + (nf σ i 4)) from by rw [rfSum]; first | rw [if_pos (vo_t (fb_U hn hU i hlt 3 (by decide)) h2 h3)] | rw [if_neg (vo_f (fb_U hn hU i hlt 3 (by decide)) (by first | exact Or.inl h2 | exact Or.inr h3))]]
              exact lv_sub hl [1, 0, 2, 3] rfl
            exact ih _ (by omega) (i + 1) ls rfl (by omega)  (lv_sub hl [0, 1, 2, 3] rfl)
  exact hloop4 _ 0 ls rfl (Nat.zero_le _)  (lv_sub hl [1, 0, 2, 3] rfl)
abbrev rm_L_home : Room := ({ frames := 4, cells := 0, slots := 0, locals := 89 } : Room)
set_option maxRecDepth 100000 in
set_option maxHeartbeats 600000 in
theorem c_L_home (l : Launch) (E : XE) (a b n : Nat) (σ : Nat → Int32) (H : Heap) (hEL : EL E) (hL : LwP E a b σ H) (h0 : σ 0 = nI n) (hn : n ≤ 64) (h7 : ∃ r, r ≤ 2 ∧ σ 7 = nI r) : Rd l E yL_home cL_home 9 (some .int) rm_L_home [.ref a, .ref b] H (oi (rfNx σ n)) := by
  refine met_of (by decide) (Nat.le_of_ble_eq_true rfl) (fun p e s m args below meth c hBD Q hQ ls hl => ?_)
  obtain ⟨S, hr, hlk, hnm, hE, hH⟩ := hBD
  subst hH
  have hl : lv_has ls 9 [(0, .ref a), (1, .ref b)] := hl
  have hS : va_S (fun _ => False) s.heap s.heap [] := va_S.rf
  obtain ⟨hg, κ, hc, hU⟩ := hL
  have hF := fb_U hn hU
  refine lv_aload_n S.1 S.2.1 dL_home_0 rfl (lv_at hl 0 rfl) ?_
  refine lv_aload_n S.1 S.2.1 dL_home_1 rfl (lv_at hl 1 rfl) ?_
  refine lv_iconst (v := (nI 4)) S.1 S.2.1 dL_home_2 (by decide) ?_
  refine xk_R (v := (rfMany σ (nI 4) n)) (x_runS (As := [.ref a, .ref b, .int (nI 4)]) (rest := []) S hE hS (fun _ h => h.elim) (c_L_many_z l E a b n σ 4 _ hEL ⟨hg, κ, hc, hU⟩ h0 hn (by decide)) kv_L_many kw9_22 kw9_23 ⟨Nat.le_of_ble_eq_true rfl, Nat.le_of_ble_eq_true rfl⟩ rfl rfl rfl hl.1 rfl (Nat.le_of_ble_eq_true rfl) dL_home_3 ⟨Nat.zero_le _, Nat.zero_le _⟩) ?_
  have hj14 : ∀ (ls : Array Slot), lv_has ls 9 [(0, .ref a), (1, .ref b)] → W p l e rm_L_home s m args below meth c s.heap [] 0 0 Q (F0 m 14 ls [.int (rfSz σ n)]) := by
    intro  ls   hl
    refine lv_istore_n S.1 S.2.1 dL_home_14 rfl hl (by decide) rfl (fun ls hl => ?_)
    have hl : lv_has ls 9 [(2, .int (rfSz σ n)), (0, .ref a), (1, .ref b)] := hl
    refine lv_bipush (v := (-4)) S.1 S.2.1 dL_home_15 (by decide) ?_
    refine lv_istore_n S.1 S.2.1 dL_home_17 rfl hl (by decide) rfl (fun ls hl => ?_)
    have hl : lv_has ls 9 [(3, .int (-4)), (2, .int (rfSz σ n)), (0, .ref a), (1, .ref b)] := hl
    refine lv_ldc2 (v := (99999999999)) S.1 S.2.1 S.2.2.2.1 (S.2.2.2.2 _ kw11_15) dL_home_18 ?_
    refine x_topl (y := (lN (lwLs σ (lwHS σ (rfSz σ n) 0)))) (rfl) ?_
    refine lv_lstore S.1 S.2.1 dL_home_21 hl (by decide) rfl (fun ls hl => ?_)
    have hl : lv_has ls 9 [(4, .long (lN (lwLs σ (lwHS σ (rfSz σ n) 0)))), (3, .int (-4)), (2, .int (rfSz σ n)), (0, .ref a), (1, .ref b)] := hl
    refine lv_iconst (v := (nI 0)) S.1 S.2.1 dL_home_23 (by decide) ?_
    refine lv_istore S.1 S.2.1 dL_home_24 hl (by decide) rfl (fun ls hl => ?_)
    have hl : lv_has ls 9 [(6, .int (nI 0)), (4, .long (lN (lwLs σ (lwHS σ (rfSz σ n) 0)))), (3, .int (-4)), (2, .int (rfSz σ n)), (0, .ref a), (1, .ref b)] := hl
    have hloop26 : ∀ (d : Nat) (i : Nat) (ls : Array Slot), n - i = d → i ≤ n → lv_has ls 9 [(3, .int (oi (lwHS σ (rfSz σ n) i))), (4, .long (lN (lwLs σ (lwHS σ (rfSz σ n) i)))), (6, .int (nI i)), (0, .ref a), (1, .ref b), (2, .int (rfSz σ n))] → W p l e rm_L_home s m args below meth c s.heap [] 0 0 Q (F0 m 26 ls []) := by
      intro d
      induction d using Nat.strongRecOn with
      | ind d ih =>
        intro i ls hd hi  hl
        refine lv_iload S.1 S.2.1 dL_home_26 (lv_at hl 2 rfl) ?_
        refine lv_aload_n S.1 S.2.1 dL_home_28 rfl (lv_at hl 3 rfl) ?_
        refine lv_iconst (v := (nI 0)) S.1 S.2.1 dL_home_29 (by decide) ?_
        refine x_iald S hE (hg) 0 rfl (by decide) (by decide) dL_home_30 ?_
        refine x_top (y := (nI n)) (h0) ?_
        refine lv_icmp_ge (tgt := 128) S.1 S.2.1 dL_home_31 rfl (fun h1 => ?_) (fun h1 => ?_)
        · skip
          refine lv_iload_n S.1 S.2.1 dL_home_128 rfl (lv_at hl 0 rfl) ?_
          subst hQ
          exact x_retR S hr hlk (rfl) (by rw [show i = n from (by have := ge_of_le (by omega) (by omega) h1; omega), lwHS_eq hF h7]) dL_home_129
        · skip
          have hlt := lt_of_nle (by omega) (by omega) h1
          refine lv_aload_n S.1 S.2.1 dL_home_34 rfl (lv_at hl 3 rfl) ?_
          refine lv_bipush (v := (nI 7)) S.1 S.2.1 dL_home_35 (by decide) ?_
          refine x_iald S hE (hg) 7 rfl (by decide) (by decide) dL_home_37 ?_
          refine lv_if_ne (tgt := 52) S.1 S.2.1 dL_home_38 rfl (fun h2 => ?_) (fun h2 => ?_)
          · skip
            refine lv_lconst (v := 0) S.1 S.2.1 dL_home_52 rfl ?_
            refine lv_bipush (v := (nI 16)) S.1 S.2.1 dL_home_53 (by decide) ?_
            refine lv_lshl S.1 S.2.1 dL_home_55 rfl ?_
            refine lv_aload_n S.1 S.2.1 dL_home_56 rfl (lv_at hl 4 rfl) ?_
            refine lv_iload S.1 S.2.1 dL_home_57 (lv_at hl 2 rfl) ?_
            refine x_lald S hE hEL (hc) i rfl (by omega) (by decide) dL_home_59 ?_
            refine lv_bipush (v := (nI 42)) S.1 S.2.1 dL_home_60 (by decide) ?_
            refine lv_bipush (v := (nI 16)) S.1 S.2.1 dL_home_62 (by decide) ?_
            refine xk_R (v := (lwG (κ i) (nI 42) (nI 16))) (x_runS (As := [.long (κ i), .int (nI 42), .int (nI 16)]) (rest := [.long (0 <<< (((nI 16)).toInt64 &&& 63))]) S hE hS (fun _ h => h.elim) (c_L_get l E (κ i) (nI 42) (nI 16) _) kv_L_get kw7_12 kw7_13 ⟨Nat.le_of_ble_eq_true rfl, Nat.le_of_ble_eq_true rfl⟩ rfl rfl rfl hl.1 rfl (Nat.le_of_ble_eq_true rfl) dL_home_64 ⟨Nat.zero_le _, Nat.zero_le _⟩) ?_
            refine x_top (y := (nf σ i 7)) ((lwG_eq _ (by decide) (by decide)).trans ((hU i 7 (by omega) (by decide)).symm)) ?_
            refine lv_i2l S.1 S.2.1 dL_home_67 rfl ?_
            refine lv_lor S.1 S.2.1 dL_home_68 ?_
            refine x_topl (y := (lN (hk σ i))) (by obtain ⟨x4, hx4, e4⟩ := hF i hlt 4 (by decide); obtain ⟨x7, hx7, e7⟩ := hF i hlt 7 (by decide); have hx4 : x4 < 2048 := hx4; have hx7 : x7 < 65536 := hx7; unfold hk; rw [if_neg h2, e7, nI_clamp (by omega), show (0 : Int64) = (nI 0).toInt64 from rfl]; exact hk_or (by omega) hx7) ?_
            refine lv_lstore S.1 S.2.1 dL_home_69 hl (by decide) rfl (fun ls hl => ?_)
            have hl : lv_has ls 9 [(7, .long (lN (hk σ i))), (3, .int (oi (lwHS σ (rfSz σ n) i))), (4, .long (lN (lwLs σ (lwHS σ (rfSz σ n) i)))), (6, .int (nI i)), (0, .ref a), (1, .ref b), (2, .int (rfSz σ n))] := hl
            refine lv_aload_n S.1 S.2.1 dL_home_71 rfl (lv_at hl 4 rfl) ?_
            refine lv_bipush (v := (nI 7)) S.1 S.2.1 dL_home_72 (by decide) ?_
            refine x_iald S hE (hg) 7 rfl (by decide) (by decide) dL_home_74 ?_
            refine lv_iconst (v := (nI 2)) S.1 S.2.1 dL_home_75 (by decide) ?_
            refine lv_icmp_ge (tgt := 122) S.1 S.2.1 dL_home_76 rfl (fun h3 => ?_) (fun h3 => ?_)
            · skip
              refine lv_iinc (k := 3) (v := (nI (i + 1))) S.1 S.2.1 dL_home_122 hl rfl (iincP i 1) (by decide) rfl (fun ls hl => ?_)
              have hl : lv_has ls 9 [(6, .int (nI (i + 1))), (7, .long (lN (hk σ i))), (3, .int (oi (lwHS σ (rfSz σ n) i))), (4, .long (lN (lwLs σ (lwHS σ (rfSz σ n) i)))), (0, .ref a), (1, .ref b), (2, .int (rfSz σ n))] := hl
              refine lv_goto (tgt := 26) S.1 S.2.1 dL_home_125 rfl ?_
              have e : lwHS σ (rfSz σ n) (i + 1) = lwHS σ (rfSz σ n) i := by rw [lwHS, if_neg (fun z => absurd z.1 (Int32.not_lt.mpr h3))]
              have hl : lv_has ls 9 [(3, .int (oi (lwHS σ (rfSz σ n) (i + 1)))), (4, .long (lN (lwLs σ (lwHS σ (rfSz σ n) (i + 1))))), (6, .int (nI (i + 1))), (0, .ref a), (1, .ref b), (2, .int (rfSz σ n))] := by
                rw [show (oi (lwHS σ (rfSz σ n) (i + 1))) = (oi (lwHS σ (rfSz σ n) i)) from by first | exact congrArg oi e | exact congrArg (fun o => lN (lwLs σ o)) e]
                rw [show (lN (lwLs σ (lwHS σ (rfSz σ n) (i + 1)))) = (lN (lwLs σ (lwHS σ (rfSz σ n) i))) from by first | exact congrArg oi e | exact congrArg (fun o => lN (lwLs σ o)) e]
                exact lv_sub hl [2, 3, 0, 4, 5, 6] rfl
              exact ih _ (by omega) (i + 1) ls rfl (by omega)  (lv_sub hl [0, 1, 2, 3, 4, 5] rfl)
            · skip
              refine lv_iload_n S.1 S.2.1 dL_home_79 rfl (lv_at hl 6 rfl) ?_
              refine lv_if_eq (tgt := 97) S.1 S.2.1 dL_home_80 rfl (fun h4 => ?_) (fun h4 => ?_)
              · skip
                refine lv_aload_n S.1 S.2.1 dL_home_97 rfl (lv_at hl 5 rfl) ?_
                refine lv_iload S.1 S.2.1 dL_home_98 (lv_at hl 3 rfl) ?_
                refine x_lald S hE hEL (hc) i rfl (by omega) (by decide) dL_home_100 ?_
                refine xk_R (v := (bI (nI 1 ≤ fld 3 (κ i) ∧ fld 3 (κ i) ≤ nI 4))) (x_runS (As := [.long (κ i)]) (rest := []) S hE hS (fun _ h => h.elim) (c_L_placed l E (κ i) _) kv_L_placed kw7_18 kw7_19 ⟨Nat.le_of_ble_eq_true rfl, Nat.le_of_ble_eq_true rfl⟩ rfl rfl rfl hl.1 rfl (Nat.le_of_ble_eq_true rfl) dL_home_101 ⟨Nat.zero_le _, Nat.zero_le _⟩) ?_
                refine x_top (y := (bI (rfPl σ i))) (bI_iff (by show _ ↔ (nI 1 ≤ nf σ i 3 ∧ nf σ i 3 ≤ nI 4); rw [hU i 3 (by omega) (by decide)])) ?_
                refine lv_if_eq (tgt := 122) S.1 S.2.1 dL_home_104 rfl (fun h5 => ?_) (fun h5 => ?_)
                · skip
                  refine lv_iinc (k := 3) (v := (nI (i + 1))) S.1 S.2.1 dL_home_122 hl rfl (iincP i 1) (by decide) rfl (fun ls hl => ?_)
                  have hl : lv_has ls 9 [(6, .int (nI (i + 1))), (7, .long (lN (hk σ i))), (3, .int (oi (lwHS σ (rfSz σ n) i))), (4, .long (lN (lwLs σ (lwHS σ (rfSz σ n) i)))), (0, .ref a), (1, .ref b), (2, .int (rfSz σ n))] := hl
                  refine lv_goto (tgt := 26) S.1 S.2.1 dL_home_125 rfl ?_
                  have e : lwHS σ (rfSz σ n) (i + 1) = lwHS σ (rfSz σ n) i := by rw [lwHS, if_neg (fun z => z.2.1.elim (fun y => bI_0 h5 y.2) (fun y => y.1 h4))]
                  have hl : lv_has ls 9 [(3, .int (oi (lwHS σ (rfSz σ n) (i + 1)))), (4, .long (lN (lwLs σ (lwHS σ (rfSz σ n) (i + 1))))), (6, .int (nI (i + 1))), (0, .ref a), (1, .ref b), (2, .int (rfSz σ n))] := by
                    rw [show (oi (lwHS σ (rfSz σ n) (i + 1))) = (oi (lwHS σ (rfSz σ n) i)) from by first | exact congrArg oi e | exact congrArg (fun o => lN (lwLs σ o)) e]
                    rw [show (lN (lwLs σ (lwHS σ (rfSz σ n) (i + 1)))) = (lN (lwLs σ (lwHS σ (rfSz σ n) i))) from by first | exact congrArg oi e | exact congrArg (fun o => lN (lwLs σ o)) e]
                    exact lv_sub hl [2, 3, 0, 4, 5, 6] rfl
                  exact ih _ (by omega) (i + 1) ls rfl (by omega)  (lv_sub hl [0, 1, 2, 3, 4, 5] rfl)
                · skip
                  refine lv_lload S.1 S.2.1 dL_home_107 (lv_at hl 0 rfl) ?_
                  refine lv_lload S.1 S.2.1 dL_home_109 (lv_at hl 2 rfl) ?_
                  refine W.lcmp S.1 S.2.1 dL_home_111 ?_
                  refine lv_if_ge (tgt := 122) S.1 S.2.1 dL_home_112 rfl (fun h6 => ?_) (fun h6 => ?_)
                  · skip
                    refine lv_iinc (k := 3) (v := (nI (i + 1))) S.1 S.2.1 dL_home_122 hl rfl (iincP i 1) (by decide) rfl (fun ls hl => ?_)
                    have hl : lv_has ls 9 [(6, .int (nI (i + 1))), (7, .long (lN (hk σ i))), (3, .int (oi (lwHS σ (rfSz σ n) i))), (4, .long (lN (lwLs σ (lwHS σ (rfSz σ n) i)))), (0, .ref a), (1, .ref b), (2, .int (rfSz σ n))] := hl
                    refine lv_goto (tgt := 26) S.1 S.2.1 dL_home_125 rfl ?_
                    have e : lwHS σ (rfSz σ n) (i + 1) = lwHS σ (rfSz σ n) i := by rw [lwHS, if_neg (fun z => cmp_ge (hk_lt hF hlt) (ls_lt hF (by omega)) h6 z.2.2)]
                    have hl : lv_has ls 9 [(3, .int (oi (lwHS σ (rfSz σ n) (i + 1)))), (4, .long (lN (lwLs σ (lwHS σ (rfSz σ n) (i + 1))))), (6, .int (nI (i + 1))), (0, .ref a), (1, .ref b), (2, .int (rfSz σ n))] := by
                      rw [show (oi (lwHS σ (rfSz σ n) (i + 1))) = (oi (lwHS σ (rfSz σ n) i)) from by first | exact congrArg oi e | exact congrArg (fun o => lN (lwLs σ o)) e]
                      rw [show (lN (lwLs σ (lwHS σ (rfSz σ n) (i + 1)))) = (lN (lwLs σ (lwHS σ (rfSz σ n) i))) from by first | exact congrArg oi e | exact congrArg (fun o => lN (lwLs σ o)) e]
                      exact lv_sub hl [2, 3, 0, 4, 5, 6] rfl
                    exact ih _ (by omega) (i + 1) ls rfl (by omega)  (lv_sub hl [0, 1, 2, 3, 4, 5] rfl)
                  · skip
                    refine lv_iload S.1 S.2.1 dL_home_115 (lv_at hl 3 rfl) ?_
                    refine lv_istore_n S.1 S.2.1 dL_home_117 rfl hl (by decide) rfl (fun ls hl => ?_)
                    have hl : lv_has ls 9 [(3, .int (nI i)), (7, .long (lN (hk σ i))), (4, .long (lN (lwLs σ (lwHS σ (rfSz σ n) i)))), (6, .int (nI i)), (0, .ref a), (1, .ref b), (2, .int (rfSz σ n))] := hl
                    refine lv_lload S.1 S.2.1 dL_home_118 (lv_at hl 1 rfl) ?_
                    refine lv_lstore S.1 S.2.1 dL_home_120 hl (by decide) rfl (fun ls hl => ?_)
                    have hl : lv_has ls 9 [(4, .long (lN (hk σ i))), (3, .int (nI i)), (7, .long (lN (hk σ i))), (6, .int (nI i)), (0, .ref a), (1, .ref b), (2, .int (rfSz σ n))] := hl
                    refine lv_iinc (k := 3) (v := (nI (i + 1))) S.1 S.2.1 dL_home_122 hl rfl (iincP i 1) (by decide) rfl (fun ls hl => ?_)
                    have hl : lv_has ls 9 [(6, .int (nI (i + 1))), (4, .long (lN (hk σ i))), (3, .int (nI i)), (7, .long (lN (hk σ i))), (0, .ref a), (1, .ref b), (2, .int (rfSz σ n))] := hl
                    refine lv_goto (tgt := 26) S.1 S.2.1 dL_home_125 rfl ?_
                    have e : lwHS σ (rfSz σ n) (i + 1) = some i := by rw [lwHS, if_pos ⟨i_nle h3, Or.inl ⟨h4, bI_n0 h5⟩, cmp_lt (hk_lt hF hlt) (ls_lt hF (by omega)) h6⟩]
                    have hl : lv_has ls 9 [(3, .int (oi (lwHS σ (rfSz σ n) (i + 1)))), (4, .long (lN (lwLs σ (lwHS σ (rfSz σ n) (i + 1))))), (6, .int (nI (i + 1))), (0, .ref a), (1, .ref b), (2, .int (rfSz σ n))] := by
                      rw [show (oi (lwHS σ (rfSz σ n) (i + 1))) = (nI i) from by first | exact congrArg oi e | exact congrArg (fun o => lN (lwLs σ o)) e]
                      rw [show (lN (lwLs σ (lwHS σ (rfSz σ n) (i + 1)))) = (lN (hk σ i)) from by first | exact congrArg oi e | exact congrArg (fun o => lN (lwLs σ o)) e]
                      exact lv_sub hl [2, 1, 0, 4, 5, 6] rfl
                    exact ih _ (by omega) (i + 1) ls rfl (by omega)  (lv_sub hl [0, 1, 2, 3, 4, 5] rfl)
              · skip
                refine lv_aload_n S.1 S.2.1 dL_home_83 rfl (lv_at hl 5 rfl) ?_
                refine lv_iload S.1 S.2.1 dL_home_84 (lv_at hl 3 rfl) ?_
                refine x_lald S hE hEL (hc) i rfl (by omega) (by decide) dL_home_86 ?_
                refine xk_R (v := (fld 3 (κ i))) (x_runS (As := [.long (κ i)]) (rest := []) S hE hS (fun _ h => h.elim) (c_L_is l E (κ i) _) kv_L_is kw7_9 kw7_10 ⟨Nat.le_of_ble_eq_true rfl, Nat.le_of_ble_eq_true rfl⟩ rfl rfl rfl hl.1 rfl (Nat.le_of_ble_eq_true rfl) dL_home_87 ⟨Nat.zero_le _, Nat.zero_le _⟩) ?_
                refine x_top (y := (nf σ i 3)) ((hU i 3 (by omega) (by decide)).symm) ?_
                refine lv_iconst (v := (nI 4)) S.1 S.2.1 dL_home_90 (by decide) ?_
                refine lv_icmp_ne (tgt := 122) S.1 S.2.1 dL_home_91 rfl (fun h7 => ?_) (fun h7 => ?_)
                · skip
                  refine lv_iinc (k := 3) (v := (nI (i + 1))) S.1 S.2.1 dL_home_122 hl rfl (iincP i 1) (by decide) rfl (fun ls hl => ?_)
                  have hl : lv_has ls 9 [(6, .int (nI (i + 1))), (7, .long (lN (hk σ i))), (3, .int (oi (lwHS σ (rfSz σ n) i))), (4, .long (lN (lwLs σ (lwHS σ (rfSz σ n) i)))), (0, .ref a), (1, .ref b), (2, .int (rfSz σ n))] := hl
                  refine lv_goto (tgt := 26) S.1 S.2.1 dL_home_125 rfl ?_
                  have e : lwHS σ (rfSz σ n) (i + 1) = lwHS σ (rfSz σ n) i := by rw [lwHS, if_neg (fun z => z.2.1.elim (fun y => h4 y.1) (fun y => h7 y.2))]
                  have hl : lv_has ls 9 [(3, .int (oi (lwHS σ (rfSz σ n) (i + 1)))), (4, .long (lN (lwLs σ (lwHS σ (rfSz σ n) (i + 1))))), (6, .int (nI (i + 1))), (0, .ref a), (1, .ref b), (2, .int (rfSz σ n))] := by
                    rw [show (oi (lwHS σ (rfSz σ n) (i + 1))) = (oi (lwHS σ (rfSz σ n) i)) from by first | exact congrArg oi e | exact congrArg (fun o => lN (lwLs σ o)) e]
                    rw [show (lN (lwLs σ (lwHS σ (rfSz σ n) (i + 1)))) = (lN (lwLs σ (lwHS σ (rfSz σ n) i))) from by first | exact congrArg oi e | exact congrArg (fun o => lN (lwLs σ o)) e]
                    exact lv_sub hl [2, 3, 0, 4, 5, 6] rfl
                  exact ih _ (by omega) (i + 1) ls rfl (by omega)  (lv_sub hl [0, 1, 2, 3, 4, 5] rfl)
                · skip
                  refine lv_goto (tgt := 107) S.1 S.2.1 dL_home_94 rfl ?_
                  refine lv_lload S.1 S.2.1 dL_home_107 (lv_at hl 0 rfl) ?_
                  refine lv_lload S.1 S.2.1 dL_home_109 (lv_at hl 2 rfl) ?_
                  refine W.lcmp S.1 S.2.1 dL_home_111 ?_
                  refine lv_if_ge (tgt := 122) S.1 S.2.1 dL_home_112 rfl (fun h8 => ?_) (fun h8 => ?_)
                  · skip
                    refine lv_iinc (k := 3) (v := (nI (i + 1))) S.1 S.2.1 dL_home_122 hl rfl (iincP i 1) (by decide) rfl (fun ls hl => ?_)
                    have hl : lv_has ls 9 [(6, .int (nI (i + 1))), (7, .long (lN (hk σ i))), (3, .int (oi (lwHS σ (rfSz σ n) i))), (4, .long (lN (lwLs σ (lwHS σ (rfSz σ n) i)))), (0, .ref a), (1, .ref b), (2, .int (rfSz σ n))] := hl
                    refine lv_goto (tgt := 26) S.1 S.2.1 dL_home_125 rfl ?_
                    have e : lwHS σ (rfSz σ n) (i + 1) = lwHS σ (rfSz σ n) i := by rw [lwHS, if_neg (fun z => cmp_ge (hk_lt hF hlt) (ls_lt hF (by omega)) h8 z.2.2)]
                    have hl : lv_has ls 9 [(3, .int (oi (lwHS σ (rfSz σ n) (i + 1)))), (4, .long (lN (lwLs σ (lwHS σ (rfSz σ n) (i + 1))))), (6, .int (nI (i + 1))), (0, .ref a), (1, .ref b), (2, .int (rfSz σ n))] := by
                      rw [show (oi (lwHS σ (rfSz σ n) (i + 1))) = (oi (lwHS σ (rfSz σ n) i)) from by first | exact congrArg oi e | exact congrArg (fun o => lN (lwLs σ o)) e]
                      rw [show (lN (lwLs σ (lwHS σ (rfSz σ n) (i + 1)))) = (lN (lwLs σ (lwHS σ (rfSz σ n) i))) from by first | exact congrArg oi e | exact congrArg (fun o => lN (lwLs σ o)) e]
                      exact lv_sub hl [2, 3, 0, 4, 5, 6] rfl
                    exact ih _ (by omega) (i + 1) ls rfl (by omega)  (lv_sub hl [0, 1, 2, 3, 4, 5] rfl)
                  · skip
                    refine lv_iload S.1 S.2.1 dL_home_115 (lv_at hl 3 rfl) ?_
                    refine lv_istore_n S.1 S.2.1 dL_home_117 rfl hl (by decide) rfl (fun ls hl => ?_)
                    have hl : lv_has ls 9 [(3, .int (nI i)), (7, .long (lN (hk σ i))), (4, .long (lN (lwLs σ (lwHS σ (rfSz σ n) i)))), (6, .int (nI i)), (0, .ref a), (1, .ref b), (2, .int (rfSz σ n))] := hl
                    refine lv_lload S.1 S.2.1 dL_home_118 (lv_at hl 1 rfl) ?_
                    refine lv_lstore S.1 S.2.1 dL_home_120 hl (by decide) rfl (fun ls hl => ?_)
                    have hl : lv_has ls 9 [(4, .long (lN (hk σ i))), (3, .int (nI i)), (7, .long (lN (hk σ i))), (6, .int (nI i)), (0, .ref a), (1, .ref b), (2, .int (rfSz σ n))] := hl
                    refine lv_iinc (k := 3) (v := (nI (i + 1))) S.1 S.2.1 dL_home_122 hl rfl (iincP i 1) (by decide) rfl (fun ls hl => ?_)
                    have hl : lv_has ls 9 [(6, .int (nI (i + 1))), (4, .long (lN (hk σ i))), (3, .int (nI i)), (7, .long (lN (hk σ i))), (0, .ref a), (1, .ref b), (2, .int (rfSz σ n))] := hl
                    refine lv_goto (tgt := 26) S.1 S.2.1 dL_home_125 rfl ?_
                    have e : lwHS σ (rfSz σ n) (i + 1) = some i := by rw [lwHS, if_pos ⟨i_nle h3, Or.inr ⟨h4, h7⟩, cmp_lt (hk_lt hF hlt) (ls_lt hF (by omega)) h8⟩]
                    have hl : lv_has ls 9 [(3, .int (oi (lwHS σ (rfSz σ n) (i + 1)))), (4, .long (lN (lwLs σ (lwHS σ (rfSz σ n) (i + 1))))), (6, .int (nI (i + 1))), (0, .ref a), (1, .ref b), (2, .int (rfSz σ n))] := by
                      rw [show (oi (lwHS σ (rfSz σ n) (i + 1))) = (nI i) from by first | exact congrArg oi e | exact congrArg (fun o => lN (lwLs σ o)) e]
                      rw [show (lN (lwLs σ (lwHS σ (rfSz σ n) (i + 1)))) = (lN (hk σ i)) from by first | exact congrArg oi e | exact congrArg (fun o => lN (lwLs σ o)) e]
                      exact lv_sub hl [2, 1, 0, 4, 5, 6] rfl
                    exact ih _ (by omega) (i + 1) ls rfl (by omega)  (lv_sub hl [0, 1, 2, 3, 4, 5] rfl)
          · skip
            refine lv_aload_n S.1 S.2.1 dL_home_41 rfl (lv_at hl 4 rfl) ?_
            refine lv_iload S.1 S.2.1 dL_home_42 (lv_at hl 2 rfl) ?_
            refine x_lald S hE hEL (hc) i rfl (by omega) (by decide) dL_home_44 ?_
            refine xk_R (v := (fld 4 (κ i))) (x_runS (As := [.long (κ i)]) (rest := []) S hE hS (fun _ h => h.elim) (c_L_level l E (κ i) _) kv_L_level kw7_15 kw7_16 ⟨Nat.le_of_ble_eq_true rfl, Nat.le_of_ble_eq_true rfl⟩ rfl rfl rfl hl.1 rfl (Nat.le_of_ble_eq_true rfl) dL_home_45 ⟨Nat.zero_le _, Nat.zero_le _⟩) ?_
            refine x_top (y := (nf σ i 4)) ((hU i 4 (by omega) (by decide)).symm) ?_
            refine lv_i2l S.1 S.2.1 dL_home_48 rfl ?_
            refine lv_goto (tgt := 53) S.1 S.2.1 dL_home_49 rfl ?_
            refine lv_bipush (v := (nI 16)) S.1 S.2.1 dL_home_53 (by decide) ?_
            refine lv_lshl S.1 S.2.1 dL_home_55 rfl ?_
            refine lv_aload_n S.1 S.2.1 dL_home_56 rfl (lv_at hl 4 rfl) ?_
            refine lv_iload S.1 S.2.1 dL_home_57 (lv_at hl 2 rfl) ?_
            refine x_lald S hE hEL (hc) i rfl (by omega) (by decide) dL_home_59 ?_
            refine lv_bipush (v := (nI 42)) S.1 S.2.1 dL_home_60 (by decide) ?_
            refine lv_bipush (v := (nI 16)) S.1 S.2.1 dL_home_62 (by decide) ?_
            refine xk_R (v := (lwG (κ i) (nI 42) (nI 16))) (x_runS (As := [.long (κ i), .int (nI 42), .int (nI 16)]) (rest := [.long (((nf σ i 4)).toInt64 <<< (((nI 16)).toInt64 &&& 63))]) S hE hS (fun _ h => h.elim) (c_L_get l E (κ i) (nI 42) (nI 16) _) kv_L_get kw7_12 kw7_13 ⟨Nat.le_of_ble_eq_true rfl, Nat.le_of_ble_eq_true rfl⟩ rfl rfl rfl hl.1 rfl (Nat.le_of_ble_eq_true rfl) dL_home_64 ⟨Nat.zero_le _, Nat.zero_le _⟩) ?_
            refine x_top (y := (nf σ i 7)) ((lwG_eq _ (by decide) (by decide)).trans ((hU i 7 (by omega) (by decide)).symm)) ?_
            refine lv_i2l S.1 S.2.1 dL_home_67 rfl ?_
            refine lv_lor S.1 S.2.1 dL_home_68 ?_
            refine x_topl (y := (lN (hk σ i))) (by obtain ⟨x4, hx4, e4⟩ := hF i hlt 4 (by decide); obtain ⟨x7, hx7, e7⟩ := hF i hlt 7 (by decide); have hx4 : x4 < 2048 := hx4; have hx7 : x7 < 65536 := hx7; unfold hk; rw [if_pos h2, e4, e7, nI_clamp (by omega), nI_clamp (by omega)]; exact hk_or hx4 hx7) ?_
            refine lv_lstore S.1 S.2.1 dL_home_69 hl (by decide) rfl (fun ls hl => ?_)
            have hl : lv_has ls 9 [(7, .long (lN (hk σ i))), (3, .int (oi (lwHS σ (rfSz σ n) i))), (4, .long (lN (lwLs σ (lwHS σ (rfSz σ n) i)))), (6, .int (nI i)), (0, .ref a), (1, .ref b), (2, .int (rfSz σ n))] := hl
            refine lv_aload_n S.1 S.2.1 dL_home_71 rfl (lv_at hl 4 rfl) ?_
            refine lv_bipush (v := (nI 7)) S.1 S.2.1 dL_home_72 (by decide) ?_
            refine x_iald S hE (hg) 7 rfl (by decide) (by decide) dL_home_74 ?_
            refine lv_iconst (v := (nI 2)) S.1 S.2.1 dL_home_75 (by decide) ?_
            refine lv_icmp_ge (tgt := 122) S.1 S.2.1 dL_home_76 rfl (fun h9 => ?_) (fun h9 => ?_)
            · skip
              refine lv_iinc (k := 3) (v := (nI (i + 1))) S.1 S.2.1 dL_home_122 hl rfl (iincP i 1) (by decide) rfl (fun ls hl => ?_)
              have hl : lv_has ls 9 [(6, .int (nI (i + 1))), (7, .long (lN (hk σ i))), (3, .int (oi (lwHS σ (rfSz σ n) i))), (4, .long (lN (lwLs σ (lwHS σ (rfSz σ n) i)))), (0, .ref a), (1, .ref b), (2, .int (rfSz σ n))] := hl
              refine lv_goto (tgt := 26) S.1 S.2.1 dL_home_125 rfl ?_
              have e : lwHS σ (rfSz σ n) (i + 1) = lwHS σ (rfSz σ n) i := by rw [lwHS, if_neg (fun z => absurd z.1 (Int32.not_lt.mpr h9))]
              have hl : lv_has ls 9 [(3, .int (oi (lwHS σ (rfSz σ n) (i + 1)))), (4, .long (lN (lwLs σ (lwHS σ (rfSz σ n) (i + 1))))), (6, .int (nI (i + 1))), (0, .ref a), (1, .ref b), (2, .int (rfSz σ n))] := by
                rw [show (oi (lwHS σ (rfSz σ n) (i + 1))) = (oi (lwHS σ (rfSz σ n) i)) from by first | exact congrArg oi e | exact congrArg (fun o => lN (lwLs σ o)) e]
                rw [show (lN (lwLs σ (lwHS σ (rfSz σ n) (i + 1)))) = (lN (lwLs σ (lwHS σ (rfSz σ n) i))) from by first | exact congrArg oi e | exact congrArg (fun o => lN (lwLs σ o)) e]
                exact lv_sub hl [2, 3, 0, 4, 5, 6] rfl
              exact ih _ (by omega) (i + 1) ls rfl (by omega)  (lv_sub hl [0, 1, 2, 3, 4, 5] rfl)
            · skip
              refine lv_iload_n S.1 S.2.1 dL_home_79 rfl (lv_at hl 6 rfl) ?_
              refine lv_if_eq (tgt := 97) S.1 S.2.1 dL_home_80 rfl (fun h10 => ?_) (fun h10 => ?_)
              · skip
                refine lv_aload_n S.1 S.2.1 dL_home_97 rfl (lv_at hl 5 rfl) ?_
                refine lv_iload S.1 S.2.1 dL_home_98 (lv_at hl 3 rfl) ?_
                refine x_lald S hE hEL (hc) i rfl (by omega) (by decide) dL_home_100 ?_
                refine xk_R (v := (bI (nI 1 ≤ fld 3 (κ i) ∧ fld 3 (κ i) ≤ nI 4))) (x_runS (As := [.long (κ i)]) (rest := []) S hE hS (fun _ h => h.elim) (c_L_placed l E (κ i) _) kv_L_placed kw7_18 kw7_19 ⟨Nat.le_of_ble_eq_true rfl, Nat.le_of_ble_eq_true rfl⟩ rfl rfl rfl hl.1 rfl (Nat.le_of_ble_eq_true rfl) dL_home_101 ⟨Nat.zero_le _, Nat.zero_le _⟩) ?_
                refine x_top (y := (bI (rfPl σ i))) (bI_iff (by show _ ↔ (nI 1 ≤ nf σ i 3 ∧ nf σ i 3 ≤ nI 4); rw [hU i 3 (by omega) (by decide)])) ?_
                refine lv_if_eq (tgt := 122) S.1 S.2.1 dL_home_104 rfl (fun h11 => ?_) (fun h11 => ?_)
                · skip
                  refine lv_iinc (k := 3) (v := (nI (i + 1))) S.1 S.2.1 dL_home_122 hl rfl (iincP i 1) (by decide) rfl (fun ls hl => ?_)
                  have hl : lv_has ls 9 [(6, .int (nI (i + 1))), (7, .long (lN (hk σ i))), (3, .int (oi (lwHS σ (rfSz σ n) i))), (4, .long (lN (lwLs σ (lwHS σ (rfSz σ n) i)))), (0, .ref a), (1, .ref b), (2, .int (rfSz σ n))] := hl
                  refine lv_goto (tgt := 26) S.1 S.2.1 dL_home_125 rfl ?_
                  have e : lwHS σ (rfSz σ n) (i + 1) = lwHS σ (rfSz σ n) i := by rw [lwHS, if_neg (fun z => z.2.1.elim (fun y => bI_0 h11 y.2) (fun y => y.1 h10))]
                  have hl : lv_has ls 9 [(3, .int (oi (lwHS σ (rfSz σ n) (i + 1)))), (4, .long (lN (lwLs σ (lwHS σ (rfSz σ n) (i + 1))))), (6, .int (nI (i + 1))), (0, .ref a), (1, .ref b), (2, .int (rfSz σ n))] := by
                    rw [show (oi (lwHS σ (rfSz σ n) (i + 1))) = (oi (lwHS σ (rfSz σ n) i)) from by first | exact congrArg oi e | exact congrArg (fun o => lN (lwLs σ o)) e]
                    rw [show (lN (lwLs σ (lwHS σ (rfSz σ n) (i + 1)))) = (lN (lwLs σ (lwHS σ (rfSz σ n) i))) from by first | exact congrArg oi e | exact congrArg (fun o => lN (lwLs σ o)) e]
                    exact lv_sub hl [2, 3, 0, 4, 5, 6] rfl
                  exact ih _ (by omega) (i + 1) ls rfl (by omega)  (lv_sub hl [0, 1, 2, 3, 4, 5] rfl)
                · skip
                  refine lv_lload S.1 S.2.1 dL_home_107 (lv_at hl 0 rfl) ?_
                  refine lv_lload S.1 S.2.1 dL_home_109 (lv_at hl 2 rfl) ?_
                  refine W.lcmp S.1 S.2.1 dL_home_111 ?_
                  refine lv_if_ge (tgt := 122) S.1 S.2.1 dL_home_112 rfl (fun h12 => ?_) (fun h12 => ?_)
                  · skip
                    refine lv_iinc (k := 3) (v := (nI (i + 1))) S.1 S.2.1 dL_home_122 hl rfl (iincP i 1) (by decide) rfl (fun ls hl => ?_)
                    have hl : lv_has ls 9 [(6, .int (nI (i + 1))), (7, .long (lN (hk σ i))), (3, .int (oi (lwHS σ (rfSz σ n) i))), (4, .long (lN (lwLs σ (lwHS σ (rfSz σ n) i)))), (0, .ref a), (1, .ref b), (2, .int (rfSz σ n))] := hl
                    refine lv_goto (tgt := 26) S.1 S.2.1 dL_home_125 rfl ?_
                    have e : lwHS σ (rfSz σ n) (i + 1) = lwHS σ (rfSz σ n) i := by rw [lwHS, if_neg (fun z => cmp_ge (hk_lt hF hlt) (ls_lt hF (by omega)) h12 z.2.2)]
                    have hl : lv_has ls 9 [(3, .int (oi (lwHS σ (rfSz σ n) (i + 1)))), (4, .long (lN (lwLs σ (lwHS σ (rfSz σ n) (i + 1))))), (6, .int (nI (i + 1))), (0, .ref a), (1, .ref b), (2, .int (rfSz σ n))] := by
                      rw [show (oi (lwHS σ (rfSz σ n) (i + 1))) = (oi (lwHS σ (rfSz σ n) i)) from by first | exact congrArg oi e | exact congrArg (fun o => lN (lwLs σ o)) e]
                      rw [show (lN (lwLs σ (lwHS σ (rfSz σ n) (i + 1)))) = (lN (lwLs σ (lwHS σ (rfSz σ n) i))) from by first | exact congrArg oi e | exact congrArg (fun o => lN (lwLs σ o)) e]
                      exact lv_sub hl [2, 3, 0, 4, 5, 6] rfl
                    exact ih _ (by omega) (i + 1) ls rfl (by omega)  (lv_sub hl [0, 1, 2, 3, 4, 5] rfl)
                  · skip
                    refine lv_iload S.1 S.2.1 dL_home_115 (lv_at hl 3 rfl) ?_
                    refine lv_istore_n S.1 S.2.1 dL_home_117 rfl hl (by decide) rfl (fun ls hl => ?_)
                    have hl : lv_has ls 9 [(3, .int (nI i)), (7, .long (lN (hk σ i))), (4, .long (lN (lwLs σ (lwHS σ (rfSz σ n) i)))), (6, .int (nI i)), (0, .ref a), (1, .ref b), (2, .int (rfSz σ n))] := hl
                    refine lv_lload S.1 S.2.1 dL_home_118 (lv_at hl 1 rfl) ?_
                    refine lv_lstore S.1 S.2.1 dL_home_120 hl (by decide) rfl (fun ls hl => ?_)
                    have hl : lv_has ls 9 [(4, .long (lN (hk σ i))), (3, .int (nI i)), (7, .long (lN (hk σ i))), (6, .int (nI i)), (0, .ref a), (1, .ref b), (2, .int (rfSz σ n))] := hl
                    refine lv_iinc (k := 3) (v := (nI (i + 1))) S.1 S.2.1 dL_home_122 hl rfl (iincP i 1) (by decide) rfl (fun ls hl => ?_)
                    have hl : lv_has ls 9 [(6, .int (nI (i + 1))), (4, .long (lN (hk σ i))), (3, .int (nI i)), (7, .long (lN (hk σ i))), (0, .ref a), (1, .ref b), (2, .int (rfSz σ n))] := hl
                    refine lv_goto (tgt := 26) S.1 S.2.1 dL_home_125 rfl ?_
                    have e : lwHS σ (rfSz σ n) (i + 1) = some i := by rw [lwHS, if_pos ⟨i_nle h9, Or.inl ⟨h10, bI_n0 h11⟩, cmp_lt (hk_lt hF hlt) (ls_lt hF (by omega)) h12⟩]
                    have hl : lv_has ls 9 [(3, .int (oi (lwHS σ (rfSz σ n) (i + 1)))), (4, .long (lN (lwLs σ (lwHS σ (rfSz σ n) (i + 1))))), (6, .int (nI (i + 1))), (0, .ref a), (1, .ref b), (2, .int (rfSz σ n))] := by
                      rw [show (oi (lwHS σ (rfSz σ n) (i + 1))) = (nI i) from by first | exact congrArg oi e | exact congrArg (fun o => lN (lwLs σ o)) e]
                      rw [show (lN (lwLs σ (lwHS σ (rfSz σ n) (i + 1)))) = (lN (hk σ i)) from by first | exact congrArg oi e | exact congrArg (fun o => lN (lwLs σ o)) e]
                      exact lv_sub hl [2, 1, 0, 4, 5, 6] rfl
                    exact ih _ (by omega) (i + 1) ls rfl (by omega)  (lv_sub hl [0, 1, 2, 3, 4, 5] rfl)
              · skip
                refine lv_aload_n S.1 S.2.1 dL_home_83 rfl (lv_at hl 5 rfl) ?_
                refine lv_iload S.1 S.2.1 dL_home_84 (lv_at hl 3 rfl) ?_
                refine x_lald S hE hEL (hc) i rfl (by omega) (by decide) dL_home_86 ?_
                refine xk_R (v := (fld 3 (κ i))) (x_runS (As := [.long (κ i)]) (rest := []) S hE hS (fun _ h => h.elim) (c_L_is l E (κ i) _) kv_L_is kw7_9 kw7_10 ⟨Nat.le_of_ble_eq_true rfl, Nat.le_of_ble_eq_true rfl⟩ rfl rfl rfl hl.1 rfl (Nat.le_of_ble_eq_true rfl) dL_home_87 ⟨Nat.zero_le _, Nat.zero_le _⟩) ?_
                refine x_top (y := (nf σ i 3)) ((hU i 3 (by omega) (by decide)).symm) ?_
                refine lv_iconst (v := (nI 4)) S.1 S.2.1 dL_home_90 (by decide) ?_
                refine lv_icmp_ne (tgt := 122) S.1 S.2.1 dL_home_91 rfl (fun h13 => ?_) (fun h13 => ?_)
                · skip
                  refine lv_iinc (k := 3) (v := (nI (i + 1))) S.1 S.2.1 dL_home_122 hl rfl (iincP i 1) (by decide) rfl (fun ls hl => ?_)
                  have hl : lv_has ls 9 [(6, .int (nI (i + 1))), (7, .long (lN (hk σ i))), (3, .int (oi (lwHS σ (rfSz σ n) i))), (4, .long (lN (lwLs σ (lwHS σ (rfSz σ n) i)))), (0, .ref a), (1, .ref b), (2, .int (rfSz σ n))] := hl
                  refine lv_goto (tgt := 26) S.1 S.2.1 dL_home_125 rfl ?_
                  have e : lwHS σ (rfSz σ n) (i + 1) = lwHS σ (rfSz σ n) i := by rw [lwHS, if_neg (fun z => z.2.1.elim (fun y => h10 y.1) (fun y => h13 y.2))]
                  have hl : lv_has ls 9 [(3, .int (oi (lwHS σ (rfSz σ n) (i + 1)))), (4, .long (lN (lwLs σ (lwHS σ (rfSz σ n) (i + 1))))), (6, .int (nI (i + 1))), (0, .ref a), (1, .ref b), (2, .int (rfSz σ n))] := by
                    rw [show (oi (lwHS σ (rfSz σ n) (i + 1))) = (oi (lwHS σ (rfSz σ n) i)) from by first | exact congrArg oi e | exact congrArg (fun o => lN (lwLs σ o)) e]
                    rw [show (lN (lwLs σ (lwHS σ (rfSz σ n) (i + 1)))) = (lN (lwLs σ (lwHS σ (rfSz σ n) i))) from by first | exact congrArg oi e | exact congrArg (fun o => lN (lwLs σ o)) e]
                    exact lv_sub hl [2, 3, 0, 4, 5, 6] rfl
                  exact ih _ (by omega) (i + 1) ls rfl (by omega)  (lv_sub hl [0, 1, 2, 3, 4, 5] rfl)
                · skip
                  refine lv_goto (tgt := 107) S.1 S.2.1 dL_home_94 rfl ?_
                  refine lv_lload S.1 S.2.1 dL_home_107 (lv_at hl 0 rfl) ?_
                  refine lv_lload S.1 S.2.1 dL_home_109 (lv_at hl 2 rfl) ?_
                  refine W.lcmp S.1 S.2.1 dL_home_111 ?_
                  refine lv_if_ge (tgt := 122) S.1 S.2.1 dL_home_112 rfl (fun h14 => ?_) (fun h14 => ?_)
                  · skip
                    refine lv_iinc (k := 3) (v := (nI (i + 1))) S.1 S.2.1 dL_home_122 hl rfl (iincP i 1) (by decide) rfl (fun ls hl => ?_)
                    have hl : lv_has ls 9 [(6, .int (nI (i + 1))), (7, .long (lN (hk σ i))), (3, .int (oi (lwHS σ (rfSz σ n) i))), (4, .long (lN (lwLs σ (lwHS σ (rfSz σ n) i)))), (0, .ref a), (1, .ref b), (2, .int (rfSz σ n))] := hl
                    refine lv_goto (tgt := 26) S.1 S.2.1 dL_home_125 rfl ?_
                    have e : lwHS σ (rfSz σ n) (i + 1) = lwHS σ (rfSz σ n) i := by rw [lwHS, if_neg (fun z => cmp_ge (hk_lt hF hlt) (ls_lt hF (by omega)) h14 z.2.2)]
                    have hl : lv_has ls 9 [(3, .int (oi (lwHS σ (rfSz σ n) (i + 1)))), (4, .long (lN (lwLs σ (lwHS σ (rfSz σ n) (i + 1))))), (6, .int (nI (i + 1))), (0, .ref a), (1, .ref b), (2, .int (rfSz σ n))] := by
                      rw [show (oi (lwHS σ (rfSz σ n) (i + 1))) = (oi (lwHS σ (rfSz σ n) i)) from by first | exact congrArg oi e | exact congrArg (fun o => lN (lwLs σ o)) e]
                      rw [show (lN (lwLs σ (lwHS σ (rfSz σ n) (i + 1)))) = (lN (lwLs σ (lwHS σ (rfSz σ n) i))) from by first | exact congrArg oi e | exact congrArg (fun o => lN (lwLs σ o)) e]
                      exact lv_sub hl [2, 3, 0, 4, 5, 6] rfl
                    exact ih _ (by omega) (i + 1) ls rfl (by omega)  (lv_sub hl [0, 1, 2, 3, 4, 5] rfl)
                  · skip
                    refine lv_iload S.1 S.2.1 dL_home_115 (lv_at hl 3 rfl) ?_
                    refine lv_istore_n S.1 S.2.1 dL_home_117 rfl hl (by decide) rfl (fun ls hl => ?_)
                    have hl : lv_has ls 9 [(3, .int (nI i)), (7, .long (lN (hk σ i))), (4, .long (lN (lwLs σ (lwHS σ (rfSz σ n) i)))), (6, .int (nI i)), (0, .ref a), (1, .ref b), (2, .int (rfSz σ n))] := hl
                    refine lv_lload S.1 S.2.1 dL_home_118 (lv_at hl 1 rfl) ?_
                    refine lv_lstore S.1 S.2.1 dL_home_120 hl (by decide) rfl (fun ls hl => ?_)
                    have hl : lv_has ls 9 [(4, .long (lN (hk σ i))), (3, .int (nI i)), (7, .long (lN (hk σ i))), (6, .int (nI i)), (0, .ref a), (1, .ref b), (2, .int (rfSz σ n))] := hl
                    refine lv_iinc (k := 3) (v := (nI (i + 1))) S.1 S.2.1 dL_home_122 hl rfl (iincP i 1) (by decide) rfl (fun ls hl => ?_)
                    have hl : lv_has ls 9 [(6, .int (nI (i + 1))), (4, .long (lN (hk σ i))), (3, .int (nI i)), (7, .long (lN (hk σ i))), (0, .ref a), (1, .ref b), (2, .int (rfSz σ n))] := hl
                    refine lv_goto (tgt := 26) S.1 S.2.1 dL_home_125 rfl ?_
                    have e : lwHS σ (rfSz σ n) (i + 1) = some i := by rw [lwHS, if_pos ⟨i_nle h9, Or.inr ⟨h10, h13⟩, cmp_lt (hk_lt hF hlt) (ls_lt hF (by omega)) h14⟩]
                    have hl : lv_has ls 9 [(3, .int (oi (lwHS σ (rfSz σ n) (i + 1)))), (4, .long (lN (lwLs σ (lwHS σ (rfSz σ n) (i + 1))))), (6, .int (nI (i + 1))), (0, .ref a), (1, .ref b), (2, .int (rfSz σ n))] := by
                      rw [show (oi (lwHS σ (rfSz σ n) (i + 1))) = (nI i) from by first | exact congrArg oi e | exact congrArg (fun o => lN (lwLs σ o)) e]
                      rw [show (lN (lwLs σ (lwHS σ (rfSz σ n) (i + 1)))) = (lN (hk σ i)) from by first | exact congrArg oi e | exact congrArg (fun o => lN (lwLs σ o)) e]
                      exact lv_sub hl [2, 1, 0, 4, 5, 6] rfl
                    exact ih _ (by omega) (i + 1) ls rfl (by omega)  (lv_sub hl [0, 1, 2, 3, 4, 5] rfl)
    exact hloop26 _ 0 ls rfl (Nat.zero_le _)  (lv_sub hl [2, 1, 0, 4, 5, 3] rfl)
  refine lv_if_le (tgt := 13) S.1 S.2.1 dL_home_6 rfl (fun h15 => ?_) (fun h15 => ?_)
  · skip
    refine lv_iconst (v := (nI 0)) S.1 S.2.1 dL_home_13 (by decide) ?_
    refine x_top (y := (rfSz σ n)) (by rw [rfSz]; first | rw [if_pos h15] | rw [if_neg h15]) ?_
    exact hj14  ls   (lv_sub hl [0, 1] rfl)
  · skip
    refine lv_iconst (v := (nI 1)) S.1 S.2.1 dL_home_9 (by decide) ?_
    refine lv_goto (tgt := 14) S.1 S.2.1 dL_home_10 rfl ?_
    refine x_top (y := (rfSz σ n)) (by rw [rfSz]; first | rw [if_pos h15] | rw [if_neg h15]) ?_
    exact hj14  ls   (lv_sub hl [0, 1] rfl)
