/-! 70.nc: what the law compares: a walk, by program -/
abbrev rm_L_isSo : Room := ({ frames := 7, cells := 1, slots := 20, locals := 158 } : Room)
set_option maxRecDepth 100000 in
set_option maxHeartbeats 2000000 in
theorem c_L_isSo (l : Launch) (E : XE) (B a b C n : Nat) (β : BS) (σ : Nat → Int32) (H : Heap) (hEL : EL E) (hD : LD B a b) (hB : BoxP E B β H) (hL : LwP E a b σ H) (hT : TR C n β σ) (hC : C ≤ 60) : Gi l E yL_isSo cL_isSo 15 (some .boolean) rm_L_isSo [.ref B, .ref a, .ref b] H (fun q => bk B 118 q ∨ H.size ≤ q) (fun v H1 => v = nI 1 ∧ BoxP E B β H1 ∧ LwP E a b σ H1) 1 20 := by
  refine met_of (by decide) (Nat.le_of_ble_eq_true rfl) (fun p e s m args below meth c hBD Q hQ ls hl => ?_)
  obtain ⟨S, hr, hlk, hnm, hE, hH⟩ := hBD
  subst hH
  have hl : lv_has ls 15 [(0, .ref B), (1, .ref a), (2, .ref b)] := hl
  have hS : va_S (fun q => bk B 118 q ∨ s.heap.size ≤ q) s.heap s.heap [] := va_S.rf
  obtain ⟨hg, κ, hc, hU⟩ := hL
  obtain ⟨hst, h0, hnC, hNB, hUq, hMK, ⟨sv, hs5, hsv⟩, hr7⟩ := tr_facts hT
  obtain ⟨hab, haB, hbB⟩ := hD
  have hn : n ≤ 64 := by omega
  have haz := xi_lt hg
  have hbz := xl_lt hc
  have hBz := box_lt hB
  obtain ⟨pl, hp8, hpl⟩ := tr_pl hT
  have hF := fb_U hn hU
  have h8 : 0 ≤ σ 8 := by obtain ⟨b8, -, hb8, e8⟩ := tr_bd hT; rw [e8]; exact nI_pos' (by omega)
  refine lv_aload_n S.1 S.2.1 dL_isSo_0 rfl (lv_at hl 1 rfl) ?_
  refine lv_aload_n S.1 S.2.1 dL_isSo_1 rfl (lv_at hl 2 rfl) ?_
  refine xk_R (v := (rfSum σ n)) (x_runS (As := [.ref a, .ref b]) (rest := []) S hE hS (fun _ h => h.elim) (c_L_sum l E a b n σ _ hEL ⟨hg, κ, hc, hU⟩ h0 hn) kv_L_sum kw7_6 kw7_7 ⟨Nat.le_of_ble_eq_true rfl, Nat.le_of_ble_eq_true rfl⟩ rfl rfl rfl hl.1 rfl (Nat.le_of_ble_eq_true rfl) dL_isSo_2 ⟨(Nat.le_of_ble_eq_true rfl), (Nat.le_of_ble_eq_true rfl)⟩) ?_
  refine lv_istore_n S.1 S.2.1 dL_isSo_5 rfl hl (by decide) rfl (fun ls hl => ?_)
  have hl : lv_has ls 15 [(3, .int (rfSum σ n)), (0, .ref B), (1, .ref a), (2, .ref b)] := hl
  refine lv_iconst (v := (nI 0)) S.1 S.2.1 dL_isSo_6 (by decide) ?_
  refine lv_istore S.1 S.2.1 dL_isSo_7 hl (by decide) rfl (fun ls hl => ?_)
  have hl : lv_has ls 15 [(4, .int (nI 0)), (3, .int (rfSum σ n)), (0, .ref B), (1, .ref a), (2, .ref b)] := hl
  refine lv_iconst (v := (nI 0)) S.1 S.2.1 dL_isSo_9 (by decide) ?_
  refine lv_istore S.1 S.2.1 dL_isSo_10 hl (by decide) rfl (fun ls hl => ?_)
  have hl : lv_has ls 15 [(5, .int (nI 0)), (4, .int (nI 0)), (3, .int (rfSum σ n)), (0, .ref B), (1, .ref a), (2, .ref b)] := hl
  refine lv_bipush (v := (nI 20)) S.1 S.2.1 dL_isSo_12 (by decide) ?_
  refine x_newI S hE hS kw1_3 (k := 20) rfl (by decide) (Nat.le_of_ble_eq_true rfl) (Nat.le_of_ble_eq_true rfl) dL_isSo_14 rfl (fun H hX hz1 hK hS => ?_)
  have hg := va_at.kept hg (hK a haz)
  have hc := va_at.kept hc (hK b hbz)
  have hB := hB.fr (fun q z => hK q (by have := z.2; omega))
  have hp := hX
  refine lv_astore S.1 S.2.1 dL_isSo_16 hl (by decide) rfl (fun ls hl => ?_)
  have hl : lv_has ls 15 [(6, .ref s.heap.size), (5, .int (nI 0)), (4, .int (nI 0)), (3, .int (rfSum σ n)), (0, .ref B), (1, .ref a), (2, .ref b)] := hl
  refine lv_iconst (v := (nI 1)) S.1 S.2.1 dL_isSo_18 (by decide) ?_
  refine lv_istore S.1 S.2.1 dL_isSo_19 hl (by decide) rfl (fun ls hl => ?_)
  have hl : lv_has ls 15 [(7, .int (nI 1)), (6, .ref s.heap.size), (5, .int (nI 0)), (4, .int (nI 0)), (3, .int (rfSum σ n)), (0, .ref B), (1, .ref a), (2, .ref b)] := hl
  refine lv_iconst (v := (nI 0)) S.1 S.2.1 dL_isSo_21 (by decide) ?_
  refine lv_istore S.1 S.2.1 dL_isSo_22 hl (by decide) rfl (fun ls hl => ?_)
  have hl : lv_has ls 15 [(8, .int (nI 0)), (7, .int (nI 1)), (6, .ref s.heap.size), (5, .int (nI 0)), (4, .int (nI 0)), (3, .int (rfSum σ n)), (0, .ref B), (1, .ref a), (2, .ref b)] := hl
  have hloop24 : ∀ (d : Nat) (i : Nat) (f : Nat → Int32) (H : Heap) (locs : List Loc) (ls : Array Slot), n - i = d → i ≤ n → PA σ n i f → BoxP E B β H → XI E a 9 σ H → XL E b 64 κ H → XI E s.heap.size 20 f H → va_S (fun q => bk B 118 q ∨ s.heap.size ≤ q) s.heap H locs → lv_has ls 15 [(8, .int (nI i)), (4, .int (rfAhd σ i)), (5, .int (lwAll σ n i)), (7, .int (nI 1)), (3, .int (rfSum σ n)), (6, .ref s.heap.size), (0, .ref B), (1, .ref a), (2, .ref b)] → W p l e rm_L_isSo s m args below meth c H locs 1 20 Q (F0 m 24 ls []) := by
    intro d24
    induction d24 using Nat.strongRecOn with
    | ind d24 ih24 =>
      intro i f H locs ls hd24 hi hPA hB hg hc hp hS hl
      refine lv_iload S.1 S.2.1 dL_isSo_24 (lv_at hl 0 rfl) ?_
      refine lv_aload_n S.1 S.2.1 dL_isSo_26 rfl (lv_at hl 7 rfl) ?_
      refine lv_iconst (v := (nI 0)) S.1 S.2.1 dL_isSo_27 (by decide) ?_
      refine x_iald S hE (hg) 0 rfl (by decide) (by decide) dL_isSo_28 ?_
      refine x_top (y := (nI n)) (h0) ?_
      refine lv_icmp_ge (tgt := 428) S.1 S.2.1 dL_isSo_29 rfl (fun h1 => ?_) (fun h1 => ?_)
      · skip
        have ei : i = n := by have := ge_of_le (by omega) (by omega) h1; omega
        rw [ei] at hl hPA
        have hl : lv_has ls 15 [(8, .int (nI n)), (4, .int (rfAhd σ n)), (5, .int (lwAll σ n n)), (7, .int (nI 1)), (3, .int (rfSum σ n)), (6, .ref s.heap.size), (0, .ref B), (1, .ref a), (2, .ref b)] := hl
        refine lv_iconst (v := (nI 0)) S.1 S.2.1 dL_isSo_428 (by decide) ?_
        refine lv_istore S.1 S.2.1 dL_isSo_429 hl (by decide) rfl (fun ls hl => ?_)
        have hl : lv_has ls 15 [(8, .int (nI 0)), (4, .int (rfAhd σ n)), (5, .int (lwAll σ n n)), (7, .int (nI 1)), (3, .int (rfSum σ n)), (6, .ref s.heap.size), (0, .ref B), (1, .ref a), (2, .ref b)] := hl
        have hloop431 : ∀ (d : Nat) (i : Nat) (H : Heap) (locs : List Loc) (ls : Array Slot), 20 - i = d → i ≤ 20 → BoxP E B β H → XI E a 9 σ H → XL E b 64 κ H → XI E s.heap.size 20 f H → va_S (fun q => bk B 118 q ∨ s.heap.size ≤ q) s.heap H locs → lv_has ls 15 [(8, .int (nI i)), (6, .ref s.heap.size), (7, .int (nI 1)), (5, .int (lwAll σ n n)), (4, .int (rfAhd σ n)), (3, .int (rfSum σ n)), (0, .ref B), (1, .ref a), (2, .ref b)] → W p l e rm_L_isSo s m args below meth c H locs 1 20 Q (F0 m 431 ls []) := by
          intro d431
          induction d431 using Nat.strongRecOn with
          | ind d431 ih431 =>
            intro i H locs ls hd431 hi hB hg hc hp hS hl
            refine lv_iload S.1 S.2.1 dL_isSo_431 (lv_at hl 0 rfl) ?_
            refine lv_bipush (v := (nI 20)) S.1 S.2.1 dL_isSo_433 (by decide) ?_
            refine lv_icmp_ge (tgt := 476) S.1 S.2.1 dL_isSo_435 rfl (fun h2 => ?_) (fun h2 => ?_)
            · skip
              refine lv_ldc2 (v := (-1)) S.1 S.2.1 S.2.2.2.1 (S.2.2.2.2 _ kw7_5) dL_isSo_476 ?_
              refine lv_lstore S.1 S.2.1 dL_isSo_479 hl (by decide) rfl (fun ls hl => ?_)
              have hl : lv_has ls 15 [(8, .long (-1)), (6, .ref s.heap.size), (7, .int (nI 1)), (5, .int (lwAll σ n n)), (4, .int (rfAhd σ n)), (3, .int (rfSum σ n)), (0, .ref B), (1, .ref a), (2, .ref b)] := hl
              refine lv_aload_n S.1 S.2.1 dL_isSo_481 rfl (lv_at hl 7 rfl) ?_
              refine lv_aload_n S.1 S.2.1 dL_isSo_482 rfl (lv_at hl 8 rfl) ?_
              refine lv_bipush (v := (nI 9)) S.1 S.2.1 dL_isSo_483 (by decide) ?_
              refine xk_R (v := (rfPlc σ n)) (x_runS (As := [.ref a, .ref b, .int (nI 9)]) (rest := []) S hE hS (fun _ h => h.elim) (c_L_many_0 l E a b n σ _ hEL ⟨hg, κ, hc, hU⟩ h0 hn) kv_L_many kw9_22 kw9_23 ⟨Nat.le_of_ble_eq_true rfl, Nat.le_of_ble_eq_true rfl⟩ rfl rfl rfl hl.1 rfl (Nat.le_of_ble_eq_true rfl) dL_isSo_485 ⟨(Nat.le_of_ble_eq_true rfl), (Nat.le_of_ble_eq_true rfl)⟩) ?_
              refine x_top (y := (nI pl)) (hpl) ?_
              refine lv_istore S.1 S.2.1 dL_isSo_488 hl (by decide) rfl (fun ls hl => ?_)
              have hl : lv_has ls 15 [(10, .int (nI pl)), (8, .long (-1)), (6, .ref s.heap.size), (7, .int (nI 1)), (5, .int (lwAll σ n n)), (4, .int (rfAhd σ n)), (3, .int (rfSum σ n)), (0, .ref B), (1, .ref a), (2, .ref b)] := hl
              refine lv_iconst (v := (nI 0)) S.1 S.2.1 dL_isSo_490 (by decide) ?_
              refine lv_istore S.1 S.2.1 dL_isSo_491 hl (by decide) rfl (fun ls hl => ?_)
              have hl : lv_has ls 15 [(11, .int (nI 0)), (10, .int (nI pl)), (8, .long (-1)), (6, .ref s.heap.size), (7, .int (nI 1)), (5, .int (lwAll σ n n)), (4, .int (rfAhd σ n)), (3, .int (rfSum σ n)), (0, .ref B), (1, .ref a), (2, .ref b)] := hl
              have hloop493 : ∀ (d : Nat) (i : Nat) (H : Heap) (locs : List Loc) (ls : Array Slot), pl - i = d → i ≤ pl → BoxP E B β H → XI E a 9 σ H → XL E b 64 κ H → va_S (fun q => bk B 118 q ∨ s.heap.size ≤ q) s.heap H locs → lv_has ls 15 [(11, .int (nI i)), (8, .long (bef σ (pv σ n i))), (10, .int (nI pl)), (7, .int (nI 1)), (5, .int (lwAll σ n n)), (4, .int (rfAhd σ n)), (3, .int (rfSum σ n)), (0, .ref B), (1, .ref a), (2, .ref b)] → W p l e rm_L_isSo s m args below meth c H locs 1 20 Q (F0 m 493 ls []) := by
                intro d493
                induction d493 using Nat.strongRecOn with
                | ind d493 ih493 =>
                  intro i H locs ls hd493 hi hB hg hc hS hl
                  refine lv_iload S.1 S.2.1 dL_isSo_493 (lv_at hl 0 rfl) ?_
                  refine lv_iload S.1 S.2.1 dL_isSo_495 (lv_at hl 2 rfl) ?_
                  refine lv_icmp_ge (tgt := 625) S.1 S.2.1 dL_isSo_497 rfl (fun h3 => ?_) (fun h3 => ?_)
                  · skip
                    refine lv_iconst (v := (nI 0)) S.1 S.2.1 dL_isSo_625 (by decide) ?_
                    refine lv_istore S.1 S.2.1 dL_isSo_626 hl (by decide) rfl (fun ls hl => ?_)
                    have hl : lv_has ls 15 [(11, .int (nI 0)), (8, .long (bef σ (pv σ n i))), (10, .int (nI pl)), (7, .int (nI 1)), (5, .int (lwAll σ n n)), (4, .int (rfAhd σ n)), (3, .int (rfSum σ n)), (0, .ref B), (1, .ref a), (2, .ref b)] := hl
                    have hloop628 : ∀ (d : Nat) (i : Nat) (H : Heap) (locs : List Loc) (ls : Array Slot), 12 - i = d → i ≤ 12 → BoxP E B β H → XI E a 9 σ H → XL E b 64 κ H → va_S (fun q => bk B 118 q ∨ s.heap.size ≤ q) s.heap H locs → lv_has ls 15 [(11, .int (nI i)), (10, .int (nI pl)), (7, .int (nI 1)), (5, .int (lwAll σ n n)), (4, .int (rfAhd σ n)), (3, .int (rfSum σ n)), (0, .ref B), (1, .ref a), (2, .ref b)] → W p l e rm_L_isSo s m args below meth c H locs 1 20 Q (F0 m 628 ls []) := by
                      intro d628
                      induction d628 using Nat.strongRecOn with
                      | ind d628 ih628 =>
                        intro i H locs ls hd628 hi hB hg hc hS hl
                        refine lv_iload S.1 S.2.1 dL_isSo_628 (lv_at hl 0 rfl) ?_
                        refine lv_bipush (v := (nI 12)) S.1 S.2.1 dL_isSo_630 (by decide) ?_
                        refine lv_icmp_ge (tgt := 681) S.1 S.2.1 dL_isSo_632 rfl (fun h4 => ?_) (fun h4 => ?_)
                        · skip
                          refine lv_iload S.1 S.2.1 dL_isSo_681 (lv_at hl 2 rfl) ?_
                          refine lv_if_eq (tgt := 816) S.1 S.2.1 dL_isSo_683 rfl (fun h5 => ?_) (fun h5 => ?_)
                          · exact absurd h5 (by decide)
                          · skip
                            refine lv_iload S.1 S.2.1 dL_isSo_686 (lv_at hl 3 rfl) ?_
                            refine lv_aload_n S.1 S.2.1 dL_isSo_688 rfl (lv_at hl 7 rfl) ?_
                            refine lv_bipush (v := (nI 8)) S.1 S.2.1 dL_isSo_689 (by decide) ?_
                            refine x_iald S hE (hg) 8 rfl (by decide) (by decide) dL_isSo_691 ?_
                            refine lv_icmp_gt (tgt := 816) S.1 S.2.1 dL_isSo_692 rfl (fun h6 => ?_) (fun h6 => ?_)
                            · exact absurd h6 (all_le hT)
                            · skip
                              refine lv_aload_n S.1 S.2.1 dL_isSo_695 rfl (lv_at hl 6 rfl) ?_
                              refine lv_iload S.1 S.2.1 dL_isSo_696 (lv_at hl 1 rfl) ?_
                              refine xk_R (v := (bxVoice β.1 (nI pl))) (x_runV (As := [.int (nI pl)]) (rest := []) S hE hS (fun _ h => h.elim) (c_X7_voiceAt l E B β (nI pl) _ hB) kv_X7_voiceAt kw10_1 kw10_2 kw10_3 (x_recv hE (hB.1) (ci := 7) rfl) ⟨Nat.le_of_ble_eq_true rfl, Nat.le_of_ble_eq_true rfl⟩ rfl rfl rfl hl.1 rfl (Nat.le_of_ble_eq_true rfl) dL_isSo_698 ⟨(Nat.le_of_ble_eq_true rfl), (Nat.le_of_ble_eq_true rfl)⟩) ?_
                              refine x_top (y := (-4)) (va_out hT hp8 hpl) ?_
                              refine lv_bipush (v := (-4)) S.1 S.2.1 dL_isSo_701 (by decide) ?_
                              refine lv_icmp_ne (tgt := 816) S.1 S.2.1 dL_isSo_703 rfl (fun h7 => ?_) (fun h7 => ?_)
                              · exact absurd h7 (by decide)
                              · skip
                                refine lv_aload_n S.1 S.2.1 dL_isSo_706 rfl (lv_at hl 6 rfl) ?_
                                refine xk_R (v := (xorNF (chHome β.1))) (x_runV (As := []) (rest := []) S hE hS (fun _ h => h.elim) (c_X7_next l E B β _ hB) kv_X7_next kw11_1 kw11_2 kw11_3 (x_recv hE (hB.1) (ci := 7) rfl) ⟨Nat.le_of_ble_eq_true rfl, Nat.le_of_ble_eq_true rfl⟩ rfl rfl rfl hl.1 rfl (Nat.le_of_ble_eq_true rfl) dL_isSo_707 ⟨(Nat.le_of_ble_eq_true rfl), (Nat.le_of_ble_eq_true rfl)⟩) ?_
                                refine x_top (y := (oi (rfNx σ n))) (nx_eq hT hC) ?_
                                refine lv_aload_n S.1 S.2.1 dL_isSo_710 rfl (lv_at hl 7 rfl) ?_
                                refine lv_aload_n S.1 S.2.1 dL_isSo_711 rfl (lv_at hl 8 rfl) ?_
                                refine xk_R (v := (oi (rfNx σ n))) (x_runS (As := [.ref a, .ref b]) (rest := [.int (oi (rfNx σ n))]) S hE hS (fun _ h => h.elim) (c_L_home l E a b n σ _ hEL ⟨hg, κ, hc, hU⟩ h0 hn hr7) kv_L_home kw11_12 kw11_13 ⟨Nat.le_of_ble_eq_true rfl, Nat.le_of_ble_eq_true rfl⟩ rfl rfl rfl hl.1 rfl (Nat.le_of_ble_eq_true rfl) dL_isSo_712 ⟨(Nat.le_of_ble_eq_true rfl), (Nat.le_of_ble_eq_true rfl)⟩) ?_
                                refine lv_icmp_ne (tgt := 816) S.1 S.2.1 dL_isSo_715 rfl (fun h8 => ?_) (fun h8 => ?_)
                                · exact absurd rfl h8
                                · skip
                                  refine lv_aload_n S.1 S.2.1 dL_isSo_718 rfl (lv_at hl 6 rfl) ?_
                                  refine lv_iconst (v := (nI 0)) S.1 S.2.1 dL_isSo_719 (by decide) ?_
                                  refine xk_R (v := (bxCount β (nI 0))) (x_runV (As := [.int (nI 0)]) (rest := []) S hE hS (fun _ h => h.elim) (c_X7_count l E B β (nI 0) _ hB) kv_X7_count kw11_16 kw11_17 kw11_18 (x_recv hE (hB.1) (ci := 7) rfl) ⟨Nat.le_of_ble_eq_true rfl, Nat.le_of_ble_eq_true rfl⟩ rfl rfl rfl hl.1 rfl (Nat.le_of_ble_eq_true rfl) dL_isSo_720 ⟨(Nat.le_of_ble_eq_true rfl), (Nat.le_of_ble_eq_true rfl)⟩) ?_
                                  refine x_top (y := (nI n)) (ct_0 hT) ?_
                                  refine lv_aload_n S.1 S.2.1 dL_isSo_723 rfl (lv_at hl 7 rfl) ?_
                                  refine lv_iconst (v := (nI 0)) S.1 S.2.1 dL_isSo_724 (by decide) ?_
                                  refine x_iald S hE (hg) 0 rfl (by decide) (by decide) dL_isSo_725 ?_
                                  refine x_top (y := (nI n)) (h0) ?_
                                  refine lv_icmp_ne (tgt := 816) S.1 S.2.1 dL_isSo_726 rfl (fun h9 => ?_) (fun h9 => ?_)
                                  · exact absurd rfl h9
                                  · skip
                                    refine lv_aload_n S.1 S.2.1 dL_isSo_729 rfl (lv_at hl 6 rfl) ?_
                                    refine lv_iconst (v := (nI 1)) S.1 S.2.1 dL_isSo_730 (by decide) ?_
                                    refine xk_R (v := (bxCount β (nI 1))) (x_runV (As := [.int (nI 1)]) (rest := []) S hE hS (fun _ h => h.elim) (c_X7_count l E B β (nI 1) _ hB) kv_X7_count kw11_16 kw11_17 kw11_18 (x_recv hE (hB.1) (ci := 7) rfl) ⟨Nat.le_of_ble_eq_true rfl, Nat.le_of_ble_eq_true rfl⟩ rfl rfl rfl hl.1 rfl (Nat.le_of_ble_eq_true rfl) dL_isSo_731 ⟨(Nat.le_of_ble_eq_true rfl), (Nat.le_of_ble_eq_true rfl)⟩) ?_
                                    refine x_top (y := (nI pl)) ((ct_1 hT).trans hpl) ?_
                                    refine lv_iload S.1 S.2.1 dL_isSo_734 (lv_at hl 1 rfl) ?_
                                    refine lv_icmp_ne (tgt := 816) S.1 S.2.1 dL_isSo_736 rfl (fun h10 => ?_) (fun h10 => ?_)
                                    · exact absurd rfl h10
                                    · skip
                                      refine lv_aload_n S.1 S.2.1 dL_isSo_739 rfl (lv_at hl 6 rfl) ?_
                                      refine lv_iconst (v := (nI 2)) S.1 S.2.1 dL_isSo_740 (by decide) ?_
                                      refine xk_R (v := (bxCount β (nI 2))) (x_runV (As := [.int (nI 2)]) (rest := []) S hE hS (fun _ h => h.elim) (c_X7_count l E B β (nI 2) _ hB) kv_X7_count kw11_16 kw11_17 kw11_18 (x_recv hE (hB.1) (ci := 7) rfl) ⟨Nat.le_of_ble_eq_true rfl, Nat.le_of_ble_eq_true rfl⟩ rfl rfl rfl hl.1 rfl (Nat.le_of_ble_eq_true rfl) dL_isSo_741 ⟨(Nat.le_of_ble_eq_true rfl), (Nat.le_of_ble_eq_true rfl)⟩) ?_
                                      refine x_top (y := (rfFree σ n)) (ct_2 hT) ?_
                                      refine lv_aload_n S.1 S.2.1 dL_isSo_744 rfl (lv_at hl 7 rfl) ?_
                                      refine lv_bipush (v := (nI 6)) S.1 S.2.1 dL_isSo_745 (by decide) ?_
                                      refine x_iald S hE (hg) 6 rfl (by decide) (by decide) dL_isSo_747 ?_
                                      refine lv_iload S.1 S.2.1 dL_isSo_748 (lv_at hl 1 rfl) ?_
                                      refine lv_icmp_le (tgt := 763) S.1 S.2.1 dL_isSo_750 rfl (fun h11 => ?_) (fun h11 => ?_)
                                      · skip
                                        refine lv_iconst (v := (nI 0)) S.1 S.2.1 dL_isSo_763 (by decide) ?_
                                        refine lv_icmp_ne (tgt := 816) S.1 S.2.1 dL_isSo_764 rfl (fun h12 => ?_) (fun h12 => ?_)
                                        · exact absurd (fr_1 hT hpl hp8 h11) h12
                                        · skip
                                          refine lv_aload_n S.1 S.2.1 dL_isSo_767 rfl (lv_at hl 6 rfl) ?_
                                          refine lv_iconst (v := (nI 3)) S.1 S.2.1 dL_isSo_768 (by decide) ?_
                                          refine xk_R (v := (bxCount β (nI 3))) (x_runV (As := [.int (nI 3)]) (rest := []) S hE hS (fun _ h => h.elim) (c_X7_count l E B β (nI 3) _ hB) kv_X7_count kw11_16 kw11_17 kw11_18 (x_recv hE (hB.1) (ci := 7) rfl) ⟨Nat.le_of_ble_eq_true rfl, Nat.le_of_ble_eq_true rfl⟩ rfl rfl rfl hl.1 rfl (Nat.le_of_ble_eq_true rfl) dL_isSo_769 ⟨(Nat.le_of_ble_eq_true rfl), (Nat.le_of_ble_eq_true rfl)⟩) ?_
                                          refine x_top (y := (rfMany σ (nI 5) n)) (ct_3 hT) ?_
                                          refine lv_aload_n S.1 S.2.1 dL_isSo_772 rfl (lv_at hl 7 rfl) ?_
                                          refine lv_aload_n S.1 S.2.1 dL_isSo_773 rfl (lv_at hl 8 rfl) ?_
                                          refine lv_iconst (v := (nI 5)) S.1 S.2.1 dL_isSo_774 (by decide) ?_
                                          refine xk_R (v := (rfMany σ (nI 5) n)) (x_runS (As := [.ref a, .ref b, .int (nI 5)]) (rest := [.int (rfMany σ (nI 5) n)]) S hE hS (fun _ h => h.elim) (c_L_many_z l E a b n σ 5 _ hEL ⟨hg, κ, hc, hU⟩ h0 hn (by decide)) kv_L_many kw9_22 kw9_23 ⟨Nat.le_of_ble_eq_true rfl, Nat.le_of_ble_eq_true rfl⟩ rfl rfl rfl hl.1 rfl (Nat.le_of_ble_eq_true rfl) dL_isSo_775 ⟨(Nat.le_of_ble_eq_true rfl), (Nat.le_of_ble_eq_true rfl)⟩) ?_
                                          refine lv_icmp_ne (tgt := 816) S.1 S.2.1 dL_isSo_778 rfl (fun h13 => ?_) (fun h13 => ?_)
                                          · exact absurd rfl h13
                                          · skip
                                            refine lv_aload_n S.1 S.2.1 dL_isSo_781 rfl (lv_at hl 6 rfl) ?_
                                            refine lv_iconst (v := (nI 4)) S.1 S.2.1 dL_isSo_782 (by decide) ?_
                                            refine xk_R (v := (bxCount β (nI 4))) (x_runV (As := [.int (nI 4)]) (rest := []) S hE hS (fun _ h => h.elim) (c_X7_count l E B β (nI 4) _ hB) kv_X7_count kw11_16 kw11_17 kw11_18 (x_recv hE (hB.1) (ci := 7) rfl) ⟨Nat.le_of_ble_eq_true rfl, Nat.le_of_ble_eq_true rfl⟩ rfl rfl rfl hl.1 rfl (Nat.le_of_ble_eq_true rfl) dL_isSo_783 ⟨(Nat.le_of_ble_eq_true rfl), (Nat.le_of_ble_eq_true rfl)⟩) ?_
                                            refine x_top (y := (rfAhd σ n)) ((ct_4 hT).trans (ahd_eq σ n)) ?_
                                            refine lv_iload S.1 S.2.1 dL_isSo_786 (lv_at hl 4 rfl) ?_
                                            refine lv_icmp_ne (tgt := 816) S.1 S.2.1 dL_isSo_788 rfl (fun h14 => ?_) (fun h14 => ?_)
                                            · exact absurd rfl h14
                                            · skip
                                              refine lv_aload_n S.1 S.2.1 dL_isSo_791 rfl (lv_at hl 6 rfl) ?_
                                              refine lv_iconst (v := (nI 5)) S.1 S.2.1 dL_isSo_792 (by decide) ?_
                                              refine xk_R (v := (bxCount β (nI 5))) (x_runV (As := [.int (nI 5)]) (rest := []) S hE hS (fun _ h => h.elim) (c_X7_count l E B β (nI 5) _ hB) kv_X7_count kw11_16 kw11_17 kw11_18 (x_recv hE (hB.1) (ci := 7) rfl) ⟨Nat.le_of_ble_eq_true rfl, Nat.le_of_ble_eq_true rfl⟩ rfl rfl rfl hl.1 rfl (Nat.le_of_ble_eq_true rfl) dL_isSo_793 ⟨(Nat.le_of_ble_eq_true rfl), (Nat.le_of_ble_eq_true rfl)⟩) ?_
                                              refine x_top (y := (σ 1)) (ct_5 hT) ?_
                                              refine lv_aload_n S.1 S.2.1 dL_isSo_796 rfl (lv_at hl 7 rfl) ?_
                                              refine lv_iconst (v := (nI 1)) S.1 S.2.1 dL_isSo_797 (by decide) ?_
                                              refine x_iald S hE (hg) 1 rfl (by decide) (by decide) dL_isSo_798 ?_
                                              refine lv_icmp_ne (tgt := 816) S.1 S.2.1 dL_isSo_799 rfl (fun h15 => ?_) (fun h15 => ?_)
                                              · exact absurd rfl h15
                                              · skip
                                                refine lv_aload_n S.1 S.2.1 dL_isSo_802 rfl (lv_at hl 6 rfl) ?_
                                                refine lv_bipush (v := (nI 6)) S.1 S.2.1 dL_isSo_803 (by decide) ?_
                                                refine xk_R (v := (bxCount β (nI 6))) (x_runV (As := [.int (nI 6)]) (rest := []) S hE hS (fun _ h => h.elim) (c_X7_count l E B β (nI 6) _ hB) kv_X7_count kw11_16 kw11_17 kw11_18 (x_recv hE (hB.1) (ci := 7) rfl) ⟨Nat.le_of_ble_eq_true rfl, Nat.le_of_ble_eq_true rfl⟩ rfl rfl rfl hl.1 rfl (Nat.le_of_ble_eq_true rfl) dL_isSo_805 ⟨(Nat.le_of_ble_eq_true rfl), (Nat.le_of_ble_eq_true rfl)⟩) ?_
                                                refine x_top (y := (rfSum σ n)) (ct_6 hT) ?_
                                                refine lv_iload_n S.1 S.2.1 dL_isSo_808 rfl (lv_at hl 5 rfl) ?_
                                                refine lv_icmp_ne (tgt := 816) S.1 S.2.1 dL_isSo_809 rfl (fun h16 => ?_) (fun h16 => ?_)
                                                · exact absurd rfl h16
                                                · skip
                                                  refine lv_iconst (v := (nI 1)) S.1 S.2.1 dL_isSo_812 (by decide) ?_
                                                  refine lv_goto (tgt := 817) S.1 S.2.1 dL_isSo_813 rfl ?_
                                                  refine lv_istore S.1 S.2.1 dL_isSo_817 hl (by decide) rfl (fun ls hl => ?_)
                                                  have hl : lv_has ls 15 [(7, .int (nI 1)), (11, .int (nI i)), (10, .int (nI pl)), (5, .int (lwAll σ n n)), (4, .int (rfAhd σ n)), (3, .int (rfSum σ n)), (0, .ref B), (1, .ref a), (2, .ref b)] := hl
                                                  refine lv_iload S.1 S.2.1 dL_isSo_819 (lv_at hl 0 rfl) ?_
                                                  refine lv_if_eq (tgt := 932) S.1 S.2.1 dL_isSo_821 rfl (fun h17 => ?_) (fun h17 => ?_)
                                                  · exact absurd h17 (by decide)
                                                  · skip
                                                    refine lv_aload_n S.1 S.2.1 dL_isSo_824 rfl (lv_at hl 6 rfl) ?_
                                                    refine lv_bipush (v := (nI 7)) S.1 S.2.1 dL_isSo_825 (by decide) ?_
                                                    refine xk_R (v := (bxCount β (nI 7))) (x_runV (As := [.int (nI 7)]) (rest := []) S hE hS (fun _ h => h.elim) (c_X7_count l E B β (nI 7) _ hB) kv_X7_count kw11_16 kw11_17 kw11_18 (x_recv hE (hB.1) (ci := 7) rfl) ⟨Nat.le_of_ble_eq_true rfl, Nat.le_of_ble_eq_true rfl⟩ rfl rfl rfl hl.1 rfl (Nat.le_of_ble_eq_true rfl) dL_isSo_827 ⟨(Nat.le_of_ble_eq_true rfl), (Nat.le_of_ble_eq_true rfl)⟩) ?_
                                                    refine x_top (y := (lwAll σ n n)) ((ct_7 hT).trans (all_hra hT)) ?_
                                                    refine lv_iload S.1 S.2.1 dL_isSo_830 (lv_at hl 3 rfl) ?_
                                                    refine lv_icmp_ne (tgt := 932) S.1 S.2.1 dL_isSo_832 rfl (fun h18 => ?_) (fun h18 => ?_)
                                                    · exact absurd rfl h18
                                                    · skip
                                                      refine lv_aload_n S.1 S.2.1 dL_isSo_835 rfl (lv_at hl 6 rfl) ?_
                                                      refine lv_bipush (v := (nI 8)) S.1 S.2.1 dL_isSo_836 (by decide) ?_
                                                      refine xk_R (v := (bxCount β (nI 8))) (x_runV (As := [.int (nI 8)]) (rest := []) S hE hS (fun _ h => h.elim) (c_X7_count l E B β (nI 8) _ hB) kv_X7_count kw11_16 kw11_17 kw11_18 (x_recv hE (hB.1) (ci := 7) rfl) ⟨Nat.le_of_ble_eq_true rfl, Nat.le_of_ble_eq_true rfl⟩ rfl rfl rfl hl.1 rfl (Nat.le_of_ble_eq_true rfl) dL_isSo_838 ⟨(Nat.le_of_ble_eq_true rfl), (Nat.le_of_ble_eq_true rfl)⟩) ?_
                                                      refine x_top (y := (σ 2)) (ct_8 hT) ?_
                                                      refine lv_aload_n S.1 S.2.1 dL_isSo_841 rfl (lv_at hl 7 rfl) ?_
                                                      refine lv_iconst (v := (nI 2)) S.1 S.2.1 dL_isSo_842 (by decide) ?_
                                                      refine x_iald S hE (hg) 2 rfl (by decide) (by decide) dL_isSo_843 ?_
                                                      refine lv_icmp_ne (tgt := 932) S.1 S.2.1 dL_isSo_844 rfl (fun h19 => ?_) (fun h19 => ?_)
                                                      · exact absurd rfl h19
                                                      · skip
                                                        refine lv_aload_n S.1 S.2.1 dL_isSo_847 rfl (lv_at hl 6 rfl) ?_
                                                        refine lv_bipush (v := (nI 9)) S.1 S.2.1 dL_isSo_848 (by decide) ?_
                                                        refine xk_R (v := (bxCount β (nI 9))) (x_runV (As := [.int (nI 9)]) (rest := []) S hE hS (fun _ h => h.elim) (c_X7_count l E B β (nI 9) _ hB) kv_X7_count kw11_16 kw11_17 kw11_18 (x_recv hE (hB.1) (ci := 7) rfl) ⟨Nat.le_of_ble_eq_true rfl, Nat.le_of_ble_eq_true rfl⟩ rfl rfl rfl hl.1 rfl (Nat.le_of_ble_eq_true rfl) dL_isSo_850 ⟨(Nat.le_of_ble_eq_true rfl), (Nat.le_of_ble_eq_true rfl)⟩) ?_
                                                        refine x_top (y := (σ 3)) (ct_9 hT) ?_
                                                        refine lv_aload_n S.1 S.2.1 dL_isSo_853 rfl (lv_at hl 7 rfl) ?_
                                                        refine lv_iconst (v := (nI 3)) S.1 S.2.1 dL_isSo_854 (by decide) ?_
                                                        refine x_iald S hE (hg) 3 rfl (by decide) (by decide) dL_isSo_855 ?_
                                                        refine lv_icmp_ne (tgt := 932) S.1 S.2.1 dL_isSo_856 rfl (fun h20 => ?_) (fun h20 => ?_)
                                                        · exact absurd rfl h20
                                                        · skip
                                                          refine lv_aload_n S.1 S.2.1 dL_isSo_859 rfl (lv_at hl 6 rfl) ?_
                                                          refine lv_bipush (v := (nI 10)) S.1 S.2.1 dL_isSo_860 (by decide) ?_
                                                          refine xk_R (v := (bxCount β (nI 10))) (x_runV (As := [.int (nI 10)]) (rest := []) S hE hS (fun _ h => h.elim) (c_X7_count l E B β (nI 10) _ hB) kv_X7_count kw11_16 kw11_17 kw11_18 (x_recv hE (hB.1) (ci := 7) rfl) ⟨Nat.le_of_ble_eq_true rfl, Nat.le_of_ble_eq_true rfl⟩ rfl rfl rfl hl.1 rfl (Nat.le_of_ble_eq_true rfl) dL_isSo_862 ⟨(Nat.le_of_ble_eq_true rfl), (Nat.le_of_ble_eq_true rfl)⟩) ?_
                                                          refine x_top (y := (σ 4)) (ct_10 hT) ?_
                                                          refine lv_aload_n S.1 S.2.1 dL_isSo_865 rfl (lv_at hl 7 rfl) ?_
                                                          refine lv_iconst (v := (nI 4)) S.1 S.2.1 dL_isSo_866 (by decide) ?_
                                                          refine x_iald S hE (hg) 4 rfl (by decide) (by decide) dL_isSo_867 ?_
                                                          refine lv_icmp_ne (tgt := 932) S.1 S.2.1 dL_isSo_868 rfl (fun h21 => ?_) (fun h21 => ?_)
                                                          · exact absurd rfl h21
                                                          · skip
                                                            refine lv_aload_n S.1 S.2.1 dL_isSo_871 rfl (lv_at hl 6 rfl) ?_
                                                            refine lv_bipush (v := (nI 12)) S.1 S.2.1 dL_isSo_872 (by decide) ?_
                                                            refine xk_R (v := (bxCount β (nI 12))) (x_runV (As := [.int (nI 12)]) (rest := []) S hE hS (fun _ h => h.elim) (c_X7_count l E B β (nI 12) _ hB) kv_X7_count kw11_16 kw11_17 kw11_18 (x_recv hE (hB.1) (ci := 7) rfl) ⟨Nat.le_of_ble_eq_true rfl, Nat.le_of_ble_eq_true rfl⟩ rfl rfl rfl hl.1 rfl (Nat.le_of_ble_eq_true rfl) dL_isSo_874 ⟨(Nat.le_of_ble_eq_true rfl), (Nat.le_of_ble_eq_true rfl)⟩) ?_
                                                            refine x_top (y := (nI 0)) (ct_12 hT) ?_
                                                            refine lv_if_ne (tgt := 932) S.1 S.2.1 dL_isSo_877 rfl (fun h22 => ?_) (fun h22 => ?_)
                                                            · exact absurd h22 (by decide)
                                                            · skip
                                                              refine lv_aload_n S.1 S.2.1 dL_isSo_880 rfl (lv_at hl 6 rfl) ?_
                                                              refine lv_bipush (v := (nI 20)) S.1 S.2.1 dL_isSo_881 (by decide) ?_
                                                              refine xk_R (v := (bxCount β (nI 20))) (x_runV (As := [.int (nI 20)]) (rest := []) S hE hS (fun _ h => h.elim) (c_X7_count l E B β (nI 20) _ hB) kv_X7_count kw11_16 kw11_17 kw11_18 (x_recv hE (hB.1) (ci := 7) rfl) ⟨Nat.le_of_ble_eq_true rfl, Nat.le_of_ble_eq_true rfl⟩ rfl rfl rfl hl.1 rfl (Nat.le_of_ble_eq_true rfl) dL_isSo_883 ⟨(Nat.le_of_ble_eq_true rfl), (Nat.le_of_ble_eq_true rfl)⟩) ?_
                                                              refine x_top (y := (σ 6)) (ct_20 hT) ?_
                                                              refine lv_aload_n S.1 S.2.1 dL_isSo_886 rfl (lv_at hl 7 rfl) ?_
                                                              refine lv_bipush (v := (nI 6)) S.1 S.2.1 dL_isSo_887 (by decide) ?_
                                                              refine x_iald S hE (hg) 6 rfl (by decide) (by decide) dL_isSo_889 ?_
                                                              refine lv_icmp_ne (tgt := 932) S.1 S.2.1 dL_isSo_890 rfl (fun h23 => ?_) (fun h23 => ?_)
                                                              · exact absurd rfl h23
                                                              · skip
                                                                refine lv_aload_n S.1 S.2.1 dL_isSo_893 rfl (lv_at hl 6 rfl) ?_
                                                                refine lv_bipush (v := (nI 21)) S.1 S.2.1 dL_isSo_894 (by decide) ?_
                                                                refine xk_R (v := (bxCount β (nI 21))) (x_runV (As := [.int (nI 21)]) (rest := []) S hE hS (fun _ h => h.elim) (c_X7_count l E B β (nI 21) _ hB) kv_X7_count kw11_16 kw11_17 kw11_18 (x_recv hE (hB.1) (ci := 7) rfl) ⟨Nat.le_of_ble_eq_true rfl, Nat.le_of_ble_eq_true rfl⟩ rfl rfl rfl hl.1 rfl (Nat.le_of_ble_eq_true rfl) dL_isSo_896 ⟨(Nat.le_of_ble_eq_true rfl), (Nat.le_of_ble_eq_true rfl)⟩) ?_
                                                                refine x_top (y := (σ 7)) (ct_21 hT) ?_
                                                                refine lv_aload_n S.1 S.2.1 dL_isSo_899 rfl (lv_at hl 7 rfl) ?_
                                                                refine lv_bipush (v := (nI 7)) S.1 S.2.1 dL_isSo_900 (by decide) ?_
                                                                refine x_iald S hE (hg) 7 rfl (by decide) (by decide) dL_isSo_902 ?_
                                                                refine lv_icmp_ne (tgt := 932) S.1 S.2.1 dL_isSo_903 rfl (fun h24 => ?_) (fun h24 => ?_)
                                                                · exact absurd rfl h24
                                                                · skip
                                                                  refine lv_aload_n S.1 S.2.1 dL_isSo_906 rfl (lv_at hl 6 rfl) ?_
                                                                  refine lv_bipush (v := (nI 22)) S.1 S.2.1 dL_isSo_907 (by decide) ?_
                                                                  refine xk_R (v := (bxCount β (nI 22))) (x_runV (As := [.int (nI 22)]) (rest := []) S hE hS (fun _ h => h.elim) (c_X7_count l E B β (nI 22) _ hB) kv_X7_count kw11_16 kw11_17 kw11_18 (x_recv hE (hB.1) (ci := 7) rfl) ⟨Nat.le_of_ble_eq_true rfl, Nat.le_of_ble_eq_true rfl⟩ rfl rfl rfl hl.1 rfl (Nat.le_of_ble_eq_true rfl) dL_isSo_909 ⟨(Nat.le_of_ble_eq_true rfl), (Nat.le_of_ble_eq_true rfl)⟩) ?_
                                                                  refine x_top (y := (σ 8)) (ct_22 hT) ?_
                                                                  refine lv_aload_n S.1 S.2.1 dL_isSo_912 rfl (lv_at hl 7 rfl) ?_
                                                                  refine lv_bipush (v := (nI 8)) S.1 S.2.1 dL_isSo_913 (by decide) ?_
                                                                  refine x_iald S hE (hg) 8 rfl (by decide) (by decide) dL_isSo_915 ?_
                                                                  refine lv_icmp_ne (tgt := 932) S.1 S.2.1 dL_isSo_916 rfl (fun h25 => ?_) (fun h25 => ?_)
                                                                  · exact absurd rfl h25
                                                                  · skip
                                                                    refine lv_aload_n S.1 S.2.1 dL_isSo_919 rfl (lv_at hl 6 rfl) ?_
                                                                    refine xk_W (x_runV (As := []) (rest := []) S hE hS (fun _ h => Or.inl h) (c_X7_mix l E B β _ hB) kv_X7_mix kw12_4 kw12_5 kw12_6 (x_recv hE (hB.1) (ci := 7) rfl) ⟨Nat.le_of_ble_eq_true rfl, Nat.le_of_ble_eq_true rfl⟩ rfl rfl rfl hl.1 rfl (Nat.le_of_ble_eq_true rfl) dL_isSo_920 ⟨(Nat.le_of_ble_eq_true rfl), (Nat.le_of_ble_eq_true rfl)⟩) hS (fun _ h => Or.inl h) (fun v H locs hX hO1 hS => ?_)
                                                                    have hg := va_at.kept hg (hO1.2 a haB)
                                                                    have hc := va_at.kept hc (hO1.2 b hbB)
                                                                    obtain ⟨⟨mz, sh, hv1⟩, hB⟩ := hX
                                                                    have hv1 := hv1.trans (mix_eq hT mz sh)
                                                                    subst hv1
                                                                    refine lv_iload S.1 S.2.1 dL_isSo_923 (lv_at hl 3 rfl) ?_
                                                                    refine lv_icmp_ne (tgt := 932) S.1 S.2.1 dL_isSo_925 rfl (fun h26 => ?_) (fun h26 => ?_)
                                                                    · exact absurd rfl h26
                                                                    · skip
                                                                      refine lv_iconst (v := (nI 1)) S.1 S.2.1 dL_isSo_928 (by decide) ?_
                                                                      refine lv_goto (tgt := 933) S.1 S.2.1 dL_isSo_929 rfl ?_
                                                                      subst hQ
                                                                      refine x_retG S hr hlk (show narrow .boolean (.int (nI 1)) = .int (nI 1) from by decide) hS ?_ dL_isSo_933
                                                                      exact ⟨rfl, hB, hg, κ, hc, hU⟩
                                      · skip
                                        refine lv_aload_n S.1 S.2.1 dL_isSo_753 rfl (lv_at hl 7 rfl) ?_
                                        refine lv_bipush (v := (nI 6)) S.1 S.2.1 dL_isSo_754 (by decide) ?_
                                        refine x_iald S hE (hg) 6 rfl (by decide) (by decide) dL_isSo_756 ?_
                                        refine lv_iload S.1 S.2.1 dL_isSo_757 (lv_at hl 1 rfl) ?_
                                        refine lv_isub S.1 S.2.1 dL_isSo_759 ?_
                                        refine lv_goto (tgt := 764) S.1 S.2.1 dL_isSo_760 rfl ?_
                                        refine lv_icmp_ne (tgt := 816) S.1 S.2.1 dL_isSo_764 rfl (fun h27 => ?_) (fun h27 => ?_)
                                        · exact absurd (fr_2 hT hpl hp8 h11) h27
                                        · skip
                                          refine lv_aload_n S.1 S.2.1 dL_isSo_767 rfl (lv_at hl 6 rfl) ?_
                                          refine lv_iconst (v := (nI 3)) S.1 S.2.1 dL_isSo_768 (by decide) ?_
                                          refine xk_R (v := (bxCount β (nI 3))) (x_runV (As := [.int (nI 3)]) (rest := []) S hE hS (fun _ h => h.elim) (c_X7_count l E B β (nI 3) _ hB) kv_X7_count kw11_16 kw11_17 kw11_18 (x_recv hE (hB.1) (ci := 7) rfl) ⟨Nat.le_of_ble_eq_true rfl, Nat.le_of_ble_eq_true rfl⟩ rfl rfl rfl hl.1 rfl (Nat.le_of_ble_eq_true rfl) dL_isSo_769 ⟨(Nat.le_of_ble_eq_true rfl), (Nat.le_of_ble_eq_true rfl)⟩) ?_
                                          refine x_top (y := (rfMany σ (nI 5) n)) (ct_3 hT) ?_
                                          refine lv_aload_n S.1 S.2.1 dL_isSo_772 rfl (lv_at hl 7 rfl) ?_
                                          refine lv_aload_n S.1 S.2.1 dL_isSo_773 rfl (lv_at hl 8 rfl) ?_
                                          refine lv_iconst (v := (nI 5)) S.1 S.2.1 dL_isSo_774 (by decide) ?_
                                          refine xk_R (v := (rfMany σ (nI 5) n)) (x_runS (As := [.ref a, .ref b, .int (nI 5)]) (rest := [.int (rfMany σ (nI 5) n)]) S hE hS (fun _ h => h.elim) (c_L_many_z l E a b n σ 5 _ hEL ⟨hg, κ, hc, hU⟩ h0 hn (by decide)) kv_L_many kw9_22 kw9_23 ⟨Nat.le_of_ble_eq_true rfl, Nat.le_of_ble_eq_true rfl⟩ rfl rfl rfl hl.1 rfl (Nat.le_of_ble_eq_true rfl) dL_isSo_775 ⟨(Nat.le_of_ble_eq_true rfl), (Nat.le_of_ble_eq_true rfl)⟩) ?_
                                          refine lv_icmp_ne (tgt := 816) S.1 S.2.1 dL_isSo_778 rfl (fun h28 => ?_) (fun h28 => ?_)
                                          · exact absurd rfl h28
                                          · skip
                                            refine lv_aload_n S.1 S.2.1 dL_isSo_781 rfl (lv_at hl 6 rfl) ?_
                                            refine lv_iconst (v := (nI 4)) S.1 S.2.1 dL_isSo_782 (by decide) ?_
                                            refine xk_R (v := (bxCount β (nI 4))) (x_runV (As := [.int (nI 4)]) (rest := []) S hE hS (fun _ h => h.elim) (c_X7_count l E B β (nI 4) _ hB) kv_X7_count kw11_16 kw11_17 kw11_18 (x_recv hE (hB.1) (ci := 7) rfl) ⟨Nat.le_of_ble_eq_true rfl, Nat.le_of_ble_eq_true rfl⟩ rfl rfl rfl hl.1 rfl (Nat.le_of_ble_eq_true rfl) dL_isSo_783 ⟨(Nat.le_of_ble_eq_true rfl), (Nat.le_of_ble_eq_true rfl)⟩) ?_
                                            refine x_top (y := (rfAhd σ n)) ((ct_4 hT).trans (ahd_eq σ n)) ?_
                                            refine lv_iload S.1 S.2.1 dL_isSo_786 (lv_at hl 4 rfl) ?_
                                            refine lv_icmp_ne (tgt := 816) S.1 S.2.1 dL_isSo_788 rfl (fun h29 => ?_) (fun h29 => ?_)
                                            · exact absurd rfl h29
                                            · skip
                                              refine lv_aload_n S.1 S.2.1 dL_isSo_791 rfl (lv_at hl 6 rfl) ?_
                                              refine lv_iconst (v := (nI 5)) S.1 S.2.1 dL_isSo_792 (by decide) ?_
                                              refine xk_R (v := (bxCount β (nI 5))) (x_runV (As := [.int (nI 5)]) (rest := []) S hE hS (fun _ h => h.elim) (c_X7_count l E B β (nI 5) _ hB) kv_X7_count kw11_16 kw11_17 kw11_18 (x_recv hE (hB.1) (ci := 7) rfl) ⟨Nat.le_of_ble_eq_true rfl, Nat.le_of_ble_eq_true rfl⟩ rfl rfl rfl hl.1 rfl (Nat.le_of_ble_eq_true rfl) dL_isSo_793 ⟨(Nat.le_of_ble_eq_true rfl), (Nat.le_of_ble_eq_true rfl)⟩) ?_
                                              refine x_top (y := (σ 1)) (ct_5 hT) ?_
                                              refine lv_aload_n S.1 S.2.1 dL_isSo_796 rfl (lv_at hl 7 rfl) ?_
                                              refine lv_iconst (v := (nI 1)) S.1 S.2.1 dL_isSo_797 (by decide) ?_
                                              refine x_iald S hE (hg) 1 rfl (by decide) (by decide) dL_isSo_798 ?_
                                              refine lv_icmp_ne (tgt := 816) S.1 S.2.1 dL_isSo_799 rfl (fun h30 => ?_) (fun h30 => ?_)
                                              · exact absurd rfl h30
                                              · skip
                                                refine lv_aload_n S.1 S.2.1 dL_isSo_802 rfl (lv_at hl 6 rfl) ?_
                                                refine lv_bipush (v := (nI 6)) S.1 S.2.1 dL_isSo_803 (by decide) ?_
                                                refine xk_R (v := (bxCount β (nI 6))) (x_runV (As := [.int (nI 6)]) (rest := []) S hE hS (fun _ h => h.elim) (c_X7_count l E B β (nI 6) _ hB) kv_X7_count kw11_16 kw11_17 kw11_18 (x_recv hE (hB.1) (ci := 7) rfl) ⟨Nat.le_of_ble_eq_true rfl, Nat.le_of_ble_eq_true rfl⟩ rfl rfl rfl hl.1 rfl (Nat.le_of_ble_eq_true rfl) dL_isSo_805 ⟨(Nat.le_of_ble_eq_true rfl), (Nat.le_of_ble_eq_true rfl)⟩) ?_
                                                refine x_top (y := (rfSum σ n)) (ct_6 hT) ?_
                                                refine lv_iload_n S.1 S.2.1 dL_isSo_808 rfl (lv_at hl 5 rfl) ?_
                                                refine lv_icmp_ne (tgt := 816) S.1 S.2.1 dL_isSo_809 rfl (fun h31 => ?_) (fun h31 => ?_)
                                                · exact absurd rfl h31
                                                · skip
                                                  refine lv_iconst (v := (nI 1)) S.1 S.2.1 dL_isSo_812 (by decide) ?_
                                                  refine lv_goto (tgt := 817) S.1 S.2.1 dL_isSo_813 rfl ?_
                                                  refine lv_istore S.1 S.2.1 dL_isSo_817 hl (by decide) rfl (fun ls hl => ?_)
                                                  have hl : lv_has ls 15 [(7, .int (nI 1)), (11, .int (nI i)), (10, .int (nI pl)), (5, .int (lwAll σ n n)), (4, .int (rfAhd σ n)), (3, .int (rfSum σ n)), (0, .ref B), (1, .ref a), (2, .ref b)] := hl
                                                  refine lv_iload S.1 S.2.1 dL_isSo_819 (lv_at hl 0 rfl) ?_
                                                  refine lv_if_eq (tgt := 932) S.1 S.2.1 dL_isSo_821 rfl (fun h32 => ?_) (fun h32 => ?_)
                                                  · exact absurd h32 (by decide)
                                                  · skip
                                                    refine lv_aload_n S.1 S.2.1 dL_isSo_824 rfl (lv_at hl 6 rfl) ?_
                                                    refine lv_bipush (v := (nI 7)) S.1 S.2.1 dL_isSo_825 (by decide) ?_
                                                    refine xk_R (v := (bxCount β (nI 7))) (x_runV (As := [.int (nI 7)]) (rest := []) S hE hS (fun _ h => h.elim) (c_X7_count l E B β (nI 7) _ hB) kv_X7_count kw11_16 kw11_17 kw11_18 (x_recv hE (hB.1) (ci := 7) rfl) ⟨Nat.le_of_ble_eq_true rfl, Nat.le_of_ble_eq_true rfl⟩ rfl rfl rfl hl.1 rfl (Nat.le_of_ble_eq_true rfl) dL_isSo_827 ⟨(Nat.le_of_ble_eq_true rfl), (Nat.le_of_ble_eq_true rfl)⟩) ?_
                                                    refine x_top (y := (lwAll σ n n)) ((ct_7 hT).trans (all_hra hT)) ?_
                                                    refine lv_iload S.1 S.2.1 dL_isSo_830 (lv_at hl 3 rfl) ?_
                                                    refine lv_icmp_ne (tgt := 932) S.1 S.2.1 dL_isSo_832 rfl (fun h33 => ?_) (fun h33 => ?_)
                                                    · exact absurd rfl h33
                                                    · skip
                                                      refine lv_aload_n S.1 S.2.1 dL_isSo_835 rfl (lv_at hl 6 rfl) ?_
                                                      refine lv_bipush (v := (nI 8)) S.1 S.2.1 dL_isSo_836 (by decide) ?_
                                                      refine xk_R (v := (bxCount β (nI 8))) (x_runV (As := [.int (nI 8)]) (rest := []) S hE hS (fun _ h => h.elim) (c_X7_count l E B β (nI 8) _ hB) kv_X7_count kw11_16 kw11_17 kw11_18 (x_recv hE (hB.1) (ci := 7) rfl) ⟨Nat.le_of_ble_eq_true rfl, Nat.le_of_ble_eq_true rfl⟩ rfl rfl rfl hl.1 rfl (Nat.le_of_ble_eq_true rfl) dL_isSo_838 ⟨(Nat.le_of_ble_eq_true rfl), (Nat.le_of_ble_eq_true rfl)⟩) ?_
                                                      refine x_top (y := (σ 2)) (ct_8 hT) ?_
                                                      refine lv_aload_n S.1 S.2.1 dL_isSo_841 rfl (lv_at hl 7 rfl) ?_
                                                      refine lv_iconst (v := (nI 2)) S.1 S.2.1 dL_isSo_842 (by decide) ?_
                                                      refine x_iald S hE (hg) 2 rfl (by decide) (by decide) dL_isSo_843 ?_
                                                      refine lv_icmp_ne (tgt := 932) S.1 S.2.1 dL_isSo_844 rfl (fun h34 => ?_) (fun h34 => ?_)
                                                      · exact absurd rfl h34
                                                      · skip
                                                        refine lv_aload_n S.1 S.2.1 dL_isSo_847 rfl (lv_at hl 6 rfl) ?_
                                                        refine lv_bipush (v := (nI 9)) S.1 S.2.1 dL_isSo_848 (by decide) ?_
                                                        refine xk_R (v := (bxCount β (nI 9))) (x_runV (As := [.int (nI 9)]) (rest := []) S hE hS (fun _ h => h.elim) (c_X7_count l E B β (nI 9) _ hB) kv_X7_count kw11_16 kw11_17 kw11_18 (x_recv hE (hB.1) (ci := 7) rfl) ⟨Nat.le_of_ble_eq_true rfl, Nat.le_of_ble_eq_true rfl⟩ rfl rfl rfl hl.1 rfl (Nat.le_of_ble_eq_true rfl) dL_isSo_850 ⟨(Nat.le_of_ble_eq_true rfl), (Nat.le_of_ble_eq_true rfl)⟩) ?_
                                                        refine x_top (y := (σ 3)) (ct_9 hT) ?_
                                                        refine lv_aload_n S.1 S.2.1 dL_isSo_853 rfl (lv_at hl 7 rfl) ?_
                                                        refine lv_iconst (v := (nI 3)) S.1 S.2.1 dL_isSo_854 (by decide) ?_
                                                        refine x_iald S hE (hg) 3 rfl (by decide) (by decide) dL_isSo_855 ?_
                                                        refine lv_icmp_ne (tgt := 932) S.1 S.2.1 dL_isSo_856 rfl (fun h35 => ?_) (fun h35 => ?_)
                                                        · exact absurd rfl h35
                                                        · skip
                                                          refine lv_aload_n S.1 S.2.1 dL_isSo_859 rfl (lv_at hl 6 rfl) ?_
                                                          refine lv_bipush (v := (nI 10)) S.1 S.2.1 dL_isSo_860 (by decide) ?_
                                                          refine xk_R (v := (bxCount β (nI 10))) (x_runV (As := [.int (nI 10)]) (rest := []) S hE hS (fun _ h => h.elim) (c_X7_count l E B β (nI 10) _ hB) kv_X7_count kw11_16 kw11_17 kw11_18 (x_recv hE (hB.1) (ci := 7) rfl) ⟨Nat.le_of_ble_eq_true rfl, Nat.le_of_ble_eq_true rfl⟩ rfl rfl rfl hl.1 rfl (Nat.le_of_ble_eq_true rfl) dL_isSo_862 ⟨(Nat.le_of_ble_eq_true rfl), (Nat.le_of_ble_eq_true rfl)⟩) ?_
                                                          refine x_top (y := (σ 4)) (ct_10 hT) ?_
                                                          refine lv_aload_n S.1 S.2.1 dL_isSo_865 rfl (lv_at hl 7 rfl) ?_
                                                          refine lv_iconst (v := (nI 4)) S.1 S.2.1 dL_isSo_866 (by decide) ?_
                                                          refine x_iald S hE (hg) 4 rfl (by decide) (by decide) dL_isSo_867 ?_
                                                          refine lv_icmp_ne (tgt := 932) S.1 S.2.1 dL_isSo_868 rfl (fun h36 => ?_) (fun h36 => ?_)
                                                          · exact absurd rfl h36
                                                          · skip
                                                            refine lv_aload_n S.1 S.2.1 dL_isSo_871 rfl (lv_at hl 6 rfl) ?_
                                                            refine lv_bipush (v := (nI 12)) S.1 S.2.1 dL_isSo_872 (by decide) ?_
                                                            refine xk_R (v := (bxCount β (nI 12))) (x_runV (As := [.int (nI 12)]) (rest := []) S hE hS (fun _ h => h.elim) (c_X7_count l E B β (nI 12) _ hB) kv_X7_count kw11_16 kw11_17 kw11_18 (x_recv hE (hB.1) (ci := 7) rfl) ⟨Nat.le_of_ble_eq_true rfl, Nat.le_of_ble_eq_true rfl⟩ rfl rfl rfl hl.1 rfl (Nat.le_of_ble_eq_true rfl) dL_isSo_874 ⟨(Nat.le_of_ble_eq_true rfl), (Nat.le_of_ble_eq_true rfl)⟩) ?_
                                                            refine x_top (y := (nI 0)) (ct_12 hT) ?_
                                                            refine lv_if_ne (tgt := 932) S.1 S.2.1 dL_isSo_877 rfl (fun h37 => ?_) (fun h37 => ?_)
                                                            · exact absurd h37 (by decide)
                                                            · skip
                                                              refine lv_aload_n S.1 S.2.1 dL_isSo_880 rfl (lv_at hl 6 rfl) ?_
                                                              refine lv_bipush (v := (nI 20)) S.1 S.2.1 dL_isSo_881 (by decide) ?_
                                                              refine xk_R (v := (bxCount β (nI 20))) (x_runV (As := [.int (nI 20)]) (rest := []) S hE hS (fun _ h => h.elim) (c_X7_count l E B β (nI 20) _ hB) kv_X7_count kw11_16 kw11_17 kw11_18 (x_recv hE (hB.1) (ci := 7) rfl) ⟨Nat.le_of_ble_eq_true rfl, Nat.le_of_ble_eq_true rfl⟩ rfl rfl rfl hl.1 rfl (Nat.le_of_ble_eq_true rfl) dL_isSo_883 ⟨(Nat.le_of_ble_eq_true rfl), (Nat.le_of_ble_eq_true rfl)⟩) ?_
                                                              refine x_top (y := (σ 6)) (ct_20 hT) ?_
                                                              refine lv_aload_n S.1 S.2.1 dL_isSo_886 rfl (lv_at hl 7 rfl) ?_
                                                              refine lv_bipush (v := (nI 6)) S.1 S.2.1 dL_isSo_887 (by decide) ?_
                                                              refine x_iald S hE (hg) 6 rfl (by decide) (by decide) dL_isSo_889 ?_
                                                              refine lv_icmp_ne (tgt := 932) S.1 S.2.1 dL_isSo_890 rfl (fun h38 => ?_) (fun h38 => ?_)
                                                              · exact absurd rfl h38
                                                              · skip
                                                                refine lv_aload_n S.1 S.2.1 dL_isSo_893 rfl (lv_at hl 6 rfl) ?_
                                                                refine lv_bipush (v := (nI 21)) S.1 S.2.1 dL_isSo_894 (by decide) ?_
                                                                refine xk_R (v := (bxCount β (nI 21))) (x_runV (As := [.int (nI 21)]) (rest := []) S hE hS (fun _ h => h.elim) (c_X7_count l E B β (nI 21) _ hB) kv_X7_count kw11_16 kw11_17 kw11_18 (x_recv hE (hB.1) (ci := 7) rfl) ⟨Nat.le_of_ble_eq_true rfl, Nat.le_of_ble_eq_true rfl⟩ rfl rfl rfl hl.1 rfl (Nat.le_of_ble_eq_true rfl) dL_isSo_896 ⟨(Nat.le_of_ble_eq_true rfl), (Nat.le_of_ble_eq_true rfl)⟩) ?_
                                                                refine x_top (y := (σ 7)) (ct_21 hT) ?_
                                                                refine lv_aload_n S.1 S.2.1 dL_isSo_899 rfl (lv_at hl 7 rfl) ?_
                                                                refine lv_bipush (v := (nI 7)) S.1 S.2.1 dL_isSo_900 (by decide) ?_
                                                                refine x_iald S hE (hg) 7 rfl (by decide) (by decide) dL_isSo_902 ?_
                                                                refine lv_icmp_ne (tgt := 932) S.1 S.2.1 dL_isSo_903 rfl (fun h39 => ?_) (fun h39 => ?_)
                                                                · exact absurd rfl h39
                                                                · skip
                                                                  refine lv_aload_n S.1 S.2.1 dL_isSo_906 rfl (lv_at hl 6 rfl) ?_
                                                                  refine lv_bipush (v := (nI 22)) S.1 S.2.1 dL_isSo_907 (by decide) ?_
                                                                  refine xk_R (v := (bxCount β (nI 22))) (x_runV (As := [.int (nI 22)]) (rest := []) S hE hS (fun _ h => h.elim) (c_X7_count l E B β (nI 22) _ hB) kv_X7_count kw11_16 kw11_17 kw11_18 (x_recv hE (hB.1) (ci := 7) rfl) ⟨Nat.le_of_ble_eq_true rfl, Nat.le_of_ble_eq_true rfl⟩ rfl rfl rfl hl.1 rfl (Nat.le_of_ble_eq_true rfl) dL_isSo_909 ⟨(Nat.le_of_ble_eq_true rfl), (Nat.le_of_ble_eq_true rfl)⟩) ?_
                                                                  refine x_top (y := (σ 8)) (ct_22 hT) ?_
                                                                  refine lv_aload_n S.1 S.2.1 dL_isSo_912 rfl (lv_at hl 7 rfl) ?_
                                                                  refine lv_bipush (v := (nI 8)) S.1 S.2.1 dL_isSo_913 (by decide) ?_
                                                                  refine x_iald S hE (hg) 8 rfl (by decide) (by decide) dL_isSo_915 ?_
                                                                  refine lv_icmp_ne (tgt := 932) S.1 S.2.1 dL_isSo_916 rfl (fun h40 => ?_) (fun h40 => ?_)
                                                                  · exact absurd rfl h40
                                                                  · skip
                                                                    refine lv_aload_n S.1 S.2.1 dL_isSo_919 rfl (lv_at hl 6 rfl) ?_
                                                                    refine xk_W (x_runV (As := []) (rest := []) S hE hS (fun _ h => Or.inl h) (c_X7_mix l E B β _ hB) kv_X7_mix kw12_4 kw12_5 kw12_6 (x_recv hE (hB.1) (ci := 7) rfl) ⟨Nat.le_of_ble_eq_true rfl, Nat.le_of_ble_eq_true rfl⟩ rfl rfl rfl hl.1 rfl (Nat.le_of_ble_eq_true rfl) dL_isSo_920 ⟨(Nat.le_of_ble_eq_true rfl), (Nat.le_of_ble_eq_true rfl)⟩) hS (fun _ h => Or.inl h) (fun v H locs hX hO1 hS => ?_)
                                                                    have hg := va_at.kept hg (hO1.2 a haB)
                                                                    have hc := va_at.kept hc (hO1.2 b hbB)
                                                                    obtain ⟨⟨mz, sh, hv1⟩, hB⟩ := hX
                                                                    have hv1 := hv1.trans (mix_eq hT mz sh)
                                                                    subst hv1
                                                                    refine lv_iload S.1 S.2.1 dL_isSo_923 (lv_at hl 3 rfl) ?_
                                                                    refine lv_icmp_ne (tgt := 932) S.1 S.2.1 dL_isSo_925 rfl (fun h41 => ?_) (fun h41 => ?_)
                                                                    · exact absurd rfl h41
                                                                    · skip
                                                                      refine lv_iconst (v := (nI 1)) S.1 S.2.1 dL_isSo_928 (by decide) ?_
                                                                      refine lv_goto (tgt := 933) S.1 S.2.1 dL_isSo_929 rfl ?_
                                                                      subst hQ
                                                                      refine x_retG S hr hlk (show narrow .boolean (.int (nI 1)) = .int (nI 1) from by decide) hS ?_ dL_isSo_933
                                                                      exact ⟨rfl, hB, hg, κ, hc, hU⟩
                        · skip
                          have hlt := lt_of_nle (by omega) (by omega) h4
                          refine lv_iload S.1 S.2.1 dL_isSo_635 (lv_at hl 2 rfl) ?_
                          refine lv_if_eq (tgt := 681) S.1 S.2.1 dL_isSo_637 rfl (fun h42 => ?_) (fun h42 => ?_)
                          · exact absurd h42 (by decide)
                          · skip
                            refine lv_aload_n S.1 S.2.1 dL_isSo_640 rfl (lv_at hl 6 rfl) ?_
                            refine lv_iload S.1 S.2.1 dL_isSo_641 (lv_at hl 0 rfl) ?_
                            refine lv_iconst (v := (nI 4)) S.1 S.2.1 dL_isSo_643 (by decide) ?_
                            refine lv_irem S.1 S.2.1 dL_isSo_644 (by decide) ?_
                            refine x_top (y := (nI (i % 4))) (rem_nI (by omega) (by decide) (by decide)) ?_
                            refine lv_iload S.1 S.2.1 dL_isSo_645 (lv_at hl 0 rfl) ?_
                            refine lv_iconst (v := (nI 4)) S.1 S.2.1 dL_isSo_647 (by decide) ?_
                            refine lv_idiv S.1 S.2.1 dL_isSo_648 (by decide) ?_
                            refine x_top (y := (nI (i / 4))) (pk_div (by omega) (by decide) (by decide)) ?_
                            refine xk_R (v := (bxFind β.1 (nI (i % 4)) (nI (i / 4)))) (x_runV (As := [.int (nI (i % 4)), .int (nI (i / 4))]) (rest := []) S hE hS (fun _ h => h.elim) (c_X7_find l E B β (nI (i % 4)) (nI (i / 4)) _ hB) kv_X7_find kw10_5 kw10_6 kw10_7 (x_recv hE (hB.1) (ci := 7) rfl) ⟨Nat.le_of_ble_eq_true rfl, Nat.le_of_ble_eq_true rfl⟩ rfl rfl rfl hl.1 rfl (Nat.le_of_ble_eq_true rfl) dL_isSo_649 ⟨(Nat.le_of_ble_eq_true rfl), (Nat.le_of_ble_eq_true rfl)⟩) ?_
                            refine x_top (y := (oi (lwV σ (nI (i % 4)) (nI (i / 4)) n 0))) (fi_eq2 hT (by omega) (by omega)) ?_
                            refine lv_aload_n S.1 S.2.1 dL_isSo_652 rfl (lv_at hl 7 rfl) ?_
                            refine lv_aload_n S.1 S.2.1 dL_isSo_653 rfl (lv_at hl 8 rfl) ?_
                            refine lv_iload S.1 S.2.1 dL_isSo_654 (lv_at hl 0 rfl) ?_
                            refine lv_iconst (v := (nI 4)) S.1 S.2.1 dL_isSo_656 (by decide) ?_
                            refine lv_irem S.1 S.2.1 dL_isSo_657 (by decide) ?_
                            refine x_top (y := (nI (i % 4))) (rem_nI (by omega) (by decide) (by decide)) ?_
                            refine lv_iload S.1 S.2.1 dL_isSo_658 (lv_at hl 0 rfl) ?_
                            refine lv_iconst (v := (nI 4)) S.1 S.2.1 dL_isSo_660 (by decide) ?_
                            refine lv_idiv S.1 S.2.1 dL_isSo_661 (by decide) ?_
                            refine x_top (y := (nI (i / 4))) (pk_div (by omega) (by decide) (by decide)) ?_
                            refine xk_R (v := (oi (lwV σ (nI (i % 4)) (nI (i / 4)) n 0))) (x_runS (As := [.ref a, .ref b, .int (nI (i % 4)), .int (nI (i / 4))]) (rest := [.int (oi (lwV σ (nI (i % 4)) (nI (i / 4)) n 0))]) S hE hS (fun _ h => h.elim) (c_L_voice l E a b n σ (nI (i % 4)) (nI (i / 4)) _ hEL ⟨hg, κ, hc, hU⟩ h0 hn (⟨i % 4, by omega, rfl⟩) (⟨i / 4, by omega, rfl⟩)) kv_L_voice kw10_22 kw10_23 ⟨Nat.le_of_ble_eq_true rfl, Nat.le_of_ble_eq_true rfl⟩ rfl rfl rfl hl.1 rfl (Nat.le_of_ble_eq_true rfl) dL_isSo_662 ⟨(Nat.le_of_ble_eq_true rfl), (Nat.le_of_ble_eq_true rfl)⟩) ?_
                            refine lv_icmp_ne (tgt := 672) S.1 S.2.1 dL_isSo_665 rfl (fun h43 => ?_) (fun h43 => ?_)
                            · exact absurd rfl h43
                            · skip
                              refine lv_iconst (v := (nI 1)) S.1 S.2.1 dL_isSo_668 (by decide) ?_
                              refine lv_goto (tgt := 673) S.1 S.2.1 dL_isSo_669 rfl ?_
                              refine lv_istore S.1 S.2.1 dL_isSo_673 hl (by decide) rfl (fun ls hl => ?_)
                              have hl : lv_has ls 15 [(7, .int (nI 1)), (11, .int (nI i)), (10, .int (nI pl)), (5, .int (lwAll σ n n)), (4, .int (rfAhd σ n)), (3, .int (rfSum σ n)), (0, .ref B), (1, .ref a), (2, .ref b)] := hl
                              refine lv_iinc (k := 1) (v := (nI (i + 1))) S.1 S.2.1 dL_isSo_675 hl rfl (iincP i 1) (by decide) rfl (fun ls hl => ?_)
                              have hl : lv_has ls 15 [(11, .int (nI (i + 1))), (7, .int (nI 1)), (10, .int (nI pl)), (5, .int (lwAll σ n n)), (4, .int (rfAhd σ n)), (3, .int (rfSum σ n)), (0, .ref B), (1, .ref a), (2, .ref b)] := hl
                              refine lv_goto (tgt := 628) S.1 S.2.1 dL_isSo_678 rfl ?_
                              exact ih628 _ (by omega) (i + 1) _ _ ls rfl (by omega) (hB) (hg) (hc) (hS) (lv_sub hl [0, 2, 1, 3, 4, 5, 6, 7, 8] rfl)
                    exact hloop628 _ 0 _ _ ls rfl (Nat.zero_le _) (hB) (hg) (hc) (hS) (lv_sub hl [0, 2, 3, 4, 5, 6, 7, 8, 9] rfl)
                  · skip
                    have hlt := lt_of_nle (by omega) (by omega) h3
                    refine lv_iload S.1 S.2.1 dL_isSo_500 (lv_at hl 3 rfl) ?_
                    refine lv_if_eq (tgt := 625) S.1 S.2.1 dL_isSo_502 rfl (fun h44 => ?_) (fun h44 => ?_)
                    · exact absurd h44 (by decide)
                    · skip
                      refine lv_iconst (v := (-1)) S.1 S.2.1 dL_isSo_505 (by decide) ?_
                      refine lv_istore S.1 S.2.1 dL_isSo_506 hl (by decide) rfl (fun ls hl => ?_)
                      have hl : lv_has ls 15 [(12, .int (-1)), (11, .int (nI i)), (8, .long (bef σ (pv σ n i))), (10, .int (nI pl)), (7, .int (nI 1)), (5, .int (lwAll σ n n)), (4, .int (rfAhd σ n)), (3, .int (rfSum σ n)), (0, .ref B), (1, .ref a), (2, .ref b)] := hl
                      refine lv_iconst (v := (nI 0)) S.1 S.2.1 dL_isSo_508 (by decide) ?_
                      refine lv_istore S.1 S.2.1 dL_isSo_509 hl (by decide) rfl (fun ls hl => ?_)
                      have hl : lv_has ls 15 [(13, .int (nI 0)), (12, .int (-1)), (11, .int (nI i)), (8, .long (bef σ (pv σ n i))), (10, .int (nI pl)), (7, .int (nI 1)), (5, .int (lwAll σ n n)), (4, .int (rfAhd σ n)), (3, .int (rfSum σ n)), (0, .ref B), (1, .ref a), (2, .ref b)] := hl
                      have hloop511 : ∀ (d : Nat) (k : Nat) (H : Heap) (locs : List Loc) (ls : Array Slot), n - k = d → k ≤ n → BoxP E B β H → XI E a 9 σ H → XL E b 64 κ H → va_S (fun q => bk B 118 q ∨ s.heap.size ≤ q) s.heap H locs → lv_has ls 15 [(13, .int (nI k)), (12, .int (o1 (lwFn σ (pv σ n i) k))), (11, .int (nI i)), (8, .long (bef σ (pv σ n i))), (10, .int (nI pl)), (7, .int (nI 1)), (5, .int (lwAll σ n n)), (4, .int (rfAhd σ n)), (3, .int (rfSum σ n)), (0, .ref B), (1, .ref a), (2, .ref b)] → W p l e rm_L_isSo s m args below meth c H locs 1 20 Q (F0 m 511 ls []) := by
                        intro d511
                        induction d511 using Nat.strongRecOn with
                        | ind d511 ih511 =>
                          intro k H locs ls hd511 hk hB hg hc hS hl
                          refine lv_iload S.1 S.2.1 dL_isSo_511 (lv_at hl 0 rfl) ?_
                          refine lv_aload_n S.1 S.2.1 dL_isSo_513 rfl (lv_at hl 10 rfl) ?_
                          refine lv_iconst (v := (nI 0)) S.1 S.2.1 dL_isSo_514 (by decide) ?_
                          refine x_iald S hE (hg) 0 rfl (by decide) (by decide) dL_isSo_515 ?_
                          refine x_top (y := (nI n)) (h0) ?_
                          refine lv_icmp_ge (tgt := 587) S.1 S.2.1 dL_isSo_516 rfl (fun h45 => ?_) (fun h45 => ?_)
                          · skip
                            have ek : k = n := by have := ge_of_le (by omega) (by omega) h45; omega
                            obtain ⟨j, hj1, hj2, hjn, hj3⟩ := fn_va hT hC hp8 hpl hlt
                            rw [ek, hj1] at hl
                            have hl : lv_has ls 15 [(13, .int (nI n)), (12, .int (nI j)), (11, .int (nI i)), (8, .long (bef σ (pv σ n i))), (10, .int (nI pl)), (7, .int (nI 1)), (5, .int (lwAll σ n n)), (4, .int (rfAhd σ n)), (3, .int (rfSum σ n)), (0, .ref B), (1, .ref a), (2, .ref b)] := hl
                            refine lv_aload_n S.1 S.2.1 dL_isSo_587 rfl (lv_at hl 11 rfl) ?_
                            refine lv_iload S.1 S.2.1 dL_isSo_588 (lv_at hl 1 rfl) ?_
                            refine x_lald S hE hEL (hc) j rfl (by omega) (by decide) dL_isSo_590 ?_
                            refine lv_bipush (v := (nI 42)) S.1 S.2.1 dL_isSo_591 (by decide) ?_
                            refine lv_bipush (v := (nI 16)) S.1 S.2.1 dL_isSo_593 (by decide) ?_
                            refine xk_R (v := (lwG (κ j) (nI 42) (nI 16))) (x_runS (As := [.long (κ j), .int (nI 42), .int (nI 16)]) (rest := []) S hE hS (fun _ h => h.elim) (c_L_get l E (κ j) (nI 42) (nI 16) _) kv_L_get kw7_12 kw7_13 ⟨Nat.le_of_ble_eq_true rfl, Nat.le_of_ble_eq_true rfl⟩ rfl rfl rfl hl.1 rfl (Nat.le_of_ble_eq_true rfl) dL_isSo_595 ⟨(Nat.le_of_ble_eq_true rfl), (Nat.le_of_ble_eq_true rfl)⟩) ?_
                            refine x_top (y := (nf σ j 7)) ((lwG_eq _ (by decide) (by decide)).trans ((hU j 7 (by omega) (by decide)).symm)) ?_
                            refine lv_i2l S.1 S.2.1 dL_isSo_598 rfl ?_
                            refine x_topl (y := (bef σ (pv σ n (i + 1)))) ((bef_s hF hjn).trans (by rw [hj2])) ?_
                            refine lv_lstore S.1 S.2.1 dL_isSo_599 hl (by decide) rfl (fun ls hl => ?_)
                            have hl : lv_has ls 15 [(8, .long (bef σ (pv σ n (i + 1)))), (13, .int (nI n)), (12, .int (nI j)), (11, .int (nI i)), (10, .int (nI pl)), (7, .int (nI 1)), (5, .int (lwAll σ n n)), (4, .int (rfAhd σ n)), (3, .int (rfSum σ n)), (0, .ref B), (1, .ref a), (2, .ref b)] := hl
                            refine lv_aload_n S.1 S.2.1 dL_isSo_601 rfl (lv_at hl 9 rfl) ?_
                            refine lv_iload S.1 S.2.1 dL_isSo_602 (lv_at hl 3 rfl) ?_
                            refine xk_R (v := (bxVoice β.1 (nI i))) (x_runV (As := [.int (nI i)]) (rest := []) S hE hS (fun _ h => h.elim) (c_X7_voiceAt l E B β (nI i) _ hB) kv_X7_voiceAt kw10_1 kw10_2 kw10_3 (x_recv hE (hB.1) (ci := 7) rfl) ⟨Nat.le_of_ble_eq_true rfl, Nat.le_of_ble_eq_true rfl⟩ rfl rfl rfl hl.1 rfl (Nat.le_of_ble_eq_true rfl) dL_isSo_604 ⟨(Nat.le_of_ble_eq_true rfl), (Nat.le_of_ble_eq_true rfl)⟩) ?_
                            refine x_top (y := (nI j)) (hj3) ?_
                            refine lv_iload S.1 S.2.1 dL_isSo_607 (lv_at hl 2 rfl) ?_
                            refine lv_icmp_ne (tgt := 616) S.1 S.2.1 dL_isSo_609 rfl (fun h46 => ?_) (fun h46 => ?_)
                            · exact absurd rfl h46
                            · skip
                              refine lv_iconst (v := (nI 1)) S.1 S.2.1 dL_isSo_612 (by decide) ?_
                              refine lv_goto (tgt := 617) S.1 S.2.1 dL_isSo_613 rfl ?_
                              refine lv_istore S.1 S.2.1 dL_isSo_617 hl (by decide) rfl (fun ls hl => ?_)
                              have hl : lv_has ls 15 [(7, .int (nI 1)), (8, .long (bef σ (pv σ n (i + 1)))), (13, .int (nI n)), (12, .int (nI j)), (11, .int (nI i)), (10, .int (nI pl)), (5, .int (lwAll σ n n)), (4, .int (rfAhd σ n)), (3, .int (rfSum σ n)), (0, .ref B), (1, .ref a), (2, .ref b)] := hl
                              refine lv_iinc (k := 4) (v := (nI (i + 1))) S.1 S.2.1 dL_isSo_619 hl rfl (iincP i 1) (by decide) rfl (fun ls hl => ?_)
                              have hl : lv_has ls 15 [(11, .int (nI (i + 1))), (7, .int (nI 1)), (8, .long (bef σ (pv σ n (i + 1)))), (13, .int (nI n)), (12, .int (nI j)), (10, .int (nI pl)), (5, .int (lwAll σ n n)), (4, .int (rfAhd σ n)), (3, .int (rfSum σ n)), (0, .ref B), (1, .ref a), (2, .ref b)] := hl
                              refine lv_goto (tgt := 493) S.1 S.2.1 dL_isSo_622 rfl ?_
                              exact ih493 _ (by omega) (i + 1) _ _ ls rfl (by omega) (hB) (hg) (hc) (hS) (lv_sub hl [0, 2, 5, 1, 6, 7, 8, 9, 10, 11] rfl)
                          · skip
                            have hk2 := lt_of_nle (by omega) (by omega) h45
                            refine lv_aload_n S.1 S.2.1 dL_isSo_519 rfl (lv_at hl 11 rfl) ?_
                            refine lv_iload S.1 S.2.1 dL_isSo_520 (lv_at hl 0 rfl) ?_
                            refine x_lald S hE hEL (hc) k rfl (by omega) (by decide) dL_isSo_522 ?_
                            refine lv_bipush (v := (nI 42)) S.1 S.2.1 dL_isSo_523 (by decide) ?_
                            refine lv_bipush (v := (nI 16)) S.1 S.2.1 dL_isSo_525 (by decide) ?_
                            refine xk_R (v := (lwG (κ k) (nI 42) (nI 16))) (x_runS (As := [.long (κ k), .int (nI 42), .int (nI 16)]) (rest := []) S hE hS (fun _ h => h.elim) (c_L_get l E (κ k) (nI 42) (nI 16) _) kv_L_get kw7_12 kw7_13 ⟨Nat.le_of_ble_eq_true rfl, Nat.le_of_ble_eq_true rfl⟩ rfl rfl rfl hl.1 rfl (Nat.le_of_ble_eq_true rfl) dL_isSo_527 ⟨(Nat.le_of_ble_eq_true rfl), (Nat.le_of_ble_eq_true rfl)⟩) ?_
                            refine x_top (y := (nf σ k 7)) ((lwG_eq _ (by decide) (by decide)).trans ((hU k 7 (by omega) (by decide)).symm)) ?_
                            refine lv_istore S.1 S.2.1 dL_isSo_530 hl (by decide) rfl (fun ls hl => ?_)
                            have hl : lv_has ls 15 [(14, .int (nf σ k 7)), (13, .int (nI k)), (12, .int (o1 (lwFn σ (pv σ n i) k))), (11, .int (nI i)), (8, .long (bef σ (pv σ n i))), (10, .int (nI pl)), (7, .int (nI 1)), (5, .int (lwAll σ n n)), (4, .int (rfAhd σ n)), (3, .int (rfSum σ n)), (0, .ref B), (1, .ref a), (2, .ref b)] := hl
                            refine lv_aload_n S.1 S.2.1 dL_isSo_532 rfl (lv_at hl 12 rfl) ?_
                            refine lv_iload S.1 S.2.1 dL_isSo_533 (lv_at hl 1 rfl) ?_
                            refine x_lald S hE hEL (hc) k rfl (by omega) (by decide) dL_isSo_535 ?_
                            refine xk_R (v := (bI (nI 1 ≤ fld 3 (κ k) ∧ fld 3 (κ k) ≤ nI 4))) (x_runS (As := [.long (κ k)]) (rest := []) S hE hS (fun _ h => h.elim) (c_L_placed l E (κ k) _) kv_L_placed kw7_18 kw7_19 ⟨Nat.le_of_ble_eq_true rfl, Nat.le_of_ble_eq_true rfl⟩ rfl rfl rfl hl.1 rfl (Nat.le_of_ble_eq_true rfl) dL_isSo_536 ⟨(Nat.le_of_ble_eq_true rfl), (Nat.le_of_ble_eq_true rfl)⟩) ?_
                            refine x_top (y := (bI (rfPl σ k))) (bI_iff (by show _ ↔ (nI 1 ≤ nf σ k 3 ∧ nf σ k 3 ≤ nI 4); rw [hU k 3 (by omega) (by decide)])) ?_
                            refine lv_if_eq (tgt := 577) S.1 S.2.1 dL_isSo_539 rfl (fun h47 => ?_) (fun h47 => ?_)
                            · skip
                              refine lv_iload S.1 S.2.1 dL_isSo_577 (lv_at hl 2 rfl) ?_
                              refine lv_istore S.1 S.2.1 dL_isSo_579 hl (by decide) rfl (fun ls hl => ?_)
                              have hl : lv_has ls 15 [(12, .int (o1 (lwFn σ (pv σ n i) k))), (14, .int (nf σ k 7)), (13, .int (nI k)), (11, .int (nI i)), (8, .long (bef σ (pv σ n i))), (10, .int (nI pl)), (7, .int (nI 1)), (5, .int (lwAll σ n n)), (4, .int (rfAhd σ n)), (3, .int (rfSum σ n)), (0, .ref B), (1, .ref a), (2, .ref b)] := hl
                              refine lv_iinc (k := 2) (v := (nI (k + 1))) S.1 S.2.1 dL_isSo_581 hl rfl (iincP k 1) (by decide) rfl (fun ls hl => ?_)
                              have hl : lv_has ls 15 [(13, .int (nI (k + 1))), (12, .int (o1 (lwFn σ (pv σ n i) k))), (14, .int (nf σ k 7)), (11, .int (nI i)), (8, .long (bef σ (pv σ n i))), (10, .int (nI pl)), (7, .int (nI 1)), (5, .int (lwAll σ n n)), (4, .int (rfAhd σ n)), (3, .int (rfSum σ n)), (0, .ref B), (1, .ref a), (2, .ref b)] := hl
                              refine lv_goto (tgt := 511) S.1 S.2.1 dL_isSo_584 rfl ?_
                              have e : (lwFn σ (pv σ n i) (k + 1)) = (lwFn σ (pv σ n i) k) := by rw [lwFn, if_neg (fun z => bI_0 h47 z.1)]
                              have hl : lv_has ls 15 [(13, .int (nI (k + 1))), (12, .int (o1 (lwFn σ (pv σ n i) (k + 1)))), (11, .int (nI i)), (8, .long (bef σ (pv σ n i))), (10, .int (nI pl)), (7, .int (nI 1)), (5, .int (lwAll σ n n)), (4, .int (rfAhd σ n)), (3, .int (rfSum σ n)), (0, .ref B), (1, .ref a), (2, .ref b)] := by
                                rw [show (o1 (lwFn σ (pv σ n i) (k + 1))) = (o1 (lwFn σ (pv σ n i) k)) from by exact congrArg o1 e]
                                exact lv_sub hl [0, 1, 3, 4, 5, 6, 7, 8, 9, 10, 11, 12] rfl
                              exact ih511 _ (by omega) (k + 1) _ _ ls rfl (by omega) (hB) (hg) (hc) (hS) (lv_sub hl [0, 1, 2, 3, 4, 5, 6, 7, 8, 9, 10, 11] rfl)
                            · skip
                              refine lv_iload S.1 S.2.1 dL_isSo_542 (lv_at hl 0 rfl) ?_
                              refine lv_i2l S.1 S.2.1 dL_isSo_544 rfl ?_
                              refine lv_lload S.1 S.2.1 dL_isSo_545 (lv_at hl 4 rfl) ?_
                              refine W.lcmp S.1 S.2.1 dL_isSo_547 ?_
                              refine lv_if_le (tgt := 577) S.1 S.2.1 dL_isSo_548 rfl (fun h48 => ?_) (fun h48 => ?_)
                              · skip
                                refine lv_iload S.1 S.2.1 dL_isSo_577 (lv_at hl 2 rfl) ?_
                                refine lv_istore S.1 S.2.1 dL_isSo_579 hl (by decide) rfl (fun ls hl => ?_)
                                have hl : lv_has ls 15 [(12, .int (o1 (lwFn σ (pv σ n i) k))), (14, .int (nf σ k 7)), (13, .int (nI k)), (11, .int (nI i)), (8, .long (bef σ (pv σ n i))), (10, .int (nI pl)), (7, .int (nI 1)), (5, .int (lwAll σ n n)), (4, .int (rfAhd σ n)), (3, .int (rfSum σ n)), (0, .ref B), (1, .ref a), (2, .ref b)] := hl
                                refine lv_iinc (k := 2) (v := (nI (k + 1))) S.1 S.2.1 dL_isSo_581 hl rfl (iincP k 1) (by decide) rfl (fun ls hl => ?_)
                                have hl : lv_has ls 15 [(13, .int (nI (k + 1))), (12, .int (o1 (lwFn σ (pv σ n i) k))), (14, .int (nf σ k 7)), (11, .int (nI i)), (8, .long (bef σ (pv σ n i))), (10, .int (nI pl)), (7, .int (nI 1)), (5, .int (lwAll σ n n)), (4, .int (rfAhd σ n)), (3, .int (rfSum σ n)), (0, .ref B), (1, .ref a), (2, .ref b)] := hl
                                refine lv_goto (tgt := 511) S.1 S.2.1 dL_isSo_584 rfl ?_
                                have e : (lwFn σ (pv σ n i) (k + 1)) = (lwFn σ (pv σ n i) k) := by rw [lwFn, if_neg (fun z => cmp_aft hF hk2 h48 z.2.1)]
                                have hl : lv_has ls 15 [(13, .int (nI (k + 1))), (12, .int (o1 (lwFn σ (pv σ n i) (k + 1)))), (11, .int (nI i)), (8, .long (bef σ (pv σ n i))), (10, .int (nI pl)), (7, .int (nI 1)), (5, .int (lwAll σ n n)), (4, .int (rfAhd σ n)), (3, .int (rfSum σ n)), (0, .ref B), (1, .ref a), (2, .ref b)] := by
                                  rw [show (o1 (lwFn σ (pv σ n i) (k + 1))) = (o1 (lwFn σ (pv σ n i) k)) from by exact congrArg o1 e]
                                  exact lv_sub hl [0, 1, 3, 4, 5, 6, 7, 8, 9, 10, 11, 12] rfl
                                exact ih511 _ (by omega) (k + 1) _ _ ls rfl (by omega) (hB) (hg) (hc) (hS) (lv_sub hl [0, 1, 2, 3, 4, 5, 6, 7, 8, 9, 10, 11] rfl)
                              · skip
                                rcases hv6 : lwFn σ (pv σ n i) k with _ | j6
                                · rw [hv6] at hl
                                  have hl : lv_has ls 15 [(14, .int (nf σ k 7)), (13, .int (nI k)), (12, .int (-1)), (11, .int (nI i)), (8, .long (bef σ (pv σ n i))), (10, .int (nI pl)), (7, .int (nI 1)), (5, .int (lwAll σ n n)), (4, .int (rfAhd σ n)), (3, .int (rfSum σ n)), (0, .ref B), (1, .ref a), (2, .ref b)] := hl
                                  refine lv_iload S.1 S.2.1 dL_isSo_551 (lv_at hl 2 rfl) ?_
                                  refine lv_if_lt (tgt := 572) S.1 S.2.1 dL_isSo_553 rfl (fun h49 => ?_) (fun h49 => ?_)
                                  · skip
                                    refine lv_iload S.1 S.2.1 dL_isSo_572 (lv_at hl 1 rfl) ?_
                                    refine lv_goto (tgt := 579) S.1 S.2.1 dL_isSo_574 rfl ?_
                                    refine lv_istore S.1 S.2.1 dL_isSo_579 hl (by decide) rfl (fun ls hl => ?_)
                                    have hl : lv_has ls 15 [(12, .int (nI k)), (14, .int (nf σ k 7)), (13, .int (nI k)), (11, .int (nI i)), (8, .long (bef σ (pv σ n i))), (10, .int (nI pl)), (7, .int (nI 1)), (5, .int (lwAll σ n n)), (4, .int (rfAhd σ n)), (3, .int (rfSum σ n)), (0, .ref B), (1, .ref a), (2, .ref b)] := hl
                                    refine lv_iinc (k := 2) (v := (nI (k + 1))) S.1 S.2.1 dL_isSo_581 hl rfl (iincP k 1) (by decide) rfl (fun ls hl => ?_)
                                    have hl : lv_has ls 15 [(13, .int (nI (k + 1))), (12, .int (nI k)), (14, .int (nf σ k 7)), (11, .int (nI i)), (8, .long (bef σ (pv σ n i))), (10, .int (nI pl)), (7, .int (nI 1)), (5, .int (lwAll σ n n)), (4, .int (rfAhd σ n)), (3, .int (rfSum σ n)), (0, .ref B), (1, .ref a), (2, .ref b)] := hl
                                    refine lv_goto (tgt := 511) S.1 S.2.1 dL_isSo_584 rfl ?_
                                    have e : (lwFn σ (pv σ n i) (k + 1)) = some k := by rw [lwFn, if_pos ⟨bI_n0 h47, cmp_aft' hF hk2 h48, by rw [hv6]; rfl⟩]
                                    have hl : lv_has ls 15 [(13, .int (nI (k + 1))), (12, .int (o1 (lwFn σ (pv σ n i) (k + 1)))), (11, .int (nI i)), (8, .long (bef σ (pv σ n i))), (10, .int (nI pl)), (7, .int (nI 1)), (5, .int (lwAll σ n n)), (4, .int (rfAhd σ n)), (3, .int (rfSum σ n)), (0, .ref B), (1, .ref a), (2, .ref b)] := by
                                      rw [show (o1 (lwFn σ (pv σ n i) (k + 1))) = (nI k) from by exact congrArg o1 e]
                                      exact lv_sub hl [0, 1, 3, 4, 5, 6, 7, 8, 9, 10, 11, 12] rfl
                                    exact ih511 _ (by omega) (k + 1) _ _ ls rfl (by omega) (hB) (hg) (hc) (hS) (lv_sub hl [0, 1, 2, 3, 4, 5, 6, 7, 8, 9, 10, 11] rfl)
                                  · exact absurd h49 (by decide)
                                · rw [hv6] at hl
                                  have hl : lv_has ls 15 [(14, .int (nf σ k 7)), (13, .int (nI k)), (12, .int (nI j6)), (11, .int (nI i)), (8, .long (bef σ (pv σ n i))), (10, .int (nI pl)), (7, .int (nI 1)), (5, .int (lwAll σ n n)), (4, .int (rfAhd σ n)), (3, .int (rfSum σ n)), (0, .ref B), (1, .ref a), (2, .ref b)] := hl
                                  have j6b := fn_lt hv6
                                  refine lv_iload S.1 S.2.1 dL_isSo_551 (lv_at hl 2 rfl) ?_
                                  refine lv_if_lt (tgt := 572) S.1 S.2.1 dL_isSo_553 rfl (fun h50 => ?_) (fun h50 => ?_)
                                  · exact absurd h50 (nI_pos (by omega))
                                  · skip
                                    refine lv_iload S.1 S.2.1 dL_isSo_556 (lv_at hl 0 rfl) ?_
                                    refine lv_aload_n S.1 S.2.1 dL_isSo_558 rfl (lv_at hl 12 rfl) ?_
                                    refine lv_iload S.1 S.2.1 dL_isSo_559 (lv_at hl 2 rfl) ?_
                                    refine x_lald S hE hEL (hc) j6 rfl (by omega) (by decide) dL_isSo_561 ?_
                                    refine lv_bipush (v := (nI 42)) S.1 S.2.1 dL_isSo_562 (by decide) ?_
                                    refine lv_bipush (v := (nI 16)) S.1 S.2.1 dL_isSo_564 (by decide) ?_
                                    refine xk_R (v := (lwG (κ j6) (nI 42) (nI 16))) (x_runS (As := [.long (κ j6), .int (nI 42), .int (nI 16)]) (rest := [.int (nf σ k 7)]) S hE hS (fun _ h => h.elim) (c_L_get l E (κ j6) (nI 42) (nI 16) _) kv_L_get kw7_12 kw7_13 ⟨Nat.le_of_ble_eq_true rfl, Nat.le_of_ble_eq_true rfl⟩ rfl rfl rfl hl.1 rfl (Nat.le_of_ble_eq_true rfl) dL_isSo_566 ⟨(Nat.le_of_ble_eq_true rfl), (Nat.le_of_ble_eq_true rfl)⟩) ?_
                                    refine x_top (y := (nf σ j6 7)) ((lwG_eq _ (by decide) (by decide)).trans ((hU j6 7 (by omega) (by decide)).symm)) ?_
                                    refine lv_icmp_ge (tgt := 577) S.1 S.2.1 dL_isSo_569 rfl (fun h51 => ?_) (fun h51 => ?_)
                                    · skip
                                      refine lv_iload S.1 S.2.1 dL_isSo_577 (lv_at hl 2 rfl) ?_
                                      refine lv_istore S.1 S.2.1 dL_isSo_579 hl (by decide) rfl (fun ls hl => ?_)
                                      have hl : lv_has ls 15 [(12, .int (nI j6)), (14, .int (nf σ k 7)), (13, .int (nI k)), (11, .int (nI i)), (8, .long (bef σ (pv σ n i))), (10, .int (nI pl)), (7, .int (nI 1)), (5, .int (lwAll σ n n)), (4, .int (rfAhd σ n)), (3, .int (rfSum σ n)), (0, .ref B), (1, .ref a), (2, .ref b)] := hl
                                      refine lv_iinc (k := 2) (v := (nI (k + 1))) S.1 S.2.1 dL_isSo_581 hl rfl (iincP k 1) (by decide) rfl (fun ls hl => ?_)
                                      have hl : lv_has ls 15 [(13, .int (nI (k + 1))), (12, .int (nI j6)), (14, .int (nf σ k 7)), (11, .int (nI i)), (8, .long (bef σ (pv σ n i))), (10, .int (nI pl)), (7, .int (nI 1)), (5, .int (lwAll σ n n)), (4, .int (rfAhd σ n)), (3, .int (rfSum σ n)), (0, .ref B), (1, .ref a), (2, .ref b)] := hl
                                      refine lv_goto (tgt := 511) S.1 S.2.1 dL_isSo_584 rfl ?_
                                      have e : (lwFn σ (pv σ n i) (k + 1)) = (lwFn σ (pv σ n i) k) := by rw [lwFn, if_neg (fun z => les_n hF (by omega) hk2 h51 (by rw [← hv6]; exact z.2.2))]
                                      have hl : lv_has ls 15 [(13, .int (nI (k + 1))), (12, .int (o1 (lwFn σ (pv σ n i) (k + 1)))), (11, .int (nI i)), (8, .long (bef σ (pv σ n i))), (10, .int (nI pl)), (7, .int (nI 1)), (5, .int (lwAll σ n n)), (4, .int (rfAhd σ n)), (3, .int (rfSum σ n)), (0, .ref B), (1, .ref a), (2, .ref b)] := by
                                        rw [show (o1 (lwFn σ (pv σ n i) (k + 1))) = (nI j6) from by exact (congrArg o1 e).trans (congrArg o1 hv6)]
                                        exact lv_sub hl [0, 1, 3, 4, 5, 6, 7, 8, 9, 10, 11, 12] rfl
                                      exact ih511 _ (by omega) (k + 1) _ _ ls rfl (by omega) (hB) (hg) (hc) (hS) (lv_sub hl [0, 1, 2, 3, 4, 5, 6, 7, 8, 9, 10, 11] rfl)
                                    · skip
                                      refine lv_iload S.1 S.2.1 dL_isSo_572 (lv_at hl 1 rfl) ?_
                                      refine lv_goto (tgt := 579) S.1 S.2.1 dL_isSo_574 rfl ?_
                                      refine lv_istore S.1 S.2.1 dL_isSo_579 hl (by decide) rfl (fun ls hl => ?_)
                                      have hl : lv_has ls 15 [(12, .int (nI k)), (14, .int (nf σ k 7)), (13, .int (nI k)), (11, .int (nI i)), (8, .long (bef σ (pv σ n i))), (10, .int (nI pl)), (7, .int (nI 1)), (5, .int (lwAll σ n n)), (4, .int (rfAhd σ n)), (3, .int (rfSum σ n)), (0, .ref B), (1, .ref a), (2, .ref b)] := hl
                                      refine lv_iinc (k := 2) (v := (nI (k + 1))) S.1 S.2.1 dL_isSo_581 hl rfl (iincP k 1) (by decide) rfl (fun ls hl => ?_)
                                      have hl : lv_has ls 15 [(13, .int (nI (k + 1))), (12, .int (nI k)), (14, .int (nf σ k 7)), (11, .int (nI i)), (8, .long (bef σ (pv σ n i))), (10, .int (nI pl)), (7, .int (nI 1)), (5, .int (lwAll σ n n)), (4, .int (rfAhd σ n)), (3, .int (rfSum σ n)), (0, .ref B), (1, .ref a), (2, .ref b)] := hl
                                      refine lv_goto (tgt := 511) S.1 S.2.1 dL_isSo_584 rfl ?_
                                      have e : (lwFn σ (pv σ n i) (k + 1)) = some k := by rw [lwFn, if_pos ⟨bI_n0 h47, cmp_aft' hF hk2 h48, by rw [hv6]; exact les_y hF (by omega) hk2 h51⟩]
                                      have hl : lv_has ls 15 [(13, .int (nI (k + 1))), (12, .int (o1 (lwFn σ (pv σ n i) (k + 1)))), (11, .int (nI i)), (8, .long (bef σ (pv σ n i))), (10, .int (nI pl)), (7, .int (nI 1)), (5, .int (lwAll σ n n)), (4, .int (rfAhd σ n)), (3, .int (rfSum σ n)), (0, .ref B), (1, .ref a), (2, .ref b)] := by
                                        rw [show (o1 (lwFn σ (pv σ n i) (k + 1))) = (nI k) from by exact congrArg o1 e]
                                        exact lv_sub hl [0, 1, 3, 4, 5, 6, 7, 8, 9, 10, 11, 12] rfl
                                      exact ih511 _ (by omega) (k + 1) _ _ ls rfl (by omega) (hB) (hg) (hc) (hS) (lv_sub hl [0, 1, 2, 3, 4, 5, 6, 7, 8, 9, 10, 11] rfl)
                      exact hloop511 _ 0 _ _ ls rfl (Nat.zero_le _) (hB) (hg) (hc) (hS) (lv_sub hl [0, 1, 2, 3, 4, 5, 6, 7, 8, 9, 10, 11] rfl)
              exact hloop493 _ 0 _ _ ls rfl (Nat.zero_le _) (hB) (hg) (hc) (hS) (lv_sub hl [0, 2, 1, 4, 5, 6, 7, 8, 9, 10] rfl)
            · skip
              have hlt := lt_of_nle (by omega) (by omega) h2
              refine lv_iload S.1 S.2.1 dL_isSo_438 (lv_at hl 2 rfl) ?_
              refine lv_if_eq (tgt := 476) S.1 S.2.1 dL_isSo_440 rfl (fun h52 => ?_) (fun h52 => ?_)
              · exact absurd h52 (by decide)
              · skip
                refine lv_aload_n S.1 S.2.1 dL_isSo_443 rfl (lv_at hl 6 rfl) ?_
                refine lv_iload S.1 S.2.1 dL_isSo_444 (lv_at hl 0 rfl) ?_
                refine lv_iconst (v := (nI 5)) S.1 S.2.1 dL_isSo_446 (by decide) ?_
                refine lv_idiv S.1 S.2.1 dL_isSo_447 (by decide) ?_
                refine x_top (y := (nI (i / 5))) (pk_div (by omega) (by decide) (by decide)) ?_
                refine lv_iload S.1 S.2.1 dL_isSo_448 (lv_at hl 0 rfl) ?_
                refine lv_iconst (v := (nI 5)) S.1 S.2.1 dL_isSo_450 (by decide) ?_
                refine lv_irem S.1 S.2.1 dL_isSo_451 (by decide) ?_
                refine x_top (y := (nI (i % 5))) (rem_nI (by omega) (by decide) (by decide)) ?_
                refine xk_R (v := (bxPartOf β.1 (nI (i / 5)) (nI (i % 5)))) (x_runV (As := [.int (nI (i / 5)), .int (nI (i % 5))]) (rest := []) S hE hS (fun _ h => h.elim) (c_X7_partOf l E B β (nI (i / 5)) (nI (i % 5)) _ hB) kv_X7_partOf kw9_3 kw9_4 kw9_5 (x_recv hE (hB.1) (ci := 7) rfl) ⟨Nat.le_of_ble_eq_true rfl, Nat.le_of_ble_eq_true rfl⟩ rfl rfl rfl hl.1 rfl (Nat.le_of_ble_eq_true rfl) dL_isSo_452 ⟨(Nat.le_of_ble_eq_true rfl), (Nat.le_of_ble_eq_true rfl)⟩) ?_
                refine x_top (y := (f i)) (pt_eq hT hPA hlt) ?_
                refine lv_aload S.1 S.2.1 dL_isSo_455 (lv_at hl 1 rfl) ?_
                refine lv_iload S.1 S.2.1 dL_isSo_457 (lv_at hl 0 rfl) ?_
                refine x_iald S hE (hp) i rfl (by omega) (by decide) dL_isSo_459 ?_
                refine lv_icmp_ne (tgt := 467) S.1 S.2.1 dL_isSo_460 rfl (fun h53 => ?_) (fun h53 => ?_)
                · exact absurd rfl h53
                · skip
                  refine lv_iconst (v := (nI 1)) S.1 S.2.1 dL_isSo_463 (by decide) ?_
                  refine lv_goto (tgt := 468) S.1 S.2.1 dL_isSo_464 rfl ?_
                  refine lv_istore S.1 S.2.1 dL_isSo_468 hl (by decide) rfl (fun ls hl => ?_)
                  have hl : lv_has ls 15 [(7, .int (nI 1)), (8, .int (nI i)), (6, .ref s.heap.size), (5, .int (lwAll σ n n)), (4, .int (rfAhd σ n)), (3, .int (rfSum σ n)), (0, .ref B), (1, .ref a), (2, .ref b)] := hl
                  refine lv_iinc (k := 1) (v := (nI (i + 1))) S.1 S.2.1 dL_isSo_470 hl rfl (iincP i 1) (by decide) rfl (fun ls hl => ?_)
                  have hl : lv_has ls 15 [(8, .int (nI (i + 1))), (7, .int (nI 1)), (6, .ref s.heap.size), (5, .int (lwAll σ n n)), (4, .int (rfAhd σ n)), (3, .int (rfSum σ n)), (0, .ref B), (1, .ref a), (2, .ref b)] := hl
                  refine lv_goto (tgt := 431) S.1 S.2.1 dL_isSo_473 rfl ?_
                  exact ih431 _ (by omega) (i + 1) _ _ ls rfl (by omega) (hB) (hg) (hc) (hp) (hS) (lv_sub hl [0, 2, 1, 3, 4, 5, 6, 7, 8] rfl)
        exact hloop431 _ 0 _ _ ls rfl (Nat.zero_le _) (hB) (hg) (hc) (hp) (hS) (lv_sub hl [0, 5, 3, 2, 1, 4, 6, 7, 8] rfl)
      · skip
        have hlt := lt_of_nle (by omega) (by omega) h1
        refine lv_iload S.1 S.2.1 dL_isSo_32 (lv_at hl 3 rfl) ?_
        refine lv_if_eq (tgt := 428) S.1 S.2.1 dL_isSo_34 rfl (fun h54 => ?_) (fun h54 => ?_)
        · exact absurd h54 (by decide)
        · skip
          refine lv_aload_n S.1 S.2.1 dL_isSo_37 rfl (lv_at hl 8 rfl) ?_
          refine lv_iload S.1 S.2.1 dL_isSo_38 (lv_at hl 0 rfl) ?_
          refine x_lald S hE hEL (hc) i rfl (by omega) (by decide) dL_isSo_40 ?_
          refine xk_R (v := (fld 3 (κ i))) (x_runS (As := [.long (κ i)]) (rest := []) S hE hS (fun _ h => h.elim) (c_L_is l E (κ i) _) kv_L_is kw7_9 kw7_10 ⟨Nat.le_of_ble_eq_true rfl, Nat.le_of_ble_eq_true rfl⟩ rfl rfl rfl hl.1 rfl (Nat.le_of_ble_eq_true rfl) dL_isSo_41 ⟨(Nat.le_of_ble_eq_true rfl), (Nat.le_of_ble_eq_true rfl)⟩) ?_
          refine x_top (y := (nf σ i 3)) ((hU i 3 (by omega) (by decide)).symm) ?_
          obtain ⟨pp, hpp, e0⟩ := nb_pt (hNB i hlt)
          obtain ⟨x, hx, ex⟩ := nb_x (hNB i hlt)
          rcases (show x = 0 ∨ x = 1 ∨ x = 2 ∨ x = 3 ∨ x = 4 ∨ x = 5 ∨ x = 6 by omega) with rfl | rfl | rfl | rfl | rfl | rfl | rfl
          · refine x_top (y := (nI 0)) ex ?_
            have fPl : ¬ rfPl σ i := by first | exact ex | (unfold rfPl; rw [ex]; decide)
            have fVo : ¬ rfVo σ i := by first | exact ex | (unfold rfVo; rw [ex]; decide)
            have f5 : ¬ nf σ i 3 = nI 5 := by first | exact ex | (rw [ex]; decide)
            have f0 : nf σ i 3 = 0 := by first | exact ex | (rw [ex]; decide)
            refine lv_istore S.1 S.2.1 dL_isSo_44 hl (by decide) rfl (fun ls hl => ?_)
            have hl : lv_has ls 15 [(9, .int (nI 0)), (8, .int (nI i)), (4, .int (rfAhd σ i)), (5, .int (lwAll σ n i)), (7, .int (nI 1)), (3, .int (rfSum σ n)), (6, .ref s.heap.size), (0, .ref B), (1, .ref a), (2, .ref b)] := hl
            refine lv_aload_n S.1 S.2.1 dL_isSo_46 rfl (lv_at hl 9 rfl) ?_
            refine lv_iload S.1 S.2.1 dL_isSo_47 (lv_at hl 1 rfl) ?_
            refine x_lald S hE hEL (hc) i rfl (by omega) (by decide) dL_isSo_49 ?_
            refine xk_R (v := (fld 4 (κ i))) (x_runS (As := [.long (κ i)]) (rest := []) S hE hS (fun _ h => h.elim) (c_L_level l E (κ i) _) kv_L_level kw7_15 kw7_16 ⟨Nat.le_of_ble_eq_true rfl, Nat.le_of_ble_eq_true rfl⟩ rfl rfl rfl hl.1 rfl (Nat.le_of_ble_eq_true rfl) dL_isSo_50 ⟨(Nat.le_of_ble_eq_true rfl), (Nat.le_of_ble_eq_true rfl)⟩) ?_
            refine x_top (y := (nf σ i 4)) ((hU i 4 (by omega) (by decide)).symm) ?_
            refine lv_istore S.1 S.2.1 dL_isSo_53 hl (by decide) rfl (fun ls hl => ?_)
            have hl : lv_has ls 15 [(10, .int (nf σ i 4)), (9, .int (nI 0)), (8, .int (nI i)), (4, .int (rfAhd σ i)), (5, .int (lwAll σ n i)), (7, .int (nI 1)), (3, .int (rfSum σ n)), (6, .ref s.heap.size), (0, .ref B), (1, .ref a), (2, .ref b)] := hl
            refine lv_iload S.1 S.2.1 dL_isSo_55 (lv_at hl 1 rfl) ?_
            refine lv_if_le (tgt := 71) S.1 S.2.1 dL_isSo_57 rfl (fun h55 => ?_) (fun h55 => ?_)
            · skip
              refine lv_iconst (v := (nI 0)) S.1 S.2.1 dL_isSo_71 (by decide) ?_
              refine lv_istore S.1 S.2.1 dL_isSo_72 hl (by decide) rfl (fun ls hl => ?_)
              have hl : lv_has ls 15 [(11, .int (nI 0)), (10, .int (nf σ i 4)), (9, .int (nI 0)), (8, .int (nI i)), (4, .int (rfAhd σ i)), (5, .int (lwAll σ n i)), (7, .int (nI 1)), (3, .int (rfSum σ n)), (6, .ref s.heap.size), (0, .ref B), (1, .ref a), (2, .ref b)] := hl
              refine lv_iload_n S.1 S.2.1 dL_isSo_74 rfl (lv_at hl 7 rfl) ?_
              refine lv_aload_n S.1 S.2.1 dL_isSo_75 rfl (lv_at hl 10 rfl) ?_
              refine lv_bipush (v := (nI 8)) S.1 S.2.1 dL_isSo_76 (by decide) ?_
              refine x_iald S hE (hg) 8 rfl (by decide) (by decide) dL_isSo_78 ?_
              refine lv_icmp_gt (tgt := 87) S.1 S.2.1 dL_isSo_79 rfl (fun h56 => ?_) (fun h56 => ?_)
              · skip
                refine lv_iload S.1 S.2.1 dL_isSo_87 (lv_at hl 1 rfl) ?_
                refine lv_aload_n S.1 S.2.1 dL_isSo_89 rfl (lv_at hl 10 rfl) ?_
                refine lv_bipush (v := (nI 8)) S.1 S.2.1 dL_isSo_90 (by decide) ?_
                refine x_iald S hE (hg) 8 rfl (by decide) (by decide) dL_isSo_92 ?_
                refine lv_imul S.1 S.2.1 dL_isSo_93 ?_
                refine lv_iload_n S.1 S.2.1 dL_isSo_94 rfl (lv_at hl 7 rfl) ?_
                refine lv_idiv S.1 S.2.1 dL_isSo_95 (nz_of h8 h56) ?_
                refine x_top (y := (rfHrd σ n i)) (by rw [rfHrd]; first | rw [if_pos (Int32.not_lt.mp h56)] | rw [if_neg (Int32.not_le.mpr h56)]) ?_
                refine lv_istore S.1 S.2.1 dL_isSo_96 hl (by decide) rfl (fun ls hl => ?_)
                have hl : lv_has ls 15 [(12, .int (rfHrd σ n i)), (11, .int (nI 0)), (10, .int (nf σ i 4)), (9, .int (nI 0)), (8, .int (nI i)), (4, .int (rfAhd σ i)), (5, .int (lwAll σ n i)), (7, .int (nI 1)), (3, .int (rfSum σ n)), (6, .ref s.heap.size), (0, .ref B), (1, .ref a), (2, .ref b)] := hl
                refine lv_iconst (v := (nI 5)) S.1 S.2.1 dL_isSo_98 (by decide) ?_
                refine lv_aload_n S.1 S.2.1 dL_isSo_99 rfl (lv_at hl 12 rfl) ?_
                refine lv_iload S.1 S.2.1 dL_isSo_100 (lv_at hl 4 rfl) ?_
                refine x_lald S hE hEL (hc) i rfl (by omega) (by decide) dL_isSo_102 ?_
                refine lv_iconst (v := (nI 0)) S.1 S.2.1 dL_isSo_103 (by decide) ?_
                refine lv_iconst (v := (nI 2)) S.1 S.2.1 dL_isSo_104 (by decide) ?_
                refine xk_R (v := (lwG (κ i) (nI 0) (nI 2))) (x_runS (As := [.long (κ i), .int (nI 0), .int (nI 2)]) (rest := [.int (nI 5)]) S hE hS (fun _ h => h.elim) (c_L_get l E (κ i) (nI 0) (nI 2) _) kv_L_get kw7_12 kw7_13 ⟨Nat.le_of_ble_eq_true rfl, Nat.le_of_ble_eq_true rfl⟩ rfl rfl rfl hl.1 rfl (Nat.le_of_ble_eq_true rfl) dL_isSo_105 ⟨(Nat.le_of_ble_eq_true rfl), (Nat.le_of_ble_eq_true rfl)⟩) ?_
                refine x_top (y := (nf σ i 0)) ((lwG_eq _ (by decide) (by decide)).trans ((hU i 0 (by omega) (by decide)).symm)) ?_
                refine x_top (y := (nI pp)) (e0) ?_
                refine lv_imul S.1 S.2.1 dL_isSo_108 ?_
                refine x_top (y := (nI (5 * pp))) (pk_mul 5 pp) ?_
                refine lv_istore S.1 S.2.1 dL_isSo_109 hl (by decide) rfl (fun ls hl => ?_)
                have hl : lv_has ls 15 [(13, .int (nI (5 * pp))), (12, .int (rfHrd σ n i)), (11, .int (nI 0)), (10, .int (nf σ i 4)), (9, .int (nI 0)), (8, .int (nI i)), (4, .int (rfAhd σ i)), (5, .int (lwAll σ n i)), (7, .int (nI 1)), (3, .int (rfSum σ n)), (6, .ref s.heap.size), (0, .ref B), (1, .ref a), (2, .ref b)] := hl
                refine lv_aload S.1 S.2.1 dL_isSo_111 (lv_at hl 10 rfl) ?_
                refine lv_iload S.1 S.2.1 dL_isSo_113 (lv_at hl 0 rfl) ?_
                refine lv_dup2_11 S.1 S.2.1 dL_isSo_115 rfl rfl ?_
                refine x_iald S hE (hp) (5 * pp) rfl (by omega) (by decide) dL_isSo_116 ?_
                refine lv_aload_n S.1 S.2.1 dL_isSo_117 rfl (lv_at hl 13 rfl) ?_
                refine lv_iload S.1 S.2.1 dL_isSo_118 (lv_at hl 5 rfl) ?_
                refine x_lald S hE hEL (hc) i rfl (by omega) (by decide) dL_isSo_120 ?_
                refine xk_R (v := (bI (nI 1 ≤ fld 3 (κ i) ∧ fld 3 (κ i) ≤ nI 4))) (x_runS (As := [.long (κ i)]) (rest := [.int (f (5 * pp)), .int (nI (5 * pp)), .ref s.heap.size]) S hE hS (fun _ h => h.elim) (c_L_placed l E (κ i) _) kv_L_placed kw7_18 kw7_19 ⟨Nat.le_of_ble_eq_true rfl, Nat.le_of_ble_eq_true rfl⟩ rfl rfl rfl hl.1 rfl (Nat.le_of_ble_eq_true rfl) dL_isSo_121 ⟨(Nat.le_of_ble_eq_true rfl), (Nat.le_of_ble_eq_true rfl)⟩) ?_
                refine x_top (y := (nI 0)) ((bI_iff (by show _ ↔ (nI 1 ≤ nf σ i 3 ∧ nf σ i 3 ≤ nI 4); rw [hU i 3 (by omega) (by decide)])).trans (bI_f fPl).symm) ?_
                refine lv_if_eq (tgt := 131) S.1 S.2.1 dL_isSo_124 rfl (fun h57 => ?_) (fun h57 => ?_)
                · skip
                  refine lv_iconst (v := (nI 0)) S.1 S.2.1 dL_isSo_131 (by decide) ?_
                  refine lv_iadd S.1 S.2.1 dL_isSo_132 ?_
                  refine x_iast S hE hS (Or.inr (Nat.le_refl _)) (hp) (5 * pp) rfl (by omega) (by decide) dL_isSo_133 (fun H locs hX hO1 hS => ?_)
                  have hg := va_at.kept hg (hO1.2 a (Nat.ne_of_lt haz))
                  have hc := va_at.kept hc (hO1.2 b (Nat.ne_of_lt hbz))
                  have hB := hB.fr (fun q z => hO1.2 q (by have := z.2; omega))
                  have hp := hX
                  refine lv_aload S.1 S.2.1 dL_isSo_134 (lv_at hl 10 rfl) ?_
                  refine lv_iload S.1 S.2.1 dL_isSo_136 (lv_at hl 0 rfl) ?_
                  refine lv_iconst (v := (nI 1)) S.1 S.2.1 dL_isSo_138 (by decide) ?_
                  refine lv_iadd S.1 S.2.1 dL_isSo_139 ?_
                  refine x_top (y := (nI ((5 * pp) + 1))) (nI_add (5 * pp) 1) ?_
                  refine lv_dup2_11 S.1 S.2.1 dL_isSo_140 rfl rfl ?_
                  refine x_iald S hE (hp) ((5 * pp) + 1) rfl (by omega) (by decide) dL_isSo_141 ?_
                  refine x_top (y := (f ((5 * pp) + 1))) (pk_un (by omega)) ?_
                  refine lv_iload S.1 S.2.1 dL_isSo_142 (lv_at hl 4 rfl) ?_
                  refine lv_iconst (v := (nI 5)) S.1 S.2.1 dL_isSo_144 (by decide) ?_
                  refine lv_icmp_ne (tgt := 152) S.1 S.2.1 dL_isSo_145 rfl (fun h58 => ?_) (fun h58 => ?_)
                  · skip
                    refine lv_iconst (v := (nI 0)) S.1 S.2.1 dL_isSo_152 (by decide) ?_
                    refine lv_iadd S.1 S.2.1 dL_isSo_153 ?_
                    refine x_iast S hE hS (Or.inr (Nat.le_refl _)) (hp) ((5 * pp) + 1) rfl (by omega) (by decide) dL_isSo_154 (fun H locs hX hO1 hS => ?_)
                    have hg := va_at.kept hg (hO1.2 a (Nat.ne_of_lt haz))
                    have hc := va_at.kept hc (hO1.2 b (Nat.ne_of_lt hbz))
                    have hB := hB.fr (fun q z => hO1.2 q (by have := z.2; omega))
                    have hp := hX
                    refine lv_aload S.1 S.2.1 dL_isSo_155 (lv_at hl 10 rfl) ?_
                    refine lv_iload S.1 S.2.1 dL_isSo_157 (lv_at hl 0 rfl) ?_
                    refine lv_iconst (v := (nI 2)) S.1 S.2.1 dL_isSo_159 (by decide) ?_
                    refine lv_iadd S.1 S.2.1 dL_isSo_160 ?_
                    refine x_top (y := (nI ((5 * pp) + 2))) (nI_add (5 * pp) 2) ?_
                    refine lv_dup2_11 S.1 S.2.1 dL_isSo_161 rfl rfl ?_
                    refine x_iald S hE (hp) ((5 * pp) + 2) rfl (by omega) (by decide) dL_isSo_162 ?_
                    refine x_top (y := (f ((5 * pp) + 2))) ((pk_un (by omega)).trans (pk_un (by omega))) ?_
                    refine lv_iload S.1 S.2.1 dL_isSo_163 (lv_at hl 2 rfl) ?_
                    refine lv_if_eq (tgt := 173) S.1 S.2.1 dL_isSo_165 rfl (fun h59 => ?_) (fun h59 => ?_)
                    · skip
                      refine lv_iconst (v := (nI 0)) S.1 S.2.1 dL_isSo_173 (by decide) ?_
                      refine lv_iadd S.1 S.2.1 dL_isSo_174 ?_
                      refine x_iast S hE hS (Or.inr (Nat.le_refl _)) (hp) ((5 * pp) + 2) rfl (by omega) (by decide) dL_isSo_175 (fun H locs hX hO1 hS => ?_)
                      have hg := va_at.kept hg (hO1.2 a (Nat.ne_of_lt haz))
                      have hc := va_at.kept hc (hO1.2 b (Nat.ne_of_lt hbz))
                      have hB := hB.fr (fun q z => hO1.2 q (by have := z.2; omega))
                      have hp := hX
                      refine lv_aload S.1 S.2.1 dL_isSo_176 (lv_at hl 10 rfl) ?_
                      refine lv_iload S.1 S.2.1 dL_isSo_178 (lv_at hl 0 rfl) ?_
                      refine lv_iconst (v := (nI 3)) S.1 S.2.1 dL_isSo_180 (by decide) ?_
                      refine lv_iadd S.1 S.2.1 dL_isSo_181 ?_
                      refine x_top (y := (nI ((5 * pp) + 3))) (nI_add (5 * pp) 3) ?_
                      refine lv_dup2_11 S.1 S.2.1 dL_isSo_182 rfl rfl ?_
                      refine x_iald S hE (hp) ((5 * pp) + 3) rfl (by omega) (by decide) dL_isSo_183 ?_
                      refine x_top (y := (f ((5 * pp) + 3))) ((pk_un (by omega)).trans ((pk_un (by omega)).trans (pk_un (by omega)))) ?_
                      refine lv_iload S.1 S.2.1 dL_isSo_184 (lv_at hl 2 rfl) ?_
                      refine lv_if_eq (tgt := 194) S.1 S.2.1 dL_isSo_186 rfl (fun h60 => ?_) (fun h60 => ?_)
                      · skip
                        refine lv_iconst (v := (nI 0)) S.1 S.2.1 dL_isSo_194 (by decide) ?_
                        refine lv_iadd S.1 S.2.1 dL_isSo_195 ?_
                        refine x_iast S hE hS (Or.inr (Nat.le_refl _)) (hp) ((5 * pp) + 3) rfl (by omega) (by decide) dL_isSo_196 (fun H locs hX hO1 hS => ?_)
                        have hg := va_at.kept hg (hO1.2 a (Nat.ne_of_lt haz))
                        have hc := va_at.kept hc (hO1.2 b (Nat.ne_of_lt hbz))
                        have hB := hB.fr (fun q z => hO1.2 q (by have := z.2; omega))
                        have hp := hX
                        refine lv_aload S.1 S.2.1 dL_isSo_197 (lv_at hl 10 rfl) ?_
                        refine lv_iload S.1 S.2.1 dL_isSo_199 (lv_at hl 0 rfl) ?_
                        refine lv_iconst (v := (nI 4)) S.1 S.2.1 dL_isSo_201 (by decide) ?_
                        refine lv_iadd S.1 S.2.1 dL_isSo_202 ?_
                        refine x_top (y := (nI ((5 * pp) + 4))) (nI_add (5 * pp) 4) ?_
                        refine lv_dup2_11 S.1 S.2.1 dL_isSo_203 rfl rfl ?_
                        refine x_iald S hE (hp) ((5 * pp) + 4) rfl (by omega) (by decide) dL_isSo_204 ?_
                        refine x_top (y := (f ((5 * pp) + 4))) ((pk_un (by omega)).trans ((pk_un (by omega)).trans ((pk_un (by omega)).trans (pk_un (by omega))))) ?_
                        refine lv_iload S.1 S.2.1 dL_isSo_205 (lv_at hl 4 rfl) ?_
                        refine lv_if_ne (tgt := 214) S.1 S.2.1 dL_isSo_207 rfl (fun h61 => ?_) (fun h61 => ?_)
                        · exact absurd h61 (by decide)
                        · skip
                          refine lv_iconst (v := (nI 1)) S.1 S.2.1 dL_isSo_210 (by decide) ?_
                          refine lv_goto (tgt := 215) S.1 S.2.1 dL_isSo_211 rfl ?_
                          refine lv_iadd S.1 S.2.1 dL_isSo_215 ?_
                          refine x_iast S hE hS (Or.inr (Nat.le_refl _)) (hp) ((5 * pp) + 4) rfl (by omega) (by decide) dL_isSo_216 (fun H locs hX hO1 hS => ?_)
                          have hg := va_at.kept hg (hO1.2 a (Nat.ne_of_lt haz))
                          have hc := va_at.kept hc (hO1.2 b (Nat.ne_of_lt hbz))
                          have hB := hB.fr (fun q z => hO1.2 q (by have := z.2; omega))
                          have hp := hX
                          refine lv_iload S.1 S.2.1 dL_isSo_217 (lv_at hl 7 rfl) ?_
                          refine lv_iload S.1 S.2.1 dL_isSo_219 (lv_at hl 2 rfl) ?_
                          refine lv_if_eq (tgt := 229) S.1 S.2.1 dL_isSo_221 rfl (fun h62 => ?_) (fun h62 => ?_)
                          · skip
                            refine lv_iconst (v := (nI 0)) S.1 S.2.1 dL_isSo_229 (by decide) ?_
                            refine lv_iadd S.1 S.2.1 dL_isSo_230 ?_
                            refine lv_istore S.1 S.2.1 dL_isSo_231 hl (by decide) rfl (fun ls hl => ?_)
                            have hl : lv_has ls 15 [(5, .int ((lwAll σ n i) + (nI 0))), (13, .int (nI (5 * pp))), (12, .int (rfHrd σ n i)), (11, .int (nI 0)), (10, .int (nf σ i 4)), (9, .int (nI 0)), (8, .int (nI i)), (4, .int (rfAhd σ i)), (7, .int (nI 1)), (3, .int (rfSum σ n)), (6, .ref s.heap.size), (0, .ref B), (1, .ref a), (2, .ref b)] := hl
                            refine lv_aload_n S.1 S.2.1 dL_isSo_233 rfl (lv_at hl 11 rfl) ?_
                            refine lv_iload S.1 S.2.1 dL_isSo_234 (lv_at hl 6 rfl) ?_
                            refine lv_iconst (v := (nI 0)) S.1 S.2.1 dL_isSo_236 (by decide) ?_
                            refine xk_R (v := (bxNote β.1 (nI i) (nI 0))) (x_runV (As := [.int (nI i), .int (nI 0)]) (rest := []) S hE hS (fun _ h => h.elim) (c_X7_noteOf l E B β (nI i) (nI 0) _ hB) kv_X7_noteOf kw7_21 kw7_22 kw7_23 (x_recv hE (hB.1) (ci := 7) rfl) ⟨Nat.le_of_ble_eq_true rfl, Nat.le_of_ble_eq_true rfl⟩ rfl rfl rfl hl.1 rfl (Nat.le_of_ble_eq_true rfl) dL_isSo_237 ⟨(Nat.le_of_ble_eq_true rfl), (Nat.le_of_ble_eq_true rfl)⟩) ?_
                            refine x_top (y := (nI ((5 * pp) / 5))) ((nt_0 hT hlt).trans (e0.trans (congrArg nI (by omega)))) ?_
                            refine lv_iload S.1 S.2.1 dL_isSo_240 (lv_at hl 1 rfl) ?_
                            refine lv_iconst (v := (nI 5)) S.1 S.2.1 dL_isSo_242 (by decide) ?_
                            refine lv_idiv S.1 S.2.1 dL_isSo_243 (by decide) ?_
                            refine x_top (y := (nI ((5 * pp) / 5))) (pk_div (by omega) (by decide) (by decide)) ?_
                            refine lv_icmp_ne (tgt := 404) S.1 S.2.1 dL_isSo_244 rfl (fun h63 => ?_) (fun h63 => ?_)
                            · exact absurd rfl h63
                            · skip
                              refine lv_aload_n S.1 S.2.1 dL_isSo_247 rfl (lv_at hl 11 rfl) ?_
                              refine lv_iload S.1 S.2.1 dL_isSo_248 (lv_at hl 6 rfl) ?_
                              refine lv_iconst (v := (nI 1)) S.1 S.2.1 dL_isSo_250 (by decide) ?_
                              refine xk_R (v := (bxNote β.1 (nI i) (nI 1))) (x_runV (As := [.int (nI i), .int (nI 1)]) (rest := []) S hE hS (fun _ h => h.elim) (c_X7_noteOf l E B β (nI i) (nI 1) _ hB) kv_X7_noteOf kw7_21 kw7_22 kw7_23 (x_recv hE (hB.1) (ci := 7) rfl) ⟨Nat.le_of_ble_eq_true rfl, Nat.le_of_ble_eq_true rfl⟩ rfl rfl rfl hl.1 rfl (Nat.le_of_ble_eq_true rfl) dL_isSo_251 ⟨(Nat.le_of_ble_eq_true rfl), (Nat.le_of_ble_eq_true rfl)⟩) ?_
                              refine x_top (y := (nf σ i 1)) (nt_1 hT hlt) ?_
                              refine lv_aload_n S.1 S.2.1 dL_isSo_254 rfl (lv_at hl 13 rfl) ?_
                              refine lv_iload S.1 S.2.1 dL_isSo_255 (lv_at hl 6 rfl) ?_
                              refine x_lald S hE hEL (hc) i rfl (by omega) (by decide) dL_isSo_257 ?_
                              refine lv_iconst (v := (nI 2)) S.1 S.2.1 dL_isSo_258 (by decide) ?_
                              refine lv_bipush (v := (nI 7)) S.1 S.2.1 dL_isSo_259 (by decide) ?_
                              refine xk_R (v := (lwG (κ i) (nI 2) (nI 7))) (x_runS (As := [.long (κ i), .int (nI 2), .int (nI 7)]) (rest := [.int (nf σ i 1)]) S hE hS (fun _ h => h.elim) (c_L_get l E (κ i) (nI 2) (nI 7) _) kv_L_get kw7_12 kw7_13 ⟨Nat.le_of_ble_eq_true rfl, Nat.le_of_ble_eq_true rfl⟩ rfl rfl rfl hl.1 rfl (Nat.le_of_ble_eq_true rfl) dL_isSo_261 ⟨(Nat.le_of_ble_eq_true rfl), (Nat.le_of_ble_eq_true rfl)⟩) ?_
                              refine x_top (y := (nf σ i 1)) ((lwG_eq _ (by decide) (by decide)).trans ((hU i 1 (by omega) (by decide)).symm)) ?_
                              refine lv_icmp_ne (tgt := 404) S.1 S.2.1 dL_isSo_264 rfl (fun h64 => ?_) (fun h64 => ?_)
                              · exact absurd rfl h64
                              · skip
                                refine lv_aload_n S.1 S.2.1 dL_isSo_267 rfl (lv_at hl 11 rfl) ?_
                                refine lv_iload S.1 S.2.1 dL_isSo_268 (lv_at hl 6 rfl) ?_
                                refine lv_iconst (v := (nI 2)) S.1 S.2.1 dL_isSo_270 (by decide) ?_
                                refine xk_R (v := (bxNote β.1 (nI i) (nI 2))) (x_runV (As := [.int (nI i), .int (nI 2)]) (rest := []) S hE hS (fun _ h => h.elim) (c_X7_noteOf l E B β (nI i) (nI 2) _ hB) kv_X7_noteOf kw7_21 kw7_22 kw7_23 (x_recv hE (hB.1) (ci := 7) rfl) ⟨Nat.le_of_ble_eq_true rfl, Nat.le_of_ble_eq_true rfl⟩ rfl rfl rfl hl.1 rfl (Nat.le_of_ble_eq_true rfl) dL_isSo_271 ⟨(Nat.le_of_ble_eq_true rfl), (Nat.le_of_ble_eq_true rfl)⟩) ?_
                                refine x_top (y := (nf σ i 2)) (nt_2 hT hlt) ?_
                                refine lv_aload_n S.1 S.2.1 dL_isSo_274 rfl (lv_at hl 13 rfl) ?_
                                refine lv_iload S.1 S.2.1 dL_isSo_275 (lv_at hl 6 rfl) ?_
                                refine x_lald S hE hEL (hc) i rfl (by omega) (by decide) dL_isSo_277 ?_
                                refine lv_bipush (v := (nI 9)) S.1 S.2.1 dL_isSo_278 (by decide) ?_
                                refine lv_bipush (v := (nI 7)) S.1 S.2.1 dL_isSo_280 (by decide) ?_
                                refine xk_R (v := (lwG (κ i) (nI 9) (nI 7))) (x_runS (As := [.long (κ i), .int (nI 9), .int (nI 7)]) (rest := [.int (nf σ i 2)]) S hE hS (fun _ h => h.elim) (c_L_get l E (κ i) (nI 9) (nI 7) _) kv_L_get kw7_12 kw7_13 ⟨Nat.le_of_ble_eq_true rfl, Nat.le_of_ble_eq_true rfl⟩ rfl rfl rfl hl.1 rfl (Nat.le_of_ble_eq_true rfl) dL_isSo_282 ⟨(Nat.le_of_ble_eq_true rfl), (Nat.le_of_ble_eq_true rfl)⟩) ?_
                                refine x_top (y := (nf σ i 2)) ((lwG_eq _ (by decide) (by decide)).trans ((hU i 2 (by omega) (by decide)).symm)) ?_
                                refine lv_icmp_ne (tgt := 404) S.1 S.2.1 dL_isSo_285 rfl (fun h65 => ?_) (fun h65 => ?_)
                                · exact absurd rfl h65
                                · skip
                                  refine lv_aload_n S.1 S.2.1 dL_isSo_288 rfl (lv_at hl 11 rfl) ?_
                                  refine lv_iload S.1 S.2.1 dL_isSo_289 (lv_at hl 6 rfl) ?_
                                  refine lv_iconst (v := (nI 3)) S.1 S.2.1 dL_isSo_291 (by decide) ?_
                                  refine xk_R (v := (bxNote β.1 (nI i) (nI 3))) (x_runV (As := [.int (nI i), .int (nI 3)]) (rest := []) S hE hS (fun _ h => h.elim) (c_X7_noteOf l E B β (nI i) (nI 3) _ hB) kv_X7_noteOf kw7_21 kw7_22 kw7_23 (x_recv hE (hB.1) (ci := 7) rfl) ⟨Nat.le_of_ble_eq_true rfl, Nat.le_of_ble_eq_true rfl⟩ rfl rfl rfl hl.1 rfl (Nat.le_of_ble_eq_true rfl) dL_isSo_292 ⟨(Nat.le_of_ble_eq_true rfl), (Nat.le_of_ble_eq_true rfl)⟩) ?_
                                  refine x_top (y := (nI 0)) ((nt_3 hT hlt).trans ex) ?_
                                  refine lv_iload S.1 S.2.1 dL_isSo_295 (lv_at hl 5 rfl) ?_
                                  refine lv_icmp_ne (tgt := 404) S.1 S.2.1 dL_isSo_297 rfl (fun h66 => ?_) (fun h66 => ?_)
                                  · exact absurd h66 (by decide)
                                  · skip
                                    refine lv_aload_n S.1 S.2.1 dL_isSo_300 rfl (lv_at hl 11 rfl) ?_
                                    refine lv_iload S.1 S.2.1 dL_isSo_301 (lv_at hl 6 rfl) ?_
                                    refine lv_iconst (v := (nI 4)) S.1 S.2.1 dL_isSo_303 (by decide) ?_
                                    refine xk_R (v := (bxNote β.1 (nI i) (nI 4))) (x_runV (As := [.int (nI i), .int (nI 4)]) (rest := []) S hE hS (fun _ h => h.elim) (c_X7_noteOf l E B β (nI i) (nI 4) _ hB) kv_X7_noteOf kw7_21 kw7_22 kw7_23 (x_recv hE (hB.1) (ci := 7) rfl) ⟨Nat.le_of_ble_eq_true rfl, Nat.le_of_ble_eq_true rfl⟩ rfl rfl rfl hl.1 rfl (Nat.le_of_ble_eq_true rfl) dL_isSo_304 ⟨(Nat.le_of_ble_eq_true rfl), (Nat.le_of_ble_eq_true rfl)⟩) ?_
                                    refine x_top (y := (-4)) ((nt_4 hT hlt).trans (if_neg fVo)) ?_
                                    refine lv_iload S.1 S.2.1 dL_isSo_307 (lv_at hl 3 rfl) ?_
                                    refine lv_if_eq (tgt := 317) S.1 S.2.1 dL_isSo_309 rfl (fun h67 => ?_) (fun h67 => ?_)
                                    · skip
                                      refine lv_bipush (v := (-4)) S.1 S.2.1 dL_isSo_317 (by decide) ?_
                                      refine lv_icmp_ne (tgt := 404) S.1 S.2.1 dL_isSo_319 rfl (fun h68 => ?_) (fun h68 => ?_)
                                      · exact absurd h68 (by decide)
                                      · skip
                                        refine lv_aload_n S.1 S.2.1 dL_isSo_322 rfl (lv_at hl 11 rfl) ?_
                                        refine lv_iload S.1 S.2.1 dL_isSo_323 (lv_at hl 6 rfl) ?_
                                        refine lv_iconst (v := (nI 5)) S.1 S.2.1 dL_isSo_325 (by decide) ?_
                                        refine xk_R (v := (bxNote β.1 (nI i) (nI 5))) (x_runV (As := [.int (nI i), .int (nI 5)]) (rest := []) S hE hS (fun _ h => h.elim) (c_X7_noteOf l E B β (nI i) (nI 5) _ hB) kv_X7_noteOf kw7_21 kw7_22 kw7_23 (x_recv hE (hB.1) (ci := 7) rfl) ⟨Nat.le_of_ble_eq_true rfl, Nat.le_of_ble_eq_true rfl⟩ rfl rfl rfl hl.1 rfl (Nat.le_of_ble_eq_true rfl) dL_isSo_326 ⟨(Nat.le_of_ble_eq_true rfl), (Nat.le_of_ble_eq_true rfl)⟩) ?_
                                        refine x_top (y := (-4)) ((nt_5 hT hlt).trans (if_neg fVo)) ?_
                                        refine lv_iload S.1 S.2.1 dL_isSo_329 (lv_at hl 3 rfl) ?_
                                        refine lv_if_eq (tgt := 339) S.1 S.2.1 dL_isSo_331 rfl (fun h69 => ?_) (fun h69 => ?_)
                                        · skip
                                          refine lv_bipush (v := (-4)) S.1 S.2.1 dL_isSo_339 (by decide) ?_
                                          refine lv_icmp_ne (tgt := 404) S.1 S.2.1 dL_isSo_341 rfl (fun h70 => ?_) (fun h70 => ?_)
                                          · exact absurd h70 (by decide)
                                          · skip
                                            refine lv_aload_n S.1 S.2.1 dL_isSo_344 rfl (lv_at hl 11 rfl) ?_
                                            refine lv_iload S.1 S.2.1 dL_isSo_345 (lv_at hl 6 rfl) ?_
                                            refine lv_bipush (v := (nI 6)) S.1 S.2.1 dL_isSo_347 (by decide) ?_
                                            refine xk_R (v := (bxNote β.1 (nI i) (nI 6))) (x_runV (As := [.int (nI i), .int (nI 6)]) (rest := []) S hE hS (fun _ h => h.elim) (c_X7_noteOf l E B β (nI i) (nI 6) _ hB) kv_X7_noteOf kw7_21 kw7_22 kw7_23 (x_recv hE (hB.1) (ci := 7) rfl) ⟨Nat.le_of_ble_eq_true rfl, Nat.le_of_ble_eq_true rfl⟩ rfl rfl rfl hl.1 rfl (Nat.le_of_ble_eq_true rfl) dL_isSo_349 ⟨(Nat.le_of_ble_eq_true rfl), (Nat.le_of_ble_eq_true rfl)⟩) ?_
                                            refine x_top (y := (nf σ i 6)) (nt_6 hT hlt) ?_
                                            refine lv_aload_n S.1 S.2.1 dL_isSo_352 rfl (lv_at hl 13 rfl) ?_
                                            refine lv_iload S.1 S.2.1 dL_isSo_353 (lv_at hl 6 rfl) ?_
                                            refine x_lald S hE hEL (hc) i rfl (by omega) (by decide) dL_isSo_355 ?_
                                            refine lv_bipush (v := (nI 41)) S.1 S.2.1 dL_isSo_356 (by decide) ?_
                                            refine lv_iconst (v := (nI 1)) S.1 S.2.1 dL_isSo_358 (by decide) ?_
                                            refine xk_R (v := (lwG (κ i) (nI 41) (nI 1))) (x_runS (As := [.long (κ i), .int (nI 41), .int (nI 1)]) (rest := [.int (nf σ i 6)]) S hE hS (fun _ h => h.elim) (c_L_get l E (κ i) (nI 41) (nI 1) _) kv_L_get kw7_12 kw7_13 ⟨Nat.le_of_ble_eq_true rfl, Nat.le_of_ble_eq_true rfl⟩ rfl rfl rfl hl.1 rfl (Nat.le_of_ble_eq_true rfl) dL_isSo_359 ⟨(Nat.le_of_ble_eq_true rfl), (Nat.le_of_ble_eq_true rfl)⟩) ?_
                                            refine x_top (y := (nf σ i 6)) ((lwG_eq _ (by decide) (by decide)).trans ((hU i 6 (by omega) (by decide)).symm)) ?_
                                            refine lv_icmp_ne (tgt := 404) S.1 S.2.1 dL_isSo_362 rfl (fun h71 => ?_) (fun h71 => ?_)
                                            · exact absurd rfl h71
                                            · skip
                                              refine lv_aload_n S.1 S.2.1 dL_isSo_365 rfl (lv_at hl 11 rfl) ?_
                                              refine lv_iload S.1 S.2.1 dL_isSo_366 (lv_at hl 6 rfl) ?_
                                              refine lv_bipush (v := (nI 7)) S.1 S.2.1 dL_isSo_368 (by decide) ?_
                                              refine xk_R (v := (bxNote β.1 (nI i) (nI 7))) (x_runV (As := [.int (nI i), .int (nI 7)]) (rest := []) S hE hS (fun _ h => h.elim) (c_X7_noteOf l E B β (nI i) (nI 7) _ hB) kv_X7_noteOf kw7_21 kw7_22 kw7_23 (x_recv hE (hB.1) (ci := 7) rfl) ⟨Nat.le_of_ble_eq_true rfl, Nat.le_of_ble_eq_true rfl⟩ rfl rfl rfl hl.1 rfl (Nat.le_of_ble_eq_true rfl) dL_isSo_370 ⟨(Nat.le_of_ble_eq_true rfl), (Nat.le_of_ble_eq_true rfl)⟩) ?_
                                              refine x_top (y := (rfAhd σ i)) ((nt_7 hT hlt).trans (if_pos f0)) ?_
                                              refine lv_iload S.1 S.2.1 dL_isSo_373 (lv_at hl 5 rfl) ?_
                                              refine lv_if_ne (tgt := 383) S.1 S.2.1 dL_isSo_375 rfl (fun h72 => ?_) (fun h72 => ?_)
                                              · exact absurd h72 (by decide)
                                              · skip
                                                refine lv_iload S.1 S.2.1 dL_isSo_378 (lv_at hl 7 rfl) ?_
                                                refine lv_goto (tgt := 385) S.1 S.2.1 dL_isSo_380 rfl ?_
                                                refine lv_icmp_ne (tgt := 404) S.1 S.2.1 dL_isSo_385 rfl (fun h73 => ?_) (fun h73 => ?_)
                                                · exact absurd rfl h73
                                                · skip
                                                  refine lv_aload_n S.1 S.2.1 dL_isSo_388 rfl (lv_at hl 11 rfl) ?_
                                                  refine lv_iload S.1 S.2.1 dL_isSo_389 (lv_at hl 6 rfl) ?_
                                                  refine lv_bipush (v := (nI 8)) S.1 S.2.1 dL_isSo_391 (by decide) ?_
                                                  refine xk_R (v := (bxNote β.1 (nI i) (nI 8))) (x_runV (As := [.int (nI i), .int (nI 8)]) (rest := []) S hE hS (fun _ h => h.elim) (c_X7_noteOf l E B β (nI i) (nI 8) _ hB) kv_X7_noteOf kw7_21 kw7_22 kw7_23 (x_recv hE (hB.1) (ci := 7) rfl) ⟨Nat.le_of_ble_eq_true rfl, Nat.le_of_ble_eq_true rfl⟩ rfl rfl rfl hl.1 rfl (Nat.le_of_ble_eq_true rfl) dL_isSo_393 ⟨(Nat.le_of_ble_eq_true rfl), (Nat.le_of_ble_eq_true rfl)⟩) ?_
                                                  refine x_top (y := (-1)) (nt_8 hT hlt) ?_
                                                  refine lv_iconst (v := (-1)) S.1 S.2.1 dL_isSo_396 (by decide) ?_
                                                  refine lv_icmp_ne (tgt := 404) S.1 S.2.1 dL_isSo_397 rfl (fun h74 => ?_) (fun h74 => ?_)
                                                  · exact absurd h74 (by decide)
                                                  · skip
                                                    refine lv_iconst (v := (nI 1)) S.1 S.2.1 dL_isSo_400 (by decide) ?_
                                                    refine lv_goto (tgt := 405) S.1 S.2.1 dL_isSo_401 rfl ?_
                                                    refine lv_istore S.1 S.2.1 dL_isSo_405 hl (by decide) rfl (fun ls hl => ?_)
                                                    have hl : lv_has ls 15 [(7, .int (nI 1)), (5, .int ((lwAll σ n i) + (nI 0))), (13, .int (nI (5 * pp))), (12, .int (rfHrd σ n i)), (11, .int (nI 0)), (10, .int (nf σ i 4)), (9, .int (nI 0)), (8, .int (nI i)), (4, .int (rfAhd σ i)), (3, .int (rfSum σ n)), (6, .ref s.heap.size), (0, .ref B), (1, .ref a), (2, .ref b)] := hl
                                                    refine lv_iload S.1 S.2.1 dL_isSo_407 (lv_at hl 8 rfl) ?_
                                                    refine lv_iload S.1 S.2.1 dL_isSo_409 (lv_at hl 6 rfl) ?_
                                                    refine lv_if_ne (tgt := 418) S.1 S.2.1 dL_isSo_411 rfl (fun h75 => ?_) (fun h75 => ?_)
                                                    · exact absurd h75 (by decide)
                                                    · skip
                                                      refine lv_iconst (v := (nI 1)) S.1 S.2.1 dL_isSo_414 (by decide) ?_
                                                      refine lv_goto (tgt := 419) S.1 S.2.1 dL_isSo_415 rfl ?_
                                                      refine lv_iadd S.1 S.2.1 dL_isSo_419 ?_
                                                      refine lv_istore S.1 S.2.1 dL_isSo_420 hl (by decide) rfl (fun ls hl => ?_)
                                                      have hl : lv_has ls 15 [(4, .int ((rfAhd σ i) + (nI 1))), (7, .int (nI 1)), (5, .int ((lwAll σ n i) + (nI 0))), (13, .int (nI (5 * pp))), (12, .int (rfHrd σ n i)), (11, .int (nI 0)), (10, .int (nf σ i 4)), (9, .int (nI 0)), (8, .int (nI i)), (3, .int (rfSum σ n)), (6, .ref s.heap.size), (0, .ref B), (1, .ref a), (2, .ref b)] := hl
                                                      refine lv_iinc (k := 8) (v := (nI (i + 1))) S.1 S.2.1 dL_isSo_422 hl rfl (iincP i 1) (by decide) rfl (fun ls hl => ?_)
                                                      have hl : lv_has ls 15 [(8, .int (nI (i + 1))), (4, .int ((rfAhd σ i) + (nI 1))), (7, .int (nI 1)), (5, .int ((lwAll σ n i) + (nI 0))), (13, .int (nI (5 * pp))), (12, .int (rfHrd σ n i)), (11, .int (nI 0)), (10, .int (nf σ i 4)), (9, .int (nI 0)), (3, .int (rfSum σ n)), (6, .ref s.heap.size), (0, .ref B), (1, .ref a), (2, .ref b)] := hl
                                                      refine lv_goto (tgt := 24) S.1 S.2.1 dL_isSo_425 rfl ?_
                                                      have hl : lv_has ls 15 [(8, .int (nI (i + 1))), (4, .int (rfAhd σ (i + 1))), (5, .int (lwAll σ n (i + 1))), (7, .int (nI 1)), (3, .int (rfSum σ n)), (6, .ref s.heap.size), (0, .ref B), (1, .ref a), (2, .ref b)] := by
                                                        rw [show (rfAhd σ (i + 1)) = ((rfAhd σ i) + (nI 1)) from by first | rw [rfAhd, if_pos f0] | rw [rfAhd, if_neg f0] | rw [lwAll, if_pos fVo] | rw [lwAll, if_neg fVo]]
                                                        rw [show (lwAll σ n (i + 1)) = ((lwAll σ n i) + (nI 0)) from by first | rw [rfAhd, if_pos f0] | rw [rfAhd, if_neg f0] | rw [lwAll, if_pos fVo] | rw [lwAll, if_neg fVo]]
                                                        exact lv_sub hl [0, 1, 3, 2, 9, 10, 11, 12, 13] rfl
                                                      exact ih24 _ (by omega) (i + 1) (upd (upd (upd (upd (upd f (5 * pp) ((f (5 * pp)) + (nI 0))) ((5 * pp) + 1) ((f ((5 * pp) + 1)) + (nI 0))) ((5 * pp) + 2) ((f ((5 * pp) + 2)) + (nI 0))) ((5 * pp) + 3) ((f ((5 * pp) + 3)) + (nI 0))) ((5 * pp) + 4) ((f ((5 * pp) + 4)) + (nI 1))) _ _ ls rfl (by omega) (pa_step hPA hpp e0 (by first | rw [if_pos fPl] | rw [if_neg fPl]) (by first | rw [if_pos f5] | rw [if_neg f5]) (by first | rw [if_pos fVo] | rw [if_neg fVo]) (by first | rw [if_pos fVo] | rw [if_neg fVo]) (by first | rw [if_pos f0] | rw [if_neg f0])) (hB) (hg) (hc) (hp) (hS) (lv_sub hl [0, 1, 2, 3, 4, 5, 6, 7, 8] rfl)
                                        · exact absurd h69 (by decide)
                                    · exact absurd h67 (by decide)
                          · exact absurd h62 (by decide)
                      · exact absurd h60 (by decide)
                    · exact absurd h59 (by decide)
                  · exact absurd h58 (by decide)
                · exact absurd h57 (by decide)
              · skip
                refine lv_iload S.1 S.2.1 dL_isSo_82 (lv_at hl 1 rfl) ?_
                refine lv_goto (tgt := 96) S.1 S.2.1 dL_isSo_84 rfl ?_
                refine x_top (y := (rfHrd σ n i)) (by rw [rfHrd]; first | rw [if_pos (Int32.not_lt.mp h56)] | rw [if_neg (Int32.not_le.mpr h56)]) ?_
                refine lv_istore S.1 S.2.1 dL_isSo_96 hl (by decide) rfl (fun ls hl => ?_)
                have hl : lv_has ls 15 [(12, .int (rfHrd σ n i)), (11, .int (nI 0)), (10, .int (nf σ i 4)), (9, .int (nI 0)), (8, .int (nI i)), (4, .int (rfAhd σ i)), (5, .int (lwAll σ n i)), (7, .int (nI 1)), (3, .int (rfSum σ n)), (6, .ref s.heap.size), (0, .ref B), (1, .ref a), (2, .ref b)] := hl
                refine lv_iconst (v := (nI 5)) S.1 S.2.1 dL_isSo_98 (by decide) ?_
                refine lv_aload_n S.1 S.2.1 dL_isSo_99 rfl (lv_at hl 12 rfl) ?_
                refine lv_iload S.1 S.2.1 dL_isSo_100 (lv_at hl 4 rfl) ?_
                refine x_lald S hE hEL (hc) i rfl (by omega) (by decide) dL_isSo_102 ?_
                refine lv_iconst (v := (nI 0)) S.1 S.2.1 dL_isSo_103 (by decide) ?_
                refine lv_iconst (v := (nI 2)) S.1 S.2.1 dL_isSo_104 (by decide) ?_
                refine xk_R (v := (lwG (κ i) (nI 0) (nI 2))) (x_runS (As := [.long (κ i), .int (nI 0), .int (nI 2)]) (rest := [.int (nI 5)]) S hE hS (fun _ h => h.elim) (c_L_get l E (κ i) (nI 0) (nI 2) _) kv_L_get kw7_12 kw7_13 ⟨Nat.le_of_ble_eq_true rfl, Nat.le_of_ble_eq_true rfl⟩ rfl rfl rfl hl.1 rfl (Nat.le_of_ble_eq_true rfl) dL_isSo_105 ⟨(Nat.le_of_ble_eq_true rfl), (Nat.le_of_ble_eq_true rfl)⟩) ?_
                refine x_top (y := (nf σ i 0)) ((lwG_eq _ (by decide) (by decide)).trans ((hU i 0 (by omega) (by decide)).symm)) ?_
                refine x_top (y := (nI pp)) (e0) ?_
                refine lv_imul S.1 S.2.1 dL_isSo_108 ?_
                refine x_top (y := (nI (5 * pp))) (pk_mul 5 pp) ?_
                refine lv_istore S.1 S.2.1 dL_isSo_109 hl (by decide) rfl (fun ls hl => ?_)
                have hl : lv_has ls 15 [(13, .int (nI (5 * pp))), (12, .int (rfHrd σ n i)), (11, .int (nI 0)), (10, .int (nf σ i 4)), (9, .int (nI 0)), (8, .int (nI i)), (4, .int (rfAhd σ i)), (5, .int (lwAll σ n i)), (7, .int (nI 1)), (3, .int (rfSum σ n)), (6, .ref s.heap.size), (0, .ref B), (1, .ref a), (2, .ref b)] := hl
                refine lv_aload S.1 S.2.1 dL_isSo_111 (lv_at hl 10 rfl) ?_
                refine lv_iload S.1 S.2.1 dL_isSo_113 (lv_at hl 0 rfl) ?_
                refine lv_dup2_11 S.1 S.2.1 dL_isSo_115 rfl rfl ?_
                refine x_iald S hE (hp) (5 * pp) rfl (by omega) (by decide) dL_isSo_116 ?_
                refine lv_aload_n S.1 S.2.1 dL_isSo_117 rfl (lv_at hl 13 rfl) ?_
                refine lv_iload S.1 S.2.1 dL_isSo_118 (lv_at hl 5 rfl) ?_
                refine x_lald S hE hEL (hc) i rfl (by omega) (by decide) dL_isSo_120 ?_
                refine xk_R (v := (bI (nI 1 ≤ fld 3 (κ i) ∧ fld 3 (κ i) ≤ nI 4))) (x_runS (As := [.long (κ i)]) (rest := [.int (f (5 * pp)), .int (nI (5 * pp)), .ref s.heap.size]) S hE hS (fun _ h => h.elim) (c_L_placed l E (κ i) _) kv_L_placed kw7_18 kw7_19 ⟨Nat.le_of_ble_eq_true rfl, Nat.le_of_ble_eq_true rfl⟩ rfl rfl rfl hl.1 rfl (Nat.le_of_ble_eq_true rfl) dL_isSo_121 ⟨(Nat.le_of_ble_eq_true rfl), (Nat.le_of_ble_eq_true rfl)⟩) ?_
                refine x_top (y := (nI 0)) ((bI_iff (by show _ ↔ (nI 1 ≤ nf σ i 3 ∧ nf σ i 3 ≤ nI 4); rw [hU i 3 (by omega) (by decide)])).trans (bI_f fPl).symm) ?_
                refine lv_if_eq (tgt := 131) S.1 S.2.1 dL_isSo_124 rfl (fun h76 => ?_) (fun h76 => ?_)
                · skip
                  refine lv_iconst (v := (nI 0)) S.1 S.2.1 dL_isSo_131 (by decide) ?_
                  refine lv_iadd S.1 S.2.1 dL_isSo_132 ?_
                  refine x_iast S hE hS (Or.inr (Nat.le_refl _)) (hp) (5 * pp) rfl (by omega) (by decide) dL_isSo_133 (fun H locs hX hO1 hS => ?_)
                  have hg := va_at.kept hg (hO1.2 a (Nat.ne_of_lt haz))
                  have hc := va_at.kept hc (hO1.2 b (Nat.ne_of_lt hbz))
                  have hB := hB.fr (fun q z => hO1.2 q (by have := z.2; omega))
                  have hp := hX
                  refine lv_aload S.1 S.2.1 dL_isSo_134 (lv_at hl 10 rfl) ?_
                  refine lv_iload S.1 S.2.1 dL_isSo_136 (lv_at hl 0 rfl) ?_
                  refine lv_iconst (v := (nI 1)) S.1 S.2.1 dL_isSo_138 (by decide) ?_
                  refine lv_iadd S.1 S.2.1 dL_isSo_139 ?_
                  refine x_top (y := (nI ((5 * pp) + 1))) (nI_add (5 * pp) 1) ?_
                  refine lv_dup2_11 S.1 S.2.1 dL_isSo_140 rfl rfl ?_
                  refine x_iald S hE (hp) ((5 * pp) + 1) rfl (by omega) (by decide) dL_isSo_141 ?_
                  refine x_top (y := (f ((5 * pp) + 1))) (pk_un (by omega)) ?_
                  refine lv_iload S.1 S.2.1 dL_isSo_142 (lv_at hl 4 rfl) ?_
                  refine lv_iconst (v := (nI 5)) S.1 S.2.1 dL_isSo_144 (by decide) ?_
                  refine lv_icmp_ne (tgt := 152) S.1 S.2.1 dL_isSo_145 rfl (fun h77 => ?_) (fun h77 => ?_)
                  · skip
                    refine lv_iconst (v := (nI 0)) S.1 S.2.1 dL_isSo_152 (by decide) ?_
                    refine lv_iadd S.1 S.2.1 dL_isSo_153 ?_
                    refine x_iast S hE hS (Or.inr (Nat.le_refl _)) (hp) ((5 * pp) + 1) rfl (by omega) (by decide) dL_isSo_154 (fun H locs hX hO1 hS => ?_)
                    have hg := va_at.kept hg (hO1.2 a (Nat.ne_of_lt haz))
                    have hc := va_at.kept hc (hO1.2 b (Nat.ne_of_lt hbz))
                    have hB := hB.fr (fun q z => hO1.2 q (by have := z.2; omega))
                    have hp := hX
                    refine lv_aload S.1 S.2.1 dL_isSo_155 (lv_at hl 10 rfl) ?_
                    refine lv_iload S.1 S.2.1 dL_isSo_157 (lv_at hl 0 rfl) ?_
                    refine lv_iconst (v := (nI 2)) S.1 S.2.1 dL_isSo_159 (by decide) ?_
                    refine lv_iadd S.1 S.2.1 dL_isSo_160 ?_
                    refine x_top (y := (nI ((5 * pp) + 2))) (nI_add (5 * pp) 2) ?_
                    refine lv_dup2_11 S.1 S.2.1 dL_isSo_161 rfl rfl ?_
                    refine x_iald S hE (hp) ((5 * pp) + 2) rfl (by omega) (by decide) dL_isSo_162 ?_
                    refine x_top (y := (f ((5 * pp) + 2))) ((pk_un (by omega)).trans (pk_un (by omega))) ?_
                    refine lv_iload S.1 S.2.1 dL_isSo_163 (lv_at hl 2 rfl) ?_
                    refine lv_if_eq (tgt := 173) S.1 S.2.1 dL_isSo_165 rfl (fun h78 => ?_) (fun h78 => ?_)
                    · skip
                      refine lv_iconst (v := (nI 0)) S.1 S.2.1 dL_isSo_173 (by decide) ?_
                      refine lv_iadd S.1 S.2.1 dL_isSo_174 ?_
                      refine x_iast S hE hS (Or.inr (Nat.le_refl _)) (hp) ((5 * pp) + 2) rfl (by omega) (by decide) dL_isSo_175 (fun H locs hX hO1 hS => ?_)
                      have hg := va_at.kept hg (hO1.2 a (Nat.ne_of_lt haz))
                      have hc := va_at.kept hc (hO1.2 b (Nat.ne_of_lt hbz))
                      have hB := hB.fr (fun q z => hO1.2 q (by have := z.2; omega))
                      have hp := hX
                      refine lv_aload S.1 S.2.1 dL_isSo_176 (lv_at hl 10 rfl) ?_
                      refine lv_iload S.1 S.2.1 dL_isSo_178 (lv_at hl 0 rfl) ?_
                      refine lv_iconst (v := (nI 3)) S.1 S.2.1 dL_isSo_180 (by decide) ?_
                      refine lv_iadd S.1 S.2.1 dL_isSo_181 ?_
                      refine x_top (y := (nI ((5 * pp) + 3))) (nI_add (5 * pp) 3) ?_
                      refine lv_dup2_11 S.1 S.2.1 dL_isSo_182 rfl rfl ?_
                      refine x_iald S hE (hp) ((5 * pp) + 3) rfl (by omega) (by decide) dL_isSo_183 ?_
                      refine x_top (y := (f ((5 * pp) + 3))) ((pk_un (by omega)).trans ((pk_un (by omega)).trans (pk_un (by omega)))) ?_
                      refine lv_iload S.1 S.2.1 dL_isSo_184 (lv_at hl 2 rfl) ?_
                      refine lv_if_eq (tgt := 194) S.1 S.2.1 dL_isSo_186 rfl (fun h79 => ?_) (fun h79 => ?_)
                      · skip
                        refine lv_iconst (v := (nI 0)) S.1 S.2.1 dL_isSo_194 (by decide) ?_
                        refine lv_iadd S.1 S.2.1 dL_isSo_195 ?_
                        refine x_iast S hE hS (Or.inr (Nat.le_refl _)) (hp) ((5 * pp) + 3) rfl (by omega) (by decide) dL_isSo_196 (fun H locs hX hO1 hS => ?_)
                        have hg := va_at.kept hg (hO1.2 a (Nat.ne_of_lt haz))
                        have hc := va_at.kept hc (hO1.2 b (Nat.ne_of_lt hbz))
                        have hB := hB.fr (fun q z => hO1.2 q (by have := z.2; omega))
                        have hp := hX
                        refine lv_aload S.1 S.2.1 dL_isSo_197 (lv_at hl 10 rfl) ?_
                        refine lv_iload S.1 S.2.1 dL_isSo_199 (lv_at hl 0 rfl) ?_
                        refine lv_iconst (v := (nI 4)) S.1 S.2.1 dL_isSo_201 (by decide) ?_
                        refine lv_iadd S.1 S.2.1 dL_isSo_202 ?_
                        refine x_top (y := (nI ((5 * pp) + 4))) (nI_add (5 * pp) 4) ?_
                        refine lv_dup2_11 S.1 S.2.1 dL_isSo_203 rfl rfl ?_
                        refine x_iald S hE (hp) ((5 * pp) + 4) rfl (by omega) (by decide) dL_isSo_204 ?_
                        refine x_top (y := (f ((5 * pp) + 4))) ((pk_un (by omega)).trans ((pk_un (by omega)).trans ((pk_un (by omega)).trans (pk_un (by omega))))) ?_
                        refine lv_iload S.1 S.2.1 dL_isSo_205 (lv_at hl 4 rfl) ?_
                        refine lv_if_ne (tgt := 214) S.1 S.2.1 dL_isSo_207 rfl (fun h80 => ?_) (fun h80 => ?_)
                        · exact absurd h80 (by decide)
                        · skip
                          refine lv_iconst (v := (nI 1)) S.1 S.2.1 dL_isSo_210 (by decide) ?_
                          refine lv_goto (tgt := 215) S.1 S.2.1 dL_isSo_211 rfl ?_
                          refine lv_iadd S.1 S.2.1 dL_isSo_215 ?_
                          refine x_iast S hE hS (Or.inr (Nat.le_refl _)) (hp) ((5 * pp) + 4) rfl (by omega) (by decide) dL_isSo_216 (fun H locs hX hO1 hS => ?_)
                          have hg := va_at.kept hg (hO1.2 a (Nat.ne_of_lt haz))
                          have hc := va_at.kept hc (hO1.2 b (Nat.ne_of_lt hbz))
                          have hB := hB.fr (fun q z => hO1.2 q (by have := z.2; omega))
                          have hp := hX
                          refine lv_iload S.1 S.2.1 dL_isSo_217 (lv_at hl 7 rfl) ?_
                          refine lv_iload S.1 S.2.1 dL_isSo_219 (lv_at hl 2 rfl) ?_
                          refine lv_if_eq (tgt := 229) S.1 S.2.1 dL_isSo_221 rfl (fun h81 => ?_) (fun h81 => ?_)
                          · skip
                            refine lv_iconst (v := (nI 0)) S.1 S.2.1 dL_isSo_229 (by decide) ?_
                            refine lv_iadd S.1 S.2.1 dL_isSo_230 ?_
                            refine lv_istore S.1 S.2.1 dL_isSo_231 hl (by decide) rfl (fun ls hl => ?_)
                            have hl : lv_has ls 15 [(5, .int ((lwAll σ n i) + (nI 0))), (13, .int (nI (5 * pp))), (12, .int (rfHrd σ n i)), (11, .int (nI 0)), (10, .int (nf σ i 4)), (9, .int (nI 0)), (8, .int (nI i)), (4, .int (rfAhd σ i)), (7, .int (nI 1)), (3, .int (rfSum σ n)), (6, .ref s.heap.size), (0, .ref B), (1, .ref a), (2, .ref b)] := hl
                            refine lv_aload_n S.1 S.2.1 dL_isSo_233 rfl (lv_at hl 11 rfl) ?_
                            refine lv_iload S.1 S.2.1 dL_isSo_234 (lv_at hl 6 rfl) ?_
                            refine lv_iconst (v := (nI 0)) S.1 S.2.1 dL_isSo_236 (by decide) ?_
                            refine xk_R (v := (bxNote β.1 (nI i) (nI 0))) (x_runV (As := [.int (nI i), .int (nI 0)]) (rest := []) S hE hS (fun _ h => h.elim) (c_X7_noteOf l E B β (nI i) (nI 0) _ hB) kv_X7_noteOf kw7_21 kw7_22 kw7_23 (x_recv hE (hB.1) (ci := 7) rfl) ⟨Nat.le_of_ble_eq_true rfl, Nat.le_of_ble_eq_true rfl⟩ rfl rfl rfl hl.1 rfl (Nat.le_of_ble_eq_true rfl) dL_isSo_237 ⟨(Nat.le_of_ble_eq_true rfl), (Nat.le_of_ble_eq_true rfl)⟩) ?_
                            refine x_top (y := (nI ((5 * pp) / 5))) ((nt_0 hT hlt).trans (e0.trans (congrArg nI (by omega)))) ?_
                            refine lv_iload S.1 S.2.1 dL_isSo_240 (lv_at hl 1 rfl) ?_
                            refine lv_iconst (v := (nI 5)) S.1 S.2.1 dL_isSo_242 (by decide) ?_
                            refine lv_idiv S.1 S.2.1 dL_isSo_243 (by decide) ?_
                            refine x_top (y := (nI ((5 * pp) / 5))) (pk_div (by omega) (by decide) (by decide)) ?_
                            refine lv_icmp_ne (tgt := 404) S.1 S.2.1 dL_isSo_244 rfl (fun h82 => ?_) (fun h82 => ?_)
                            · exact absurd rfl h82
                            · skip
                              refine lv_aload_n S.1 S.2.1 dL_isSo_247 rfl (lv_at hl 11 rfl) ?_
                              refine lv_iload S.1 S.2.1 dL_isSo_248 (lv_at hl 6 rfl) ?_
                              refine lv_iconst (v := (nI 1)) S.1 S.2.1 dL_isSo_250 (by decide) ?_
                              refine xk_R (v := (bxNote β.1 (nI i) (nI 1))) (x_runV (As := [.int (nI i), .int (nI 1)]) (rest := []) S hE hS (fun _ h => h.elim) (c_X7_noteOf l E B β (nI i) (nI 1) _ hB) kv_X7_noteOf kw7_21 kw7_22 kw7_23 (x_recv hE (hB.1) (ci := 7) rfl) ⟨Nat.le_of_ble_eq_true rfl, Nat.le_of_ble_eq_true rfl⟩ rfl rfl rfl hl.1 rfl (Nat.le_of_ble_eq_true rfl) dL_isSo_251 ⟨(Nat.le_of_ble_eq_true rfl), (Nat.le_of_ble_eq_true rfl)⟩) ?_
                              refine x_top (y := (nf σ i 1)) (nt_1 hT hlt) ?_
                              refine lv_aload_n S.1 S.2.1 dL_isSo_254 rfl (lv_at hl 13 rfl) ?_
                              refine lv_iload S.1 S.2.1 dL_isSo_255 (lv_at hl 6 rfl) ?_
                              refine x_lald S hE hEL (hc) i rfl (by omega) (by decide) dL_isSo_257 ?_
                              refine lv_iconst (v := (nI 2)) S.1 S.2.1 dL_isSo_258 (by decide) ?_
                              refine lv_bipush (v := (nI 7)) S.1 S.2.1 dL_isSo_259 (by decide) ?_
                              refine xk_R (v := (lwG (κ i) (nI 2) (nI 7))) (x_runS (As := [.long (κ i), .int (nI 2), .int (nI 7)]) (rest := [.int (nf σ i 1)]) S hE hS (fun _ h => h.elim) (c_L_get l E (κ i) (nI 2) (nI 7) _) kv_L_get kw7_12 kw7_13 ⟨Nat.le_of_ble_eq_true rfl, Nat.le_of_ble_eq_true rfl⟩ rfl rfl rfl hl.1 rfl (Nat.le_of_ble_eq_true rfl) dL_isSo_261 ⟨(Nat.le_of_ble_eq_true rfl), (Nat.le_of_ble_eq_true rfl)⟩) ?_
                              refine x_top (y := (nf σ i 1)) ((lwG_eq _ (by decide) (by decide)).trans ((hU i 1 (by omega) (by decide)).symm)) ?_
                              refine lv_icmp_ne (tgt := 404) S.1 S.2.1 dL_isSo_264 rfl (fun h83 => ?_) (fun h83 => ?_)
                              · exact absurd rfl h83
                              · skip
                                refine lv_aload_n S.1 S.2.1 dL_isSo_267 rfl (lv_at hl 11 rfl) ?_
                                refine lv_iload S.1 S.2.1 dL_isSo_268 (lv_at hl 6 rfl) ?_
                                refine lv_iconst (v := (nI 2)) S.1 S.2.1 dL_isSo_270 (by decide) ?_
                                refine xk_R (v := (bxNote β.1 (nI i) (nI 2))) (x_runV (As := [.int (nI i), .int (nI 2)]) (rest := []) S hE hS (fun _ h => h.elim) (c_X7_noteOf l E B β (nI i) (nI 2) _ hB) kv_X7_noteOf kw7_21 kw7_22 kw7_23 (x_recv hE (hB.1) (ci := 7) rfl) ⟨Nat.le_of_ble_eq_true rfl, Nat.le_of_ble_eq_true rfl⟩ rfl rfl rfl hl.1 rfl (Nat.le_of_ble_eq_true rfl) dL_isSo_271 ⟨(Nat.le_of_ble_eq_true rfl), (Nat.le_of_ble_eq_true rfl)⟩) ?_
                                refine x_top (y := (nf σ i 2)) (nt_2 hT hlt) ?_
                                refine lv_aload_n S.1 S.2.1 dL_isSo_274 rfl (lv_at hl 13 rfl) ?_
                                refine lv_iload S.1 S.2.1 dL_isSo_275 (lv_at hl 6 rfl) ?_
                                refine x_lald S hE hEL (hc) i rfl (by omega) (by decide) dL_isSo_277 ?_
                                refine lv_bipush (v := (nI 9)) S.1 S.2.1 dL_isSo_278 (by decide) ?_
                                refine lv_bipush (v := (nI 7)) S.1 S.2.1 dL_isSo_280 (by decide) ?_
                                refine xk_R (v := (lwG (κ i) (nI 9) (nI 7))) (x_runS (As := [.long (κ i), .int (nI 9), .int (nI 7)]) (rest := [.int (nf σ i 2)]) S hE hS (fun _ h => h.elim) (c_L_get l E (κ i) (nI 9) (nI 7) _) kv_L_get kw7_12 kw7_13 ⟨Nat.le_of_ble_eq_true rfl, Nat.le_of_ble_eq_true rfl⟩ rfl rfl rfl hl.1 rfl (Nat.le_of_ble_eq_true rfl) dL_isSo_282 ⟨(Nat.le_of_ble_eq_true rfl), (Nat.le_of_ble_eq_true rfl)⟩) ?_
                                refine x_top (y := (nf σ i 2)) ((lwG_eq _ (by decide) (by decide)).trans ((hU i 2 (by omega) (by decide)).symm)) ?_
                                refine lv_icmp_ne (tgt := 404) S.1 S.2.1 dL_isSo_285 rfl (fun h84 => ?_) (fun h84 => ?_)
                                · exact absurd rfl h84
                                · skip
                                  refine lv_aload_n S.1 S.2.1 dL_isSo_288 rfl (lv_at hl 11 rfl) ?_
                                  refine lv_iload S.1 S.2.1 dL_isSo_289 (lv_at hl 6 rfl) ?_
                                  refine lv_iconst (v := (nI 3)) S.1 S.2.1 dL_isSo_291 (by decide) ?_
                                  refine xk_R (v := (bxNote β.1 (nI i) (nI 3))) (x_runV (As := [.int (nI i), .int (nI 3)]) (rest := []) S hE hS (fun _ h => h.elim) (c_X7_noteOf l E B β (nI i) (nI 3) _ hB) kv_X7_noteOf kw7_21 kw7_22 kw7_23 (x_recv hE (hB.1) (ci := 7) rfl) ⟨Nat.le_of_ble_eq_true rfl, Nat.le_of_ble_eq_true rfl⟩ rfl rfl rfl hl.1 rfl (Nat.le_of_ble_eq_true rfl) dL_isSo_292 ⟨(Nat.le_of_ble_eq_true rfl), (Nat.le_of_ble_eq_true rfl)⟩) ?_
                                  refine x_top (y := (nI 0)) ((nt_3 hT hlt).trans ex) ?_
                                  refine lv_iload S.1 S.2.1 dL_isSo_295 (lv_at hl 5 rfl) ?_
                                  refine lv_icmp_ne (tgt := 404) S.1 S.2.1 dL_isSo_297 rfl (fun h85 => ?_) (fun h85 => ?_)
                                  · exact absurd h85 (by decide)
                                  · skip
                                    refine lv_aload_n S.1 S.2.1 dL_isSo_300 rfl (lv_at hl 11 rfl) ?_
                                    refine lv_iload S.1 S.2.1 dL_isSo_301 (lv_at hl 6 rfl) ?_
                                    refine lv_iconst (v := (nI 4)) S.1 S.2.1 dL_isSo_303 (by decide) ?_
                                    refine xk_R (v := (bxNote β.1 (nI i) (nI 4))) (x_runV (As := [.int (nI i), .int (nI 4)]) (rest := []) S hE hS (fun _ h => h.elim) (c_X7_noteOf l E B β (nI i) (nI 4) _ hB) kv_X7_noteOf kw7_21 kw7_22 kw7_23 (x_recv hE (hB.1) (ci := 7) rfl) ⟨Nat.le_of_ble_eq_true rfl, Nat.le_of_ble_eq_true rfl⟩ rfl rfl rfl hl.1 rfl (Nat.le_of_ble_eq_true rfl) dL_isSo_304 ⟨(Nat.le_of_ble_eq_true rfl), (Nat.le_of_ble_eq_true rfl)⟩) ?_
                                    refine x_top (y := (-4)) ((nt_4 hT hlt).trans (if_neg fVo)) ?_
                                    refine lv_iload S.1 S.2.1 dL_isSo_307 (lv_at hl 3 rfl) ?_
                                    refine lv_if_eq (tgt := 317) S.1 S.2.1 dL_isSo_309 rfl (fun h86 => ?_) (fun h86 => ?_)
                                    · skip
                                      refine lv_bipush (v := (-4)) S.1 S.2.1 dL_isSo_317 (by decide) ?_
                                      refine lv_icmp_ne (tgt := 404) S.1 S.2.1 dL_isSo_319 rfl (fun h87 => ?_) (fun h87 => ?_)
                                      · exact absurd h87 (by decide)
                                      · skip
                                        refine lv_aload_n S.1 S.2.1 dL_isSo_322 rfl (lv_at hl 11 rfl) ?_
                                        refine lv_iload S.1 S.2.1 dL_isSo_323 (lv_at hl 6 rfl) ?_
                                        refine lv_iconst (v := (nI 5)) S.1 S.2.1 dL_isSo_325 (by decide) ?_
                                        refine xk_R (v := (bxNote β.1 (nI i) (nI 5))) (x_runV (As := [.int (nI i), .int (nI 5)]) (rest := []) S hE hS (fun _ h => h.elim) (c_X7_noteOf l E B β (nI i) (nI 5) _ hB) kv_X7_noteOf kw7_21 kw7_22 kw7_23 (x_recv hE (hB.1) (ci := 7) rfl) ⟨Nat.le_of_ble_eq_true rfl, Nat.le_of_ble_eq_true rfl⟩ rfl rfl rfl hl.1 rfl (Nat.le_of_ble_eq_true rfl) dL_isSo_326 ⟨(Nat.le_of_ble_eq_true rfl), (Nat.le_of_ble_eq_true rfl)⟩) ?_
                                        refine x_top (y := (-4)) ((nt_5 hT hlt).trans (if_neg fVo)) ?_
                                        refine lv_iload S.1 S.2.1 dL_isSo_329 (lv_at hl 3 rfl) ?_
                                        refine lv_if_eq (tgt := 339) S.1 S.2.1 dL_isSo_331 rfl (fun h88 => ?_) (fun h88 => ?_)
                                        · skip
                                          refine lv_bipush (v := (-4)) S.1 S.2.1 dL_isSo_339 (by decide) ?_
                                          refine lv_icmp_ne (tgt := 404) S.1 S.2.1 dL_isSo_341 rfl (fun h89 => ?_) (fun h89 => ?_)
                                          · exact absurd h89 (by decide)
                                          · skip
                                            refine lv_aload_n S.1 S.2.1 dL_isSo_344 rfl (lv_at hl 11 rfl) ?_
                                            refine lv_iload S.1 S.2.1 dL_isSo_345 (lv_at hl 6 rfl) ?_
                                            refine lv_bipush (v := (nI 6)) S.1 S.2.1 dL_isSo_347 (by decide) ?_
                                            refine xk_R (v := (bxNote β.1 (nI i) (nI 6))) (x_runV (As := [.int (nI i), .int (nI 6)]) (rest := []) S hE hS (fun _ h => h.elim) (c_X7_noteOf l E B β (nI i) (nI 6) _ hB) kv_X7_noteOf kw7_21 kw7_22 kw7_23 (x_recv hE (hB.1) (ci := 7) rfl) ⟨Nat.le_of_ble_eq_true rfl, Nat.le_of_ble_eq_true rfl⟩ rfl rfl rfl hl.1 rfl (Nat.le_of_ble_eq_true rfl) dL_isSo_349 ⟨(Nat.le_of_ble_eq_true rfl), (Nat.le_of_ble_eq_true rfl)⟩) ?_
                                            refine x_top (y := (nf σ i 6)) (nt_6 hT hlt) ?_
                                            refine lv_aload_n S.1 S.2.1 dL_isSo_352 rfl (lv_at hl 13 rfl) ?_
                                            refine lv_iload S.1 S.2.1 dL_isSo_353 (lv_at hl 6 rfl) ?_
                                            refine x_lald S hE hEL (hc) i rfl (by omega) (by decide) dL_isSo_355 ?_
                                            refine lv_bipush (v := (nI 41)) S.1 S.2.1 dL_isSo_356 (by decide) ?_
                                            refine lv_iconst (v := (nI 1)) S.1 S.2.1 dL_isSo_358 (by decide) ?_
                                            refine xk_R (v := (lwG (κ i) (nI 41) (nI 1))) (x_runS (As := [.long (κ i), .int (nI 41), .int (nI 1)]) (rest := [.int (nf σ i 6)]) S hE hS (fun _ h => h.elim) (c_L_get l E (κ i) (nI 41) (nI 1) _) kv_L_get kw7_12 kw7_13 ⟨Nat.le_of_ble_eq_true rfl, Nat.le_of_ble_eq_true rfl⟩ rfl rfl rfl hl.1 rfl (Nat.le_of_ble_eq_true rfl) dL_isSo_359 ⟨(Nat.le_of_ble_eq_true rfl), (Nat.le_of_ble_eq_true rfl)⟩) ?_
                                            refine x_top (y := (nf σ i 6)) ((lwG_eq _ (by decide) (by decide)).trans ((hU i 6 (by omega) (by decide)).symm)) ?_
                                            refine lv_icmp_ne (tgt := 404) S.1 S.2.1 dL_isSo_362 rfl (fun h90 => ?_) (fun h90 => ?_)
                                            · exact absurd rfl h90
                                            · skip
                                              refine lv_aload_n S.1 S.2.1 dL_isSo_365 rfl (lv_at hl 11 rfl) ?_
                                              refine lv_iload S.1 S.2.1 dL_isSo_366 (lv_at hl 6 rfl) ?_
                                              refine lv_bipush (v := (nI 7)) S.1 S.2.1 dL_isSo_368 (by decide) ?_
                                              refine xk_R (v := (bxNote β.1 (nI i) (nI 7))) (x_runV (As := [.int (nI i), .int (nI 7)]) (rest := []) S hE hS (fun _ h => h.elim) (c_X7_noteOf l E B β (nI i) (nI 7) _ hB) kv_X7_noteOf kw7_21 kw7_22 kw7_23 (x_recv hE (hB.1) (ci := 7) rfl) ⟨Nat.le_of_ble_eq_true rfl, Nat.le_of_ble_eq_true rfl⟩ rfl rfl rfl hl.1 rfl (Nat.le_of_ble_eq_true rfl) dL_isSo_370 ⟨(Nat.le_of_ble_eq_true rfl), (Nat.le_of_ble_eq_true rfl)⟩) ?_
                                              refine x_top (y := (rfAhd σ i)) ((nt_7 hT hlt).trans (if_pos f0)) ?_
                                              refine lv_iload S.1 S.2.1 dL_isSo_373 (lv_at hl 5 rfl) ?_
                                              refine lv_if_ne (tgt := 383) S.1 S.2.1 dL_isSo_375 rfl (fun h91 => ?_) (fun h91 => ?_)
                                              · exact absurd h91 (by decide)
                                              · skip
                                                refine lv_iload S.1 S.2.1 dL_isSo_378 (lv_at hl 7 rfl) ?_
                                                refine lv_goto (tgt := 385) S.1 S.2.1 dL_isSo_380 rfl ?_
                                                refine lv_icmp_ne (tgt := 404) S.1 S.2.1 dL_isSo_385 rfl (fun h92 => ?_) (fun h92 => ?_)
                                                · exact absurd rfl h92
                                                · skip
                                                  refine lv_aload_n S.1 S.2.1 dL_isSo_388 rfl (lv_at hl 11 rfl) ?_
                                                  refine lv_iload S.1 S.2.1 dL_isSo_389 (lv_at hl 6 rfl) ?_
                                                  refine lv_bipush (v := (nI 8)) S.1 S.2.1 dL_isSo_391 (by decide) ?_
                                                  refine xk_R (v := (bxNote β.1 (nI i) (nI 8))) (x_runV (As := [.int (nI i), .int (nI 8)]) (rest := []) S hE hS (fun _ h => h.elim) (c_X7_noteOf l E B β (nI i) (nI 8) _ hB) kv_X7_noteOf kw7_21 kw7_22 kw7_23 (x_recv hE (hB.1) (ci := 7) rfl) ⟨Nat.le_of_ble_eq_true rfl, Nat.le_of_ble_eq_true rfl⟩ rfl rfl rfl hl.1 rfl (Nat.le_of_ble_eq_true rfl) dL_isSo_393 ⟨(Nat.le_of_ble_eq_true rfl), (Nat.le_of_ble_eq_true rfl)⟩) ?_
                                                  refine x_top (y := (-1)) (nt_8 hT hlt) ?_
                                                  refine lv_iconst (v := (-1)) S.1 S.2.1 dL_isSo_396 (by decide) ?_
                                                  refine lv_icmp_ne (tgt := 404) S.1 S.2.1 dL_isSo_397 rfl (fun h93 => ?_) (fun h93 => ?_)
                                                  · exact absurd h93 (by decide)
                                                  · skip
                                                    refine lv_iconst (v := (nI 1)) S.1 S.2.1 dL_isSo_400 (by decide) ?_
                                                    refine lv_goto (tgt := 405) S.1 S.2.1 dL_isSo_401 rfl ?_
                                                    refine lv_istore S.1 S.2.1 dL_isSo_405 hl (by decide) rfl (fun ls hl => ?_)
                                                    have hl : lv_has ls 15 [(7, .int (nI 1)), (5, .int ((lwAll σ n i) + (nI 0))), (13, .int (nI (5 * pp))), (12, .int (rfHrd σ n i)), (11, .int (nI 0)), (10, .int (nf σ i 4)), (9, .int (nI 0)), (8, .int (nI i)), (4, .int (rfAhd σ i)), (3, .int (rfSum σ n)), (6, .ref s.heap.size), (0, .ref B), (1, .ref a), (2, .ref b)] := hl
                                                    refine lv_iload S.1 S.2.1 dL_isSo_407 (lv_at hl 8 rfl) ?_
                                                    refine lv_iload S.1 S.2.1 dL_isSo_409 (lv_at hl 6 rfl) ?_
                                                    refine lv_if_ne (tgt := 418) S.1 S.2.1 dL_isSo_411 rfl (fun h94 => ?_) (fun h94 => ?_)
                                                    · exact absurd h94 (by decide)
                                                    · skip
                                                      refine lv_iconst (v := (nI 1)) S.1 S.2.1 dL_isSo_414 (by decide) ?_
                                                      refine lv_goto (tgt := 419) S.1 S.2.1 dL_isSo_415 rfl ?_
                                                      refine lv_iadd S.1 S.2.1 dL_isSo_419 ?_
                                                      refine lv_istore S.1 S.2.1 dL_isSo_420 hl (by decide) rfl (fun ls hl => ?_)
                                                      have hl : lv_has ls 15 [(4, .int ((rfAhd σ i) + (nI 1))), (7, .int (nI 1)), (5, .int ((lwAll σ n i) + (nI 0))), (13, .int (nI (5 * pp))), (12, .int (rfHrd σ n i)), (11, .int (nI 0)), (10, .int (nf σ i 4)), (9, .int (nI 0)), (8, .int (nI i)), (3, .int (rfSum σ n)), (6, .ref s.heap.size), (0, .ref B), (1, .ref a), (2, .ref b)] := hl
                                                      refine lv_iinc (k := 8) (v := (nI (i + 1))) S.1 S.2.1 dL_isSo_422 hl rfl (iincP i 1) (by decide) rfl (fun ls hl => ?_)
                                                      have hl : lv_has ls 15 [(8, .int (nI (i + 1))), (4, .int ((rfAhd σ i) + (nI 1))), (7, .int (nI 1)), (5, .int ((lwAll σ n i) + (nI 0))), (13, .int (nI (5 * pp))), (12, .int (rfHrd σ n i)), (11, .int (nI 0)), (10, .int (nf σ i 4)), (9, .int (nI 0)), (3, .int (rfSum σ n)), (6, .ref s.heap.size), (0, .ref B), (1, .ref a), (2, .ref b)] := hl
                                                      refine lv_goto (tgt := 24) S.1 S.2.1 dL_isSo_425 rfl ?_
                                                      have hl : lv_has ls 15 [(8, .int (nI (i + 1))), (4, .int (rfAhd σ (i + 1))), (5, .int (lwAll σ n (i + 1))), (7, .int (nI 1)), (3, .int (rfSum σ n)), (6, .ref s.heap.size), (0, .ref B), (1, .ref a), (2, .ref b)] := by
                                                        rw [show (rfAhd σ (i + 1)) = ((rfAhd σ i) + (nI 1)) from by first | rw [rfAhd, if_pos f0] | rw [rfAhd, if_neg f0] | rw [lwAll, if_pos fVo] | rw [lwAll, if_neg fVo]]
                                                        rw [show (lwAll σ n (i + 1)) = ((lwAll σ n i) + (nI 0)) from by first | rw [rfAhd, if_pos f0] | rw [rfAhd, if_neg f0] | rw [lwAll, if_pos fVo] | rw [lwAll, if_neg fVo]]
                                                        exact lv_sub hl [0, 1, 3, 2, 9, 10, 11, 12, 13] rfl
                                                      exact ih24 _ (by omega) (i + 1) (upd (upd (upd (upd (upd f (5 * pp) ((f (5 * pp)) + (nI 0))) ((5 * pp) + 1) ((f ((5 * pp) + 1)) + (nI 0))) ((5 * pp) + 2) ((f ((5 * pp) + 2)) + (nI 0))) ((5 * pp) + 3) ((f ((5 * pp) + 3)) + (nI 0))) ((5 * pp) + 4) ((f ((5 * pp) + 4)) + (nI 1))) _ _ ls rfl (by omega) (pa_step hPA hpp e0 (by first | rw [if_pos fPl] | rw [if_neg fPl]) (by first | rw [if_pos f5] | rw [if_neg f5]) (by first | rw [if_pos fVo] | rw [if_neg fVo]) (by first | rw [if_pos fVo] | rw [if_neg fVo]) (by first | rw [if_pos f0] | rw [if_neg f0])) (hB) (hg) (hc) (hp) (hS) (lv_sub hl [0, 1, 2, 3, 4, 5, 6, 7, 8] rfl)
                                        · exact absurd h88 (by decide)
                                    · exact absurd h86 (by decide)
                          · exact absurd h81 (by decide)
                      · exact absurd h79 (by decide)
                    · exact absurd h78 (by decide)
                  · exact absurd h77 (by decide)
                · exact absurd h76 (by decide)
            · exact absurd h55 (by decide)
          · refine x_top (y := (nI 1)) ex ?_
            have fPl : rfPl σ i := by first | exact ex | (unfold rfPl; rw [ex]; decide)
            have fVo : rfVo σ i := by first | exact ex | (unfold rfVo; rw [ex]; decide)
            have f5 : ¬ nf σ i 3 = nI 5 := by first | exact ex | (rw [ex]; decide)
            have f0 : ¬ nf σ i 3 = 0 := by first | exact ex | (rw [ex]; decide)
            refine lv_istore S.1 S.2.1 dL_isSo_44 hl (by decide) rfl (fun ls hl => ?_)
            have hl : lv_has ls 15 [(9, .int (nI 1)), (8, .int (nI i)), (4, .int (rfAhd σ i)), (5, .int (lwAll σ n i)), (7, .int (nI 1)), (3, .int (rfSum σ n)), (6, .ref s.heap.size), (0, .ref B), (1, .ref a), (2, .ref b)] := hl
            refine lv_aload_n S.1 S.2.1 dL_isSo_46 rfl (lv_at hl 9 rfl) ?_
            refine lv_iload S.1 S.2.1 dL_isSo_47 (lv_at hl 1 rfl) ?_
            refine x_lald S hE hEL (hc) i rfl (by omega) (by decide) dL_isSo_49 ?_
            refine xk_R (v := (fld 4 (κ i))) (x_runS (As := [.long (κ i)]) (rest := []) S hE hS (fun _ h => h.elim) (c_L_level l E (κ i) _) kv_L_level kw7_15 kw7_16 ⟨Nat.le_of_ble_eq_true rfl, Nat.le_of_ble_eq_true rfl⟩ rfl rfl rfl hl.1 rfl (Nat.le_of_ble_eq_true rfl) dL_isSo_50 ⟨(Nat.le_of_ble_eq_true rfl), (Nat.le_of_ble_eq_true rfl)⟩) ?_
            refine x_top (y := (nf σ i 4)) ((hU i 4 (by omega) (by decide)).symm) ?_
            refine lv_istore S.1 S.2.1 dL_isSo_53 hl (by decide) rfl (fun ls hl => ?_)
            have hl : lv_has ls 15 [(10, .int (nf σ i 4)), (9, .int (nI 1)), (8, .int (nI i)), (4, .int (rfAhd σ i)), (5, .int (lwAll σ n i)), (7, .int (nI 1)), (3, .int (rfSum σ n)), (6, .ref s.heap.size), (0, .ref B), (1, .ref a), (2, .ref b)] := hl
            refine lv_iload S.1 S.2.1 dL_isSo_55 (lv_at hl 1 rfl) ?_
            refine lv_if_le (tgt := 71) S.1 S.2.1 dL_isSo_57 rfl (fun h95 => ?_) (fun h95 => ?_)
            · exact absurd h95 (by decide)
            · skip
              refine lv_iload S.1 S.2.1 dL_isSo_60 (lv_at hl 1 rfl) ?_
              refine lv_bipush (v := (nI 6)) S.1 S.2.1 dL_isSo_62 (by decide) ?_
              refine lv_icmp_ge (tgt := 71) S.1 S.2.1 dL_isSo_64 rfl (fun h96 => ?_) (fun h96 => ?_)
              · exact absurd h96 (by decide)
              · skip
                refine lv_iconst (v := (nI 1)) S.1 S.2.1 dL_isSo_67 (by decide) ?_
                refine lv_goto (tgt := 72) S.1 S.2.1 dL_isSo_68 rfl ?_
                refine lv_istore S.1 S.2.1 dL_isSo_72 hl (by decide) rfl (fun ls hl => ?_)
                have hl : lv_has ls 15 [(11, .int (nI 1)), (10, .int (nf σ i 4)), (9, .int (nI 1)), (8, .int (nI i)), (4, .int (rfAhd σ i)), (5, .int (lwAll σ n i)), (7, .int (nI 1)), (3, .int (rfSum σ n)), (6, .ref s.heap.size), (0, .ref B), (1, .ref a), (2, .ref b)] := hl
                refine lv_iload_n S.1 S.2.1 dL_isSo_74 rfl (lv_at hl 7 rfl) ?_
                refine lv_aload_n S.1 S.2.1 dL_isSo_75 rfl (lv_at hl 10 rfl) ?_
                refine lv_bipush (v := (nI 8)) S.1 S.2.1 dL_isSo_76 (by decide) ?_
                refine x_iald S hE (hg) 8 rfl (by decide) (by decide) dL_isSo_78 ?_
                refine lv_icmp_gt (tgt := 87) S.1 S.2.1 dL_isSo_79 rfl (fun h97 => ?_) (fun h97 => ?_)
                · skip
                  refine lv_iload S.1 S.2.1 dL_isSo_87 (lv_at hl 1 rfl) ?_
                  refine lv_aload_n S.1 S.2.1 dL_isSo_89 rfl (lv_at hl 10 rfl) ?_
                  refine lv_bipush (v := (nI 8)) S.1 S.2.1 dL_isSo_90 (by decide) ?_
                  refine x_iald S hE (hg) 8 rfl (by decide) (by decide) dL_isSo_92 ?_
                  refine lv_imul S.1 S.2.1 dL_isSo_93 ?_
                  refine lv_iload_n S.1 S.2.1 dL_isSo_94 rfl (lv_at hl 7 rfl) ?_
                  refine lv_idiv S.1 S.2.1 dL_isSo_95 (nz_of h8 h97) ?_
                  refine x_top (y := (rfHrd σ n i)) (by rw [rfHrd]; first | rw [if_pos (Int32.not_lt.mp h97)] | rw [if_neg (Int32.not_le.mpr h97)]) ?_
                  refine lv_istore S.1 S.2.1 dL_isSo_96 hl (by decide) rfl (fun ls hl => ?_)
                  have hl : lv_has ls 15 [(12, .int (rfHrd σ n i)), (11, .int (nI 1)), (10, .int (nf σ i 4)), (9, .int (nI 1)), (8, .int (nI i)), (4, .int (rfAhd σ i)), (5, .int (lwAll σ n i)), (7, .int (nI 1)), (3, .int (rfSum σ n)), (6, .ref s.heap.size), (0, .ref B), (1, .ref a), (2, .ref b)] := hl
                  refine lv_iconst (v := (nI 5)) S.1 S.2.1 dL_isSo_98 (by decide) ?_
                  refine lv_aload_n S.1 S.2.1 dL_isSo_99 rfl (lv_at hl 12 rfl) ?_
                  refine lv_iload S.1 S.2.1 dL_isSo_100 (lv_at hl 4 rfl) ?_
                  refine x_lald S hE hEL (hc) i rfl (by omega) (by decide) dL_isSo_102 ?_
                  refine lv_iconst (v := (nI 0)) S.1 S.2.1 dL_isSo_103 (by decide) ?_
                  refine lv_iconst (v := (nI 2)) S.1 S.2.1 dL_isSo_104 (by decide) ?_
                  refine xk_R (v := (lwG (κ i) (nI 0) (nI 2))) (x_runS (As := [.long (κ i), .int (nI 0), .int (nI 2)]) (rest := [.int (nI 5)]) S hE hS (fun _ h => h.elim) (c_L_get l E (κ i) (nI 0) (nI 2) _) kv_L_get kw7_12 kw7_13 ⟨Nat.le_of_ble_eq_true rfl, Nat.le_of_ble_eq_true rfl⟩ rfl rfl rfl hl.1 rfl (Nat.le_of_ble_eq_true rfl) dL_isSo_105 ⟨(Nat.le_of_ble_eq_true rfl), (Nat.le_of_ble_eq_true rfl)⟩) ?_
                  refine x_top (y := (nf σ i 0)) ((lwG_eq _ (by decide) (by decide)).trans ((hU i 0 (by omega) (by decide)).symm)) ?_
                  refine x_top (y := (nI pp)) (e0) ?_
                  refine lv_imul S.1 S.2.1 dL_isSo_108 ?_
                  refine x_top (y := (nI (5 * pp))) (pk_mul 5 pp) ?_
                  refine lv_istore S.1 S.2.1 dL_isSo_109 hl (by decide) rfl (fun ls hl => ?_)
                  have hl : lv_has ls 15 [(13, .int (nI (5 * pp))), (12, .int (rfHrd σ n i)), (11, .int (nI 1)), (10, .int (nf σ i 4)), (9, .int (nI 1)), (8, .int (nI i)), (4, .int (rfAhd σ i)), (5, .int (lwAll σ n i)), (7, .int (nI 1)), (3, .int (rfSum σ n)), (6, .ref s.heap.size), (0, .ref B), (1, .ref a), (2, .ref b)] := hl
                  refine lv_aload S.1 S.2.1 dL_isSo_111 (lv_at hl 10 rfl) ?_
                  refine lv_iload S.1 S.2.1 dL_isSo_113 (lv_at hl 0 rfl) ?_
                  refine lv_dup2_11 S.1 S.2.1 dL_isSo_115 rfl rfl ?_
                  refine x_iald S hE (hp) (5 * pp) rfl (by omega) (by decide) dL_isSo_116 ?_
                  refine lv_aload_n S.1 S.2.1 dL_isSo_117 rfl (lv_at hl 13 rfl) ?_
                  refine lv_iload S.1 S.2.1 dL_isSo_118 (lv_at hl 5 rfl) ?_
                  refine x_lald S hE hEL (hc) i rfl (by omega) (by decide) dL_isSo_120 ?_
                  refine xk_R (v := (bI (nI 1 ≤ fld 3 (κ i) ∧ fld 3 (κ i) ≤ nI 4))) (x_runS (As := [.long (κ i)]) (rest := [.int (f (5 * pp)), .int (nI (5 * pp)), .ref s.heap.size]) S hE hS (fun _ h => h.elim) (c_L_placed l E (κ i) _) kv_L_placed kw7_18 kw7_19 ⟨Nat.le_of_ble_eq_true rfl, Nat.le_of_ble_eq_true rfl⟩ rfl rfl rfl hl.1 rfl (Nat.le_of_ble_eq_true rfl) dL_isSo_121 ⟨(Nat.le_of_ble_eq_true rfl), (Nat.le_of_ble_eq_true rfl)⟩) ?_
                  refine x_top (y := (nI 1)) ((bI_iff (by show _ ↔ (nI 1 ≤ nf σ i 3 ∧ nf σ i 3 ≤ nI 4); rw [hU i 3 (by omega) (by decide)])).trans (bI_t fPl).symm) ?_
                  refine lv_if_eq (tgt := 131) S.1 S.2.1 dL_isSo_124 rfl (fun h98 => ?_) (fun h98 => ?_)
                  · exact absurd h98 (by decide)
                  · skip
                    refine lv_iconst (v := (nI 1)) S.1 S.2.1 dL_isSo_127 (by decide) ?_
                    refine lv_goto (tgt := 132) S.1 S.2.1 dL_isSo_128 rfl ?_
                    refine lv_iadd S.1 S.2.1 dL_isSo_132 ?_
                    refine x_iast S hE hS (Or.inr (Nat.le_refl _)) (hp) (5 * pp) rfl (by omega) (by decide) dL_isSo_133 (fun H locs hX hO1 hS => ?_)
                    have hg := va_at.kept hg (hO1.2 a (Nat.ne_of_lt haz))
                    have hc := va_at.kept hc (hO1.2 b (Nat.ne_of_lt hbz))
                    have hB := hB.fr (fun q z => hO1.2 q (by have := z.2; omega))
                    have hp := hX
                    refine lv_aload S.1 S.2.1 dL_isSo_134 (lv_at hl 10 rfl) ?_
                    refine lv_iload S.1 S.2.1 dL_isSo_136 (lv_at hl 0 rfl) ?_
                    refine lv_iconst (v := (nI 1)) S.1 S.2.1 dL_isSo_138 (by decide) ?_
                    refine lv_iadd S.1 S.2.1 dL_isSo_139 ?_
                    refine x_top (y := (nI ((5 * pp) + 1))) (nI_add (5 * pp) 1) ?_
                    refine lv_dup2_11 S.1 S.2.1 dL_isSo_140 rfl rfl ?_
                    refine x_iald S hE (hp) ((5 * pp) + 1) rfl (by omega) (by decide) dL_isSo_141 ?_
                    refine x_top (y := (f ((5 * pp) + 1))) (pk_un (by omega)) ?_
                    refine lv_iload S.1 S.2.1 dL_isSo_142 (lv_at hl 4 rfl) ?_
                    refine lv_iconst (v := (nI 5)) S.1 S.2.1 dL_isSo_144 (by decide) ?_
                    refine lv_icmp_ne (tgt := 152) S.1 S.2.1 dL_isSo_145 rfl (fun h99 => ?_) (fun h99 => ?_)
                    · skip
                      refine lv_iconst (v := (nI 0)) S.1 S.2.1 dL_isSo_152 (by decide) ?_
                      refine lv_iadd S.1 S.2.1 dL_isSo_153 ?_
                      refine x_iast S hE hS (Or.inr (Nat.le_refl _)) (hp) ((5 * pp) + 1) rfl (by omega) (by decide) dL_isSo_154 (fun H locs hX hO1 hS => ?_)
                      have hg := va_at.kept hg (hO1.2 a (Nat.ne_of_lt haz))
                      have hc := va_at.kept hc (hO1.2 b (Nat.ne_of_lt hbz))
                      have hB := hB.fr (fun q z => hO1.2 q (by have := z.2; omega))
                      have hp := hX
                      refine lv_aload S.1 S.2.1 dL_isSo_155 (lv_at hl 10 rfl) ?_
                      refine lv_iload S.1 S.2.1 dL_isSo_157 (lv_at hl 0 rfl) ?_
                      refine lv_iconst (v := (nI 2)) S.1 S.2.1 dL_isSo_159 (by decide) ?_
                      refine lv_iadd S.1 S.2.1 dL_isSo_160 ?_
                      refine x_top (y := (nI ((5 * pp) + 2))) (nI_add (5 * pp) 2) ?_
                      refine lv_dup2_11 S.1 S.2.1 dL_isSo_161 rfl rfl ?_
                      refine x_iald S hE (hp) ((5 * pp) + 2) rfl (by omega) (by decide) dL_isSo_162 ?_
                      refine x_top (y := (f ((5 * pp) + 2))) ((pk_un (by omega)).trans (pk_un (by omega))) ?_
                      refine lv_iload S.1 S.2.1 dL_isSo_163 (lv_at hl 2 rfl) ?_
                      refine lv_if_eq (tgt := 173) S.1 S.2.1 dL_isSo_165 rfl (fun h100 => ?_) (fun h100 => ?_)
                      · exact absurd h100 (by decide)
                      · skip
                        refine lv_iload S.1 S.2.1 dL_isSo_168 (lv_at hl 3 rfl) ?_
                        refine lv_goto (tgt := 174) S.1 S.2.1 dL_isSo_170 rfl ?_
                        refine lv_iadd S.1 S.2.1 dL_isSo_174 ?_
                        refine x_iast S hE hS (Or.inr (Nat.le_refl _)) (hp) ((5 * pp) + 2) rfl (by omega) (by decide) dL_isSo_175 (fun H locs hX hO1 hS => ?_)
                        have hg := va_at.kept hg (hO1.2 a (Nat.ne_of_lt haz))
                        have hc := va_at.kept hc (hO1.2 b (Nat.ne_of_lt hbz))
                        have hB := hB.fr (fun q z => hO1.2 q (by have := z.2; omega))
                        have hp := hX
                        refine lv_aload S.1 S.2.1 dL_isSo_176 (lv_at hl 10 rfl) ?_
                        refine lv_iload S.1 S.2.1 dL_isSo_178 (lv_at hl 0 rfl) ?_
                        refine lv_iconst (v := (nI 3)) S.1 S.2.1 dL_isSo_180 (by decide) ?_
                        refine lv_iadd S.1 S.2.1 dL_isSo_181 ?_
                        refine x_top (y := (nI ((5 * pp) + 3))) (nI_add (5 * pp) 3) ?_
                        refine lv_dup2_11 S.1 S.2.1 dL_isSo_182 rfl rfl ?_
                        refine x_iald S hE (hp) ((5 * pp) + 3) rfl (by omega) (by decide) dL_isSo_183 ?_
                        refine x_top (y := (f ((5 * pp) + 3))) ((pk_un (by omega)).trans ((pk_un (by omega)).trans (pk_un (by omega)))) ?_
                        refine lv_iload S.1 S.2.1 dL_isSo_184 (lv_at hl 2 rfl) ?_
                        refine lv_if_eq (tgt := 194) S.1 S.2.1 dL_isSo_186 rfl (fun h101 => ?_) (fun h101 => ?_)
                        · exact absurd h101 (by decide)
                        · skip
                          refine lv_iload S.1 S.2.1 dL_isSo_189 (lv_at hl 1 rfl) ?_
                          refine lv_goto (tgt := 195) S.1 S.2.1 dL_isSo_191 rfl ?_
                          refine lv_iadd S.1 S.2.1 dL_isSo_195 ?_
                          refine x_iast S hE hS (Or.inr (Nat.le_refl _)) (hp) ((5 * pp) + 3) rfl (by omega) (by decide) dL_isSo_196 (fun H locs hX hO1 hS => ?_)
                          have hg := va_at.kept hg (hO1.2 a (Nat.ne_of_lt haz))
                          have hc := va_at.kept hc (hO1.2 b (Nat.ne_of_lt hbz))
                          have hB := hB.fr (fun q z => hO1.2 q (by have := z.2; omega))
                          have hp := hX
                          refine lv_aload S.1 S.2.1 dL_isSo_197 (lv_at hl 10 rfl) ?_
                          refine lv_iload S.1 S.2.1 dL_isSo_199 (lv_at hl 0 rfl) ?_
                          refine lv_iconst (v := (nI 4)) S.1 S.2.1 dL_isSo_201 (by decide) ?_
                          refine lv_iadd S.1 S.2.1 dL_isSo_202 ?_
                          refine x_top (y := (nI ((5 * pp) + 4))) (nI_add (5 * pp) 4) ?_
                          refine lv_dup2_11 S.1 S.2.1 dL_isSo_203 rfl rfl ?_
                          refine x_iald S hE (hp) ((5 * pp) + 4) rfl (by omega) (by decide) dL_isSo_204 ?_
                          refine x_top (y := (f ((5 * pp) + 4))) ((pk_un (by omega)).trans ((pk_un (by omega)).trans ((pk_un (by omega)).trans (pk_un (by omega))))) ?_
                          refine lv_iload S.1 S.2.1 dL_isSo_205 (lv_at hl 4 rfl) ?_
                          refine lv_if_ne (tgt := 214) S.1 S.2.1 dL_isSo_207 rfl (fun h102 => ?_) (fun h102 => ?_)
                          · skip
                            refine lv_iconst (v := (nI 0)) S.1 S.2.1 dL_isSo_214 (by decide) ?_
                            refine lv_iadd S.1 S.2.1 dL_isSo_215 ?_
                            refine x_iast S hE hS (Or.inr (Nat.le_refl _)) (hp) ((5 * pp) + 4) rfl (by omega) (by decide) dL_isSo_216 (fun H locs hX hO1 hS => ?_)
                            have hg := va_at.kept hg (hO1.2 a (Nat.ne_of_lt haz))
                            have hc := va_at.kept hc (hO1.2 b (Nat.ne_of_lt hbz))
                            have hB := hB.fr (fun q z => hO1.2 q (by have := z.2; omega))
                            have hp := hX
                            refine lv_iload S.1 S.2.1 dL_isSo_217 (lv_at hl 7 rfl) ?_
                            refine lv_iload S.1 S.2.1 dL_isSo_219 (lv_at hl 2 rfl) ?_
                            refine lv_if_eq (tgt := 229) S.1 S.2.1 dL_isSo_221 rfl (fun h103 => ?_) (fun h103 => ?_)
                            · exact absurd h103 (by decide)
                            · skip
                              refine lv_iload S.1 S.2.1 dL_isSo_224 (lv_at hl 1 rfl) ?_
                              refine lv_goto (tgt := 230) S.1 S.2.1 dL_isSo_226 rfl ?_
                              refine lv_iadd S.1 S.2.1 dL_isSo_230 ?_
                              refine lv_istore S.1 S.2.1 dL_isSo_231 hl (by decide) rfl (fun ls hl => ?_)
                              have hl : lv_has ls 15 [(5, .int ((lwAll σ n i) + (rfHrd σ n i))), (13, .int (nI (5 * pp))), (12, .int (rfHrd σ n i)), (11, .int (nI 1)), (10, .int (nf σ i 4)), (9, .int (nI 1)), (8, .int (nI i)), (4, .int (rfAhd σ i)), (7, .int (nI 1)), (3, .int (rfSum σ n)), (6, .ref s.heap.size), (0, .ref B), (1, .ref a), (2, .ref b)] := hl
                              refine lv_aload_n S.1 S.2.1 dL_isSo_233 rfl (lv_at hl 11 rfl) ?_
                              refine lv_iload S.1 S.2.1 dL_isSo_234 (lv_at hl 6 rfl) ?_
                              refine lv_iconst (v := (nI 0)) S.1 S.2.1 dL_isSo_236 (by decide) ?_
                              refine xk_R (v := (bxNote β.1 (nI i) (nI 0))) (x_runV (As := [.int (nI i), .int (nI 0)]) (rest := []) S hE hS (fun _ h => h.elim) (c_X7_noteOf l E B β (nI i) (nI 0) _ hB) kv_X7_noteOf kw7_21 kw7_22 kw7_23 (x_recv hE (hB.1) (ci := 7) rfl) ⟨Nat.le_of_ble_eq_true rfl, Nat.le_of_ble_eq_true rfl⟩ rfl rfl rfl hl.1 rfl (Nat.le_of_ble_eq_true rfl) dL_isSo_237 ⟨(Nat.le_of_ble_eq_true rfl), (Nat.le_of_ble_eq_true rfl)⟩) ?_
                              refine x_top (y := (nI ((5 * pp) / 5))) ((nt_0 hT hlt).trans (e0.trans (congrArg nI (by omega)))) ?_
                              refine lv_iload S.1 S.2.1 dL_isSo_240 (lv_at hl 1 rfl) ?_
                              refine lv_iconst (v := (nI 5)) S.1 S.2.1 dL_isSo_242 (by decide) ?_
                              refine lv_idiv S.1 S.2.1 dL_isSo_243 (by decide) ?_
                              refine x_top (y := (nI ((5 * pp) / 5))) (pk_div (by omega) (by decide) (by decide)) ?_
                              refine lv_icmp_ne (tgt := 404) S.1 S.2.1 dL_isSo_244 rfl (fun h104 => ?_) (fun h104 => ?_)
                              · exact absurd rfl h104
                              · skip
                                refine lv_aload_n S.1 S.2.1 dL_isSo_247 rfl (lv_at hl 11 rfl) ?_
                                refine lv_iload S.1 S.2.1 dL_isSo_248 (lv_at hl 6 rfl) ?_
                                refine lv_iconst (v := (nI 1)) S.1 S.2.1 dL_isSo_250 (by decide) ?_
                                refine xk_R (v := (bxNote β.1 (nI i) (nI 1))) (x_runV (As := [.int (nI i), .int (nI 1)]) (rest := []) S hE hS (fun _ h => h.elim) (c_X7_noteOf l E B β (nI i) (nI 1) _ hB) kv_X7_noteOf kw7_21 kw7_22 kw7_23 (x_recv hE (hB.1) (ci := 7) rfl) ⟨Nat.le_of_ble_eq_true rfl, Nat.le_of_ble_eq_true rfl⟩ rfl rfl rfl hl.1 rfl (Nat.le_of_ble_eq_true rfl) dL_isSo_251 ⟨(Nat.le_of_ble_eq_true rfl), (Nat.le_of_ble_eq_true rfl)⟩) ?_
                                refine x_top (y := (nf σ i 1)) (nt_1 hT hlt) ?_
                                refine lv_aload_n S.1 S.2.1 dL_isSo_254 rfl (lv_at hl 13 rfl) ?_
                                refine lv_iload S.1 S.2.1 dL_isSo_255 (lv_at hl 6 rfl) ?_
                                refine x_lald S hE hEL (hc) i rfl (by omega) (by decide) dL_isSo_257 ?_
                                refine lv_iconst (v := (nI 2)) S.1 S.2.1 dL_isSo_258 (by decide) ?_
                                refine lv_bipush (v := (nI 7)) S.1 S.2.1 dL_isSo_259 (by decide) ?_
                                refine xk_R (v := (lwG (κ i) (nI 2) (nI 7))) (x_runS (As := [.long (κ i), .int (nI 2), .int (nI 7)]) (rest := [.int (nf σ i 1)]) S hE hS (fun _ h => h.elim) (c_L_get l E (κ i) (nI 2) (nI 7) _) kv_L_get kw7_12 kw7_13 ⟨Nat.le_of_ble_eq_true rfl, Nat.le_of_ble_eq_true rfl⟩ rfl rfl rfl hl.1 rfl (Nat.le_of_ble_eq_true rfl) dL_isSo_261 ⟨(Nat.le_of_ble_eq_true rfl), (Nat.le_of_ble_eq_true rfl)⟩) ?_
                                refine x_top (y := (nf σ i 1)) ((lwG_eq _ (by decide) (by decide)).trans ((hU i 1 (by omega) (by decide)).symm)) ?_
                                refine lv_icmp_ne (tgt := 404) S.1 S.2.1 dL_isSo_264 rfl (fun h105 => ?_) (fun h105 => ?_)
                                · exact absurd rfl h105
                                · skip
                                  refine lv_aload_n S.1 S.2.1 dL_isSo_267 rfl (lv_at hl 11 rfl) ?_
                                  refine lv_iload S.1 S.2.1 dL_isSo_268 (lv_at hl 6 rfl) ?_
                                  refine lv_iconst (v := (nI 2)) S.1 S.2.1 dL_isSo_270 (by decide) ?_
                                  refine xk_R (v := (bxNote β.1 (nI i) (nI 2))) (x_runV (As := [.int (nI i), .int (nI 2)]) (rest := []) S hE hS (fun _ h => h.elim) (c_X7_noteOf l E B β (nI i) (nI 2) _ hB) kv_X7_noteOf kw7_21 kw7_22 kw7_23 (x_recv hE (hB.1) (ci := 7) rfl) ⟨Nat.le_of_ble_eq_true rfl, Nat.le_of_ble_eq_true rfl⟩ rfl rfl rfl hl.1 rfl (Nat.le_of_ble_eq_true rfl) dL_isSo_271 ⟨(Nat.le_of_ble_eq_true rfl), (Nat.le_of_ble_eq_true rfl)⟩) ?_
                                  refine x_top (y := (nf σ i 2)) (nt_2 hT hlt) ?_
                                  refine lv_aload_n S.1 S.2.1 dL_isSo_274 rfl (lv_at hl 13 rfl) ?_
                                  refine lv_iload S.1 S.2.1 dL_isSo_275 (lv_at hl 6 rfl) ?_
                                  refine x_lald S hE hEL (hc) i rfl (by omega) (by decide) dL_isSo_277 ?_
                                  refine lv_bipush (v := (nI 9)) S.1 S.2.1 dL_isSo_278 (by decide) ?_
                                  refine lv_bipush (v := (nI 7)) S.1 S.2.1 dL_isSo_280 (by decide) ?_
                                  refine xk_R (v := (lwG (κ i) (nI 9) (nI 7))) (x_runS (As := [.long (κ i), .int (nI 9), .int (nI 7)]) (rest := [.int (nf σ i 2)]) S hE hS (fun _ h => h.elim) (c_L_get l E (κ i) (nI 9) (nI 7) _) kv_L_get kw7_12 kw7_13 ⟨Nat.le_of_ble_eq_true rfl, Nat.le_of_ble_eq_true rfl⟩ rfl rfl rfl hl.1 rfl (Nat.le_of_ble_eq_true rfl) dL_isSo_282 ⟨(Nat.le_of_ble_eq_true rfl), (Nat.le_of_ble_eq_true rfl)⟩) ?_
                                  refine x_top (y := (nf σ i 2)) ((lwG_eq _ (by decide) (by decide)).trans ((hU i 2 (by omega) (by decide)).symm)) ?_
                                  refine lv_icmp_ne (tgt := 404) S.1 S.2.1 dL_isSo_285 rfl (fun h106 => ?_) (fun h106 => ?_)
                                  · exact absurd rfl h106
                                  · skip
                                    refine lv_aload_n S.1 S.2.1 dL_isSo_288 rfl (lv_at hl 11 rfl) ?_
                                    refine lv_iload S.1 S.2.1 dL_isSo_289 (lv_at hl 6 rfl) ?_
                                    refine lv_iconst (v := (nI 3)) S.1 S.2.1 dL_isSo_291 (by decide) ?_
                                    refine xk_R (v := (bxNote β.1 (nI i) (nI 3))) (x_runV (As := [.int (nI i), .int (nI 3)]) (rest := []) S hE hS (fun _ h => h.elim) (c_X7_noteOf l E B β (nI i) (nI 3) _ hB) kv_X7_noteOf kw7_21 kw7_22 kw7_23 (x_recv hE (hB.1) (ci := 7) rfl) ⟨Nat.le_of_ble_eq_true rfl, Nat.le_of_ble_eq_true rfl⟩ rfl rfl rfl hl.1 rfl (Nat.le_of_ble_eq_true rfl) dL_isSo_292 ⟨(Nat.le_of_ble_eq_true rfl), (Nat.le_of_ble_eq_true rfl)⟩) ?_
                                    refine x_top (y := (nI 1)) ((nt_3 hT hlt).trans ex) ?_
                                    refine lv_iload S.1 S.2.1 dL_isSo_295 (lv_at hl 5 rfl) ?_
                                    refine lv_icmp_ne (tgt := 404) S.1 S.2.1 dL_isSo_297 rfl (fun h107 => ?_) (fun h107 => ?_)
                                    · exact absurd h107 (by decide)
                                    · skip
                                      refine lv_aload_n S.1 S.2.1 dL_isSo_300 rfl (lv_at hl 11 rfl) ?_
                                      refine lv_iload S.1 S.2.1 dL_isSo_301 (lv_at hl 6 rfl) ?_
                                      refine lv_iconst (v := (nI 4)) S.1 S.2.1 dL_isSo_303 (by decide) ?_
                                      refine xk_R (v := (bxNote β.1 (nI i) (nI 4))) (x_runV (As := [.int (nI i), .int (nI 4)]) (rest := []) S hE hS (fun _ h => h.elim) (c_X7_noteOf l E B β (nI i) (nI 4) _ hB) kv_X7_noteOf kw7_21 kw7_22 kw7_23 (x_recv hE (hB.1) (ci := 7) rfl) ⟨Nat.le_of_ble_eq_true rfl, Nat.le_of_ble_eq_true rfl⟩ rfl rfl rfl hl.1 rfl (Nat.le_of_ble_eq_true rfl) dL_isSo_304 ⟨(Nat.le_of_ble_eq_true rfl), (Nat.le_of_ble_eq_true rfl)⟩) ?_
                                      refine x_top (y := (nf σ i 4)) ((nt_4 hT hlt).trans (if_pos fVo)) ?_
                                      refine lv_iload S.1 S.2.1 dL_isSo_307 (lv_at hl 3 rfl) ?_
                                      refine lv_if_eq (tgt := 317) S.1 S.2.1 dL_isSo_309 rfl (fun h108 => ?_) (fun h108 => ?_)
                                      · exact absurd h108 (by decide)
                                      · skip
                                        refine lv_iload S.1 S.2.1 dL_isSo_312 (lv_at hl 4 rfl) ?_
                                        refine lv_goto (tgt := 319) S.1 S.2.1 dL_isSo_314 rfl ?_
                                        refine lv_icmp_ne (tgt := 404) S.1 S.2.1 dL_isSo_319 rfl (fun h109 => ?_) (fun h109 => ?_)
                                        · exact absurd rfl h109
                                        · skip
                                          refine lv_aload_n S.1 S.2.1 dL_isSo_322 rfl (lv_at hl 11 rfl) ?_
                                          refine lv_iload S.1 S.2.1 dL_isSo_323 (lv_at hl 6 rfl) ?_
                                          refine lv_iconst (v := (nI 5)) S.1 S.2.1 dL_isSo_325 (by decide) ?_
                                          refine xk_R (v := (bxNote β.1 (nI i) (nI 5))) (x_runV (As := [.int (nI i), .int (nI 5)]) (rest := []) S hE hS (fun _ h => h.elim) (c_X7_noteOf l E B β (nI i) (nI 5) _ hB) kv_X7_noteOf kw7_21 kw7_22 kw7_23 (x_recv hE (hB.1) (ci := 7) rfl) ⟨Nat.le_of_ble_eq_true rfl, Nat.le_of_ble_eq_true rfl⟩ rfl rfl rfl hl.1 rfl (Nat.le_of_ble_eq_true rfl) dL_isSo_326 ⟨(Nat.le_of_ble_eq_true rfl), (Nat.le_of_ble_eq_true rfl)⟩) ?_
                                          refine x_top (y := (rfHrd σ n i)) ((nt_5 hT hlt).trans (if_pos fVo)) ?_
                                          refine lv_iload S.1 S.2.1 dL_isSo_329 (lv_at hl 3 rfl) ?_
                                          refine lv_if_eq (tgt := 339) S.1 S.2.1 dL_isSo_331 rfl (fun h110 => ?_) (fun h110 => ?_)
                                          · exact absurd h110 (by decide)
                                          · skip
                                            refine lv_iload S.1 S.2.1 dL_isSo_334 (lv_at hl 2 rfl) ?_
                                            refine lv_goto (tgt := 341) S.1 S.2.1 dL_isSo_336 rfl ?_
                                            refine lv_icmp_ne (tgt := 404) S.1 S.2.1 dL_isSo_341 rfl (fun h111 => ?_) (fun h111 => ?_)
                                            · exact absurd rfl h111
                                            · skip
                                              refine lv_aload_n S.1 S.2.1 dL_isSo_344 rfl (lv_at hl 11 rfl) ?_
                                              refine lv_iload S.1 S.2.1 dL_isSo_345 (lv_at hl 6 rfl) ?_
                                              refine lv_bipush (v := (nI 6)) S.1 S.2.1 dL_isSo_347 (by decide) ?_
                                              refine xk_R (v := (bxNote β.1 (nI i) (nI 6))) (x_runV (As := [.int (nI i), .int (nI 6)]) (rest := []) S hE hS (fun _ h => h.elim) (c_X7_noteOf l E B β (nI i) (nI 6) _ hB) kv_X7_noteOf kw7_21 kw7_22 kw7_23 (x_recv hE (hB.1) (ci := 7) rfl) ⟨Nat.le_of_ble_eq_true rfl, Nat.le_of_ble_eq_true rfl⟩ rfl rfl rfl hl.1 rfl (Nat.le_of_ble_eq_true rfl) dL_isSo_349 ⟨(Nat.le_of_ble_eq_true rfl), (Nat.le_of_ble_eq_true rfl)⟩) ?_
                                              refine x_top (y := (nf σ i 6)) (nt_6 hT hlt) ?_
                                              refine lv_aload_n S.1 S.2.1 dL_isSo_352 rfl (lv_at hl 13 rfl) ?_
                                              refine lv_iload S.1 S.2.1 dL_isSo_353 (lv_at hl 6 rfl) ?_
                                              refine x_lald S hE hEL (hc) i rfl (by omega) (by decide) dL_isSo_355 ?_
                                              refine lv_bipush (v := (nI 41)) S.1 S.2.1 dL_isSo_356 (by decide) ?_
                                              refine lv_iconst (v := (nI 1)) S.1 S.2.1 dL_isSo_358 (by decide) ?_
                                              refine xk_R (v := (lwG (κ i) (nI 41) (nI 1))) (x_runS (As := [.long (κ i), .int (nI 41), .int (nI 1)]) (rest := [.int (nf σ i 6)]) S hE hS (fun _ h => h.elim) (c_L_get l E (κ i) (nI 41) (nI 1) _) kv_L_get kw7_12 kw7_13 ⟨Nat.le_of_ble_eq_true rfl, Nat.le_of_ble_eq_true rfl⟩ rfl rfl rfl hl.1 rfl (Nat.le_of_ble_eq_true rfl) dL_isSo_359 ⟨(Nat.le_of_ble_eq_true rfl), (Nat.le_of_ble_eq_true rfl)⟩) ?_
                                              refine x_top (y := (nf σ i 6)) ((lwG_eq _ (by decide) (by decide)).trans ((hU i 6 (by omega) (by decide)).symm)) ?_
                                              refine lv_icmp_ne (tgt := 404) S.1 S.2.1 dL_isSo_362 rfl (fun h112 => ?_) (fun h112 => ?_)
                                              · exact absurd rfl h112
                                              · skip
                                                refine lv_aload_n S.1 S.2.1 dL_isSo_365 rfl (lv_at hl 11 rfl) ?_
                                                refine lv_iload S.1 S.2.1 dL_isSo_366 (lv_at hl 6 rfl) ?_
                                                refine lv_bipush (v := (nI 7)) S.1 S.2.1 dL_isSo_368 (by decide) ?_
                                                refine xk_R (v := (bxNote β.1 (nI i) (nI 7))) (x_runV (As := [.int (nI i), .int (nI 7)]) (rest := []) S hE hS (fun _ h => h.elim) (c_X7_noteOf l E B β (nI i) (nI 7) _ hB) kv_X7_noteOf kw7_21 kw7_22 kw7_23 (x_recv hE (hB.1) (ci := 7) rfl) ⟨Nat.le_of_ble_eq_true rfl, Nat.le_of_ble_eq_true rfl⟩ rfl rfl rfl hl.1 rfl (Nat.le_of_ble_eq_true rfl) dL_isSo_370 ⟨(Nat.le_of_ble_eq_true rfl), (Nat.le_of_ble_eq_true rfl)⟩) ?_
                                                refine x_top (y := (-4)) ((nt_7 hT hlt).trans (if_neg f0)) ?_
                                                refine lv_iload S.1 S.2.1 dL_isSo_373 (lv_at hl 5 rfl) ?_
                                                refine lv_if_ne (tgt := 383) S.1 S.2.1 dL_isSo_375 rfl (fun h113 => ?_) (fun h113 => ?_)
                                                · skip
                                                  refine lv_bipush (v := (-4)) S.1 S.2.1 dL_isSo_383 (by decide) ?_
                                                  refine lv_icmp_ne (tgt := 404) S.1 S.2.1 dL_isSo_385 rfl (fun h114 => ?_) (fun h114 => ?_)
                                                  · exact absurd h114 (by decide)
                                                  · skip
                                                    refine lv_aload_n S.1 S.2.1 dL_isSo_388 rfl (lv_at hl 11 rfl) ?_
                                                    refine lv_iload S.1 S.2.1 dL_isSo_389 (lv_at hl 6 rfl) ?_
                                                    refine lv_bipush (v := (nI 8)) S.1 S.2.1 dL_isSo_391 (by decide) ?_
                                                    refine xk_R (v := (bxNote β.1 (nI i) (nI 8))) (x_runV (As := [.int (nI i), .int (nI 8)]) (rest := []) S hE hS (fun _ h => h.elim) (c_X7_noteOf l E B β (nI i) (nI 8) _ hB) kv_X7_noteOf kw7_21 kw7_22 kw7_23 (x_recv hE (hB.1) (ci := 7) rfl) ⟨Nat.le_of_ble_eq_true rfl, Nat.le_of_ble_eq_true rfl⟩ rfl rfl rfl hl.1 rfl (Nat.le_of_ble_eq_true rfl) dL_isSo_393 ⟨(Nat.le_of_ble_eq_true rfl), (Nat.le_of_ble_eq_true rfl)⟩) ?_
                                                    refine x_top (y := (-1)) (nt_8 hT hlt) ?_
                                                    refine lv_iconst (v := (-1)) S.1 S.2.1 dL_isSo_396 (by decide) ?_
                                                    refine lv_icmp_ne (tgt := 404) S.1 S.2.1 dL_isSo_397 rfl (fun h115 => ?_) (fun h115 => ?_)
                                                    · exact absurd h115 (by decide)
                                                    · skip
                                                      refine lv_iconst (v := (nI 1)) S.1 S.2.1 dL_isSo_400 (by decide) ?_
                                                      refine lv_goto (tgt := 405) S.1 S.2.1 dL_isSo_401 rfl ?_
                                                      refine lv_istore S.1 S.2.1 dL_isSo_405 hl (by decide) rfl (fun ls hl => ?_)
                                                      have hl : lv_has ls 15 [(7, .int (nI 1)), (5, .int ((lwAll σ n i) + (rfHrd σ n i))), (13, .int (nI (5 * pp))), (12, .int (rfHrd σ n i)), (11, .int (nI 1)), (10, .int (nf σ i 4)), (9, .int (nI 1)), (8, .int (nI i)), (4, .int (rfAhd σ i)), (3, .int (rfSum σ n)), (6, .ref s.heap.size), (0, .ref B), (1, .ref a), (2, .ref b)] := hl
                                                      refine lv_iload S.1 S.2.1 dL_isSo_407 (lv_at hl 8 rfl) ?_
                                                      refine lv_iload S.1 S.2.1 dL_isSo_409 (lv_at hl 6 rfl) ?_
                                                      refine lv_if_ne (tgt := 418) S.1 S.2.1 dL_isSo_411 rfl (fun h116 => ?_) (fun h116 => ?_)
                                                      · skip
                                                        refine lv_iconst (v := (nI 0)) S.1 S.2.1 dL_isSo_418 (by decide) ?_
                                                        refine lv_iadd S.1 S.2.1 dL_isSo_419 ?_
                                                        refine lv_istore S.1 S.2.1 dL_isSo_420 hl (by decide) rfl (fun ls hl => ?_)
                                                        have hl : lv_has ls 15 [(4, .int ((rfAhd σ i) + (nI 0))), (7, .int (nI 1)), (5, .int ((lwAll σ n i) + (rfHrd σ n i))), (13, .int (nI (5 * pp))), (12, .int (rfHrd σ n i)), (11, .int (nI 1)), (10, .int (nf σ i 4)), (9, .int (nI 1)), (8, .int (nI i)), (3, .int (rfSum σ n)), (6, .ref s.heap.size), (0, .ref B), (1, .ref a), (2, .ref b)] := hl
                                                        refine lv_iinc (k := 8) (v := (nI (i + 1))) S.1 S.2.1 dL_isSo_422 hl rfl (iincP i 1) (by decide) rfl (fun ls hl => ?_)
                                                        have hl : lv_has ls 15 [(8, .int (nI (i + 1))), (4, .int ((rfAhd σ i) + (nI 0))), (7, .int (nI 1)), (5, .int ((lwAll σ n i) + (rfHrd σ n i))), (13, .int (nI (5 * pp))), (12, .int (rfHrd σ n i)), (11, .int (nI 1)), (10, .int (nf σ i 4)), (9, .int (nI 1)), (3, .int (rfSum σ n)), (6, .ref s.heap.size), (0, .ref B), (1, .ref a), (2, .ref b)] := hl
                                                        refine lv_goto (tgt := 24) S.1 S.2.1 dL_isSo_425 rfl ?_
                                                        have hl : lv_has ls 15 [(8, .int (nI (i + 1))), (4, .int (rfAhd σ (i + 1))), (5, .int (lwAll σ n (i + 1))), (7, .int (nI 1)), (3, .int (rfSum σ n)), (6, .ref s.heap.size), (0, .ref B), (1, .ref a), (2, .ref b)] := by
                                                          rw [show (rfAhd σ (i + 1)) = ((rfAhd σ i) + (nI 0)) from by first | rw [rfAhd, if_pos f0] | rw [rfAhd, if_neg f0] | rw [lwAll, if_pos fVo] | rw [lwAll, if_neg fVo]]
                                                          rw [show (lwAll σ n (i + 1)) = ((lwAll σ n i) + (rfHrd σ n i)) from by first | rw [rfAhd, if_pos f0] | rw [rfAhd, if_neg f0] | rw [lwAll, if_pos fVo] | rw [lwAll, if_neg fVo]]
                                                          exact lv_sub hl [0, 1, 3, 2, 9, 10, 11, 12, 13] rfl
                                                        exact ih24 _ (by omega) (i + 1) (upd (upd (upd (upd (upd f (5 * pp) ((f (5 * pp)) + (nI 1))) ((5 * pp) + 1) ((f ((5 * pp) + 1)) + (nI 0))) ((5 * pp) + 2) ((f ((5 * pp) + 2)) + (nf σ i 4))) ((5 * pp) + 3) ((f ((5 * pp) + 3)) + (rfHrd σ n i))) ((5 * pp) + 4) ((f ((5 * pp) + 4)) + (nI 0))) _ _ ls rfl (by omega) (pa_step hPA hpp e0 (by first | rw [if_pos fPl] | rw [if_neg fPl]) (by first | rw [if_pos f5] | rw [if_neg f5]) (by first | rw [if_pos fVo] | rw [if_neg fVo]) (by first | rw [if_pos fVo] | rw [if_neg fVo]) (by first | rw [if_pos f0] | rw [if_neg f0])) (hB) (hg) (hc) (hp) (hS) (lv_sub hl [0, 1, 2, 3, 4, 5, 6, 7, 8] rfl)
                                                      · exact absurd h116 (by decide)
                                                · exact absurd h113 (by decide)
                          · exact absurd h102 (by decide)
                    · exact absurd h99 (by decide)
                · skip
                  refine lv_iload S.1 S.2.1 dL_isSo_82 (lv_at hl 1 rfl) ?_
                  refine lv_goto (tgt := 96) S.1 S.2.1 dL_isSo_84 rfl ?_
                  refine x_top (y := (rfHrd σ n i)) (by rw [rfHrd]; first | rw [if_pos (Int32.not_lt.mp h97)] | rw [if_neg (Int32.not_le.mpr h97)]) ?_
                  refine lv_istore S.1 S.2.1 dL_isSo_96 hl (by decide) rfl (fun ls hl => ?_)
                  have hl : lv_has ls 15 [(12, .int (rfHrd σ n i)), (11, .int (nI 1)), (10, .int (nf σ i 4)), (9, .int (nI 1)), (8, .int (nI i)), (4, .int (rfAhd σ i)), (5, .int (lwAll σ n i)), (7, .int (nI 1)), (3, .int (rfSum σ n)), (6, .ref s.heap.size), (0, .ref B), (1, .ref a), (2, .ref b)] := hl
                  refine lv_iconst (v := (nI 5)) S.1 S.2.1 dL_isSo_98 (by decide) ?_
                  refine lv_aload_n S.1 S.2.1 dL_isSo_99 rfl (lv_at hl 12 rfl) ?_
                  refine lv_iload S.1 S.2.1 dL_isSo_100 (lv_at hl 4 rfl) ?_
                  refine x_lald S hE hEL (hc) i rfl (by omega) (by decide) dL_isSo_102 ?_
                  refine lv_iconst (v := (nI 0)) S.1 S.2.1 dL_isSo_103 (by decide) ?_
                  refine lv_iconst (v := (nI 2)) S.1 S.2.1 dL_isSo_104 (by decide) ?_
                  refine xk_R (v := (lwG (κ i) (nI 0) (nI 2))) (x_runS (As := [.long (κ i), .int (nI 0), .int (nI 2)]) (rest := [.int (nI 5)]) S hE hS (fun _ h => h.elim) (c_L_get l E (κ i) (nI 0) (nI 2) _) kv_L_get kw7_12 kw7_13 ⟨Nat.le_of_ble_eq_true rfl, Nat.le_of_ble_eq_true rfl⟩ rfl rfl rfl hl.1 rfl (Nat.le_of_ble_eq_true rfl) dL_isSo_105 ⟨(Nat.le_of_ble_eq_true rfl), (Nat.le_of_ble_eq_true rfl)⟩) ?_
                  refine x_top (y := (nf σ i 0)) ((lwG_eq _ (by decide) (by decide)).trans ((hU i 0 (by omega) (by decide)).symm)) ?_
                  refine x_top (y := (nI pp)) (e0) ?_
                  refine lv_imul S.1 S.2.1 dL_isSo_108 ?_
                  refine x_top (y := (nI (5 * pp))) (pk_mul 5 pp) ?_
                  refine lv_istore S.1 S.2.1 dL_isSo_109 hl (by decide) rfl (fun ls hl => ?_)
                  have hl : lv_has ls 15 [(13, .int (nI (5 * pp))), (12, .int (rfHrd σ n i)), (11, .int (nI 1)), (10, .int (nf σ i 4)), (9, .int (nI 1)), (8, .int (nI i)), (4, .int (rfAhd σ i)), (5, .int (lwAll σ n i)), (7, .int (nI 1)), (3, .int (rfSum σ n)), (6, .ref s.heap.size), (0, .ref B), (1, .ref a), (2, .ref b)] := hl
                  refine lv_aload S.1 S.2.1 dL_isSo_111 (lv_at hl 10 rfl) ?_
                  refine lv_iload S.1 S.2.1 dL_isSo_113 (lv_at hl 0 rfl) ?_
                  refine lv_dup2_11 S.1 S.2.1 dL_isSo_115 rfl rfl ?_
                  refine x_iald S hE (hp) (5 * pp) rfl (by omega) (by decide) dL_isSo_116 ?_
                  refine lv_aload_n S.1 S.2.1 dL_isSo_117 rfl (lv_at hl 13 rfl) ?_
                  refine lv_iload S.1 S.2.1 dL_isSo_118 (lv_at hl 5 rfl) ?_
                  refine x_lald S hE hEL (hc) i rfl (by omega) (by decide) dL_isSo_120 ?_
                  refine xk_R (v := (bI (nI 1 ≤ fld 3 (κ i) ∧ fld 3 (κ i) ≤ nI 4))) (x_runS (As := [.long (κ i)]) (rest := [.int (f (5 * pp)), .int (nI (5 * pp)), .ref s.heap.size]) S hE hS (fun _ h => h.elim) (c_L_placed l E (κ i) _) kv_L_placed kw7_18 kw7_19 ⟨Nat.le_of_ble_eq_true rfl, Nat.le_of_ble_eq_true rfl⟩ rfl rfl rfl hl.1 rfl (Nat.le_of_ble_eq_true rfl) dL_isSo_121 ⟨(Nat.le_of_ble_eq_true rfl), (Nat.le_of_ble_eq_true rfl)⟩) ?_
                  refine x_top (y := (nI 1)) ((bI_iff (by show _ ↔ (nI 1 ≤ nf σ i 3 ∧ nf σ i 3 ≤ nI 4); rw [hU i 3 (by omega) (by decide)])).trans (bI_t fPl).symm) ?_
                  refine lv_if_eq (tgt := 131) S.1 S.2.1 dL_isSo_124 rfl (fun h117 => ?_) (fun h117 => ?_)
                  · exact absurd h117 (by decide)
                  · skip
                    refine lv_iconst (v := (nI 1)) S.1 S.2.1 dL_isSo_127 (by decide) ?_
                    refine lv_goto (tgt := 132) S.1 S.2.1 dL_isSo_128 rfl ?_
                    refine lv_iadd S.1 S.2.1 dL_isSo_132 ?_
                    refine x_iast S hE hS (Or.inr (Nat.le_refl _)) (hp) (5 * pp) rfl (by omega) (by decide) dL_isSo_133 (fun H locs hX hO1 hS => ?_)
                    have hg := va_at.kept hg (hO1.2 a (Nat.ne_of_lt haz))
                    have hc := va_at.kept hc (hO1.2 b (Nat.ne_of_lt hbz))
                    have hB := hB.fr (fun q z => hO1.2 q (by have := z.2; omega))
                    have hp := hX
                    refine lv_aload S.1 S.2.1 dL_isSo_134 (lv_at hl 10 rfl) ?_
                    refine lv_iload S.1 S.2.1 dL_isSo_136 (lv_at hl 0 rfl) ?_
                    refine lv_iconst (v := (nI 1)) S.1 S.2.1 dL_isSo_138 (by decide) ?_
                    refine lv_iadd S.1 S.2.1 dL_isSo_139 ?_
                    refine x_top (y := (nI ((5 * pp) + 1))) (nI_add (5 * pp) 1) ?_
                    refine lv_dup2_11 S.1 S.2.1 dL_isSo_140 rfl rfl ?_
                    refine x_iald S hE (hp) ((5 * pp) + 1) rfl (by omega) (by decide) dL_isSo_141 ?_
                    refine x_top (y := (f ((5 * pp) + 1))) (pk_un (by omega)) ?_
                    refine lv_iload S.1 S.2.1 dL_isSo_142 (lv_at hl 4 rfl) ?_
                    refine lv_iconst (v := (nI 5)) S.1 S.2.1 dL_isSo_144 (by decide) ?_
                    refine lv_icmp_ne (tgt := 152) S.1 S.2.1 dL_isSo_145 rfl (fun h118 => ?_) (fun h118 => ?_)
                    · skip
                      refine lv_iconst (v := (nI 0)) S.1 S.2.1 dL_isSo_152 (by decide) ?_
                      refine lv_iadd S.1 S.2.1 dL_isSo_153 ?_
                      refine x_iast S hE hS (Or.inr (Nat.le_refl _)) (hp) ((5 * pp) + 1) rfl (by omega) (by decide) dL_isSo_154 (fun H locs hX hO1 hS => ?_)
                      have hg := va_at.kept hg (hO1.2 a (Nat.ne_of_lt haz))
                      have hc := va_at.kept hc (hO1.2 b (Nat.ne_of_lt hbz))
                      have hB := hB.fr (fun q z => hO1.2 q (by have := z.2; omega))
                      have hp := hX
                      refine lv_aload S.1 S.2.1 dL_isSo_155 (lv_at hl 10 rfl) ?_
                      refine lv_iload S.1 S.2.1 dL_isSo_157 (lv_at hl 0 rfl) ?_
                      refine lv_iconst (v := (nI 2)) S.1 S.2.1 dL_isSo_159 (by decide) ?_
                      refine lv_iadd S.1 S.2.1 dL_isSo_160 ?_
                      refine x_top (y := (nI ((5 * pp) + 2))) (nI_add (5 * pp) 2) ?_
                      refine lv_dup2_11 S.1 S.2.1 dL_isSo_161 rfl rfl ?_
                      refine x_iald S hE (hp) ((5 * pp) + 2) rfl (by omega) (by decide) dL_isSo_162 ?_
                      refine x_top (y := (f ((5 * pp) + 2))) ((pk_un (by omega)).trans (pk_un (by omega))) ?_
                      refine lv_iload S.1 S.2.1 dL_isSo_163 (lv_at hl 2 rfl) ?_
                      refine lv_if_eq (tgt := 173) S.1 S.2.1 dL_isSo_165 rfl (fun h119 => ?_) (fun h119 => ?_)
                      · exact absurd h119 (by decide)
                      · skip
                        refine lv_iload S.1 S.2.1 dL_isSo_168 (lv_at hl 3 rfl) ?_
                        refine lv_goto (tgt := 174) S.1 S.2.1 dL_isSo_170 rfl ?_
                        refine lv_iadd S.1 S.2.1 dL_isSo_174 ?_
                        refine x_iast S hE hS (Or.inr (Nat.le_refl _)) (hp) ((5 * pp) + 2) rfl (by omega) (by decide) dL_isSo_175 (fun H locs hX hO1 hS => ?_)
                        have hg := va_at.kept hg (hO1.2 a (Nat.ne_of_lt haz))
                        have hc := va_at.kept hc (hO1.2 b (Nat.ne_of_lt hbz))
                        have hB := hB.fr (fun q z => hO1.2 q (by have := z.2; omega))
                        have hp := hX
                        refine lv_aload S.1 S.2.1 dL_isSo_176 (lv_at hl 10 rfl) ?_
                        refine lv_iload S.1 S.2.1 dL_isSo_178 (lv_at hl 0 rfl) ?_
                        refine lv_iconst (v := (nI 3)) S.1 S.2.1 dL_isSo_180 (by decide) ?_
                        refine lv_iadd S.1 S.2.1 dL_isSo_181 ?_
                        refine x_top (y := (nI ((5 * pp) + 3))) (nI_add (5 * pp) 3) ?_
                        refine lv_dup2_11 S.1 S.2.1 dL_isSo_182 rfl rfl ?_
                        refine x_iald S hE (hp) ((5 * pp) + 3) rfl (by omega) (by decide) dL_isSo_183 ?_
                        refine x_top (y := (f ((5 * pp) + 3))) ((pk_un (by omega)).trans ((pk_un (by omega)).trans (pk_un (by omega)))) ?_
                        refine lv_iload S.1 S.2.1 dL_isSo_184 (lv_at hl 2 rfl) ?_
                        refine lv_if_eq (tgt := 194) S.1 S.2.1 dL_isSo_186 rfl (fun h120 => ?_) (fun h120 => ?_)
                        · exact absurd h120 (by decide)
                        · skip
                          refine lv_iload S.1 S.2.1 dL_isSo_189 (lv_at hl 1 rfl) ?_
                          refine lv_goto (tgt := 195) S.1 S.2.1 dL_isSo_191 rfl ?_
                          refine lv_iadd S.1 S.2.1 dL_isSo_195 ?_
                          refine x_iast S hE hS (Or.inr (Nat.le_refl _)) (hp) ((5 * pp) + 3) rfl (by omega) (by decide) dL_isSo_196 (fun H locs hX hO1 hS => ?_)
                          have hg := va_at.kept hg (hO1.2 a (Nat.ne_of_lt haz))
                          have hc := va_at.kept hc (hO1.2 b (Nat.ne_of_lt hbz))
                          have hB := hB.fr (fun q z => hO1.2 q (by have := z.2; omega))
                          have hp := hX
                          refine lv_aload S.1 S.2.1 dL_isSo_197 (lv_at hl 10 rfl) ?_
                          refine lv_iload S.1 S.2.1 dL_isSo_199 (lv_at hl 0 rfl) ?_
                          refine lv_iconst (v := (nI 4)) S.1 S.2.1 dL_isSo_201 (by decide) ?_
                          refine lv_iadd S.1 S.2.1 dL_isSo_202 ?_
                          refine x_top (y := (nI ((5 * pp) + 4))) (nI_add (5 * pp) 4) ?_
                          refine lv_dup2_11 S.1 S.2.1 dL_isSo_203 rfl rfl ?_
                          refine x_iald S hE (hp) ((5 * pp) + 4) rfl (by omega) (by decide) dL_isSo_204 ?_
                          refine x_top (y := (f ((5 * pp) + 4))) ((pk_un (by omega)).trans ((pk_un (by omega)).trans ((pk_un (by omega)).trans (pk_un (by omega))))) ?_
                          refine lv_iload S.1 S.2.1 dL_isSo_205 (lv_at hl 4 rfl) ?_
                          refine lv_if_ne (tgt := 214) S.1 S.2.1 dL_isSo_207 rfl (fun h121 => ?_) (fun h121 => ?_)
                          · skip
                            refine lv_iconst (v := (nI 0)) S.1 S.2.1 dL_isSo_214 (by decide) ?_
                            refine lv_iadd S.1 S.2.1 dL_isSo_215 ?_
                            refine x_iast S hE hS (Or.inr (Nat.le_refl _)) (hp) ((5 * pp) + 4) rfl (by omega) (by decide) dL_isSo_216 (fun H locs hX hO1 hS => ?_)
                            have hg := va_at.kept hg (hO1.2 a (Nat.ne_of_lt haz))
                            have hc := va_at.kept hc (hO1.2 b (Nat.ne_of_lt hbz))
                            have hB := hB.fr (fun q z => hO1.2 q (by have := z.2; omega))
                            have hp := hX
                            refine lv_iload S.1 S.2.1 dL_isSo_217 (lv_at hl 7 rfl) ?_
                            refine lv_iload S.1 S.2.1 dL_isSo_219 (lv_at hl 2 rfl) ?_
                            refine lv_if_eq (tgt := 229) S.1 S.2.1 dL_isSo_221 rfl (fun h122 => ?_) (fun h122 => ?_)
                            · exact absurd h122 (by decide)
                            · skip
                              refine lv_iload S.1 S.2.1 dL_isSo_224 (lv_at hl 1 rfl) ?_
                              refine lv_goto (tgt := 230) S.1 S.2.1 dL_isSo_226 rfl ?_
                              refine lv_iadd S.1 S.2.1 dL_isSo_230 ?_
                              refine lv_istore S.1 S.2.1 dL_isSo_231 hl (by decide) rfl (fun ls hl => ?_)
                              have hl : lv_has ls 15 [(5, .int ((lwAll σ n i) + (rfHrd σ n i))), (13, .int (nI (5 * pp))), (12, .int (rfHrd σ n i)), (11, .int (nI 1)), (10, .int (nf σ i 4)), (9, .int (nI 1)), (8, .int (nI i)), (4, .int (rfAhd σ i)), (7, .int (nI 1)), (3, .int (rfSum σ n)), (6, .ref s.heap.size), (0, .ref B), (1, .ref a), (2, .ref b)] := hl
                              refine lv_aload_n S.1 S.2.1 dL_isSo_233 rfl (lv_at hl 11 rfl) ?_
                              refine lv_iload S.1 S.2.1 dL_isSo_234 (lv_at hl 6 rfl) ?_
                              refine lv_iconst (v := (nI 0)) S.1 S.2.1 dL_isSo_236 (by decide) ?_
                              refine xk_R (v := (bxNote β.1 (nI i) (nI 0))) (x_runV (As := [.int (nI i), .int (nI 0)]) (rest := []) S hE hS (fun _ h => h.elim) (c_X7_noteOf l E B β (nI i) (nI 0) _ hB) kv_X7_noteOf kw7_21 kw7_22 kw7_23 (x_recv hE (hB.1) (ci := 7) rfl) ⟨Nat.le_of_ble_eq_true rfl, Nat.le_of_ble_eq_true rfl⟩ rfl rfl rfl hl.1 rfl (Nat.le_of_ble_eq_true rfl) dL_isSo_237 ⟨(Nat.le_of_ble_eq_true rfl), (Nat.le_of_ble_eq_true rfl)⟩) ?_
                              refine x_top (y := (nI ((5 * pp) / 5))) ((nt_0 hT hlt).trans (e0.trans (congrArg nI (by omega)))) ?_
                              refine lv_iload S.1 S.2.1 dL_isSo_240 (lv_at hl 1 rfl) ?_
                              refine lv_iconst (v := (nI 5)) S.1 S.2.1 dL_isSo_242 (by decide) ?_
                              refine lv_idiv S.1 S.2.1 dL_isSo_243 (by decide) ?_
                              refine x_top (y := (nI ((5 * pp) / 5))) (pk_div (by omega) (by decide) (by decide)) ?_
                              refine lv_icmp_ne (tgt := 404) S.1 S.2.1 dL_isSo_244 rfl (fun h123 => ?_) (fun h123 => ?_)
                              · exact absurd rfl h123
                              · skip
                                refine lv_aload_n S.1 S.2.1 dL_isSo_247 rfl (lv_at hl 11 rfl) ?_
                                refine lv_iload S.1 S.2.1 dL_isSo_248 (lv_at hl 6 rfl) ?_
                                refine lv_iconst (v := (nI 1)) S.1 S.2.1 dL_isSo_250 (by decide) ?_
                                refine xk_R (v := (bxNote β.1 (nI i) (nI 1))) (x_runV (As := [.int (nI i), .int (nI 1)]) (rest := []) S hE hS (fun _ h => h.elim) (c_X7_noteOf l E B β (nI i) (nI 1) _ hB) kv_X7_noteOf kw7_21 kw7_22 kw7_23 (x_recv hE (hB.1) (ci := 7) rfl) ⟨Nat.le_of_ble_eq_true rfl, Nat.le_of_ble_eq_true rfl⟩ rfl rfl rfl hl.1 rfl (Nat.le_of_ble_eq_true rfl) dL_isSo_251 ⟨(Nat.le_of_ble_eq_true rfl), (Nat.le_of_ble_eq_true rfl)⟩) ?_
                                refine x_top (y := (nf σ i 1)) (nt_1 hT hlt) ?_
                                refine lv_aload_n S.1 S.2.1 dL_isSo_254 rfl (lv_at hl 13 rfl) ?_
                                refine lv_iload S.1 S.2.1 dL_isSo_255 (lv_at hl 6 rfl) ?_
                                refine x_lald S hE hEL (hc) i rfl (by omega) (by decide) dL_isSo_257 ?_
                                refine lv_iconst (v := (nI 2)) S.1 S.2.1 dL_isSo_258 (by decide) ?_
                                refine lv_bipush (v := (nI 7)) S.1 S.2.1 dL_isSo_259 (by decide) ?_
                                refine xk_R (v := (lwG (κ i) (nI 2) (nI 7))) (x_runS (As := [.long (κ i), .int (nI 2), .int (nI 7)]) (rest := [.int (nf σ i 1)]) S hE hS (fun _ h => h.elim) (c_L_get l E (κ i) (nI 2) (nI 7) _) kv_L_get kw7_12 kw7_13 ⟨Nat.le_of_ble_eq_true rfl, Nat.le_of_ble_eq_true rfl⟩ rfl rfl rfl hl.1 rfl (Nat.le_of_ble_eq_true rfl) dL_isSo_261 ⟨(Nat.le_of_ble_eq_true rfl), (Nat.le_of_ble_eq_true rfl)⟩) ?_
                                refine x_top (y := (nf σ i 1)) ((lwG_eq _ (by decide) (by decide)).trans ((hU i 1 (by omega) (by decide)).symm)) ?_
                                refine lv_icmp_ne (tgt := 404) S.1 S.2.1 dL_isSo_264 rfl (fun h124 => ?_) (fun h124 => ?_)
                                · exact absurd rfl h124
                                · skip
                                  refine lv_aload_n S.1 S.2.1 dL_isSo_267 rfl (lv_at hl 11 rfl) ?_
                                  refine lv_iload S.1 S.2.1 dL_isSo_268 (lv_at hl 6 rfl) ?_
                                  refine lv_iconst (v := (nI 2)) S.1 S.2.1 dL_isSo_270 (by decide) ?_
                                  refine xk_R (v := (bxNote β.1 (nI i) (nI 2))) (x_runV (As := [.int (nI i), .int (nI 2)]) (rest := []) S hE hS (fun _ h => h.elim) (c_X7_noteOf l E B β (nI i) (nI 2) _ hB) kv_X7_noteOf kw7_21 kw7_22 kw7_23 (x_recv hE (hB.1) (ci := 7) rfl) ⟨Nat.le_of_ble_eq_true rfl, Nat.le_of_ble_eq_true rfl⟩ rfl rfl rfl hl.1 rfl (Nat.le_of_ble_eq_true rfl) dL_isSo_271 ⟨(Nat.le_of_ble_eq_true rfl), (Nat.le_of_ble_eq_true rfl)⟩) ?_
                                  refine x_top (y := (nf σ i 2)) (nt_2 hT hlt) ?_
                                  refine lv_aload_n S.1 S.2.1 dL_isSo_274 rfl (lv_at hl 13 rfl) ?_
                                  refine lv_iload S.1 S.2.1 dL_isSo_275 (lv_at hl 6 rfl) ?_
                                  refine x_lald S hE hEL (hc) i rfl (by omega) (by decide) dL_isSo_277 ?_
                                  refine lv_bipush (v := (nI 9)) S.1 S.2.1 dL_isSo_278 (by decide) ?_
                                  refine lv_bipush (v := (nI 7)) S.1 S.2.1 dL_isSo_280 (by decide) ?_
                                  refine xk_R (v := (lwG (κ i) (nI 9) (nI 7))) (x_runS (As := [.long (κ i), .int (nI 9), .int (nI 7)]) (rest := [.int (nf σ i 2)]) S hE hS (fun _ h => h.elim) (c_L_get l E (κ i) (nI 9) (nI 7) _) kv_L_get kw7_12 kw7_13 ⟨Nat.le_of_ble_eq_true rfl, Nat.le_of_ble_eq_true rfl⟩ rfl rfl rfl hl.1 rfl (Nat.le_of_ble_eq_true rfl) dL_isSo_282 ⟨(Nat.le_of_ble_eq_true rfl), (Nat.le_of_ble_eq_true rfl)⟩) ?_
                                  refine x_top (y := (nf σ i 2)) ((lwG_eq _ (by decide) (by decide)).trans ((hU i 2 (by omega) (by decide)).symm)) ?_
                                  refine lv_icmp_ne (tgt := 404) S.1 S.2.1 dL_isSo_285 rfl (fun h125 => ?_) (fun h125 => ?_)
                                  · exact absurd rfl h125
                                  · skip
                                    refine lv_aload_n S.1 S.2.1 dL_isSo_288 rfl (lv_at hl 11 rfl) ?_
                                    refine lv_iload S.1 S.2.1 dL_isSo_289 (lv_at hl 6 rfl) ?_
                                    refine lv_iconst (v := (nI 3)) S.1 S.2.1 dL_isSo_291 (by decide) ?_
                                    refine xk_R (v := (bxNote β.1 (nI i) (nI 3))) (x_runV (As := [.int (nI i), .int (nI 3)]) (rest := []) S hE hS (fun _ h => h.elim) (c_X7_noteOf l E B β (nI i) (nI 3) _ hB) kv_X7_noteOf kw7_21 kw7_22 kw7_23 (x_recv hE (hB.1) (ci := 7) rfl) ⟨Nat.le_of_ble_eq_true rfl, Nat.le_of_ble_eq_true rfl⟩ rfl rfl rfl hl.1 rfl (Nat.le_of_ble_eq_true rfl) dL_isSo_292 ⟨(Nat.le_of_ble_eq_true rfl), (Nat.le_of_ble_eq_true rfl)⟩) ?_
                                    refine x_top (y := (nI 1)) ((nt_3 hT hlt).trans ex) ?_
                                    refine lv_iload S.1 S.2.1 dL_isSo_295 (lv_at hl 5 rfl) ?_
                                    refine lv_icmp_ne (tgt := 404) S.1 S.2.1 dL_isSo_297 rfl (fun h126 => ?_) (fun h126 => ?_)
                                    · exact absurd h126 (by decide)
                                    · skip
                                      refine lv_aload_n S.1 S.2.1 dL_isSo_300 rfl (lv_at hl 11 rfl) ?_
                                      refine lv_iload S.1 S.2.1 dL_isSo_301 (lv_at hl 6 rfl) ?_
                                      refine lv_iconst (v := (nI 4)) S.1 S.2.1 dL_isSo_303 (by decide) ?_
                                      refine xk_R (v := (bxNote β.1 (nI i) (nI 4))) (x_runV (As := [.int (nI i), .int (nI 4)]) (rest := []) S hE hS (fun _ h => h.elim) (c_X7_noteOf l E B β (nI i) (nI 4) _ hB) kv_X7_noteOf kw7_21 kw7_22 kw7_23 (x_recv hE (hB.1) (ci := 7) rfl) ⟨Nat.le_of_ble_eq_true rfl, Nat.le_of_ble_eq_true rfl⟩ rfl rfl rfl hl.1 rfl (Nat.le_of_ble_eq_true rfl) dL_isSo_304 ⟨(Nat.le_of_ble_eq_true rfl), (Nat.le_of_ble_eq_true rfl)⟩) ?_
                                      refine x_top (y := (nf σ i 4)) ((nt_4 hT hlt).trans (if_pos fVo)) ?_
                                      refine lv_iload S.1 S.2.1 dL_isSo_307 (lv_at hl 3 rfl) ?_
                                      refine lv_if_eq (tgt := 317) S.1 S.2.1 dL_isSo_309 rfl (fun h127 => ?_) (fun h127 => ?_)
                                      · exact absurd h127 (by decide)
                                      · skip
                                        refine lv_iload S.1 S.2.1 dL_isSo_312 (lv_at hl 4 rfl) ?_
                                        refine lv_goto (tgt := 319) S.1 S.2.1 dL_isSo_314 rfl ?_
                                        refine lv_icmp_ne (tgt := 404) S.1 S.2.1 dL_isSo_319 rfl (fun h128 => ?_) (fun h128 => ?_)
                                        · exact absurd rfl h128
                                        · skip
                                          refine lv_aload_n S.1 S.2.1 dL_isSo_322 rfl (lv_at hl 11 rfl) ?_
                                          refine lv_iload S.1 S.2.1 dL_isSo_323 (lv_at hl 6 rfl) ?_
                                          refine lv_iconst (v := (nI 5)) S.1 S.2.1 dL_isSo_325 (by decide) ?_
                                          refine xk_R (v := (bxNote β.1 (nI i) (nI 5))) (x_runV (As := [.int (nI i), .int (nI 5)]) (rest := []) S hE hS (fun _ h => h.elim) (c_X7_noteOf l E B β (nI i) (nI 5) _ hB) kv_X7_noteOf kw7_21 kw7_22 kw7_23 (x_recv hE (hB.1) (ci := 7) rfl) ⟨Nat.le_of_ble_eq_true rfl, Nat.le_of_ble_eq_true rfl⟩ rfl rfl rfl hl.1 rfl (Nat.le_of_ble_eq_true rfl) dL_isSo_326 ⟨(Nat.le_of_ble_eq_true rfl), (Nat.le_of_ble_eq_true rfl)⟩) ?_
                                          refine x_top (y := (rfHrd σ n i)) ((nt_5 hT hlt).trans (if_pos fVo)) ?_
                                          refine lv_iload S.1 S.2.1 dL_isSo_329 (lv_at hl 3 rfl) ?_
                                          refine lv_if_eq (tgt := 339) S.1 S.2.1 dL_isSo_331 rfl (fun h129 => ?_) (fun h129 => ?_)
                                          · exact absurd h129 (by decide)
                                          · skip
                                            refine lv_iload S.1 S.2.1 dL_isSo_334 (lv_at hl 2 rfl) ?_
                                            refine lv_goto (tgt := 341) S.1 S.2.1 dL_isSo_336 rfl ?_
                                            refine lv_icmp_ne (tgt := 404) S.1 S.2.1 dL_isSo_341 rfl (fun h130 => ?_) (fun h130 => ?_)
                                            · exact absurd rfl h130
                                            · skip
                                              refine lv_aload_n S.1 S.2.1 dL_isSo_344 rfl (lv_at hl 11 rfl) ?_
                                              refine lv_iload S.1 S.2.1 dL_isSo_345 (lv_at hl 6 rfl) ?_
                                              refine lv_bipush (v := (nI 6)) S.1 S.2.1 dL_isSo_347 (by decide) ?_
                                              refine xk_R (v := (bxNote β.1 (nI i) (nI 6))) (x_runV (As := [.int (nI i), .int (nI 6)]) (rest := []) S hE hS (fun _ h => h.elim) (c_X7_noteOf l E B β (nI i) (nI 6) _ hB) kv_X7_noteOf kw7_21 kw7_22 kw7_23 (x_recv hE (hB.1) (ci := 7) rfl) ⟨Nat.le_of_ble_eq_true rfl, Nat.le_of_ble_eq_true rfl⟩ rfl rfl rfl hl.1 rfl (Nat.le_of_ble_eq_true rfl) dL_isSo_349 ⟨(Nat.le_of_ble_eq_true rfl), (Nat.le_of_ble_eq_true rfl)⟩) ?_
                                              refine x_top (y := (nf σ i 6)) (nt_6 hT hlt) ?_
                                              refine lv_aload_n S.1 S.2.1 dL_isSo_352 rfl (lv_at hl 13 rfl) ?_
                                              refine lv_iload S.1 S.2.1 dL_isSo_353 (lv_at hl 6 rfl) ?_
                                              refine x_lald S hE hEL (hc) i rfl (by omega) (by decide) dL_isSo_355 ?_
                                              refine lv_bipush (v := (nI 41)) S.1 S.2.1 dL_isSo_356 (by decide) ?_
                                              refine lv_iconst (v := (nI 1)) S.1 S.2.1 dL_isSo_358 (by decide) ?_
                                              refine xk_R (v := (lwG (κ i) (nI 41) (nI 1))) (x_runS (As := [.long (κ i), .int (nI 41), .int (nI 1)]) (rest := [.int (nf σ i 6)]) S hE hS (fun _ h => h.elim) (c_L_get l E (κ i) (nI 41) (nI 1) _) kv_L_get kw7_12 kw7_13 ⟨Nat.le_of_ble_eq_true rfl, Nat.le_of_ble_eq_true rfl⟩ rfl rfl rfl hl.1 rfl (Nat.le_of_ble_eq_true rfl) dL_isSo_359 ⟨(Nat.le_of_ble_eq_true rfl), (Nat.le_of_ble_eq_true rfl)⟩) ?_
                                              refine x_top (y := (nf σ i 6)) ((lwG_eq _ (by decide) (by decide)).trans ((hU i 6 (by omega) (by decide)).symm)) ?_
                                              refine lv_icmp_ne (tgt := 404) S.1 S.2.1 dL_isSo_362 rfl (fun h131 => ?_) (fun h131 => ?_)
                                              · exact absurd rfl h131
                                              · skip
                                                refine lv_aload_n S.1 S.2.1 dL_isSo_365 rfl (lv_at hl 11 rfl) ?_
                                                refine lv_iload S.1 S.2.1 dL_isSo_366 (lv_at hl 6 rfl) ?_
                                                refine lv_bipush (v := (nI 7)) S.1 S.2.1 dL_isSo_368 (by decide) ?_
                                                refine xk_R (v := (bxNote β.1 (nI i) (nI 7))) (x_runV (As := [.int (nI i), .int (nI 7)]) (rest := []) S hE hS (fun _ h => h.elim) (c_X7_noteOf l E B β (nI i) (nI 7) _ hB) kv_X7_noteOf kw7_21 kw7_22 kw7_23 (x_recv hE (hB.1) (ci := 7) rfl) ⟨Nat.le_of_ble_eq_true rfl, Nat.le_of_ble_eq_true rfl⟩ rfl rfl rfl hl.1 rfl (Nat.le_of_ble_eq_true rfl) dL_isSo_370 ⟨(Nat.le_of_ble_eq_true rfl), (Nat.le_of_ble_eq_true rfl)⟩) ?_
                                                refine x_top (y := (-4)) ((nt_7 hT hlt).trans (if_neg f0)) ?_
                                                refine lv_iload S.1 S.2.1 dL_isSo_373 (lv_at hl 5 rfl) ?_
                                                refine lv_if_ne (tgt := 383) S.1 S.2.1 dL_isSo_375 rfl (fun h132 => ?_) (fun h132 => ?_)
                                                · skip
                                                  refine lv_bipush (v := (-4)) S.1 S.2.1 dL_isSo_383 (by decide) ?_
                                                  refine lv_icmp_ne (tgt := 404) S.1 S.2.1 dL_isSo_385 rfl (fun h133 => ?_) (fun h133 => ?_)
                                                  · exact absurd h133 (by decide)
                                                  · skip
                                                    refine lv_aload_n S.1 S.2.1 dL_isSo_388 rfl (lv_at hl 11 rfl) ?_
                                                    refine lv_iload S.1 S.2.1 dL_isSo_389 (lv_at hl 6 rfl) ?_
                                                    refine lv_bipush (v := (nI 8)) S.1 S.2.1 dL_isSo_391 (by decide) ?_
                                                    refine xk_R (v := (bxNote β.1 (nI i) (nI 8))) (x_runV (As := [.int (nI i), .int (nI 8)]) (rest := []) S hE hS (fun _ h => h.elim) (c_X7_noteOf l E B β (nI i) (nI 8) _ hB) kv_X7_noteOf kw7_21 kw7_22 kw7_23 (x_recv hE (hB.1) (ci := 7) rfl) ⟨Nat.le_of_ble_eq_true rfl, Nat.le_of_ble_eq_true rfl⟩ rfl rfl rfl hl.1 rfl (Nat.le_of_ble_eq_true rfl) dL_isSo_393 ⟨(Nat.le_of_ble_eq_true rfl), (Nat.le_of_ble_eq_true rfl)⟩) ?_
                                                    refine x_top (y := (-1)) (nt_8 hT hlt) ?_
                                                    refine lv_iconst (v := (-1)) S.1 S.2.1 dL_isSo_396 (by decide) ?_
                                                    refine lv_icmp_ne (tgt := 404) S.1 S.2.1 dL_isSo_397 rfl (fun h134 => ?_) (fun h134 => ?_)
                                                    · exact absurd h134 (by decide)
                                                    · skip
                                                      refine lv_iconst (v := (nI 1)) S.1 S.2.1 dL_isSo_400 (by decide) ?_
                                                      refine lv_goto (tgt := 405) S.1 S.2.1 dL_isSo_401 rfl ?_
                                                      refine lv_istore S.1 S.2.1 dL_isSo_405 hl (by decide) rfl (fun ls hl => ?_)
                                                      have hl : lv_has ls 15 [(7, .int (nI 1)), (5, .int ((lwAll σ n i) + (rfHrd σ n i))), (13, .int (nI (5 * pp))), (12, .int (rfHrd σ n i)), (11, .int (nI 1)), (10, .int (nf σ i 4)), (9, .int (nI 1)), (8, .int (nI i)), (4, .int (rfAhd σ i)), (3, .int (rfSum σ n)), (6, .ref s.heap.size), (0, .ref B), (1, .ref a), (2, .ref b)] := hl
                                                      refine lv_iload S.1 S.2.1 dL_isSo_407 (lv_at hl 8 rfl) ?_
                                                      refine lv_iload S.1 S.2.1 dL_isSo_409 (lv_at hl 6 rfl) ?_
                                                      refine lv_if_ne (tgt := 418) S.1 S.2.1 dL_isSo_411 rfl (fun h135 => ?_) (fun h135 => ?_)
                                                      · skip
                                                        refine lv_iconst (v := (nI 0)) S.1 S.2.1 dL_isSo_418 (by decide) ?_
                                                        refine lv_iadd S.1 S.2.1 dL_isSo_419 ?_
                                                        refine lv_istore S.1 S.2.1 dL_isSo_420 hl (by decide) rfl (fun ls hl => ?_)
                                                        have hl : lv_has ls 15 [(4, .int ((rfAhd σ i) + (nI 0))), (7, .int (nI 1)), (5, .int ((lwAll σ n i) + (rfHrd σ n i))), (13, .int (nI (5 * pp))), (12, .int (rfHrd σ n i)), (11, .int (nI 1)), (10, .int (nf σ i 4)), (9, .int (nI 1)), (8, .int (nI i)), (3, .int (rfSum σ n)), (6, .ref s.heap.size), (0, .ref B), (1, .ref a), (2, .ref b)] := hl
                                                        refine lv_iinc (k := 8) (v := (nI (i + 1))) S.1 S.2.1 dL_isSo_422 hl rfl (iincP i 1) (by decide) rfl (fun ls hl => ?_)
                                                        have hl : lv_has ls 15 [(8, .int (nI (i + 1))), (4, .int ((rfAhd σ i) + (nI 0))), (7, .int (nI 1)), (5, .int ((lwAll σ n i) + (rfHrd σ n i))), (13, .int (nI (5 * pp))), (12, .int (rfHrd σ n i)), (11, .int (nI 1)), (10, .int (nf σ i 4)), (9, .int (nI 1)), (3, .int (rfSum σ n)), (6, .ref s.heap.size), (0, .ref B), (1, .ref a), (2, .ref b)] := hl
                                                        refine lv_goto (tgt := 24) S.1 S.2.1 dL_isSo_425 rfl ?_
                                                        have hl : lv_has ls 15 [(8, .int (nI (i + 1))), (4, .int (rfAhd σ (i + 1))), (5, .int (lwAll σ n (i + 1))), (7, .int (nI 1)), (3, .int (rfSum σ n)), (6, .ref s.heap.size), (0, .ref B), (1, .ref a), (2, .ref b)] := by
                                                          rw [show (rfAhd σ (i + 1)) = ((rfAhd σ i) + (nI 0)) from by first | rw [rfAhd, if_pos f0] | rw [rfAhd, if_neg f0] | rw [lwAll, if_pos fVo] | rw [lwAll, if_neg fVo]]
                                                          rw [show (lwAll σ n (i + 1)) = ((lwAll σ n i) + (rfHrd σ n i)) from by first | rw [rfAhd, if_pos f0] | rw [rfAhd, if_neg f0] | rw [lwAll, if_pos fVo] | rw [lwAll, if_neg fVo]]
                                                          exact lv_sub hl [0, 1, 3, 2, 9, 10, 11, 12, 13] rfl
                                                        exact ih24 _ (by omega) (i + 1) (upd (upd (upd (upd (upd f (5 * pp) ((f (5 * pp)) + (nI 1))) ((5 * pp) + 1) ((f ((5 * pp) + 1)) + (nI 0))) ((5 * pp) + 2) ((f ((5 * pp) + 2)) + (nf σ i 4))) ((5 * pp) + 3) ((f ((5 * pp) + 3)) + (rfHrd σ n i))) ((5 * pp) + 4) ((f ((5 * pp) + 4)) + (nI 0))) _ _ ls rfl (by omega) (pa_step hPA hpp e0 (by first | rw [if_pos fPl] | rw [if_neg fPl]) (by first | rw [if_pos f5] | rw [if_neg f5]) (by first | rw [if_pos fVo] | rw [if_neg fVo]) (by first | rw [if_pos fVo] | rw [if_neg fVo]) (by first | rw [if_pos f0] | rw [if_neg f0])) (hB) (hg) (hc) (hp) (hS) (lv_sub hl [0, 1, 2, 3, 4, 5, 6, 7, 8] rfl)
                                                      · exact absurd h135 (by decide)
                                                · exact absurd h132 (by decide)
                          · exact absurd h121 (by decide)
                    · exact absurd h118 (by decide)
          · refine x_top (y := (nI 2)) ex ?_
            have fPl : rfPl σ i := by first | exact ex | (unfold rfPl; rw [ex]; decide)
            have fVo : rfVo σ i := by first | exact ex | (unfold rfVo; rw [ex]; decide)
            have f5 : ¬ nf σ i 3 = nI 5 := by first | exact ex | (rw [ex]; decide)
            have f0 : ¬ nf σ i 3 = 0 := by first | exact ex | (rw [ex]; decide)
            refine lv_istore S.1 S.2.1 dL_isSo_44 hl (by decide) rfl (fun ls hl => ?_)
            have hl : lv_has ls 15 [(9, .int (nI 2)), (8, .int (nI i)), (4, .int (rfAhd σ i)), (5, .int (lwAll σ n i)), (7, .int (nI 1)), (3, .int (rfSum σ n)), (6, .ref s.heap.size), (0, .ref B), (1, .ref a), (2, .ref b)] := hl
            refine lv_aload_n S.1 S.2.1 dL_isSo_46 rfl (lv_at hl 9 rfl) ?_
            refine lv_iload S.1 S.2.1 dL_isSo_47 (lv_at hl 1 rfl) ?_
            refine x_lald S hE hEL (hc) i rfl (by omega) (by decide) dL_isSo_49 ?_
            refine xk_R (v := (fld 4 (κ i))) (x_runS (As := [.long (κ i)]) (rest := []) S hE hS (fun _ h => h.elim) (c_L_level l E (κ i) _) kv_L_level kw7_15 kw7_16 ⟨Nat.le_of_ble_eq_true rfl, Nat.le_of_ble_eq_true rfl⟩ rfl rfl rfl hl.1 rfl (Nat.le_of_ble_eq_true rfl) dL_isSo_50 ⟨(Nat.le_of_ble_eq_true rfl), (Nat.le_of_ble_eq_true rfl)⟩) ?_
            refine x_top (y := (nf σ i 4)) ((hU i 4 (by omega) (by decide)).symm) ?_
            refine lv_istore S.1 S.2.1 dL_isSo_53 hl (by decide) rfl (fun ls hl => ?_)
            have hl : lv_has ls 15 [(10, .int (nf σ i 4)), (9, .int (nI 2)), (8, .int (nI i)), (4, .int (rfAhd σ i)), (5, .int (lwAll σ n i)), (7, .int (nI 1)), (3, .int (rfSum σ n)), (6, .ref s.heap.size), (0, .ref B), (1, .ref a), (2, .ref b)] := hl
            refine lv_iload S.1 S.2.1 dL_isSo_55 (lv_at hl 1 rfl) ?_
            refine lv_if_le (tgt := 71) S.1 S.2.1 dL_isSo_57 rfl (fun h136 => ?_) (fun h136 => ?_)
            · exact absurd h136 (by decide)
            · skip
              refine lv_iload S.1 S.2.1 dL_isSo_60 (lv_at hl 1 rfl) ?_
              refine lv_bipush (v := (nI 6)) S.1 S.2.1 dL_isSo_62 (by decide) ?_
              refine lv_icmp_ge (tgt := 71) S.1 S.2.1 dL_isSo_64 rfl (fun h137 => ?_) (fun h137 => ?_)
              · exact absurd h137 (by decide)
              · skip
                refine lv_iconst (v := (nI 1)) S.1 S.2.1 dL_isSo_67 (by decide) ?_
                refine lv_goto (tgt := 72) S.1 S.2.1 dL_isSo_68 rfl ?_
                refine lv_istore S.1 S.2.1 dL_isSo_72 hl (by decide) rfl (fun ls hl => ?_)
                have hl : lv_has ls 15 [(11, .int (nI 1)), (10, .int (nf σ i 4)), (9, .int (nI 2)), (8, .int (nI i)), (4, .int (rfAhd σ i)), (5, .int (lwAll σ n i)), (7, .int (nI 1)), (3, .int (rfSum σ n)), (6, .ref s.heap.size), (0, .ref B), (1, .ref a), (2, .ref b)] := hl
                refine lv_iload_n S.1 S.2.1 dL_isSo_74 rfl (lv_at hl 7 rfl) ?_
                refine lv_aload_n S.1 S.2.1 dL_isSo_75 rfl (lv_at hl 10 rfl) ?_
                refine lv_bipush (v := (nI 8)) S.1 S.2.1 dL_isSo_76 (by decide) ?_
                refine x_iald S hE (hg) 8 rfl (by decide) (by decide) dL_isSo_78 ?_
                refine lv_icmp_gt (tgt := 87) S.1 S.2.1 dL_isSo_79 rfl (fun h138 => ?_) (fun h138 => ?_)
                · skip
                  refine lv_iload S.1 S.2.1 dL_isSo_87 (lv_at hl 1 rfl) ?_
                  refine lv_aload_n S.1 S.2.1 dL_isSo_89 rfl (lv_at hl 10 rfl) ?_
                  refine lv_bipush (v := (nI 8)) S.1 S.2.1 dL_isSo_90 (by decide) ?_
                  refine x_iald S hE (hg) 8 rfl (by decide) (by decide) dL_isSo_92 ?_
                  refine lv_imul S.1 S.2.1 dL_isSo_93 ?_
                  refine lv_iload_n S.1 S.2.1 dL_isSo_94 rfl (lv_at hl 7 rfl) ?_
                  refine lv_idiv S.1 S.2.1 dL_isSo_95 (nz_of h8 h138) ?_
                  refine x_top (y := (rfHrd σ n i)) (by rw [rfHrd]; first | rw [if_pos (Int32.not_lt.mp h138)] | rw [if_neg (Int32.not_le.mpr h138)]) ?_
                  refine lv_istore S.1 S.2.1 dL_isSo_96 hl (by decide) rfl (fun ls hl => ?_)
                  have hl : lv_has ls 15 [(12, .int (rfHrd σ n i)), (11, .int (nI 1)), (10, .int (nf σ i 4)), (9, .int (nI 2)), (8, .int (nI i)), (4, .int (rfAhd σ i)), (5, .int (lwAll σ n i)), (7, .int (nI 1)), (3, .int (rfSum σ n)), (6, .ref s.heap.size), (0, .ref B), (1, .ref a), (2, .ref b)] := hl
                  refine lv_iconst (v := (nI 5)) S.1 S.2.1 dL_isSo_98 (by decide) ?_
                  refine lv_aload_n S.1 S.2.1 dL_isSo_99 rfl (lv_at hl 12 rfl) ?_
                  refine lv_iload S.1 S.2.1 dL_isSo_100 (lv_at hl 4 rfl) ?_
                  refine x_lald S hE hEL (hc) i rfl (by omega) (by decide) dL_isSo_102 ?_
                  refine lv_iconst (v := (nI 0)) S.1 S.2.1 dL_isSo_103 (by decide) ?_
                  refine lv_iconst (v := (nI 2)) S.1 S.2.1 dL_isSo_104 (by decide) ?_
                  refine xk_R (v := (lwG (κ i) (nI 0) (nI 2))) (x_runS (As := [.long (κ i), .int (nI 0), .int (nI 2)]) (rest := [.int (nI 5)]) S hE hS (fun _ h => h.elim) (c_L_get l E (κ i) (nI 0) (nI 2) _) kv_L_get kw7_12 kw7_13 ⟨Nat.le_of_ble_eq_true rfl, Nat.le_of_ble_eq_true rfl⟩ rfl rfl rfl hl.1 rfl (Nat.le_of_ble_eq_true rfl) dL_isSo_105 ⟨(Nat.le_of_ble_eq_true rfl), (Nat.le_of_ble_eq_true rfl)⟩) ?_
                  refine x_top (y := (nf σ i 0)) ((lwG_eq _ (by decide) (by decide)).trans ((hU i 0 (by omega) (by decide)).symm)) ?_
                  refine x_top (y := (nI pp)) (e0) ?_
                  refine lv_imul S.1 S.2.1 dL_isSo_108 ?_
                  refine x_top (y := (nI (5 * pp))) (pk_mul 5 pp) ?_
                  refine lv_istore S.1 S.2.1 dL_isSo_109 hl (by decide) rfl (fun ls hl => ?_)
                  have hl : lv_has ls 15 [(13, .int (nI (5 * pp))), (12, .int (rfHrd σ n i)), (11, .int (nI 1)), (10, .int (nf σ i 4)), (9, .int (nI 2)), (8, .int (nI i)), (4, .int (rfAhd σ i)), (5, .int (lwAll σ n i)), (7, .int (nI 1)), (3, .int (rfSum σ n)), (6, .ref s.heap.size), (0, .ref B), (1, .ref a), (2, .ref b)] := hl
                  refine lv_aload S.1 S.2.1 dL_isSo_111 (lv_at hl 10 rfl) ?_
                  refine lv_iload S.1 S.2.1 dL_isSo_113 (lv_at hl 0 rfl) ?_
                  refine lv_dup2_11 S.1 S.2.1 dL_isSo_115 rfl rfl ?_
                  refine x_iald S hE (hp) (5 * pp) rfl (by omega) (by decide) dL_isSo_116 ?_
                  refine lv_aload_n S.1 S.2.1 dL_isSo_117 rfl (lv_at hl 13 rfl) ?_
                  refine lv_iload S.1 S.2.1 dL_isSo_118 (lv_at hl 5 rfl) ?_
                  refine x_lald S hE hEL (hc) i rfl (by omega) (by decide) dL_isSo_120 ?_
                  refine xk_R (v := (bI (nI 1 ≤ fld 3 (κ i) ∧ fld 3 (κ i) ≤ nI 4))) (x_runS (As := [.long (κ i)]) (rest := [.int (f (5 * pp)), .int (nI (5 * pp)), .ref s.heap.size]) S hE hS (fun _ h => h.elim) (c_L_placed l E (κ i) _) kv_L_placed kw7_18 kw7_19 ⟨Nat.le_of_ble_eq_true rfl, Nat.le_of_ble_eq_true rfl⟩ rfl rfl rfl hl.1 rfl (Nat.le_of_ble_eq_true rfl) dL_isSo_121 ⟨(Nat.le_of_ble_eq_true rfl), (Nat.le_of_ble_eq_true rfl)⟩) ?_
                  refine x_top (y := (nI 1)) ((bI_iff (by show _ ↔ (nI 1 ≤ nf σ i 3 ∧ nf σ i 3 ≤ nI 4); rw [hU i 3 (by omega) (by decide)])).trans (bI_t fPl).symm) ?_
                  refine lv_if_eq (tgt := 131) S.1 S.2.1 dL_isSo_124 rfl (fun h139 => ?_) (fun h139 => ?_)
                  · exact absurd h139 (by decide)
                  · skip
                    refine lv_iconst (v := (nI 1)) S.1 S.2.1 dL_isSo_127 (by decide) ?_
                    refine lv_goto (tgt := 132) S.1 S.2.1 dL_isSo_128 rfl ?_
                    refine lv_iadd S.1 S.2.1 dL_isSo_132 ?_
                    refine x_iast S hE hS (Or.inr (Nat.le_refl _)) (hp) (5 * pp) rfl (by omega) (by decide) dL_isSo_133 (fun H locs hX hO1 hS => ?_)
                    have hg := va_at.kept hg (hO1.2 a (Nat.ne_of_lt haz))
                    have hc := va_at.kept hc (hO1.2 b (Nat.ne_of_lt hbz))
                    have hB := hB.fr (fun q z => hO1.2 q (by have := z.2; omega))
                    have hp := hX
                    refine lv_aload S.1 S.2.1 dL_isSo_134 (lv_at hl 10 rfl) ?_
                    refine lv_iload S.1 S.2.1 dL_isSo_136 (lv_at hl 0 rfl) ?_
                    refine lv_iconst (v := (nI 1)) S.1 S.2.1 dL_isSo_138 (by decide) ?_
                    refine lv_iadd S.1 S.2.1 dL_isSo_139 ?_
                    refine x_top (y := (nI ((5 * pp) + 1))) (nI_add (5 * pp) 1) ?_
                    refine lv_dup2_11 S.1 S.2.1 dL_isSo_140 rfl rfl ?_
                    refine x_iald S hE (hp) ((5 * pp) + 1) rfl (by omega) (by decide) dL_isSo_141 ?_
                    refine x_top (y := (f ((5 * pp) + 1))) (pk_un (by omega)) ?_
                    refine lv_iload S.1 S.2.1 dL_isSo_142 (lv_at hl 4 rfl) ?_
                    refine lv_iconst (v := (nI 5)) S.1 S.2.1 dL_isSo_144 (by decide) ?_
                    refine lv_icmp_ne (tgt := 152) S.1 S.2.1 dL_isSo_145 rfl (fun h140 => ?_) (fun h140 => ?_)
                    · skip
                      refine lv_iconst (v := (nI 0)) S.1 S.2.1 dL_isSo_152 (by decide) ?_
                      refine lv_iadd S.1 S.2.1 dL_isSo_153 ?_
                      refine x_iast S hE hS (Or.inr (Nat.le_refl _)) (hp) ((5 * pp) + 1) rfl (by omega) (by decide) dL_isSo_154 (fun H locs hX hO1 hS => ?_)
                      have hg := va_at.kept hg (hO1.2 a (Nat.ne_of_lt haz))
                      have hc := va_at.kept hc (hO1.2 b (Nat.ne_of_lt hbz))
                      have hB := hB.fr (fun q z => hO1.2 q (by have := z.2; omega))
                      have hp := hX
                      refine lv_aload S.1 S.2.1 dL_isSo_155 (lv_at hl 10 rfl) ?_
                      refine lv_iload S.1 S.2.1 dL_isSo_157 (lv_at hl 0 rfl) ?_
                      refine lv_iconst (v := (nI 2)) S.1 S.2.1 dL_isSo_159 (by decide) ?_
                      refine lv_iadd S.1 S.2.1 dL_isSo_160 ?_
                      refine x_top (y := (nI ((5 * pp) + 2))) (nI_add (5 * pp) 2) ?_
                      refine lv_dup2_11 S.1 S.2.1 dL_isSo_161 rfl rfl ?_
                      refine x_iald S hE (hp) ((5 * pp) + 2) rfl (by omega) (by decide) dL_isSo_162 ?_
                      refine x_top (y := (f ((5 * pp) + 2))) ((pk_un (by omega)).trans (pk_un (by omega))) ?_
                      refine lv_iload S.1 S.2.1 dL_isSo_163 (lv_at hl 2 rfl) ?_
                      refine lv_if_eq (tgt := 173) S.1 S.2.1 dL_isSo_165 rfl (fun h141 => ?_) (fun h141 => ?_)
                      · exact absurd h141 (by decide)
                      · skip
                        refine lv_iload S.1 S.2.1 dL_isSo_168 (lv_at hl 3 rfl) ?_
                        refine lv_goto (tgt := 174) S.1 S.2.1 dL_isSo_170 rfl ?_
                        refine lv_iadd S.1 S.2.1 dL_isSo_174 ?_
                        refine x_iast S hE hS (Or.inr (Nat.le_refl _)) (hp) ((5 * pp) + 2) rfl (by omega) (by decide) dL_isSo_175 (fun H locs hX hO1 hS => ?_)
                        have hg := va_at.kept hg (hO1.2 a (Nat.ne_of_lt haz))
                        have hc := va_at.kept hc (hO1.2 b (Nat.ne_of_lt hbz))
                        have hB := hB.fr (fun q z => hO1.2 q (by have := z.2; omega))
                        have hp := hX
                        refine lv_aload S.1 S.2.1 dL_isSo_176 (lv_at hl 10 rfl) ?_
                        refine lv_iload S.1 S.2.1 dL_isSo_178 (lv_at hl 0 rfl) ?_
                        refine lv_iconst (v := (nI 3)) S.1 S.2.1 dL_isSo_180 (by decide) ?_
                        refine lv_iadd S.1 S.2.1 dL_isSo_181 ?_
                        refine x_top (y := (nI ((5 * pp) + 3))) (nI_add (5 * pp) 3) ?_
                        refine lv_dup2_11 S.1 S.2.1 dL_isSo_182 rfl rfl ?_
                        refine x_iald S hE (hp) ((5 * pp) + 3) rfl (by omega) (by decide) dL_isSo_183 ?_
                        refine x_top (y := (f ((5 * pp) + 3))) ((pk_un (by omega)).trans ((pk_un (by omega)).trans (pk_un (by omega)))) ?_
                        refine lv_iload S.1 S.2.1 dL_isSo_184 (lv_at hl 2 rfl) ?_
                        refine lv_if_eq (tgt := 194) S.1 S.2.1 dL_isSo_186 rfl (fun h142 => ?_) (fun h142 => ?_)
                        · exact absurd h142 (by decide)
                        · skip
                          refine lv_iload S.1 S.2.1 dL_isSo_189 (lv_at hl 1 rfl) ?_
                          refine lv_goto (tgt := 195) S.1 S.2.1 dL_isSo_191 rfl ?_
                          refine lv_iadd S.1 S.2.1 dL_isSo_195 ?_
                          refine x_iast S hE hS (Or.inr (Nat.le_refl _)) (hp) ((5 * pp) + 3) rfl (by omega) (by decide) dL_isSo_196 (fun H locs hX hO1 hS => ?_)
                          have hg := va_at.kept hg (hO1.2 a (Nat.ne_of_lt haz))
                          have hc := va_at.kept hc (hO1.2 b (Nat.ne_of_lt hbz))
                          have hB := hB.fr (fun q z => hO1.2 q (by have := z.2; omega))
                          have hp := hX
                          refine lv_aload S.1 S.2.1 dL_isSo_197 (lv_at hl 10 rfl) ?_
                          refine lv_iload S.1 S.2.1 dL_isSo_199 (lv_at hl 0 rfl) ?_
                          refine lv_iconst (v := (nI 4)) S.1 S.2.1 dL_isSo_201 (by decide) ?_
                          refine lv_iadd S.1 S.2.1 dL_isSo_202 ?_
                          refine x_top (y := (nI ((5 * pp) + 4))) (nI_add (5 * pp) 4) ?_
                          refine lv_dup2_11 S.1 S.2.1 dL_isSo_203 rfl rfl ?_
                          refine x_iald S hE (hp) ((5 * pp) + 4) rfl (by omega) (by decide) dL_isSo_204 ?_
                          refine x_top (y := (f ((5 * pp) + 4))) ((pk_un (by omega)).trans ((pk_un (by omega)).trans ((pk_un (by omega)).trans (pk_un (by omega))))) ?_
                          refine lv_iload S.1 S.2.1 dL_isSo_205 (lv_at hl 4 rfl) ?_
                          refine lv_if_ne (tgt := 214) S.1 S.2.1 dL_isSo_207 rfl (fun h143 => ?_) (fun h143 => ?_)
                          · skip
                            refine lv_iconst (v := (nI 0)) S.1 S.2.1 dL_isSo_214 (by decide) ?_
                            refine lv_iadd S.1 S.2.1 dL_isSo_215 ?_
                            refine x_iast S hE hS (Or.inr (Nat.le_refl _)) (hp) ((5 * pp) + 4) rfl (by omega) (by decide) dL_isSo_216 (fun H locs hX hO1 hS => ?_)
                            have hg := va_at.kept hg (hO1.2 a (Nat.ne_of_lt haz))
                            have hc := va_at.kept hc (hO1.2 b (Nat.ne_of_lt hbz))
                            have hB := hB.fr (fun q z => hO1.2 q (by have := z.2; omega))
                            have hp := hX
                            refine lv_iload S.1 S.2.1 dL_isSo_217 (lv_at hl 7 rfl) ?_
                            refine lv_iload S.1 S.2.1 dL_isSo_219 (lv_at hl 2 rfl) ?_
                            refine lv_if_eq (tgt := 229) S.1 S.2.1 dL_isSo_221 rfl (fun h144 => ?_) (fun h144 => ?_)
                            · exact absurd h144 (by decide)
                            · skip
                              refine lv_iload S.1 S.2.1 dL_isSo_224 (lv_at hl 1 rfl) ?_
                              refine lv_goto (tgt := 230) S.1 S.2.1 dL_isSo_226 rfl ?_
                              refine lv_iadd S.1 S.2.1 dL_isSo_230 ?_
                              refine lv_istore S.1 S.2.1 dL_isSo_231 hl (by decide) rfl (fun ls hl => ?_)
                              have hl : lv_has ls 15 [(5, .int ((lwAll σ n i) + (rfHrd σ n i))), (13, .int (nI (5 * pp))), (12, .int (rfHrd σ n i)), (11, .int (nI 1)), (10, .int (nf σ i 4)), (9, .int (nI 2)), (8, .int (nI i)), (4, .int (rfAhd σ i)), (7, .int (nI 1)), (3, .int (rfSum σ n)), (6, .ref s.heap.size), (0, .ref B), (1, .ref a), (2, .ref b)] := hl
                              refine lv_aload_n S.1 S.2.1 dL_isSo_233 rfl (lv_at hl 11 rfl) ?_
                              refine lv_iload S.1 S.2.1 dL_isSo_234 (lv_at hl 6 rfl) ?_
                              refine lv_iconst (v := (nI 0)) S.1 S.2.1 dL_isSo_236 (by decide) ?_
                              refine xk_R (v := (bxNote β.1 (nI i) (nI 0))) (x_runV (As := [.int (nI i), .int (nI 0)]) (rest := []) S hE hS (fun _ h => h.elim) (c_X7_noteOf l E B β (nI i) (nI 0) _ hB) kv_X7_noteOf kw7_21 kw7_22 kw7_23 (x_recv hE (hB.1) (ci := 7) rfl) ⟨Nat.le_of_ble_eq_true rfl, Nat.le_of_ble_eq_true rfl⟩ rfl rfl rfl hl.1 rfl (Nat.le_of_ble_eq_true rfl) dL_isSo_237 ⟨(Nat.le_of_ble_eq_true rfl), (Nat.le_of_ble_eq_true rfl)⟩) ?_
                              refine x_top (y := (nI ((5 * pp) / 5))) ((nt_0 hT hlt).trans (e0.trans (congrArg nI (by omega)))) ?_
                              refine lv_iload S.1 S.2.1 dL_isSo_240 (lv_at hl 1 rfl) ?_
                              refine lv_iconst (v := (nI 5)) S.1 S.2.1 dL_isSo_242 (by decide) ?_
                              refine lv_idiv S.1 S.2.1 dL_isSo_243 (by decide) ?_
                              refine x_top (y := (nI ((5 * pp) / 5))) (pk_div (by omega) (by decide) (by decide)) ?_
                              refine lv_icmp_ne (tgt := 404) S.1 S.2.1 dL_isSo_244 rfl (fun h145 => ?_) (fun h145 => ?_)
                              · exact absurd rfl h145
                              · skip
                                refine lv_aload_n S.1 S.2.1 dL_isSo_247 rfl (lv_at hl 11 rfl) ?_
                                refine lv_iload S.1 S.2.1 dL_isSo_248 (lv_at hl 6 rfl) ?_
                                refine lv_iconst (v := (nI 1)) S.1 S.2.1 dL_isSo_250 (by decide) ?_
                                refine xk_R (v := (bxNote β.1 (nI i) (nI 1))) (x_runV (As := [.int (nI i), .int (nI 1)]) (rest := []) S hE hS (fun _ h => h.elim) (c_X7_noteOf l E B β (nI i) (nI 1) _ hB) kv_X7_noteOf kw7_21 kw7_22 kw7_23 (x_recv hE (hB.1) (ci := 7) rfl) ⟨Nat.le_of_ble_eq_true rfl, Nat.le_of_ble_eq_true rfl⟩ rfl rfl rfl hl.1 rfl (Nat.le_of_ble_eq_true rfl) dL_isSo_251 ⟨(Nat.le_of_ble_eq_true rfl), (Nat.le_of_ble_eq_true rfl)⟩) ?_
                                refine x_top (y := (nf σ i 1)) (nt_1 hT hlt) ?_
                                refine lv_aload_n S.1 S.2.1 dL_isSo_254 rfl (lv_at hl 13 rfl) ?_
                                refine lv_iload S.1 S.2.1 dL_isSo_255 (lv_at hl 6 rfl) ?_
                                refine x_lald S hE hEL (hc) i rfl (by omega) (by decide) dL_isSo_257 ?_
                                refine lv_iconst (v := (nI 2)) S.1 S.2.1 dL_isSo_258 (by decide) ?_
                                refine lv_bipush (v := (nI 7)) S.1 S.2.1 dL_isSo_259 (by decide) ?_
                                refine xk_R (v := (lwG (κ i) (nI 2) (nI 7))) (x_runS (As := [.long (κ i), .int (nI 2), .int (nI 7)]) (rest := [.int (nf σ i 1)]) S hE hS (fun _ h => h.elim) (c_L_get l E (κ i) (nI 2) (nI 7) _) kv_L_get kw7_12 kw7_13 ⟨Nat.le_of_ble_eq_true rfl, Nat.le_of_ble_eq_true rfl⟩ rfl rfl rfl hl.1 rfl (Nat.le_of_ble_eq_true rfl) dL_isSo_261 ⟨(Nat.le_of_ble_eq_true rfl), (Nat.le_of_ble_eq_true rfl)⟩) ?_
                                refine x_top (y := (nf σ i 1)) ((lwG_eq _ (by decide) (by decide)).trans ((hU i 1 (by omega) (by decide)).symm)) ?_
                                refine lv_icmp_ne (tgt := 404) S.1 S.2.1 dL_isSo_264 rfl (fun h146 => ?_) (fun h146 => ?_)
                                · exact absurd rfl h146
                                · skip
                                  refine lv_aload_n S.1 S.2.1 dL_isSo_267 rfl (lv_at hl 11 rfl) ?_
                                  refine lv_iload S.1 S.2.1 dL_isSo_268 (lv_at hl 6 rfl) ?_
                                  refine lv_iconst (v := (nI 2)) S.1 S.2.1 dL_isSo_270 (by decide) ?_
                                  refine xk_R (v := (bxNote β.1 (nI i) (nI 2))) (x_runV (As := [.int (nI i), .int (nI 2)]) (rest := []) S hE hS (fun _ h => h.elim) (c_X7_noteOf l E B β (nI i) (nI 2) _ hB) kv_X7_noteOf kw7_21 kw7_22 kw7_23 (x_recv hE (hB.1) (ci := 7) rfl) ⟨Nat.le_of_ble_eq_true rfl, Nat.le_of_ble_eq_true rfl⟩ rfl rfl rfl hl.1 rfl (Nat.le_of_ble_eq_true rfl) dL_isSo_271 ⟨(Nat.le_of_ble_eq_true rfl), (Nat.le_of_ble_eq_true rfl)⟩) ?_
                                  refine x_top (y := (nf σ i 2)) (nt_2 hT hlt) ?_
                                  refine lv_aload_n S.1 S.2.1 dL_isSo_274 rfl (lv_at hl 13 rfl) ?_
                                  refine lv_iload S.1 S.2.1 dL_isSo_275 (lv_at hl 6 rfl) ?_
                                  refine x_lald S hE hEL (hc) i rfl (by omega) (by decide) dL_isSo_277 ?_
                                  refine lv_bipush (v := (nI 9)) S.1 S.2.1 dL_isSo_278 (by decide) ?_
                                  refine lv_bipush (v := (nI 7)) S.1 S.2.1 dL_isSo_280 (by decide) ?_
                                  refine xk_R (v := (lwG (κ i) (nI 9) (nI 7))) (x_runS (As := [.long (κ i), .int (nI 9), .int (nI 7)]) (rest := [.int (nf σ i 2)]) S hE hS (fun _ h => h.elim) (c_L_get l E (κ i) (nI 9) (nI 7) _) kv_L_get kw7_12 kw7_13 ⟨Nat.le_of_ble_eq_true rfl, Nat.le_of_ble_eq_true rfl⟩ rfl rfl rfl hl.1 rfl (Nat.le_of_ble_eq_true rfl) dL_isSo_282 ⟨(Nat.le_of_ble_eq_true rfl), (Nat.le_of_ble_eq_true rfl)⟩) ?_
                                  refine x_top (y := (nf σ i 2)) ((lwG_eq _ (by decide) (by decide)).trans ((hU i 2 (by omega) (by decide)).symm)) ?_
                                  refine lv_icmp_ne (tgt := 404) S.1 S.2.1 dL_isSo_285 rfl (fun h147 => ?_) (fun h147 => ?_)
                                  · exact absurd rfl h147
                                  · skip
                                    refine lv_aload_n S.1 S.2.1 dL_isSo_288 rfl (lv_at hl 11 rfl) ?_
                                    refine lv_iload S.1 S.2.1 dL_isSo_289 (lv_at hl 6 rfl) ?_
                                    refine lv_iconst (v := (nI 3)) S.1 S.2.1 dL_isSo_291 (by decide) ?_
                                    refine xk_R (v := (bxNote β.1 (nI i) (nI 3))) (x_runV (As := [.int (nI i), .int (nI 3)]) (rest := []) S hE hS (fun _ h => h.elim) (c_X7_noteOf l E B β (nI i) (nI 3) _ hB) kv_X7_noteOf kw7_21 kw7_22 kw7_23 (x_recv hE (hB.1) (ci := 7) rfl) ⟨Nat.le_of_ble_eq_true rfl, Nat.le_of_ble_eq_true rfl⟩ rfl rfl rfl hl.1 rfl (Nat.le_of_ble_eq_true rfl) dL_isSo_292 ⟨(Nat.le_of_ble_eq_true rfl), (Nat.le_of_ble_eq_true rfl)⟩) ?_
                                    refine x_top (y := (nI 2)) ((nt_3 hT hlt).trans ex) ?_
                                    refine lv_iload S.1 S.2.1 dL_isSo_295 (lv_at hl 5 rfl) ?_
                                    refine lv_icmp_ne (tgt := 404) S.1 S.2.1 dL_isSo_297 rfl (fun h148 => ?_) (fun h148 => ?_)
                                    · exact absurd h148 (by decide)
                                    · skip
                                      refine lv_aload_n S.1 S.2.1 dL_isSo_300 rfl (lv_at hl 11 rfl) ?_
                                      refine lv_iload S.1 S.2.1 dL_isSo_301 (lv_at hl 6 rfl) ?_
                                      refine lv_iconst (v := (nI 4)) S.1 S.2.1 dL_isSo_303 (by decide) ?_
                                      refine xk_R (v := (bxNote β.1 (nI i) (nI 4))) (x_runV (As := [.int (nI i), .int (nI 4)]) (rest := []) S hE hS (fun _ h => h.elim) (c_X7_noteOf l E B β (nI i) (nI 4) _ hB) kv_X7_noteOf kw7_21 kw7_22 kw7_23 (x_recv hE (hB.1) (ci := 7) rfl) ⟨Nat.le_of_ble_eq_true rfl, Nat.le_of_ble_eq_true rfl⟩ rfl rfl rfl hl.1 rfl (Nat.le_of_ble_eq_true rfl) dL_isSo_304 ⟨(Nat.le_of_ble_eq_true rfl), (Nat.le_of_ble_eq_true rfl)⟩) ?_
                                      refine x_top (y := (nf σ i 4)) ((nt_4 hT hlt).trans (if_pos fVo)) ?_
                                      refine lv_iload S.1 S.2.1 dL_isSo_307 (lv_at hl 3 rfl) ?_
                                      refine lv_if_eq (tgt := 317) S.1 S.2.1 dL_isSo_309 rfl (fun h149 => ?_) (fun h149 => ?_)
                                      · exact absurd h149 (by decide)
                                      · skip
                                        refine lv_iload S.1 S.2.1 dL_isSo_312 (lv_at hl 4 rfl) ?_
                                        refine lv_goto (tgt := 319) S.1 S.2.1 dL_isSo_314 rfl ?_
                                        refine lv_icmp_ne (tgt := 404) S.1 S.2.1 dL_isSo_319 rfl (fun h150 => ?_) (fun h150 => ?_)
                                        · exact absurd rfl h150
                                        · skip
                                          refine lv_aload_n S.1 S.2.1 dL_isSo_322 rfl (lv_at hl 11 rfl) ?_
                                          refine lv_iload S.1 S.2.1 dL_isSo_323 (lv_at hl 6 rfl) ?_
                                          refine lv_iconst (v := (nI 5)) S.1 S.2.1 dL_isSo_325 (by decide) ?_
                                          refine xk_R (v := (bxNote β.1 (nI i) (nI 5))) (x_runV (As := [.int (nI i), .int (nI 5)]) (rest := []) S hE hS (fun _ h => h.elim) (c_X7_noteOf l E B β (nI i) (nI 5) _ hB) kv_X7_noteOf kw7_21 kw7_22 kw7_23 (x_recv hE (hB.1) (ci := 7) rfl) ⟨Nat.le_of_ble_eq_true rfl, Nat.le_of_ble_eq_true rfl⟩ rfl rfl rfl hl.1 rfl (Nat.le_of_ble_eq_true rfl) dL_isSo_326 ⟨(Nat.le_of_ble_eq_true rfl), (Nat.le_of_ble_eq_true rfl)⟩) ?_
                                          refine x_top (y := (rfHrd σ n i)) ((nt_5 hT hlt).trans (if_pos fVo)) ?_
                                          refine lv_iload S.1 S.2.1 dL_isSo_329 (lv_at hl 3 rfl) ?_
                                          refine lv_if_eq (tgt := 339) S.1 S.2.1 dL_isSo_331 rfl (fun h151 => ?_) (fun h151 => ?_)
                                          · exact absurd h151 (by decide)
                                          · skip
                                            refine lv_iload S.1 S.2.1 dL_isSo_334 (lv_at hl 2 rfl) ?_
                                            refine lv_goto (tgt := 341) S.1 S.2.1 dL_isSo_336 rfl ?_
                                            refine lv_icmp_ne (tgt := 404) S.1 S.2.1 dL_isSo_341 rfl (fun h152 => ?_) (fun h152 => ?_)
                                            · exact absurd rfl h152
                                            · skip
                                              refine lv_aload_n S.1 S.2.1 dL_isSo_344 rfl (lv_at hl 11 rfl) ?_
                                              refine lv_iload S.1 S.2.1 dL_isSo_345 (lv_at hl 6 rfl) ?_
                                              refine lv_bipush (v := (nI 6)) S.1 S.2.1 dL_isSo_347 (by decide) ?_
                                              refine xk_R (v := (bxNote β.1 (nI i) (nI 6))) (x_runV (As := [.int (nI i), .int (nI 6)]) (rest := []) S hE hS (fun _ h => h.elim) (c_X7_noteOf l E B β (nI i) (nI 6) _ hB) kv_X7_noteOf kw7_21 kw7_22 kw7_23 (x_recv hE (hB.1) (ci := 7) rfl) ⟨Nat.le_of_ble_eq_true rfl, Nat.le_of_ble_eq_true rfl⟩ rfl rfl rfl hl.1 rfl (Nat.le_of_ble_eq_true rfl) dL_isSo_349 ⟨(Nat.le_of_ble_eq_true rfl), (Nat.le_of_ble_eq_true rfl)⟩) ?_
                                              refine x_top (y := (nf σ i 6)) (nt_6 hT hlt) ?_
                                              refine lv_aload_n S.1 S.2.1 dL_isSo_352 rfl (lv_at hl 13 rfl) ?_
                                              refine lv_iload S.1 S.2.1 dL_isSo_353 (lv_at hl 6 rfl) ?_
                                              refine x_lald S hE hEL (hc) i rfl (by omega) (by decide) dL_isSo_355 ?_
                                              refine lv_bipush (v := (nI 41)) S.1 S.2.1 dL_isSo_356 (by decide) ?_
                                              refine lv_iconst (v := (nI 1)) S.1 S.2.1 dL_isSo_358 (by decide) ?_
                                              refine xk_R (v := (lwG (κ i) (nI 41) (nI 1))) (x_runS (As := [.long (κ i), .int (nI 41), .int (nI 1)]) (rest := [.int (nf σ i 6)]) S hE hS (fun _ h => h.elim) (c_L_get l E (κ i) (nI 41) (nI 1) _) kv_L_get kw7_12 kw7_13 ⟨Nat.le_of_ble_eq_true rfl, Nat.le_of_ble_eq_true rfl⟩ rfl rfl rfl hl.1 rfl (Nat.le_of_ble_eq_true rfl) dL_isSo_359 ⟨(Nat.le_of_ble_eq_true rfl), (Nat.le_of_ble_eq_true rfl)⟩) ?_
                                              refine x_top (y := (nf σ i 6)) ((lwG_eq _ (by decide) (by decide)).trans ((hU i 6 (by omega) (by decide)).symm)) ?_
                                              refine lv_icmp_ne (tgt := 404) S.1 S.2.1 dL_isSo_362 rfl (fun h153 => ?_) (fun h153 => ?_)
                                              · exact absurd rfl h153
                                              · skip
                                                refine lv_aload_n S.1 S.2.1 dL_isSo_365 rfl (lv_at hl 11 rfl) ?_
                                                refine lv_iload S.1 S.2.1 dL_isSo_366 (lv_at hl 6 rfl) ?_
                                                refine lv_bipush (v := (nI 7)) S.1 S.2.1 dL_isSo_368 (by decide) ?_
                                                refine xk_R (v := (bxNote β.1 (nI i) (nI 7))) (x_runV (As := [.int (nI i), .int (nI 7)]) (rest := []) S hE hS (fun _ h => h.elim) (c_X7_noteOf l E B β (nI i) (nI 7) _ hB) kv_X7_noteOf kw7_21 kw7_22 kw7_23 (x_recv hE (hB.1) (ci := 7) rfl) ⟨Nat.le_of_ble_eq_true rfl, Nat.le_of_ble_eq_true rfl⟩ rfl rfl rfl hl.1 rfl (Nat.le_of_ble_eq_true rfl) dL_isSo_370 ⟨(Nat.le_of_ble_eq_true rfl), (Nat.le_of_ble_eq_true rfl)⟩) ?_
                                                refine x_top (y := (-4)) ((nt_7 hT hlt).trans (if_neg f0)) ?_
                                                refine lv_iload S.1 S.2.1 dL_isSo_373 (lv_at hl 5 rfl) ?_
                                                refine lv_if_ne (tgt := 383) S.1 S.2.1 dL_isSo_375 rfl (fun h154 => ?_) (fun h154 => ?_)
                                                · skip
                                                  refine lv_bipush (v := (-4)) S.1 S.2.1 dL_isSo_383 (by decide) ?_
                                                  refine lv_icmp_ne (tgt := 404) S.1 S.2.1 dL_isSo_385 rfl (fun h155 => ?_) (fun h155 => ?_)
                                                  · exact absurd h155 (by decide)
                                                  · skip
                                                    refine lv_aload_n S.1 S.2.1 dL_isSo_388 rfl (lv_at hl 11 rfl) ?_
                                                    refine lv_iload S.1 S.2.1 dL_isSo_389 (lv_at hl 6 rfl) ?_
                                                    refine lv_bipush (v := (nI 8)) S.1 S.2.1 dL_isSo_391 (by decide) ?_
                                                    refine xk_R (v := (bxNote β.1 (nI i) (nI 8))) (x_runV (As := [.int (nI i), .int (nI 8)]) (rest := []) S hE hS (fun _ h => h.elim) (c_X7_noteOf l E B β (nI i) (nI 8) _ hB) kv_X7_noteOf kw7_21 kw7_22 kw7_23 (x_recv hE (hB.1) (ci := 7) rfl) ⟨Nat.le_of_ble_eq_true rfl, Nat.le_of_ble_eq_true rfl⟩ rfl rfl rfl hl.1 rfl (Nat.le_of_ble_eq_true rfl) dL_isSo_393 ⟨(Nat.le_of_ble_eq_true rfl), (Nat.le_of_ble_eq_true rfl)⟩) ?_
                                                    refine x_top (y := (-1)) (nt_8 hT hlt) ?_
                                                    refine lv_iconst (v := (-1)) S.1 S.2.1 dL_isSo_396 (by decide) ?_
                                                    refine lv_icmp_ne (tgt := 404) S.1 S.2.1 dL_isSo_397 rfl (fun h156 => ?_) (fun h156 => ?_)
                                                    · exact absurd h156 (by decide)
                                                    · skip
                                                      refine lv_iconst (v := (nI 1)) S.1 S.2.1 dL_isSo_400 (by decide) ?_
                                                      refine lv_goto (tgt := 405) S.1 S.2.1 dL_isSo_401 rfl ?_
                                                      refine lv_istore S.1 S.2.1 dL_isSo_405 hl (by decide) rfl (fun ls hl => ?_)
                                                      have hl : lv_has ls 15 [(7, .int (nI 1)), (5, .int ((lwAll σ n i) + (rfHrd σ n i))), (13, .int (nI (5 * pp))), (12, .int (rfHrd σ n i)), (11, .int (nI 1)), (10, .int (nf σ i 4)), (9, .int (nI 2)), (8, .int (nI i)), (4, .int (rfAhd σ i)), (3, .int (rfSum σ n)), (6, .ref s.heap.size), (0, .ref B), (1, .ref a), (2, .ref b)] := hl
                                                      refine lv_iload S.1 S.2.1 dL_isSo_407 (lv_at hl 8 rfl) ?_
                                                      refine lv_iload S.1 S.2.1 dL_isSo_409 (lv_at hl 6 rfl) ?_
                                                      refine lv_if_ne (tgt := 418) S.1 S.2.1 dL_isSo_411 rfl (fun h157 => ?_) (fun h157 => ?_)
                                                      · skip
                                                        refine lv_iconst (v := (nI 0)) S.1 S.2.1 dL_isSo_418 (by decide) ?_
                                                        refine lv_iadd S.1 S.2.1 dL_isSo_419 ?_
                                                        refine lv_istore S.1 S.2.1 dL_isSo_420 hl (by decide) rfl (fun ls hl => ?_)
                                                        have hl : lv_has ls 15 [(4, .int ((rfAhd σ i) + (nI 0))), (7, .int (nI 1)), (5, .int ((lwAll σ n i) + (rfHrd σ n i))), (13, .int (nI (5 * pp))), (12, .int (rfHrd σ n i)), (11, .int (nI 1)), (10, .int (nf σ i 4)), (9, .int (nI 2)), (8, .int (nI i)), (3, .int (rfSum σ n)), (6, .ref s.heap.size), (0, .ref B), (1, .ref a), (2, .ref b)] := hl
                                                        refine lv_iinc (k := 8) (v := (nI (i + 1))) S.1 S.2.1 dL_isSo_422 hl rfl (iincP i 1) (by decide) rfl (fun ls hl => ?_)
                                                        have hl : lv_has ls 15 [(8, .int (nI (i + 1))), (4, .int ((rfAhd σ i) + (nI 0))), (7, .int (nI 1)), (5, .int ((lwAll σ n i) + (rfHrd σ n i))), (13, .int (nI (5 * pp))), (12, .int (rfHrd σ n i)), (11, .int (nI 1)), (10, .int (nf σ i 4)), (9, .int (nI 2)), (3, .int (rfSum σ n)), (6, .ref s.heap.size), (0, .ref B), (1, .ref a), (2, .ref b)] := hl
                                                        refine lv_goto (tgt := 24) S.1 S.2.1 dL_isSo_425 rfl ?_
                                                        have hl : lv_has ls 15 [(8, .int (nI (i + 1))), (4, .int (rfAhd σ (i + 1))), (5, .int (lwAll σ n (i + 1))), (7, .int (nI 1)), (3, .int (rfSum σ n)), (6, .ref s.heap.size), (0, .ref B), (1, .ref a), (2, .ref b)] := by
                                                          rw [show (rfAhd σ (i + 1)) = ((rfAhd σ i) + (nI 0)) from by first | rw [rfAhd, if_pos f0] | rw [rfAhd, if_neg f0] | rw [lwAll, if_pos fVo] | rw [lwAll, if_neg fVo]]
                                                          rw [show (lwAll σ n (i + 1)) = ((lwAll σ n i) + (rfHrd σ n i)) from by first | rw [rfAhd, if_pos f0] | rw [rfAhd, if_neg f0] | rw [lwAll, if_pos fVo] | rw [lwAll, if_neg fVo]]
                                                          exact lv_sub hl [0, 1, 3, 2, 9, 10, 11, 12, 13] rfl
                                                        exact ih24 _ (by omega) (i + 1) (upd (upd (upd (upd (upd f (5 * pp) ((f (5 * pp)) + (nI 1))) ((5 * pp) + 1) ((f ((5 * pp) + 1)) + (nI 0))) ((5 * pp) + 2) ((f ((5 * pp) + 2)) + (nf σ i 4))) ((5 * pp) + 3) ((f ((5 * pp) + 3)) + (rfHrd σ n i))) ((5 * pp) + 4) ((f ((5 * pp) + 4)) + (nI 0))) _ _ ls rfl (by omega) (pa_step hPA hpp e0 (by first | rw [if_pos fPl] | rw [if_neg fPl]) (by first | rw [if_pos f5] | rw [if_neg f5]) (by first | rw [if_pos fVo] | rw [if_neg fVo]) (by first | rw [if_pos fVo] | rw [if_neg fVo]) (by first | rw [if_pos f0] | rw [if_neg f0])) (hB) (hg) (hc) (hp) (hS) (lv_sub hl [0, 1, 2, 3, 4, 5, 6, 7, 8] rfl)
                                                      · exact absurd h157 (by decide)
                                                · exact absurd h154 (by decide)
                          · exact absurd h143 (by decide)
                    · exact absurd h140 (by decide)
                · skip
                  refine lv_iload S.1 S.2.1 dL_isSo_82 (lv_at hl 1 rfl) ?_
                  refine lv_goto (tgt := 96) S.1 S.2.1 dL_isSo_84 rfl ?_
                  refine x_top (y := (rfHrd σ n i)) (by rw [rfHrd]; first | rw [if_pos (Int32.not_lt.mp h138)] | rw [if_neg (Int32.not_le.mpr h138)]) ?_
                  refine lv_istore S.1 S.2.1 dL_isSo_96 hl (by decide) rfl (fun ls hl => ?_)
                  have hl : lv_has ls 15 [(12, .int (rfHrd σ n i)), (11, .int (nI 1)), (10, .int (nf σ i 4)), (9, .int (nI 2)), (8, .int (nI i)), (4, .int (rfAhd σ i)), (5, .int (lwAll σ n i)), (7, .int (nI 1)), (3, .int (rfSum σ n)), (6, .ref s.heap.size), (0, .ref B), (1, .ref a), (2, .ref b)] := hl
                  refine lv_iconst (v := (nI 5)) S.1 S.2.1 dL_isSo_98 (by decide) ?_
                  refine lv_aload_n S.1 S.2.1 dL_isSo_99 rfl (lv_at hl 12 rfl) ?_
                  refine lv_iload S.1 S.2.1 dL_isSo_100 (lv_at hl 4 rfl) ?_
                  refine x_lald S hE hEL (hc) i rfl (by omega) (by decide) dL_isSo_102 ?_
                  refine lv_iconst (v := (nI 0)) S.1 S.2.1 dL_isSo_103 (by decide) ?_
                  refine lv_iconst (v := (nI 2)) S.1 S.2.1 dL_isSo_104 (by decide) ?_
                  refine xk_R (v := (lwG (κ i) (nI 0) (nI 2))) (x_runS (As := [.long (κ i), .int (nI 0), .int (nI 2)]) (rest := [.int (nI 5)]) S hE hS (fun _ h => h.elim) (c_L_get l E (κ i) (nI 0) (nI 2) _) kv_L_get kw7_12 kw7_13 ⟨Nat.le_of_ble_eq_true rfl, Nat.le_of_ble_eq_true rfl⟩ rfl rfl rfl hl.1 rfl (Nat.le_of_ble_eq_true rfl) dL_isSo_105 ⟨(Nat.le_of_ble_eq_true rfl), (Nat.le_of_ble_eq_true rfl)⟩) ?_
                  refine x_top (y := (nf σ i 0)) ((lwG_eq _ (by decide) (by decide)).trans ((hU i 0 (by omega) (by decide)).symm)) ?_
                  refine x_top (y := (nI pp)) (e0) ?_
                  refine lv_imul S.1 S.2.1 dL_isSo_108 ?_
                  refine x_top (y := (nI (5 * pp))) (pk_mul 5 pp) ?_
                  refine lv_istore S.1 S.2.1 dL_isSo_109 hl (by decide) rfl (fun ls hl => ?_)
                  have hl : lv_has ls 15 [(13, .int (nI (5 * pp))), (12, .int (rfHrd σ n i)), (11, .int (nI 1)), (10, .int (nf σ i 4)), (9, .int (nI 2)), (8, .int (nI i)), (4, .int (rfAhd σ i)), (5, .int (lwAll σ n i)), (7, .int (nI 1)), (3, .int (rfSum σ n)), (6, .ref s.heap.size), (0, .ref B), (1, .ref a), (2, .ref b)] := hl
                  refine lv_aload S.1 S.2.1 dL_isSo_111 (lv_at hl 10 rfl) ?_
                  refine lv_iload S.1 S.2.1 dL_isSo_113 (lv_at hl 0 rfl) ?_
                  refine lv_dup2_11 S.1 S.2.1 dL_isSo_115 rfl rfl ?_
                  refine x_iald S hE (hp) (5 * pp) rfl (by omega) (by decide) dL_isSo_116 ?_
                  refine lv_aload_n S.1 S.2.1 dL_isSo_117 rfl (lv_at hl 13 rfl) ?_
                  refine lv_iload S.1 S.2.1 dL_isSo_118 (lv_at hl 5 rfl) ?_
                  refine x_lald S hE hEL (hc) i rfl (by omega) (by decide) dL_isSo_120 ?_
                  refine xk_R (v := (bI (nI 1 ≤ fld 3 (κ i) ∧ fld 3 (κ i) ≤ nI 4))) (x_runS (As := [.long (κ i)]) (rest := [.int (f (5 * pp)), .int (nI (5 * pp)), .ref s.heap.size]) S hE hS (fun _ h => h.elim) (c_L_placed l E (κ i) _) kv_L_placed kw7_18 kw7_19 ⟨Nat.le_of_ble_eq_true rfl, Nat.le_of_ble_eq_true rfl⟩ rfl rfl rfl hl.1 rfl (Nat.le_of_ble_eq_true rfl) dL_isSo_121 ⟨(Nat.le_of_ble_eq_true rfl), (Nat.le_of_ble_eq_true rfl)⟩) ?_
                  refine x_top (y := (nI 1)) ((bI_iff (by show _ ↔ (nI 1 ≤ nf σ i 3 ∧ nf σ i 3 ≤ nI 4); rw [hU i 3 (by omega) (by decide)])).trans (bI_t fPl).symm) ?_
                  refine lv_if_eq (tgt := 131) S.1 S.2.1 dL_isSo_124 rfl (fun h158 => ?_) (fun h158 => ?_)
                  · exact absurd h158 (by decide)
                  · skip
                    refine lv_iconst (v := (nI 1)) S.1 S.2.1 dL_isSo_127 (by decide) ?_
                    refine lv_goto (tgt := 132) S.1 S.2.1 dL_isSo_128 rfl ?_
                    refine lv_iadd S.1 S.2.1 dL_isSo_132 ?_
                    refine x_iast S hE hS (Or.inr (Nat.le_refl _)) (hp) (5 * pp) rfl (by omega) (by decide) dL_isSo_133 (fun H locs hX hO1 hS => ?_)
                    have hg := va_at.kept hg (hO1.2 a (Nat.ne_of_lt haz))
                    have hc := va_at.kept hc (hO1.2 b (Nat.ne_of_lt hbz))
                    have hB := hB.fr (fun q z => hO1.2 q (by have := z.2; omega))
                    have hp := hX
                    refine lv_aload S.1 S.2.1 dL_isSo_134 (lv_at hl 10 rfl) ?_
                    refine lv_iload S.1 S.2.1 dL_isSo_136 (lv_at hl 0 rfl) ?_
                    refine lv_iconst (v := (nI 1)) S.1 S.2.1 dL_isSo_138 (by decide) ?_
                    refine lv_iadd S.1 S.2.1 dL_isSo_139 ?_
                    refine x_top (y := (nI ((5 * pp) + 1))) (nI_add (5 * pp) 1) ?_
                    refine lv_dup2_11 S.1 S.2.1 dL_isSo_140 rfl rfl ?_
                    refine x_iald S hE (hp) ((5 * pp) + 1) rfl (by omega) (by decide) dL_isSo_141 ?_
                    refine x_top (y := (f ((5 * pp) + 1))) (pk_un (by omega)) ?_
                    refine lv_iload S.1 S.2.1 dL_isSo_142 (lv_at hl 4 rfl) ?_
                    refine lv_iconst (v := (nI 5)) S.1 S.2.1 dL_isSo_144 (by decide) ?_
                    refine lv_icmp_ne (tgt := 152) S.1 S.2.1 dL_isSo_145 rfl (fun h159 => ?_) (fun h159 => ?_)
                    · skip
                      refine lv_iconst (v := (nI 0)) S.1 S.2.1 dL_isSo_152 (by decide) ?_
                      refine lv_iadd S.1 S.2.1 dL_isSo_153 ?_
                      refine x_iast S hE hS (Or.inr (Nat.le_refl _)) (hp) ((5 * pp) + 1) rfl (by omega) (by decide) dL_isSo_154 (fun H locs hX hO1 hS => ?_)
                      have hg := va_at.kept hg (hO1.2 a (Nat.ne_of_lt haz))
                      have hc := va_at.kept hc (hO1.2 b (Nat.ne_of_lt hbz))
                      have hB := hB.fr (fun q z => hO1.2 q (by have := z.2; omega))
                      have hp := hX
                      refine lv_aload S.1 S.2.1 dL_isSo_155 (lv_at hl 10 rfl) ?_
                      refine lv_iload S.1 S.2.1 dL_isSo_157 (lv_at hl 0 rfl) ?_
                      refine lv_iconst (v := (nI 2)) S.1 S.2.1 dL_isSo_159 (by decide) ?_
                      refine lv_iadd S.1 S.2.1 dL_isSo_160 ?_
                      refine x_top (y := (nI ((5 * pp) + 2))) (nI_add (5 * pp) 2) ?_
                      refine lv_dup2_11 S.1 S.2.1 dL_isSo_161 rfl rfl ?_
                      refine x_iald S hE (hp) ((5 * pp) + 2) rfl (by omega) (by decide) dL_isSo_162 ?_
                      refine x_top (y := (f ((5 * pp) + 2))) ((pk_un (by omega)).trans (pk_un (by omega))) ?_
                      refine lv_iload S.1 S.2.1 dL_isSo_163 (lv_at hl 2 rfl) ?_
                      refine lv_if_eq (tgt := 173) S.1 S.2.1 dL_isSo_165 rfl (fun h160 => ?_) (fun h160 => ?_)
                      · exact absurd h160 (by decide)
                      · skip
                        refine lv_iload S.1 S.2.1 dL_isSo_168 (lv_at hl 3 rfl) ?_
                        refine lv_goto (tgt := 174) S.1 S.2.1 dL_isSo_170 rfl ?_
                        refine lv_iadd S.1 S.2.1 dL_isSo_174 ?_
                        refine x_iast S hE hS (Or.inr (Nat.le_refl _)) (hp) ((5 * pp) + 2) rfl (by omega) (by decide) dL_isSo_175 (fun H locs hX hO1 hS => ?_)
                        have hg := va_at.kept hg (hO1.2 a (Nat.ne_of_lt haz))
                        have hc := va_at.kept hc (hO1.2 b (Nat.ne_of_lt hbz))
                        have hB := hB.fr (fun q z => hO1.2 q (by have := z.2; omega))
                        have hp := hX
                        refine lv_aload S.1 S.2.1 dL_isSo_176 (lv_at hl 10 rfl) ?_
                        refine lv_iload S.1 S.2.1 dL_isSo_178 (lv_at hl 0 rfl) ?_
                        refine lv_iconst (v := (nI 3)) S.1 S.2.1 dL_isSo_180 (by decide) ?_
                        refine lv_iadd S.1 S.2.1 dL_isSo_181 ?_
                        refine x_top (y := (nI ((5 * pp) + 3))) (nI_add (5 * pp) 3) ?_
                        refine lv_dup2_11 S.1 S.2.1 dL_isSo_182 rfl rfl ?_
                        refine x_iald S hE (hp) ((5 * pp) + 3) rfl (by omega) (by decide) dL_isSo_183 ?_
                        refine x_top (y := (f ((5 * pp) + 3))) ((pk_un (by omega)).trans ((pk_un (by omega)).trans (pk_un (by omega)))) ?_
                        refine lv_iload S.1 S.2.1 dL_isSo_184 (lv_at hl 2 rfl) ?_
                        refine lv_if_eq (tgt := 194) S.1 S.2.1 dL_isSo_186 rfl (fun h161 => ?_) (fun h161 => ?_)
                        · exact absurd h161 (by decide)
                        · skip
                          refine lv_iload S.1 S.2.1 dL_isSo_189 (lv_at hl 1 rfl) ?_
                          refine lv_goto (tgt := 195) S.1 S.2.1 dL_isSo_191 rfl ?_
                          refine lv_iadd S.1 S.2.1 dL_isSo_195 ?_
                          refine x_iast S hE hS (Or.inr (Nat.le_refl _)) (hp) ((5 * pp) + 3) rfl (by omega) (by decide) dL_isSo_196 (fun H locs hX hO1 hS => ?_)
                          have hg := va_at.kept hg (hO1.2 a (Nat.ne_of_lt haz))
                          have hc := va_at.kept hc (hO1.2 b (Nat.ne_of_lt hbz))
                          have hB := hB.fr (fun q z => hO1.2 q (by have := z.2; omega))
                          have hp := hX
                          refine lv_aload S.1 S.2.1 dL_isSo_197 (lv_at hl 10 rfl) ?_
                          refine lv_iload S.1 S.2.1 dL_isSo_199 (lv_at hl 0 rfl) ?_
                          refine lv_iconst (v := (nI 4)) S.1 S.2.1 dL_isSo_201 (by decide) ?_
                          refine lv_iadd S.1 S.2.1 dL_isSo_202 ?_
                          refine x_top (y := (nI ((5 * pp) + 4))) (nI_add (5 * pp) 4) ?_
                          refine lv_dup2_11 S.1 S.2.1 dL_isSo_203 rfl rfl ?_
                          refine x_iald S hE (hp) ((5 * pp) + 4) rfl (by omega) (by decide) dL_isSo_204 ?_
                          refine x_top (y := (f ((5 * pp) + 4))) ((pk_un (by omega)).trans ((pk_un (by omega)).trans ((pk_un (by omega)).trans (pk_un (by omega))))) ?_
                          refine lv_iload S.1 S.2.1 dL_isSo_205 (lv_at hl 4 rfl) ?_
                          refine lv_if_ne (tgt := 214) S.1 S.2.1 dL_isSo_207 rfl (fun h162 => ?_) (fun h162 => ?_)
                          · skip
                            refine lv_iconst (v := (nI 0)) S.1 S.2.1 dL_isSo_214 (by decide) ?_
                            refine lv_iadd S.1 S.2.1 dL_isSo_215 ?_
                            refine x_iast S hE hS (Or.inr (Nat.le_refl _)) (hp) ((5 * pp) + 4) rfl (by omega) (by decide) dL_isSo_216 (fun H locs hX hO1 hS => ?_)
                            have hg := va_at.kept hg (hO1.2 a (Nat.ne_of_lt haz))
                            have hc := va_at.kept hc (hO1.2 b (Nat.ne_of_lt hbz))
                            have hB := hB.fr (fun q z => hO1.2 q (by have := z.2; omega))
                            have hp := hX
                            refine lv_iload S.1 S.2.1 dL_isSo_217 (lv_at hl 7 rfl) ?_
                            refine lv_iload S.1 S.2.1 dL_isSo_219 (lv_at hl 2 rfl) ?_
                            refine lv_if_eq (tgt := 229) S.1 S.2.1 dL_isSo_221 rfl (fun h163 => ?_) (fun h163 => ?_)
                            · exact absurd h163 (by decide)
                            · skip
                              refine lv_iload S.1 S.2.1 dL_isSo_224 (lv_at hl 1 rfl) ?_
                              refine lv_goto (tgt := 230) S.1 S.2.1 dL_isSo_226 rfl ?_
                              refine lv_iadd S.1 S.2.1 dL_isSo_230 ?_
                              refine lv_istore S.1 S.2.1 dL_isSo_231 hl (by decide) rfl (fun ls hl => ?_)
                              have hl : lv_has ls 15 [(5, .int ((lwAll σ n i) + (rfHrd σ n i))), (13, .int (nI (5 * pp))), (12, .int (rfHrd σ n i)), (11, .int (nI 1)), (10, .int (nf σ i 4)), (9, .int (nI 2)), (8, .int (nI i)), (4, .int (rfAhd σ i)), (7, .int (nI 1)), (3, .int (rfSum σ n)), (6, .ref s.heap.size), (0, .ref B), (1, .ref a), (2, .ref b)] := hl
                              refine lv_aload_n S.1 S.2.1 dL_isSo_233 rfl (lv_at hl 11 rfl) ?_
                              refine lv_iload S.1 S.2.1 dL_isSo_234 (lv_at hl 6 rfl) ?_
                              refine lv_iconst (v := (nI 0)) S.1 S.2.1 dL_isSo_236 (by decide) ?_
                              refine xk_R (v := (bxNote β.1 (nI i) (nI 0))) (x_runV (As := [.int (nI i), .int (nI 0)]) (rest := []) S hE hS (fun _ h => h.elim) (c_X7_noteOf l E B β (nI i) (nI 0) _ hB) kv_X7_noteOf kw7_21 kw7_22 kw7_23 (x_recv hE (hB.1) (ci := 7) rfl) ⟨Nat.le_of_ble_eq_true rfl, Nat.le_of_ble_eq_true rfl⟩ rfl rfl rfl hl.1 rfl (Nat.le_of_ble_eq_true rfl) dL_isSo_237 ⟨(Nat.le_of_ble_eq_true rfl), (Nat.le_of_ble_eq_true rfl)⟩) ?_
                              refine x_top (y := (nI ((5 * pp) / 5))) ((nt_0 hT hlt).trans (e0.trans (congrArg nI (by omega)))) ?_
                              refine lv_iload S.1 S.2.1 dL_isSo_240 (lv_at hl 1 rfl) ?_
                              refine lv_iconst (v := (nI 5)) S.1 S.2.1 dL_isSo_242 (by decide) ?_
                              refine lv_idiv S.1 S.2.1 dL_isSo_243 (by decide) ?_
                              refine x_top (y := (nI ((5 * pp) / 5))) (pk_div (by omega) (by decide) (by decide)) ?_
                              refine lv_icmp_ne (tgt := 404) S.1 S.2.1 dL_isSo_244 rfl (fun h164 => ?_) (fun h164 => ?_)
                              · exact absurd rfl h164
                              · skip
                                refine lv_aload_n S.1 S.2.1 dL_isSo_247 rfl (lv_at hl 11 rfl) ?_
                                refine lv_iload S.1 S.2.1 dL_isSo_248 (lv_at hl 6 rfl) ?_
                                refine lv_iconst (v := (nI 1)) S.1 S.2.1 dL_isSo_250 (by decide) ?_
                                refine xk_R (v := (bxNote β.1 (nI i) (nI 1))) (x_runV (As := [.int (nI i), .int (nI 1)]) (rest := []) S hE hS (fun _ h => h.elim) (c_X7_noteOf l E B β (nI i) (nI 1) _ hB) kv_X7_noteOf kw7_21 kw7_22 kw7_23 (x_recv hE (hB.1) (ci := 7) rfl) ⟨Nat.le_of_ble_eq_true rfl, Nat.le_of_ble_eq_true rfl⟩ rfl rfl rfl hl.1 rfl (Nat.le_of_ble_eq_true rfl) dL_isSo_251 ⟨(Nat.le_of_ble_eq_true rfl), (Nat.le_of_ble_eq_true rfl)⟩) ?_
                                refine x_top (y := (nf σ i 1)) (nt_1 hT hlt) ?_
                                refine lv_aload_n S.1 S.2.1 dL_isSo_254 rfl (lv_at hl 13 rfl) ?_
                                refine lv_iload S.1 S.2.1 dL_isSo_255 (lv_at hl 6 rfl) ?_
                                refine x_lald S hE hEL (hc) i rfl (by omega) (by decide) dL_isSo_257 ?_
                                refine lv_iconst (v := (nI 2)) S.1 S.2.1 dL_isSo_258 (by decide) ?_
                                refine lv_bipush (v := (nI 7)) S.1 S.2.1 dL_isSo_259 (by decide) ?_
                                refine xk_R (v := (lwG (κ i) (nI 2) (nI 7))) (x_runS (As := [.long (κ i), .int (nI 2), .int (nI 7)]) (rest := [.int (nf σ i 1)]) S hE hS (fun _ h => h.elim) (c_L_get l E (κ i) (nI 2) (nI 7) _) kv_L_get kw7_12 kw7_13 ⟨Nat.le_of_ble_eq_true rfl, Nat.le_of_ble_eq_true rfl⟩ rfl rfl rfl hl.1 rfl (Nat.le_of_ble_eq_true rfl) dL_isSo_261 ⟨(Nat.le_of_ble_eq_true rfl), (Nat.le_of_ble_eq_true rfl)⟩) ?_
                                refine x_top (y := (nf σ i 1)) ((lwG_eq _ (by decide) (by decide)).trans ((hU i 1 (by omega) (by decide)).symm)) ?_
                                refine lv_icmp_ne (tgt := 404) S.1 S.2.1 dL_isSo_264 rfl (fun h165 => ?_) (fun h165 => ?_)
                                · exact absurd rfl h165
                                · skip
                                  refine lv_aload_n S.1 S.2.1 dL_isSo_267 rfl (lv_at hl 11 rfl) ?_
                                  refine lv_iload S.1 S.2.1 dL_isSo_268 (lv_at hl 6 rfl) ?_
                                  refine lv_iconst (v := (nI 2)) S.1 S.2.1 dL_isSo_270 (by decide) ?_
                                  refine xk_R (v := (bxNote β.1 (nI i) (nI 2))) (x_runV (As := [.int (nI i), .int (nI 2)]) (rest := []) S hE hS (fun _ h => h.elim) (c_X7_noteOf l E B β (nI i) (nI 2) _ hB) kv_X7_noteOf kw7_21 kw7_22 kw7_23 (x_recv hE (hB.1) (ci := 7) rfl) ⟨Nat.le_of_ble_eq_true rfl, Nat.le_of_ble_eq_true rfl⟩ rfl rfl rfl hl.1 rfl (Nat.le_of_ble_eq_true rfl) dL_isSo_271 ⟨(Nat.le_of_ble_eq_true rfl), (Nat.le_of_ble_eq_true rfl)⟩) ?_
                                  refine x_top (y := (nf σ i 2)) (nt_2 hT hlt) ?_
                                  refine lv_aload_n S.1 S.2.1 dL_isSo_274 rfl (lv_at hl 13 rfl) ?_
                                  refine lv_iload S.1 S.2.1 dL_isSo_275 (lv_at hl 6 rfl) ?_
                                  refine x_lald S hE hEL (hc) i rfl (by omega) (by decide) dL_isSo_277 ?_
                                  refine lv_bipush (v := (nI 9)) S.1 S.2.1 dL_isSo_278 (by decide) ?_
                                  refine lv_bipush (v := (nI 7)) S.1 S.2.1 dL_isSo_280 (by decide) ?_
                                  refine xk_R (v := (lwG (κ i) (nI 9) (nI 7))) (x_runS (As := [.long (κ i), .int (nI 9), .int (nI 7)]) (rest := [.int (nf σ i 2)]) S hE hS (fun _ h => h.elim) (c_L_get l E (κ i) (nI 9) (nI 7) _) kv_L_get kw7_12 kw7_13 ⟨Nat.le_of_ble_eq_true rfl, Nat.le_of_ble_eq_true rfl⟩ rfl rfl rfl hl.1 rfl (Nat.le_of_ble_eq_true rfl) dL_isSo_282 ⟨(Nat.le_of_ble_eq_true rfl), (Nat.le_of_ble_eq_true rfl)⟩) ?_
                                  refine x_top (y := (nf σ i 2)) ((lwG_eq _ (by decide) (by decide)).trans ((hU i 2 (by omega) (by decide)).symm)) ?_
                                  refine lv_icmp_ne (tgt := 404) S.1 S.2.1 dL_isSo_285 rfl (fun h166 => ?_) (fun h166 => ?_)
                                  · exact absurd rfl h166
                                  · skip
                                    refine lv_aload_n S.1 S.2.1 dL_isSo_288 rfl (lv_at hl 11 rfl) ?_
                                    refine lv_iload S.1 S.2.1 dL_isSo_289 (lv_at hl 6 rfl) ?_
                                    refine lv_iconst (v := (nI 3)) S.1 S.2.1 dL_isSo_291 (by decide) ?_
                                    refine xk_R (v := (bxNote β.1 (nI i) (nI 3))) (x_runV (As := [.int (nI i), .int (nI 3)]) (rest := []) S hE hS (fun _ h => h.elim) (c_X7_noteOf l E B β (nI i) (nI 3) _ hB) kv_X7_noteOf kw7_21 kw7_22 kw7_23 (x_recv hE (hB.1) (ci := 7) rfl) ⟨Nat.le_of_ble_eq_true rfl, Nat.le_of_ble_eq_true rfl⟩ rfl rfl rfl hl.1 rfl (Nat.le_of_ble_eq_true rfl) dL_isSo_292 ⟨(Nat.le_of_ble_eq_true rfl), (Nat.le_of_ble_eq_true rfl)⟩) ?_
                                    refine x_top (y := (nI 2)) ((nt_3 hT hlt).trans ex) ?_
                                    refine lv_iload S.1 S.2.1 dL_isSo_295 (lv_at hl 5 rfl) ?_
                                    refine lv_icmp_ne (tgt := 404) S.1 S.2.1 dL_isSo_297 rfl (fun h167 => ?_) (fun h167 => ?_)
                                    · exact absurd h167 (by decide)
                                    · skip
                                      refine lv_aload_n S.1 S.2.1 dL_isSo_300 rfl (lv_at hl 11 rfl) ?_
                                      refine lv_iload S.1 S.2.1 dL_isSo_301 (lv_at hl 6 rfl) ?_
                                      refine lv_iconst (v := (nI 4)) S.1 S.2.1 dL_isSo_303 (by decide) ?_
                                      refine xk_R (v := (bxNote β.1 (nI i) (nI 4))) (x_runV (As := [.int (nI i), .int (nI 4)]) (rest := []) S hE hS (fun _ h => h.elim) (c_X7_noteOf l E B β (nI i) (nI 4) _ hB) kv_X7_noteOf kw7_21 kw7_22 kw7_23 (x_recv hE (hB.1) (ci := 7) rfl) ⟨Nat.le_of_ble_eq_true rfl, Nat.le_of_ble_eq_true rfl⟩ rfl rfl rfl hl.1 rfl (Nat.le_of_ble_eq_true rfl) dL_isSo_304 ⟨(Nat.le_of_ble_eq_true rfl), (Nat.le_of_ble_eq_true rfl)⟩) ?_
                                      refine x_top (y := (nf σ i 4)) ((nt_4 hT hlt).trans (if_pos fVo)) ?_
                                      refine lv_iload S.1 S.2.1 dL_isSo_307 (lv_at hl 3 rfl) ?_
                                      refine lv_if_eq (tgt := 317) S.1 S.2.1 dL_isSo_309 rfl (fun h168 => ?_) (fun h168 => ?_)
                                      · exact absurd h168 (by decide)
                                      · skip
                                        refine lv_iload S.1 S.2.1 dL_isSo_312 (lv_at hl 4 rfl) ?_
                                        refine lv_goto (tgt := 319) S.1 S.2.1 dL_isSo_314 rfl ?_
                                        refine lv_icmp_ne (tgt := 404) S.1 S.2.1 dL_isSo_319 rfl (fun h169 => ?_) (fun h169 => ?_)
                                        · exact absurd rfl h169
                                        · skip
                                          refine lv_aload_n S.1 S.2.1 dL_isSo_322 rfl (lv_at hl 11 rfl) ?_
                                          refine lv_iload S.1 S.2.1 dL_isSo_323 (lv_at hl 6 rfl) ?_
                                          refine lv_iconst (v := (nI 5)) S.1 S.2.1 dL_isSo_325 (by decide) ?_
                                          refine xk_R (v := (bxNote β.1 (nI i) (nI 5))) (x_runV (As := [.int (nI i), .int (nI 5)]) (rest := []) S hE hS (fun _ h => h.elim) (c_X7_noteOf l E B β (nI i) (nI 5) _ hB) kv_X7_noteOf kw7_21 kw7_22 kw7_23 (x_recv hE (hB.1) (ci := 7) rfl) ⟨Nat.le_of_ble_eq_true rfl, Nat.le_of_ble_eq_true rfl⟩ rfl rfl rfl hl.1 rfl (Nat.le_of_ble_eq_true rfl) dL_isSo_326 ⟨(Nat.le_of_ble_eq_true rfl), (Nat.le_of_ble_eq_true rfl)⟩) ?_
                                          refine x_top (y := (rfHrd σ n i)) ((nt_5 hT hlt).trans (if_pos fVo)) ?_
                                          refine lv_iload S.1 S.2.1 dL_isSo_329 (lv_at hl 3 rfl) ?_
                                          refine lv_if_eq (tgt := 339) S.1 S.2.1 dL_isSo_331 rfl (fun h170 => ?_) (fun h170 => ?_)
                                          · exact absurd h170 (by decide)
                                          · skip
                                            refine lv_iload S.1 S.2.1 dL_isSo_334 (lv_at hl 2 rfl) ?_
                                            refine lv_goto (tgt := 341) S.1 S.2.1 dL_isSo_336 rfl ?_
                                            refine lv_icmp_ne (tgt := 404) S.1 S.2.1 dL_isSo_341 rfl (fun h171 => ?_) (fun h171 => ?_)
                                            · exact absurd rfl h171
                                            · skip
                                              refine lv_aload_n S.1 S.2.1 dL_isSo_344 rfl (lv_at hl 11 rfl) ?_
                                              refine lv_iload S.1 S.2.1 dL_isSo_345 (lv_at hl 6 rfl) ?_
                                              refine lv_bipush (v := (nI 6)) S.1 S.2.1 dL_isSo_347 (by decide) ?_
                                              refine xk_R (v := (bxNote β.1 (nI i) (nI 6))) (x_runV (As := [.int (nI i), .int (nI 6)]) (rest := []) S hE hS (fun _ h => h.elim) (c_X7_noteOf l E B β (nI i) (nI 6) _ hB) kv_X7_noteOf kw7_21 kw7_22 kw7_23 (x_recv hE (hB.1) (ci := 7) rfl) ⟨Nat.le_of_ble_eq_true rfl, Nat.le_of_ble_eq_true rfl⟩ rfl rfl rfl hl.1 rfl (Nat.le_of_ble_eq_true rfl) dL_isSo_349 ⟨(Nat.le_of_ble_eq_true rfl), (Nat.le_of_ble_eq_true rfl)⟩) ?_
                                              refine x_top (y := (nf σ i 6)) (nt_6 hT hlt) ?_
                                              refine lv_aload_n S.1 S.2.1 dL_isSo_352 rfl (lv_at hl 13 rfl) ?_
                                              refine lv_iload S.1 S.2.1 dL_isSo_353 (lv_at hl 6 rfl) ?_
                                              refine x_lald S hE hEL (hc) i rfl (by omega) (by decide) dL_isSo_355 ?_
                                              refine lv_bipush (v := (nI 41)) S.1 S.2.1 dL_isSo_356 (by decide) ?_
                                              refine lv_iconst (v := (nI 1)) S.1 S.2.1 dL_isSo_358 (by decide) ?_
                                              refine xk_R (v := (lwG (κ i) (nI 41) (nI 1))) (x_runS (As := [.long (κ i), .int (nI 41), .int (nI 1)]) (rest := [.int (nf σ i 6)]) S hE hS (fun _ h => h.elim) (c_L_get l E (κ i) (nI 41) (nI 1) _) kv_L_get kw7_12 kw7_13 ⟨Nat.le_of_ble_eq_true rfl, Nat.le_of_ble_eq_true rfl⟩ rfl rfl rfl hl.1 rfl (Nat.le_of_ble_eq_true rfl) dL_isSo_359 ⟨(Nat.le_of_ble_eq_true rfl), (Nat.le_of_ble_eq_true rfl)⟩) ?_
                                              refine x_top (y := (nf σ i 6)) ((lwG_eq _ (by decide) (by decide)).trans ((hU i 6 (by omega) (by decide)).symm)) ?_
                                              refine lv_icmp_ne (tgt := 404) S.1 S.2.1 dL_isSo_362 rfl (fun h172 => ?_) (fun h172 => ?_)
                                              · exact absurd rfl h172
                                              · skip
                                                refine lv_aload_n S.1 S.2.1 dL_isSo_365 rfl (lv_at hl 11 rfl) ?_
                                                refine lv_iload S.1 S.2.1 dL_isSo_366 (lv_at hl 6 rfl) ?_
                                                refine lv_bipush (v := (nI 7)) S.1 S.2.1 dL_isSo_368 (by decide) ?_
                                                refine xk_R (v := (bxNote β.1 (nI i) (nI 7))) (x_runV (As := [.int (nI i), .int (nI 7)]) (rest := []) S hE hS (fun _ h => h.elim) (c_X7_noteOf l E B β (nI i) (nI 7) _ hB) kv_X7_noteOf kw7_21 kw7_22 kw7_23 (x_recv hE (hB.1) (ci := 7) rfl) ⟨Nat.le_of_ble_eq_true rfl, Nat.le_of_ble_eq_true rfl⟩ rfl rfl rfl hl.1 rfl (Nat.le_of_ble_eq_true rfl) dL_isSo_370 ⟨(Nat.le_of_ble_eq_true rfl), (Nat.le_of_ble_eq_true rfl)⟩) ?_
                                                refine x_top (y := (-4)) ((nt_7 hT hlt).trans (if_neg f0)) ?_
                                                refine lv_iload S.1 S.2.1 dL_isSo_373 (lv_at hl 5 rfl) ?_
                                                refine lv_if_ne (tgt := 383) S.1 S.2.1 dL_isSo_375 rfl (fun h173 => ?_) (fun h173 => ?_)
                                                · skip
                                                  refine lv_bipush (v := (-4)) S.1 S.2.1 dL_isSo_383 (by decide) ?_
                                                  refine lv_icmp_ne (tgt := 404) S.1 S.2.1 dL_isSo_385 rfl (fun h174 => ?_) (fun h174 => ?_)
                                                  · exact absurd h174 (by decide)
                                                  · skip
                                                    refine lv_aload_n S.1 S.2.1 dL_isSo_388 rfl (lv_at hl 11 rfl) ?_
                                                    refine lv_iload S.1 S.2.1 dL_isSo_389 (lv_at hl 6 rfl) ?_
                                                    refine lv_bipush (v := (nI 8)) S.1 S.2.1 dL_isSo_391 (by decide) ?_
                                                    refine xk_R (v := (bxNote β.1 (nI i) (nI 8))) (x_runV (As := [.int (nI i), .int (nI 8)]) (rest := []) S hE hS (fun _ h => h.elim) (c_X7_noteOf l E B β (nI i) (nI 8) _ hB) kv_X7_noteOf kw7_21 kw7_22 kw7_23 (x_recv hE (hB.1) (ci := 7) rfl) ⟨Nat.le_of_ble_eq_true rfl, Nat.le_of_ble_eq_true rfl⟩ rfl rfl rfl hl.1 rfl (Nat.le_of_ble_eq_true rfl) dL_isSo_393 ⟨(Nat.le_of_ble_eq_true rfl), (Nat.le_of_ble_eq_true rfl)⟩) ?_
                                                    refine x_top (y := (-1)) (nt_8 hT hlt) ?_
                                                    refine lv_iconst (v := (-1)) S.1 S.2.1 dL_isSo_396 (by decide) ?_
                                                    refine lv_icmp_ne (tgt := 404) S.1 S.2.1 dL_isSo_397 rfl (fun h175 => ?_) (fun h175 => ?_)
                                                    · exact absurd h175 (by decide)
                                                    · skip
                                                      refine lv_iconst (v := (nI 1)) S.1 S.2.1 dL_isSo_400 (by decide) ?_
                                                      refine lv_goto (tgt := 405) S.1 S.2.1 dL_isSo_401 rfl ?_
                                                      refine lv_istore S.1 S.2.1 dL_isSo_405 hl (by decide) rfl (fun ls hl => ?_)
                                                      have hl : lv_has ls 15 [(7, .int (nI 1)), (5, .int ((lwAll σ n i) + (rfHrd σ n i))), (13, .int (nI (5 * pp))), (12, .int (rfHrd σ n i)), (11, .int (nI 1)), (10, .int (nf σ i 4)), (9, .int (nI 2)), (8, .int (nI i)), (4, .int (rfAhd σ i)), (3, .int (rfSum σ n)), (6, .ref s.heap.size), (0, .ref B), (1, .ref a), (2, .ref b)] := hl
                                                      refine lv_iload S.1 S.2.1 dL_isSo_407 (lv_at hl 8 rfl) ?_
                                                      refine lv_iload S.1 S.2.1 dL_isSo_409 (lv_at hl 6 rfl) ?_
                                                      refine lv_if_ne (tgt := 418) S.1 S.2.1 dL_isSo_411 rfl (fun h176 => ?_) (fun h176 => ?_)
                                                      · skip
                                                        refine lv_iconst (v := (nI 0)) S.1 S.2.1 dL_isSo_418 (by decide) ?_
                                                        refine lv_iadd S.1 S.2.1 dL_isSo_419 ?_
                                                        refine lv_istore S.1 S.2.1 dL_isSo_420 hl (by decide) rfl (fun ls hl => ?_)
                                                        have hl : lv_has ls 15 [(4, .int ((rfAhd σ i) + (nI 0))), (7, .int (nI 1)), (5, .int ((lwAll σ n i) + (rfHrd σ n i))), (13, .int (nI (5 * pp))), (12, .int (rfHrd σ n i)), (11, .int (nI 1)), (10, .int (nf σ i 4)), (9, .int (nI 2)), (8, .int (nI i)), (3, .int (rfSum σ n)), (6, .ref s.heap.size), (0, .ref B), (1, .ref a), (2, .ref b)] := hl
                                                        refine lv_iinc (k := 8) (v := (nI (i + 1))) S.1 S.2.1 dL_isSo_422 hl rfl (iincP i 1) (by decide) rfl (fun ls hl => ?_)
                                                        have hl : lv_has ls 15 [(8, .int (nI (i + 1))), (4, .int ((rfAhd σ i) + (nI 0))), (7, .int (nI 1)), (5, .int ((lwAll σ n i) + (rfHrd σ n i))), (13, .int (nI (5 * pp))), (12, .int (rfHrd σ n i)), (11, .int (nI 1)), (10, .int (nf σ i 4)), (9, .int (nI 2)), (3, .int (rfSum σ n)), (6, .ref s.heap.size), (0, .ref B), (1, .ref a), (2, .ref b)] := hl
                                                        refine lv_goto (tgt := 24) S.1 S.2.1 dL_isSo_425 rfl ?_
                                                        have hl : lv_has ls 15 [(8, .int (nI (i + 1))), (4, .int (rfAhd σ (i + 1))), (5, .int (lwAll σ n (i + 1))), (7, .int (nI 1)), (3, .int (rfSum σ n)), (6, .ref s.heap.size), (0, .ref B), (1, .ref a), (2, .ref b)] := by
                                                          rw [show (rfAhd σ (i + 1)) = ((rfAhd σ i) + (nI 0)) from by first | rw [rfAhd, if_pos f0] | rw [rfAhd, if_neg f0] | rw [lwAll, if_pos fVo] | rw [lwAll, if_neg fVo]]
                                                          rw [show (lwAll σ n (i + 1)) = ((lwAll σ n i) + (rfHrd σ n i)) from by first | rw [rfAhd, if_pos f0] | rw [rfAhd, if_neg f0] | rw [lwAll, if_pos fVo] | rw [lwAll, if_neg fVo]]
                                                          exact lv_sub hl [0, 1, 3, 2, 9, 10, 11, 12, 13] rfl
                                                        exact ih24 _ (by omega) (i + 1) (upd (upd (upd (upd (upd f (5 * pp) ((f (5 * pp)) + (nI 1))) ((5 * pp) + 1) ((f ((5 * pp) + 1)) + (nI 0))) ((5 * pp) + 2) ((f ((5 * pp) + 2)) + (nf σ i 4))) ((5 * pp) + 3) ((f ((5 * pp) + 3)) + (rfHrd σ n i))) ((5 * pp) + 4) ((f ((5 * pp) + 4)) + (nI 0))) _ _ ls rfl (by omega) (pa_step hPA hpp e0 (by first | rw [if_pos fPl] | rw [if_neg fPl]) (by first | rw [if_pos f5] | rw [if_neg f5]) (by first | rw [if_pos fVo] | rw [if_neg fVo]) (by first | rw [if_pos fVo] | rw [if_neg fVo]) (by first | rw [if_pos f0] | rw [if_neg f0])) (hB) (hg) (hc) (hp) (hS) (lv_sub hl [0, 1, 2, 3, 4, 5, 6, 7, 8] rfl)
                                                      · exact absurd h176 (by decide)
                                                · exact absurd h173 (by decide)
                          · exact absurd h162 (by decide)
                    · exact absurd h159 (by decide)
          · refine x_top (y := (nI 3)) ex ?_
            have fPl : rfPl σ i := by first | exact ex | (unfold rfPl; rw [ex]; decide)
            have fVo : rfVo σ i := by first | exact ex | (unfold rfVo; rw [ex]; decide)
            have f5 : ¬ nf σ i 3 = nI 5 := by first | exact ex | (rw [ex]; decide)
            have f0 : ¬ nf σ i 3 = 0 := by first | exact ex | (rw [ex]; decide)
            refine lv_istore S.1 S.2.1 dL_isSo_44 hl (by decide) rfl (fun ls hl => ?_)
            have hl : lv_has ls 15 [(9, .int (nI 3)), (8, .int (nI i)), (4, .int (rfAhd σ i)), (5, .int (lwAll σ n i)), (7, .int (nI 1)), (3, .int (rfSum σ n)), (6, .ref s.heap.size), (0, .ref B), (1, .ref a), (2, .ref b)] := hl
            refine lv_aload_n S.1 S.2.1 dL_isSo_46 rfl (lv_at hl 9 rfl) ?_
            refine lv_iload S.1 S.2.1 dL_isSo_47 (lv_at hl 1 rfl) ?_
            refine x_lald S hE hEL (hc) i rfl (by omega) (by decide) dL_isSo_49 ?_
            refine xk_R (v := (fld 4 (κ i))) (x_runS (As := [.long (κ i)]) (rest := []) S hE hS (fun _ h => h.elim) (c_L_level l E (κ i) _) kv_L_level kw7_15 kw7_16 ⟨Nat.le_of_ble_eq_true rfl, Nat.le_of_ble_eq_true rfl⟩ rfl rfl rfl hl.1 rfl (Nat.le_of_ble_eq_true rfl) dL_isSo_50 ⟨(Nat.le_of_ble_eq_true rfl), (Nat.le_of_ble_eq_true rfl)⟩) ?_
            refine x_top (y := (nf σ i 4)) ((hU i 4 (by omega) (by decide)).symm) ?_
            refine lv_istore S.1 S.2.1 dL_isSo_53 hl (by decide) rfl (fun ls hl => ?_)
            have hl : lv_has ls 15 [(10, .int (nf σ i 4)), (9, .int (nI 3)), (8, .int (nI i)), (4, .int (rfAhd σ i)), (5, .int (lwAll σ n i)), (7, .int (nI 1)), (3, .int (rfSum σ n)), (6, .ref s.heap.size), (0, .ref B), (1, .ref a), (2, .ref b)] := hl
            refine lv_iload S.1 S.2.1 dL_isSo_55 (lv_at hl 1 rfl) ?_
            refine lv_if_le (tgt := 71) S.1 S.2.1 dL_isSo_57 rfl (fun h177 => ?_) (fun h177 => ?_)
            · exact absurd h177 (by decide)
            · skip
              refine lv_iload S.1 S.2.1 dL_isSo_60 (lv_at hl 1 rfl) ?_
              refine lv_bipush (v := (nI 6)) S.1 S.2.1 dL_isSo_62 (by decide) ?_
              refine lv_icmp_ge (tgt := 71) S.1 S.2.1 dL_isSo_64 rfl (fun h178 => ?_) (fun h178 => ?_)
              · exact absurd h178 (by decide)
              · skip
                refine lv_iconst (v := (nI 1)) S.1 S.2.1 dL_isSo_67 (by decide) ?_
                refine lv_goto (tgt := 72) S.1 S.2.1 dL_isSo_68 rfl ?_
                refine lv_istore S.1 S.2.1 dL_isSo_72 hl (by decide) rfl (fun ls hl => ?_)
                have hl : lv_has ls 15 [(11, .int (nI 1)), (10, .int (nf σ i 4)), (9, .int (nI 3)), (8, .int (nI i)), (4, .int (rfAhd σ i)), (5, .int (lwAll σ n i)), (7, .int (nI 1)), (3, .int (rfSum σ n)), (6, .ref s.heap.size), (0, .ref B), (1, .ref a), (2, .ref b)] := hl
                refine lv_iload_n S.1 S.2.1 dL_isSo_74 rfl (lv_at hl 7 rfl) ?_
                refine lv_aload_n S.1 S.2.1 dL_isSo_75 rfl (lv_at hl 10 rfl) ?_
                refine lv_bipush (v := (nI 8)) S.1 S.2.1 dL_isSo_76 (by decide) ?_
                refine x_iald S hE (hg) 8 rfl (by decide) (by decide) dL_isSo_78 ?_
                refine lv_icmp_gt (tgt := 87) S.1 S.2.1 dL_isSo_79 rfl (fun h179 => ?_) (fun h179 => ?_)
                · skip
                  refine lv_iload S.1 S.2.1 dL_isSo_87 (lv_at hl 1 rfl) ?_
                  refine lv_aload_n S.1 S.2.1 dL_isSo_89 rfl (lv_at hl 10 rfl) ?_
                  refine lv_bipush (v := (nI 8)) S.1 S.2.1 dL_isSo_90 (by decide) ?_
                  refine x_iald S hE (hg) 8 rfl (by decide) (by decide) dL_isSo_92 ?_
                  refine lv_imul S.1 S.2.1 dL_isSo_93 ?_
                  refine lv_iload_n S.1 S.2.1 dL_isSo_94 rfl (lv_at hl 7 rfl) ?_
                  refine lv_idiv S.1 S.2.1 dL_isSo_95 (nz_of h8 h179) ?_
                  refine x_top (y := (rfHrd σ n i)) (by rw [rfHrd]; first | rw [if_pos (Int32.not_lt.mp h179)] | rw [if_neg (Int32.not_le.mpr h179)]) ?_
                  refine lv_istore S.1 S.2.1 dL_isSo_96 hl (by decide) rfl (fun ls hl => ?_)
                  have hl : lv_has ls 15 [(12, .int (rfHrd σ n i)), (11, .int (nI 1)), (10, .int (nf σ i 4)), (9, .int (nI 3)), (8, .int (nI i)), (4, .int (rfAhd σ i)), (5, .int (lwAll σ n i)), (7, .int (nI 1)), (3, .int (rfSum σ n)), (6, .ref s.heap.size), (0, .ref B), (1, .ref a), (2, .ref b)] := hl
                  refine lv_iconst (v := (nI 5)) S.1 S.2.1 dL_isSo_98 (by decide) ?_
                  refine lv_aload_n S.1 S.2.1 dL_isSo_99 rfl (lv_at hl 12 rfl) ?_
                  refine lv_iload S.1 S.2.1 dL_isSo_100 (lv_at hl 4 rfl) ?_
                  refine x_lald S hE hEL (hc) i rfl (by omega) (by decide) dL_isSo_102 ?_
                  refine lv_iconst (v := (nI 0)) S.1 S.2.1 dL_isSo_103 (by decide) ?_
                  refine lv_iconst (v := (nI 2)) S.1 S.2.1 dL_isSo_104 (by decide) ?_
                  refine xk_R (v := (lwG (κ i) (nI 0) (nI 2))) (x_runS (As := [.long (κ i), .int (nI 0), .int (nI 2)]) (rest := [.int (nI 5)]) S hE hS (fun _ h => h.elim) (c_L_get l E (κ i) (nI 0) (nI 2) _) kv_L_get kw7_12 kw7_13 ⟨Nat.le_of_ble_eq_true rfl, Nat.le_of_ble_eq_true rfl⟩ rfl rfl rfl hl.1 rfl (Nat.le_of_ble_eq_true rfl) dL_isSo_105 ⟨(Nat.le_of_ble_eq_true rfl), (Nat.le_of_ble_eq_true rfl)⟩) ?_
                  refine x_top (y := (nf σ i 0)) ((lwG_eq _ (by decide) (by decide)).trans ((hU i 0 (by omega) (by decide)).symm)) ?_
                  refine x_top (y := (nI pp)) (e0) ?_
                  refine lv_imul S.1 S.2.1 dL_isSo_108 ?_
                  refine x_top (y := (nI (5 * pp))) (pk_mul 5 pp) ?_
                  refine lv_istore S.1 S.2.1 dL_isSo_109 hl (by decide) rfl (fun ls hl => ?_)
                  have hl : lv_has ls 15 [(13, .int (nI (5 * pp))), (12, .int (rfHrd σ n i)), (11, .int (nI 1)), (10, .int (nf σ i 4)), (9, .int (nI 3)), (8, .int (nI i)), (4, .int (rfAhd σ i)), (5, .int (lwAll σ n i)), (7, .int (nI 1)), (3, .int (rfSum σ n)), (6, .ref s.heap.size), (0, .ref B), (1, .ref a), (2, .ref b)] := hl
                  refine lv_aload S.1 S.2.1 dL_isSo_111 (lv_at hl 10 rfl) ?_
                  refine lv_iload S.1 S.2.1 dL_isSo_113 (lv_at hl 0 rfl) ?_
                  refine lv_dup2_11 S.1 S.2.1 dL_isSo_115 rfl rfl ?_
                  refine x_iald S hE (hp) (5 * pp) rfl (by omega) (by decide) dL_isSo_116 ?_
                  refine lv_aload_n S.1 S.2.1 dL_isSo_117 rfl (lv_at hl 13 rfl) ?_
                  refine lv_iload S.1 S.2.1 dL_isSo_118 (lv_at hl 5 rfl) ?_
                  refine x_lald S hE hEL (hc) i rfl (by omega) (by decide) dL_isSo_120 ?_
                  refine xk_R (v := (bI (nI 1 ≤ fld 3 (κ i) ∧ fld 3 (κ i) ≤ nI 4))) (x_runS (As := [.long (κ i)]) (rest := [.int (f (5 * pp)), .int (nI (5 * pp)), .ref s.heap.size]) S hE hS (fun _ h => h.elim) (c_L_placed l E (κ i) _) kv_L_placed kw7_18 kw7_19 ⟨Nat.le_of_ble_eq_true rfl, Nat.le_of_ble_eq_true rfl⟩ rfl rfl rfl hl.1 rfl (Nat.le_of_ble_eq_true rfl) dL_isSo_121 ⟨(Nat.le_of_ble_eq_true rfl), (Nat.le_of_ble_eq_true rfl)⟩) ?_
                  refine x_top (y := (nI 1)) ((bI_iff (by show _ ↔ (nI 1 ≤ nf σ i 3 ∧ nf σ i 3 ≤ nI 4); rw [hU i 3 (by omega) (by decide)])).trans (bI_t fPl).symm) ?_
                  refine lv_if_eq (tgt := 131) S.1 S.2.1 dL_isSo_124 rfl (fun h180 => ?_) (fun h180 => ?_)
                  · exact absurd h180 (by decide)
                  · skip
                    refine lv_iconst (v := (nI 1)) S.1 S.2.1 dL_isSo_127 (by decide) ?_
                    refine lv_goto (tgt := 132) S.1 S.2.1 dL_isSo_128 rfl ?_
                    refine lv_iadd S.1 S.2.1 dL_isSo_132 ?_
                    refine x_iast S hE hS (Or.inr (Nat.le_refl _)) (hp) (5 * pp) rfl (by omega) (by decide) dL_isSo_133 (fun H locs hX hO1 hS => ?_)
                    have hg := va_at.kept hg (hO1.2 a (Nat.ne_of_lt haz))
                    have hc := va_at.kept hc (hO1.2 b (Nat.ne_of_lt hbz))
                    have hB := hB.fr (fun q z => hO1.2 q (by have := z.2; omega))
                    have hp := hX
                    refine lv_aload S.1 S.2.1 dL_isSo_134 (lv_at hl 10 rfl) ?_
                    refine lv_iload S.1 S.2.1 dL_isSo_136 (lv_at hl 0 rfl) ?_
                    refine lv_iconst (v := (nI 1)) S.1 S.2.1 dL_isSo_138 (by decide) ?_
                    refine lv_iadd S.1 S.2.1 dL_isSo_139 ?_
                    refine x_top (y := (nI ((5 * pp) + 1))) (nI_add (5 * pp) 1) ?_
                    refine lv_dup2_11 S.1 S.2.1 dL_isSo_140 rfl rfl ?_
                    refine x_iald S hE (hp) ((5 * pp) + 1) rfl (by omega) (by decide) dL_isSo_141 ?_
                    refine x_top (y := (f ((5 * pp) + 1))) (pk_un (by omega)) ?_
                    refine lv_iload S.1 S.2.1 dL_isSo_142 (lv_at hl 4 rfl) ?_
                    refine lv_iconst (v := (nI 5)) S.1 S.2.1 dL_isSo_144 (by decide) ?_
                    refine lv_icmp_ne (tgt := 152) S.1 S.2.1 dL_isSo_145 rfl (fun h181 => ?_) (fun h181 => ?_)
                    · skip
                      refine lv_iconst (v := (nI 0)) S.1 S.2.1 dL_isSo_152 (by decide) ?_
                      refine lv_iadd S.1 S.2.1 dL_isSo_153 ?_
                      refine x_iast S hE hS (Or.inr (Nat.le_refl _)) (hp) ((5 * pp) + 1) rfl (by omega) (by decide) dL_isSo_154 (fun H locs hX hO1 hS => ?_)
                      have hg := va_at.kept hg (hO1.2 a (Nat.ne_of_lt haz))
                      have hc := va_at.kept hc (hO1.2 b (Nat.ne_of_lt hbz))
                      have hB := hB.fr (fun q z => hO1.2 q (by have := z.2; omega))
                      have hp := hX
                      refine lv_aload S.1 S.2.1 dL_isSo_155 (lv_at hl 10 rfl) ?_
                      refine lv_iload S.1 S.2.1 dL_isSo_157 (lv_at hl 0 rfl) ?_
                      refine lv_iconst (v := (nI 2)) S.1 S.2.1 dL_isSo_159 (by decide) ?_
                      refine lv_iadd S.1 S.2.1 dL_isSo_160 ?_
                      refine x_top (y := (nI ((5 * pp) + 2))) (nI_add (5 * pp) 2) ?_
                      refine lv_dup2_11 S.1 S.2.1 dL_isSo_161 rfl rfl ?_
                      refine x_iald S hE (hp) ((5 * pp) + 2) rfl (by omega) (by decide) dL_isSo_162 ?_
                      refine x_top (y := (f ((5 * pp) + 2))) ((pk_un (by omega)).trans (pk_un (by omega))) ?_
                      refine lv_iload S.1 S.2.1 dL_isSo_163 (lv_at hl 2 rfl) ?_
                      refine lv_if_eq (tgt := 173) S.1 S.2.1 dL_isSo_165 rfl (fun h182 => ?_) (fun h182 => ?_)
                      · exact absurd h182 (by decide)
                      · skip
                        refine lv_iload S.1 S.2.1 dL_isSo_168 (lv_at hl 3 rfl) ?_
                        refine lv_goto (tgt := 174) S.1 S.2.1 dL_isSo_170 rfl ?_
                        refine lv_iadd S.1 S.2.1 dL_isSo_174 ?_
                        refine x_iast S hE hS (Or.inr (Nat.le_refl _)) (hp) ((5 * pp) + 2) rfl (by omega) (by decide) dL_isSo_175 (fun H locs hX hO1 hS => ?_)
                        have hg := va_at.kept hg (hO1.2 a (Nat.ne_of_lt haz))
                        have hc := va_at.kept hc (hO1.2 b (Nat.ne_of_lt hbz))
                        have hB := hB.fr (fun q z => hO1.2 q (by have := z.2; omega))
                        have hp := hX
                        refine lv_aload S.1 S.2.1 dL_isSo_176 (lv_at hl 10 rfl) ?_
                        refine lv_iload S.1 S.2.1 dL_isSo_178 (lv_at hl 0 rfl) ?_
                        refine lv_iconst (v := (nI 3)) S.1 S.2.1 dL_isSo_180 (by decide) ?_
                        refine lv_iadd S.1 S.2.1 dL_isSo_181 ?_
                        refine x_top (y := (nI ((5 * pp) + 3))) (nI_add (5 * pp) 3) ?_
                        refine lv_dup2_11 S.1 S.2.1 dL_isSo_182 rfl rfl ?_
                        refine x_iald S hE (hp) ((5 * pp) + 3) rfl (by omega) (by decide) dL_isSo_183 ?_
                        refine x_top (y := (f ((5 * pp) + 3))) ((pk_un (by omega)).trans ((pk_un (by omega)).trans (pk_un (by omega)))) ?_
                        refine lv_iload S.1 S.2.1 dL_isSo_184 (lv_at hl 2 rfl) ?_
                        refine lv_if_eq (tgt := 194) S.1 S.2.1 dL_isSo_186 rfl (fun h183 => ?_) (fun h183 => ?_)
                        · exact absurd h183 (by decide)
                        · skip
                          refine lv_iload S.1 S.2.1 dL_isSo_189 (lv_at hl 1 rfl) ?_
                          refine lv_goto (tgt := 195) S.1 S.2.1 dL_isSo_191 rfl ?_
                          refine lv_iadd S.1 S.2.1 dL_isSo_195 ?_
                          refine x_iast S hE hS (Or.inr (Nat.le_refl _)) (hp) ((5 * pp) + 3) rfl (by omega) (by decide) dL_isSo_196 (fun H locs hX hO1 hS => ?_)
                          have hg := va_at.kept hg (hO1.2 a (Nat.ne_of_lt haz))
                          have hc := va_at.kept hc (hO1.2 b (Nat.ne_of_lt hbz))
                          have hB := hB.fr (fun q z => hO1.2 q (by have := z.2; omega))
                          have hp := hX
                          refine lv_aload S.1 S.2.1 dL_isSo_197 (lv_at hl 10 rfl) ?_
                          refine lv_iload S.1 S.2.1 dL_isSo_199 (lv_at hl 0 rfl) ?_
                          refine lv_iconst (v := (nI 4)) S.1 S.2.1 dL_isSo_201 (by decide) ?_
                          refine lv_iadd S.1 S.2.1 dL_isSo_202 ?_
                          refine x_top (y := (nI ((5 * pp) + 4))) (nI_add (5 * pp) 4) ?_
                          refine lv_dup2_11 S.1 S.2.1 dL_isSo_203 rfl rfl ?_
                          refine x_iald S hE (hp) ((5 * pp) + 4) rfl (by omega) (by decide) dL_isSo_204 ?_
                          refine x_top (y := (f ((5 * pp) + 4))) ((pk_un (by omega)).trans ((pk_un (by omega)).trans ((pk_un (by omega)).trans (pk_un (by omega))))) ?_
                          refine lv_iload S.1 S.2.1 dL_isSo_205 (lv_at hl 4 rfl) ?_
                          refine lv_if_ne (tgt := 214) S.1 S.2.1 dL_isSo_207 rfl (fun h184 => ?_) (fun h184 => ?_)
                          · skip
                            refine lv_iconst (v := (nI 0)) S.1 S.2.1 dL_isSo_214 (by decide) ?_
                            refine lv_iadd S.1 S.2.1 dL_isSo_215 ?_
                            refine x_iast S hE hS (Or.inr (Nat.le_refl _)) (hp) ((5 * pp) + 4) rfl (by omega) (by decide) dL_isSo_216 (fun H locs hX hO1 hS => ?_)
                            have hg := va_at.kept hg (hO1.2 a (Nat.ne_of_lt haz))
                            have hc := va_at.kept hc (hO1.2 b (Nat.ne_of_lt hbz))
                            have hB := hB.fr (fun q z => hO1.2 q (by have := z.2; omega))
                            have hp := hX
                            refine lv_iload S.1 S.2.1 dL_isSo_217 (lv_at hl 7 rfl) ?_
                            refine lv_iload S.1 S.2.1 dL_isSo_219 (lv_at hl 2 rfl) ?_
                            refine lv_if_eq (tgt := 229) S.1 S.2.1 dL_isSo_221 rfl (fun h185 => ?_) (fun h185 => ?_)
                            · exact absurd h185 (by decide)
                            · skip
                              refine lv_iload S.1 S.2.1 dL_isSo_224 (lv_at hl 1 rfl) ?_
                              refine lv_goto (tgt := 230) S.1 S.2.1 dL_isSo_226 rfl ?_
                              refine lv_iadd S.1 S.2.1 dL_isSo_230 ?_
                              refine lv_istore S.1 S.2.1 dL_isSo_231 hl (by decide) rfl (fun ls hl => ?_)
                              have hl : lv_has ls 15 [(5, .int ((lwAll σ n i) + (rfHrd σ n i))), (13, .int (nI (5 * pp))), (12, .int (rfHrd σ n i)), (11, .int (nI 1)), (10, .int (nf σ i 4)), (9, .int (nI 3)), (8, .int (nI i)), (4, .int (rfAhd σ i)), (7, .int (nI 1)), (3, .int (rfSum σ n)), (6, .ref s.heap.size), (0, .ref B), (1, .ref a), (2, .ref b)] := hl
                              refine lv_aload_n S.1 S.2.1 dL_isSo_233 rfl (lv_at hl 11 rfl) ?_
                              refine lv_iload S.1 S.2.1 dL_isSo_234 (lv_at hl 6 rfl) ?_
                              refine lv_iconst (v := (nI 0)) S.1 S.2.1 dL_isSo_236 (by decide) ?_
                              refine xk_R (v := (bxNote β.1 (nI i) (nI 0))) (x_runV (As := [.int (nI i), .int (nI 0)]) (rest := []) S hE hS (fun _ h => h.elim) (c_X7_noteOf l E B β (nI i) (nI 0) _ hB) kv_X7_noteOf kw7_21 kw7_22 kw7_23 (x_recv hE (hB.1) (ci := 7) rfl) ⟨Nat.le_of_ble_eq_true rfl, Nat.le_of_ble_eq_true rfl⟩ rfl rfl rfl hl.1 rfl (Nat.le_of_ble_eq_true rfl) dL_isSo_237 ⟨(Nat.le_of_ble_eq_true rfl), (Nat.le_of_ble_eq_true rfl)⟩) ?_
                              refine x_top (y := (nI ((5 * pp) / 5))) ((nt_0 hT hlt).trans (e0.trans (congrArg nI (by omega)))) ?_
                              refine lv_iload S.1 S.2.1 dL_isSo_240 (lv_at hl 1 rfl) ?_
                              refine lv_iconst (v := (nI 5)) S.1 S.2.1 dL_isSo_242 (by decide) ?_
                              refine lv_idiv S.1 S.2.1 dL_isSo_243 (by decide) ?_
                              refine x_top (y := (nI ((5 * pp) / 5))) (pk_div (by omega) (by decide) (by decide)) ?_
                              refine lv_icmp_ne (tgt := 404) S.1 S.2.1 dL_isSo_244 rfl (fun h186 => ?_) (fun h186 => ?_)
                              · exact absurd rfl h186
                              · skip
                                refine lv_aload_n S.1 S.2.1 dL_isSo_247 rfl (lv_at hl 11 rfl) ?_
                                refine lv_iload S.1 S.2.1 dL_isSo_248 (lv_at hl 6 rfl) ?_
                                refine lv_iconst (v := (nI 1)) S.1 S.2.1 dL_isSo_250 (by decide) ?_
                                refine xk_R (v := (bxNote β.1 (nI i) (nI 1))) (x_runV (As := [.int (nI i), .int (nI 1)]) (rest := []) S hE hS (fun _ h => h.elim) (c_X7_noteOf l E B β (nI i) (nI 1) _ hB) kv_X7_noteOf kw7_21 kw7_22 kw7_23 (x_recv hE (hB.1) (ci := 7) rfl) ⟨Nat.le_of_ble_eq_true rfl, Nat.le_of_ble_eq_true rfl⟩ rfl rfl rfl hl.1 rfl (Nat.le_of_ble_eq_true rfl) dL_isSo_251 ⟨(Nat.le_of_ble_eq_true rfl), (Nat.le_of_ble_eq_true rfl)⟩) ?_
                                refine x_top (y := (nf σ i 1)) (nt_1 hT hlt) ?_
                                refine lv_aload_n S.1 S.2.1 dL_isSo_254 rfl (lv_at hl 13 rfl) ?_
                                refine lv_iload S.1 S.2.1 dL_isSo_255 (lv_at hl 6 rfl) ?_
                                refine x_lald S hE hEL (hc) i rfl (by omega) (by decide) dL_isSo_257 ?_
                                refine lv_iconst (v := (nI 2)) S.1 S.2.1 dL_isSo_258 (by decide) ?_
                                refine lv_bipush (v := (nI 7)) S.1 S.2.1 dL_isSo_259 (by decide) ?_
                                refine xk_R (v := (lwG (κ i) (nI 2) (nI 7))) (x_runS (As := [.long (κ i), .int (nI 2), .int (nI 7)]) (rest := [.int (nf σ i 1)]) S hE hS (fun _ h => h.elim) (c_L_get l E (κ i) (nI 2) (nI 7) _) kv_L_get kw7_12 kw7_13 ⟨Nat.le_of_ble_eq_true rfl, Nat.le_of_ble_eq_true rfl⟩ rfl rfl rfl hl.1 rfl (Nat.le_of_ble_eq_true rfl) dL_isSo_261 ⟨(Nat.le_of_ble_eq_true rfl), (Nat.le_of_ble_eq_true rfl)⟩) ?_
                                refine x_top (y := (nf σ i 1)) ((lwG_eq _ (by decide) (by decide)).trans ((hU i 1 (by omega) (by decide)).symm)) ?_
                                refine lv_icmp_ne (tgt := 404) S.1 S.2.1 dL_isSo_264 rfl (fun h187 => ?_) (fun h187 => ?_)
                                · exact absurd rfl h187
                                · skip
                                  refine lv_aload_n S.1 S.2.1 dL_isSo_267 rfl (lv_at hl 11 rfl) ?_
                                  refine lv_iload S.1 S.2.1 dL_isSo_268 (lv_at hl 6 rfl) ?_
                                  refine lv_iconst (v := (nI 2)) S.1 S.2.1 dL_isSo_270 (by decide) ?_
                                  refine xk_R (v := (bxNote β.1 (nI i) (nI 2))) (x_runV (As := [.int (nI i), .int (nI 2)]) (rest := []) S hE hS (fun _ h => h.elim) (c_X7_noteOf l E B β (nI i) (nI 2) _ hB) kv_X7_noteOf kw7_21 kw7_22 kw7_23 (x_recv hE (hB.1) (ci := 7) rfl) ⟨Nat.le_of_ble_eq_true rfl, Nat.le_of_ble_eq_true rfl⟩ rfl rfl rfl hl.1 rfl (Nat.le_of_ble_eq_true rfl) dL_isSo_271 ⟨(Nat.le_of_ble_eq_true rfl), (Nat.le_of_ble_eq_true rfl)⟩) ?_
                                  refine x_top (y := (nf σ i 2)) (nt_2 hT hlt) ?_
                                  refine lv_aload_n S.1 S.2.1 dL_isSo_274 rfl (lv_at hl 13 rfl) ?_
                                  refine lv_iload S.1 S.2.1 dL_isSo_275 (lv_at hl 6 rfl) ?_
                                  refine x_lald S hE hEL (hc) i rfl (by omega) (by decide) dL_isSo_277 ?_
                                  refine lv_bipush (v := (nI 9)) S.1 S.2.1 dL_isSo_278 (by decide) ?_
                                  refine lv_bipush (v := (nI 7)) S.1 S.2.1 dL_isSo_280 (by decide) ?_
                                  refine xk_R (v := (lwG (κ i) (nI 9) (nI 7))) (x_runS (As := [.long (κ i), .int (nI 9), .int (nI 7)]) (rest := [.int (nf σ i 2)]) S hE hS (fun _ h => h.elim) (c_L_get l E (κ i) (nI 9) (nI 7) _) kv_L_get kw7_12 kw7_13 ⟨Nat.le_of_ble_eq_true rfl, Nat.le_of_ble_eq_true rfl⟩ rfl rfl rfl hl.1 rfl (Nat.le_of_ble_eq_true rfl) dL_isSo_282 ⟨(Nat.le_of_ble_eq_true rfl), (Nat.le_of_ble_eq_true rfl)⟩) ?_
                                  refine x_top (y := (nf σ i 2)) ((lwG_eq _ (by decide) (by decide)).trans ((hU i 2 (by omega) (by decide)).symm)) ?_
                                  refine lv_icmp_ne (tgt := 404) S.1 S.2.1 dL_isSo_285 rfl (fun h188 => ?_) (fun h188 => ?_)
                                  · exact absurd rfl h188
                                  · skip
                                    refine lv_aload_n S.1 S.2.1 dL_isSo_288 rfl (lv_at hl 11 rfl) ?_
                                    refine lv_iload S.1 S.2.1 dL_isSo_289 (lv_at hl 6 rfl) ?_
                                    refine lv_iconst (v := (nI 3)) S.1 S.2.1 dL_isSo_291 (by decide) ?_
                                    refine xk_R (v := (bxNote β.1 (nI i) (nI 3))) (x_runV (As := [.int (nI i), .int (nI 3)]) (rest := []) S hE hS (fun _ h => h.elim) (c_X7_noteOf l E B β (nI i) (nI 3) _ hB) kv_X7_noteOf kw7_21 kw7_22 kw7_23 (x_recv hE (hB.1) (ci := 7) rfl) ⟨Nat.le_of_ble_eq_true rfl, Nat.le_of_ble_eq_true rfl⟩ rfl rfl rfl hl.1 rfl (Nat.le_of_ble_eq_true rfl) dL_isSo_292 ⟨(Nat.le_of_ble_eq_true rfl), (Nat.le_of_ble_eq_true rfl)⟩) ?_
                                    refine x_top (y := (nI 3)) ((nt_3 hT hlt).trans ex) ?_
                                    refine lv_iload S.1 S.2.1 dL_isSo_295 (lv_at hl 5 rfl) ?_
                                    refine lv_icmp_ne (tgt := 404) S.1 S.2.1 dL_isSo_297 rfl (fun h189 => ?_) (fun h189 => ?_)
                                    · exact absurd h189 (by decide)
                                    · skip
                                      refine lv_aload_n S.1 S.2.1 dL_isSo_300 rfl (lv_at hl 11 rfl) ?_
                                      refine lv_iload S.1 S.2.1 dL_isSo_301 (lv_at hl 6 rfl) ?_
                                      refine lv_iconst (v := (nI 4)) S.1 S.2.1 dL_isSo_303 (by decide) ?_
                                      refine xk_R (v := (bxNote β.1 (nI i) (nI 4))) (x_runV (As := [.int (nI i), .int (nI 4)]) (rest := []) S hE hS (fun _ h => h.elim) (c_X7_noteOf l E B β (nI i) (nI 4) _ hB) kv_X7_noteOf kw7_21 kw7_22 kw7_23 (x_recv hE (hB.1) (ci := 7) rfl) ⟨Nat.le_of_ble_eq_true rfl, Nat.le_of_ble_eq_true rfl⟩ rfl rfl rfl hl.1 rfl (Nat.le_of_ble_eq_true rfl) dL_isSo_304 ⟨(Nat.le_of_ble_eq_true rfl), (Nat.le_of_ble_eq_true rfl)⟩) ?_
                                      refine x_top (y := (nf σ i 4)) ((nt_4 hT hlt).trans (if_pos fVo)) ?_
                                      refine lv_iload S.1 S.2.1 dL_isSo_307 (lv_at hl 3 rfl) ?_
                                      refine lv_if_eq (tgt := 317) S.1 S.2.1 dL_isSo_309 rfl (fun h190 => ?_) (fun h190 => ?_)
                                      · exact absurd h190 (by decide)
                                      · skip
                                        refine lv_iload S.1 S.2.1 dL_isSo_312 (lv_at hl 4 rfl) ?_
                                        refine lv_goto (tgt := 319) S.1 S.2.1 dL_isSo_314 rfl ?_
                                        refine lv_icmp_ne (tgt := 404) S.1 S.2.1 dL_isSo_319 rfl (fun h191 => ?_) (fun h191 => ?_)
                                        · exact absurd rfl h191
                                        · skip
                                          refine lv_aload_n S.1 S.2.1 dL_isSo_322 rfl (lv_at hl 11 rfl) ?_
                                          refine lv_iload S.1 S.2.1 dL_isSo_323 (lv_at hl 6 rfl) ?_
                                          refine lv_iconst (v := (nI 5)) S.1 S.2.1 dL_isSo_325 (by decide) ?_
                                          refine xk_R (v := (bxNote β.1 (nI i) (nI 5))) (x_runV (As := [.int (nI i), .int (nI 5)]) (rest := []) S hE hS (fun _ h => h.elim) (c_X7_noteOf l E B β (nI i) (nI 5) _ hB) kv_X7_noteOf kw7_21 kw7_22 kw7_23 (x_recv hE (hB.1) (ci := 7) rfl) ⟨Nat.le_of_ble_eq_true rfl, Nat.le_of_ble_eq_true rfl⟩ rfl rfl rfl hl.1 rfl (Nat.le_of_ble_eq_true rfl) dL_isSo_326 ⟨(Nat.le_of_ble_eq_true rfl), (Nat.le_of_ble_eq_true rfl)⟩) ?_
                                          refine x_top (y := (rfHrd σ n i)) ((nt_5 hT hlt).trans (if_pos fVo)) ?_
                                          refine lv_iload S.1 S.2.1 dL_isSo_329 (lv_at hl 3 rfl) ?_
                                          refine lv_if_eq (tgt := 339) S.1 S.2.1 dL_isSo_331 rfl (fun h192 => ?_) (fun h192 => ?_)
                                          · exact absurd h192 (by decide)
                                          · skip
                                            refine lv_iload S.1 S.2.1 dL_isSo_334 (lv_at hl 2 rfl) ?_
                                            refine lv_goto (tgt := 341) S.1 S.2.1 dL_isSo_336 rfl ?_
                                            refine lv_icmp_ne (tgt := 404) S.1 S.2.1 dL_isSo_341 rfl (fun h193 => ?_) (fun h193 => ?_)
                                            · exact absurd rfl h193
                                            · skip
                                              refine lv_aload_n S.1 S.2.1 dL_isSo_344 rfl (lv_at hl 11 rfl) ?_
                                              refine lv_iload S.1 S.2.1 dL_isSo_345 (lv_at hl 6 rfl) ?_
                                              refine lv_bipush (v := (nI 6)) S.1 S.2.1 dL_isSo_347 (by decide) ?_
                                              refine xk_R (v := (bxNote β.1 (nI i) (nI 6))) (x_runV (As := [.int (nI i), .int (nI 6)]) (rest := []) S hE hS (fun _ h => h.elim) (c_X7_noteOf l E B β (nI i) (nI 6) _ hB) kv_X7_noteOf kw7_21 kw7_22 kw7_23 (x_recv hE (hB.1) (ci := 7) rfl) ⟨Nat.le_of_ble_eq_true rfl, Nat.le_of_ble_eq_true rfl⟩ rfl rfl rfl hl.1 rfl (Nat.le_of_ble_eq_true rfl) dL_isSo_349 ⟨(Nat.le_of_ble_eq_true rfl), (Nat.le_of_ble_eq_true rfl)⟩) ?_
                                              refine x_top (y := (nf σ i 6)) (nt_6 hT hlt) ?_
                                              refine lv_aload_n S.1 S.2.1 dL_isSo_352 rfl (lv_at hl 13 rfl) ?_
                                              refine lv_iload S.1 S.2.1 dL_isSo_353 (lv_at hl 6 rfl) ?_
                                              refine x_lald S hE hEL (hc) i rfl (by omega) (by decide) dL_isSo_355 ?_
                                              refine lv_bipush (v := (nI 41)) S.1 S.2.1 dL_isSo_356 (by decide) ?_
                                              refine lv_iconst (v := (nI 1)) S.1 S.2.1 dL_isSo_358 (by decide) ?_
                                              refine xk_R (v := (lwG (κ i) (nI 41) (nI 1))) (x_runS (As := [.long (κ i), .int (nI 41), .int (nI 1)]) (rest := [.int (nf σ i 6)]) S hE hS (fun _ h => h.elim) (c_L_get l E (κ i) (nI 41) (nI 1) _) kv_L_get kw7_12 kw7_13 ⟨Nat.le_of_ble_eq_true rfl, Nat.le_of_ble_eq_true rfl⟩ rfl rfl rfl hl.1 rfl (Nat.le_of_ble_eq_true rfl) dL_isSo_359 ⟨(Nat.le_of_ble_eq_true rfl), (Nat.le_of_ble_eq_true rfl)⟩) ?_
                                              refine x_top (y := (nf σ i 6)) ((lwG_eq _ (by decide) (by decide)).trans ((hU i 6 (by omega) (by decide)).symm)) ?_
                                              refine lv_icmp_ne (tgt := 404) S.1 S.2.1 dL_isSo_362 rfl (fun h194 => ?_) (fun h194 => ?_)
                                              · exact absurd rfl h194
                                              · skip
                                                refine lv_aload_n S.1 S.2.1 dL_isSo_365 rfl (lv_at hl 11 rfl) ?_
                                                refine lv_iload S.1 S.2.1 dL_isSo_366 (lv_at hl 6 rfl) ?_
                                                refine lv_bipush (v := (nI 7)) S.1 S.2.1 dL_isSo_368 (by decide) ?_
                                                refine xk_R (v := (bxNote β.1 (nI i) (nI 7))) (x_runV (As := [.int (nI i), .int (nI 7)]) (rest := []) S hE hS (fun _ h => h.elim) (c_X7_noteOf l E B β (nI i) (nI 7) _ hB) kv_X7_noteOf kw7_21 kw7_22 kw7_23 (x_recv hE (hB.1) (ci := 7) rfl) ⟨Nat.le_of_ble_eq_true rfl, Nat.le_of_ble_eq_true rfl⟩ rfl rfl rfl hl.1 rfl (Nat.le_of_ble_eq_true rfl) dL_isSo_370 ⟨(Nat.le_of_ble_eq_true rfl), (Nat.le_of_ble_eq_true rfl)⟩) ?_
                                                refine x_top (y := (-4)) ((nt_7 hT hlt).trans (if_neg f0)) ?_
                                                refine lv_iload S.1 S.2.1 dL_isSo_373 (lv_at hl 5 rfl) ?_
                                                refine lv_if_ne (tgt := 383) S.1 S.2.1 dL_isSo_375 rfl (fun h195 => ?_) (fun h195 => ?_)
                                                · skip
                                                  refine lv_bipush (v := (-4)) S.1 S.2.1 dL_isSo_383 (by decide) ?_
                                                  refine lv_icmp_ne (tgt := 404) S.1 S.2.1 dL_isSo_385 rfl (fun h196 => ?_) (fun h196 => ?_)
                                                  · exact absurd h196 (by decide)
                                                  · skip
                                                    refine lv_aload_n S.1 S.2.1 dL_isSo_388 rfl (lv_at hl 11 rfl) ?_
                                                    refine lv_iload S.1 S.2.1 dL_isSo_389 (lv_at hl 6 rfl) ?_
                                                    refine lv_bipush (v := (nI 8)) S.1 S.2.1 dL_isSo_391 (by decide) ?_
                                                    refine xk_R (v := (bxNote β.1 (nI i) (nI 8))) (x_runV (As := [.int (nI i), .int (nI 8)]) (rest := []) S hE hS (fun _ h => h.elim) (c_X7_noteOf l E B β (nI i) (nI 8) _ hB) kv_X7_noteOf kw7_21 kw7_22 kw7_23 (x_recv hE (hB.1) (ci := 7) rfl) ⟨Nat.le_of_ble_eq_true rfl, Nat.le_of_ble_eq_true rfl⟩ rfl rfl rfl hl.1 rfl (Nat.le_of_ble_eq_true rfl) dL_isSo_393 ⟨(Nat.le_of_ble_eq_true rfl), (Nat.le_of_ble_eq_true rfl)⟩) ?_
                                                    refine x_top (y := (-1)) (nt_8 hT hlt) ?_
                                                    refine lv_iconst (v := (-1)) S.1 S.2.1 dL_isSo_396 (by decide) ?_
                                                    refine lv_icmp_ne (tgt := 404) S.1 S.2.1 dL_isSo_397 rfl (fun h197 => ?_) (fun h197 => ?_)
                                                    · exact absurd h197 (by decide)
                                                    · skip
                                                      refine lv_iconst (v := (nI 1)) S.1 S.2.1 dL_isSo_400 (by decide) ?_
                                                      refine lv_goto (tgt := 405) S.1 S.2.1 dL_isSo_401 rfl ?_
                                                      refine lv_istore S.1 S.2.1 dL_isSo_405 hl (by decide) rfl (fun ls hl => ?_)
                                                      have hl : lv_has ls 15 [(7, .int (nI 1)), (5, .int ((lwAll σ n i) + (rfHrd σ n i))), (13, .int (nI (5 * pp))), (12, .int (rfHrd σ n i)), (11, .int (nI 1)), (10, .int (nf σ i 4)), (9, .int (nI 3)), (8, .int (nI i)), (4, .int (rfAhd σ i)), (3, .int (rfSum σ n)), (6, .ref s.heap.size), (0, .ref B), (1, .ref a), (2, .ref b)] := hl
                                                      refine lv_iload S.1 S.2.1 dL_isSo_407 (lv_at hl 8 rfl) ?_
                                                      refine lv_iload S.1 S.2.1 dL_isSo_409 (lv_at hl 6 rfl) ?_
                                                      refine lv_if_ne (tgt := 418) S.1 S.2.1 dL_isSo_411 rfl (fun h198 => ?_) (fun h198 => ?_)
                                                      · skip
                                                        refine lv_iconst (v := (nI 0)) S.1 S.2.1 dL_isSo_418 (by decide) ?_
                                                        refine lv_iadd S.1 S.2.1 dL_isSo_419 ?_
                                                        refine lv_istore S.1 S.2.1 dL_isSo_420 hl (by decide) rfl (fun ls hl => ?_)
                                                        have hl : lv_has ls 15 [(4, .int ((rfAhd σ i) + (nI 0))), (7, .int (nI 1)), (5, .int ((lwAll σ n i) + (rfHrd σ n i))), (13, .int (nI (5 * pp))), (12, .int (rfHrd σ n i)), (11, .int (nI 1)), (10, .int (nf σ i 4)), (9, .int (nI 3)), (8, .int (nI i)), (3, .int (rfSum σ n)), (6, .ref s.heap.size), (0, .ref B), (1, .ref a), (2, .ref b)] := hl
                                                        refine lv_iinc (k := 8) (v := (nI (i + 1))) S.1 S.2.1 dL_isSo_422 hl rfl (iincP i 1) (by decide) rfl (fun ls hl => ?_)
                                                        have hl : lv_has ls 15 [(8, .int (nI (i + 1))), (4, .int ((rfAhd σ i) + (nI 0))), (7, .int (nI 1)), (5, .int ((lwAll σ n i) + (rfHrd σ n i))), (13, .int (nI (5 * pp))), (12, .int (rfHrd σ n i)), (11, .int (nI 1)), (10, .int (nf σ i 4)), (9, .int (nI 3)), (3, .int (rfSum σ n)), (6, .ref s.heap.size), (0, .ref B), (1, .ref a), (2, .ref b)] := hl
                                                        refine lv_goto (tgt := 24) S.1 S.2.1 dL_isSo_425 rfl ?_
                                                        have hl : lv_has ls 15 [(8, .int (nI (i + 1))), (4, .int (rfAhd σ (i + 1))), (5, .int (lwAll σ n (i + 1))), (7, .int (nI 1)), (3, .int (rfSum σ n)), (6, .ref s.heap.size), (0, .ref B), (1, .ref a), (2, .ref b)] := by
                                                          rw [show (rfAhd σ (i + 1)) = ((rfAhd σ i) + (nI 0)) from by first | rw [rfAhd, if_pos f0] | rw [rfAhd, if_neg f0] | rw [lwAll, if_pos fVo] | rw [lwAll, if_neg fVo]]
                                                          rw [show (lwAll σ n (i + 1)) = ((lwAll σ n i) + (rfHrd σ n i)) from by first | rw [rfAhd, if_pos f0] | rw [rfAhd, if_neg f0] | rw [lwAll, if_pos fVo] | rw [lwAll, if_neg fVo]]
                                                          exact lv_sub hl [0, 1, 3, 2, 9, 10, 11, 12, 13] rfl
                                                        exact ih24 _ (by omega) (i + 1) (upd (upd (upd (upd (upd f (5 * pp) ((f (5 * pp)) + (nI 1))) ((5 * pp) + 1) ((f ((5 * pp) + 1)) + (nI 0))) ((5 * pp) + 2) ((f ((5 * pp) + 2)) + (nf σ i 4))) ((5 * pp) + 3) ((f ((5 * pp) + 3)) + (rfHrd σ n i))) ((5 * pp) + 4) ((f ((5 * pp) + 4)) + (nI 0))) _ _ ls rfl (by omega) (pa_step hPA hpp e0 (by first | rw [if_pos fPl] | rw [if_neg fPl]) (by first | rw [if_pos f5] | rw [if_neg f5]) (by first | rw [if_pos fVo] | rw [if_neg fVo]) (by first | rw [if_pos fVo] | rw [if_neg fVo]) (by first | rw [if_pos f0] | rw [if_neg f0])) (hB) (hg) (hc) (hp) (hS) (lv_sub hl [0, 1, 2, 3, 4, 5, 6, 7, 8] rfl)
                                                      · exact absurd h198 (by decide)
                                                · exact absurd h195 (by decide)
                          · exact absurd h184 (by decide)
                    · exact absurd h181 (by decide)
                · skip
                  refine lv_iload S.1 S.2.1 dL_isSo_82 (lv_at hl 1 rfl) ?_
                  refine lv_goto (tgt := 96) S.1 S.2.1 dL_isSo_84 rfl ?_
                  refine x_top (y := (rfHrd σ n i)) (by rw [rfHrd]; first | rw [if_pos (Int32.not_lt.mp h179)] | rw [if_neg (Int32.not_le.mpr h179)]) ?_
                  refine lv_istore S.1 S.2.1 dL_isSo_96 hl (by decide) rfl (fun ls hl => ?_)
                  have hl : lv_has ls 15 [(12, .int (rfHrd σ n i)), (11, .int (nI 1)), (10, .int (nf σ i 4)), (9, .int (nI 3)), (8, .int (nI i)), (4, .int (rfAhd σ i)), (5, .int (lwAll σ n i)), (7, .int (nI 1)), (3, .int (rfSum σ n)), (6, .ref s.heap.size), (0, .ref B), (1, .ref a), (2, .ref b)] := hl
                  refine lv_iconst (v := (nI 5)) S.1 S.2.1 dL_isSo_98 (by decide) ?_
                  refine lv_aload_n S.1 S.2.1 dL_isSo_99 rfl (lv_at hl 12 rfl) ?_
                  refine lv_iload S.1 S.2.1 dL_isSo_100 (lv_at hl 4 rfl) ?_
                  refine x_lald S hE hEL (hc) i rfl (by omega) (by decide) dL_isSo_102 ?_
                  refine lv_iconst (v := (nI 0)) S.1 S.2.1 dL_isSo_103 (by decide) ?_
                  refine lv_iconst (v := (nI 2)) S.1 S.2.1 dL_isSo_104 (by decide) ?_
                  refine xk_R (v := (lwG (κ i) (nI 0) (nI 2))) (x_runS (As := [.long (κ i), .int (nI 0), .int (nI 2)]) (rest := [.int (nI 5)]) S hE hS (fun _ h => h.elim) (c_L_get l E (κ i) (nI 0) (nI 2) _) kv_L_get kw7_12 kw7_13 ⟨Nat.le_of_ble_eq_true rfl, Nat.le_of_ble_eq_true rfl⟩ rfl rfl rfl hl.1 rfl (Nat.le_of_ble_eq_true rfl) dL_isSo_105 ⟨(Nat.le_of_ble_eq_true rfl), (Nat.le_of_ble_eq_true rfl)⟩) ?_
                  refine x_top (y := (nf σ i 0)) ((lwG_eq _ (by decide) (by decide)).trans ((hU i 0 (by omega) (by decide)).symm)) ?_
                  refine x_top (y := (nI pp)) (e0) ?_
                  refine lv_imul S.1 S.2.1 dL_isSo_108 ?_
                  refine x_top (y := (nI (5 * pp))) (pk_mul 5 pp) ?_
                  refine lv_istore S.1 S.2.1 dL_isSo_109 hl (by decide) rfl (fun ls hl => ?_)
                  have hl : lv_has ls 15 [(13, .int (nI (5 * pp))), (12, .int (rfHrd σ n i)), (11, .int (nI 1)), (10, .int (nf σ i 4)), (9, .int (nI 3)), (8, .int (nI i)), (4, .int (rfAhd σ i)), (5, .int (lwAll σ n i)), (7, .int (nI 1)), (3, .int (rfSum σ n)), (6, .ref s.heap.size), (0, .ref B), (1, .ref a), (2, .ref b)] := hl
                  refine lv_aload S.1 S.2.1 dL_isSo_111 (lv_at hl 10 rfl) ?_
                  refine lv_iload S.1 S.2.1 dL_isSo_113 (lv_at hl 0 rfl) ?_
                  refine lv_dup2_11 S.1 S.2.1 dL_isSo_115 rfl rfl ?_
                  refine x_iald S hE (hp) (5 * pp) rfl (by omega) (by decide) dL_isSo_116 ?_
                  refine lv_aload_n S.1 S.2.1 dL_isSo_117 rfl (lv_at hl 13 rfl) ?_
                  refine lv_iload S.1 S.2.1 dL_isSo_118 (lv_at hl 5 rfl) ?_
                  refine x_lald S hE hEL (hc) i rfl (by omega) (by decide) dL_isSo_120 ?_
                  refine xk_R (v := (bI (nI 1 ≤ fld 3 (κ i) ∧ fld 3 (κ i) ≤ nI 4))) (x_runS (As := [.long (κ i)]) (rest := [.int (f (5 * pp)), .int (nI (5 * pp)), .ref s.heap.size]) S hE hS (fun _ h => h.elim) (c_L_placed l E (κ i) _) kv_L_placed kw7_18 kw7_19 ⟨Nat.le_of_ble_eq_true rfl, Nat.le_of_ble_eq_true rfl⟩ rfl rfl rfl hl.1 rfl (Nat.le_of_ble_eq_true rfl) dL_isSo_121 ⟨(Nat.le_of_ble_eq_true rfl), (Nat.le_of_ble_eq_true rfl)⟩) ?_
                  refine x_top (y := (nI 1)) ((bI_iff (by show _ ↔ (nI 1 ≤ nf σ i 3 ∧ nf σ i 3 ≤ nI 4); rw [hU i 3 (by omega) (by decide)])).trans (bI_t fPl).symm) ?_
                  refine lv_if_eq (tgt := 131) S.1 S.2.1 dL_isSo_124 rfl (fun h199 => ?_) (fun h199 => ?_)
                  · exact absurd h199 (by decide)
                  · skip
                    refine lv_iconst (v := (nI 1)) S.1 S.2.1 dL_isSo_127 (by decide) ?_
                    refine lv_goto (tgt := 132) S.1 S.2.1 dL_isSo_128 rfl ?_
                    refine lv_iadd S.1 S.2.1 dL_isSo_132 ?_
                    refine x_iast S hE hS (Or.inr (Nat.le_refl _)) (hp) (5 * pp) rfl (by omega) (by decide) dL_isSo_133 (fun H locs hX hO1 hS => ?_)
                    have hg := va_at.kept hg (hO1.2 a (Nat.ne_of_lt haz))
                    have hc := va_at.kept hc (hO1.2 b (Nat.ne_of_lt hbz))
                    have hB := hB.fr (fun q z => hO1.2 q (by have := z.2; omega))
                    have hp := hX
                    refine lv_aload S.1 S.2.1 dL_isSo_134 (lv_at hl 10 rfl) ?_
                    refine lv_iload S.1 S.2.1 dL_isSo_136 (lv_at hl 0 rfl) ?_
                    refine lv_iconst (v := (nI 1)) S.1 S.2.1 dL_isSo_138 (by decide) ?_
                    refine lv_iadd S.1 S.2.1 dL_isSo_139 ?_
                    refine x_top (y := (nI ((5 * pp) + 1))) (nI_add (5 * pp) 1) ?_
                    refine lv_dup2_11 S.1 S.2.1 dL_isSo_140 rfl rfl ?_
                    refine x_iald S hE (hp) ((5 * pp) + 1) rfl (by omega) (by decide) dL_isSo_141 ?_
                    refine x_top (y := (f ((5 * pp) + 1))) (pk_un (by omega)) ?_
                    refine lv_iload S.1 S.2.1 dL_isSo_142 (lv_at hl 4 rfl) ?_
                    refine lv_iconst (v := (nI 5)) S.1 S.2.1 dL_isSo_144 (by decide) ?_
                    refine lv_icmp_ne (tgt := 152) S.1 S.2.1 dL_isSo_145 rfl (fun h200 => ?_) (fun h200 => ?_)
                    · skip
                      refine lv_iconst (v := (nI 0)) S.1 S.2.1 dL_isSo_152 (by decide) ?_
                      refine lv_iadd S.1 S.2.1 dL_isSo_153 ?_
                      refine x_iast S hE hS (Or.inr (Nat.le_refl _)) (hp) ((5 * pp) + 1) rfl (by omega) (by decide) dL_isSo_154 (fun H locs hX hO1 hS => ?_)
                      have hg := va_at.kept hg (hO1.2 a (Nat.ne_of_lt haz))
                      have hc := va_at.kept hc (hO1.2 b (Nat.ne_of_lt hbz))
                      have hB := hB.fr (fun q z => hO1.2 q (by have := z.2; omega))
                      have hp := hX
                      refine lv_aload S.1 S.2.1 dL_isSo_155 (lv_at hl 10 rfl) ?_
                      refine lv_iload S.1 S.2.1 dL_isSo_157 (lv_at hl 0 rfl) ?_
                      refine lv_iconst (v := (nI 2)) S.1 S.2.1 dL_isSo_159 (by decide) ?_
                      refine lv_iadd S.1 S.2.1 dL_isSo_160 ?_
                      refine x_top (y := (nI ((5 * pp) + 2))) (nI_add (5 * pp) 2) ?_
                      refine lv_dup2_11 S.1 S.2.1 dL_isSo_161 rfl rfl ?_
                      refine x_iald S hE (hp) ((5 * pp) + 2) rfl (by omega) (by decide) dL_isSo_162 ?_
                      refine x_top (y := (f ((5 * pp) + 2))) ((pk_un (by omega)).trans (pk_un (by omega))) ?_
                      refine lv_iload S.1 S.2.1 dL_isSo_163 (lv_at hl 2 rfl) ?_
                      refine lv_if_eq (tgt := 173) S.1 S.2.1 dL_isSo_165 rfl (fun h201 => ?_) (fun h201 => ?_)
                      · exact absurd h201 (by decide)
                      · skip
                        refine lv_iload S.1 S.2.1 dL_isSo_168 (lv_at hl 3 rfl) ?_
                        refine lv_goto (tgt := 174) S.1 S.2.1 dL_isSo_170 rfl ?_
                        refine lv_iadd S.1 S.2.1 dL_isSo_174 ?_
                        refine x_iast S hE hS (Or.inr (Nat.le_refl _)) (hp) ((5 * pp) + 2) rfl (by omega) (by decide) dL_isSo_175 (fun H locs hX hO1 hS => ?_)
                        have hg := va_at.kept hg (hO1.2 a (Nat.ne_of_lt haz))
                        have hc := va_at.kept hc (hO1.2 b (Nat.ne_of_lt hbz))
                        have hB := hB.fr (fun q z => hO1.2 q (by have := z.2; omega))
                        have hp := hX
                        refine lv_aload S.1 S.2.1 dL_isSo_176 (lv_at hl 10 rfl) ?_
                        refine lv_iload S.1 S.2.1 dL_isSo_178 (lv_at hl 0 rfl) ?_
                        refine lv_iconst (v := (nI 3)) S.1 S.2.1 dL_isSo_180 (by decide) ?_
                        refine lv_iadd S.1 S.2.1 dL_isSo_181 ?_
                        refine x_top (y := (nI ((5 * pp) + 3))) (nI_add (5 * pp) 3) ?_
                        refine lv_dup2_11 S.1 S.2.1 dL_isSo_182 rfl rfl ?_
                        refine x_iald S hE (hp) ((5 * pp) + 3) rfl (by omega) (by decide) dL_isSo_183 ?_
                        refine x_top (y := (f ((5 * pp) + 3))) ((pk_un (by omega)).trans ((pk_un (by omega)).trans (pk_un (by omega)))) ?_
                        refine lv_iload S.1 S.2.1 dL_isSo_184 (lv_at hl 2 rfl) ?_
                        refine lv_if_eq (tgt := 194) S.1 S.2.1 dL_isSo_186 rfl (fun h202 => ?_) (fun h202 => ?_)
                        · exact absurd h202 (by decide)
                        · skip
                          refine lv_iload S.1 S.2.1 dL_isSo_189 (lv_at hl 1 rfl) ?_
                          refine lv_goto (tgt := 195) S.1 S.2.1 dL_isSo_191 rfl ?_
                          refine lv_iadd S.1 S.2.1 dL_isSo_195 ?_
                          refine x_iast S hE hS (Or.inr (Nat.le_refl _)) (hp) ((5 * pp) + 3) rfl (by omega) (by decide) dL_isSo_196 (fun H locs hX hO1 hS => ?_)
                          have hg := va_at.kept hg (hO1.2 a (Nat.ne_of_lt haz))
                          have hc := va_at.kept hc (hO1.2 b (Nat.ne_of_lt hbz))
                          have hB := hB.fr (fun q z => hO1.2 q (by have := z.2; omega))
                          have hp := hX
                          refine lv_aload S.1 S.2.1 dL_isSo_197 (lv_at hl 10 rfl) ?_
                          refine lv_iload S.1 S.2.1 dL_isSo_199 (lv_at hl 0 rfl) ?_
                          refine lv_iconst (v := (nI 4)) S.1 S.2.1 dL_isSo_201 (by decide) ?_
                          refine lv_iadd S.1 S.2.1 dL_isSo_202 ?_
                          refine x_top (y := (nI ((5 * pp) + 4))) (nI_add (5 * pp) 4) ?_
                          refine lv_dup2_11 S.1 S.2.1 dL_isSo_203 rfl rfl ?_
                          refine x_iald S hE (hp) ((5 * pp) + 4) rfl (by omega) (by decide) dL_isSo_204 ?_
                          refine x_top (y := (f ((5 * pp) + 4))) ((pk_un (by omega)).trans ((pk_un (by omega)).trans ((pk_un (by omega)).trans (pk_un (by omega))))) ?_
                          refine lv_iload S.1 S.2.1 dL_isSo_205 (lv_at hl 4 rfl) ?_
                          refine lv_if_ne (tgt := 214) S.1 S.2.1 dL_isSo_207 rfl (fun h203 => ?_) (fun h203 => ?_)
                          · skip
                            refine lv_iconst (v := (nI 0)) S.1 S.2.1 dL_isSo_214 (by decide) ?_
                            refine lv_iadd S.1 S.2.1 dL_isSo_215 ?_
                            refine x_iast S hE hS (Or.inr (Nat.le_refl _)) (hp) ((5 * pp) + 4) rfl (by omega) (by decide) dL_isSo_216 (fun H locs hX hO1 hS => ?_)
                            have hg := va_at.kept hg (hO1.2 a (Nat.ne_of_lt haz))
                            have hc := va_at.kept hc (hO1.2 b (Nat.ne_of_lt hbz))
                            have hB := hB.fr (fun q z => hO1.2 q (by have := z.2; omega))
                            have hp := hX
                            refine lv_iload S.1 S.2.1 dL_isSo_217 (lv_at hl 7 rfl) ?_
                            refine lv_iload S.1 S.2.1 dL_isSo_219 (lv_at hl 2 rfl) ?_
                            refine lv_if_eq (tgt := 229) S.1 S.2.1 dL_isSo_221 rfl (fun h204 => ?_) (fun h204 => ?_)
                            · exact absurd h204 (by decide)
                            · skip
                              refine lv_iload S.1 S.2.1 dL_isSo_224 (lv_at hl 1 rfl) ?_
                              refine lv_goto (tgt := 230) S.1 S.2.1 dL_isSo_226 rfl ?_
                              refine lv_iadd S.1 S.2.1 dL_isSo_230 ?_
                              refine lv_istore S.1 S.2.1 dL_isSo_231 hl (by decide) rfl (fun ls hl => ?_)
                              have hl : lv_has ls 15 [(5, .int ((lwAll σ n i) + (rfHrd σ n i))), (13, .int (nI (5 * pp))), (12, .int (rfHrd σ n i)), (11, .int (nI 1)), (10, .int (nf σ i 4)), (9, .int (nI 3)), (8, .int (nI i)), (4, .int (rfAhd σ i)), (7, .int (nI 1)), (3, .int (rfSum σ n)), (6, .ref s.heap.size), (0, .ref B), (1, .ref a), (2, .ref b)] := hl
                              refine lv_aload_n S.1 S.2.1 dL_isSo_233 rfl (lv_at hl 11 rfl) ?_
                              refine lv_iload S.1 S.2.1 dL_isSo_234 (lv_at hl 6 rfl) ?_
                              refine lv_iconst (v := (nI 0)) S.1 S.2.1 dL_isSo_236 (by decide) ?_
                              refine xk_R (v := (bxNote β.1 (nI i) (nI 0))) (x_runV (As := [.int (nI i), .int (nI 0)]) (rest := []) S hE hS (fun _ h => h.elim) (c_X7_noteOf l E B β (nI i) (nI 0) _ hB) kv_X7_noteOf kw7_21 kw7_22 kw7_23 (x_recv hE (hB.1) (ci := 7) rfl) ⟨Nat.le_of_ble_eq_true rfl, Nat.le_of_ble_eq_true rfl⟩ rfl rfl rfl hl.1 rfl (Nat.le_of_ble_eq_true rfl) dL_isSo_237 ⟨(Nat.le_of_ble_eq_true rfl), (Nat.le_of_ble_eq_true rfl)⟩) ?_
                              refine x_top (y := (nI ((5 * pp) / 5))) ((nt_0 hT hlt).trans (e0.trans (congrArg nI (by omega)))) ?_
                              refine lv_iload S.1 S.2.1 dL_isSo_240 (lv_at hl 1 rfl) ?_
                              refine lv_iconst (v := (nI 5)) S.1 S.2.1 dL_isSo_242 (by decide) ?_
                              refine lv_idiv S.1 S.2.1 dL_isSo_243 (by decide) ?_
                              refine x_top (y := (nI ((5 * pp) / 5))) (pk_div (by omega) (by decide) (by decide)) ?_
                              refine lv_icmp_ne (tgt := 404) S.1 S.2.1 dL_isSo_244 rfl (fun h205 => ?_) (fun h205 => ?_)
                              · exact absurd rfl h205
                              · skip
                                refine lv_aload_n S.1 S.2.1 dL_isSo_247 rfl (lv_at hl 11 rfl) ?_
                                refine lv_iload S.1 S.2.1 dL_isSo_248 (lv_at hl 6 rfl) ?_
                                refine lv_iconst (v := (nI 1)) S.1 S.2.1 dL_isSo_250 (by decide) ?_
                                refine xk_R (v := (bxNote β.1 (nI i) (nI 1))) (x_runV (As := [.int (nI i), .int (nI 1)]) (rest := []) S hE hS (fun _ h => h.elim) (c_X7_noteOf l E B β (nI i) (nI 1) _ hB) kv_X7_noteOf kw7_21 kw7_22 kw7_23 (x_recv hE (hB.1) (ci := 7) rfl) ⟨Nat.le_of_ble_eq_true rfl, Nat.le_of_ble_eq_true rfl⟩ rfl rfl rfl hl.1 rfl (Nat.le_of_ble_eq_true rfl) dL_isSo_251 ⟨(Nat.le_of_ble_eq_true rfl), (Nat.le_of_ble_eq_true rfl)⟩) ?_
                                refine x_top (y := (nf σ i 1)) (nt_1 hT hlt) ?_
                                refine lv_aload_n S.1 S.2.1 dL_isSo_254 rfl (lv_at hl 13 rfl) ?_
                                refine lv_iload S.1 S.2.1 dL_isSo_255 (lv_at hl 6 rfl) ?_
                                refine x_lald S hE hEL (hc) i rfl (by omega) (by decide) dL_isSo_257 ?_
                                refine lv_iconst (v := (nI 2)) S.1 S.2.1 dL_isSo_258 (by decide) ?_
                                refine lv_bipush (v := (nI 7)) S.1 S.2.1 dL_isSo_259 (by decide) ?_
                                refine xk_R (v := (lwG (κ i) (nI 2) (nI 7))) (x_runS (As := [.long (κ i), .int (nI 2), .int (nI 7)]) (rest := [.int (nf σ i 1)]) S hE hS (fun _ h => h.elim) (c_L_get l E (κ i) (nI 2) (nI 7) _) kv_L_get kw7_12 kw7_13 ⟨Nat.le_of_ble_eq_true rfl, Nat.le_of_ble_eq_true rfl⟩ rfl rfl rfl hl.1 rfl (Nat.le_of_ble_eq_true rfl) dL_isSo_261 ⟨(Nat.le_of_ble_eq_true rfl), (Nat.le_of_ble_eq_true rfl)⟩) ?_
                                refine x_top (y := (nf σ i 1)) ((lwG_eq _ (by decide) (by decide)).trans ((hU i 1 (by omega) (by decide)).symm)) ?_
                                refine lv_icmp_ne (tgt := 404) S.1 S.2.1 dL_isSo_264 rfl (fun h206 => ?_) (fun h206 => ?_)
                                · exact absurd rfl h206
                                · skip
                                  refine lv_aload_n S.1 S.2.1 dL_isSo_267 rfl (lv_at hl 11 rfl) ?_
                                  refine lv_iload S.1 S.2.1 dL_isSo_268 (lv_at hl 6 rfl) ?_
                                  refine lv_iconst (v := (nI 2)) S.1 S.2.1 dL_isSo_270 (by decide) ?_
                                  refine xk_R (v := (bxNote β.1 (nI i) (nI 2))) (x_runV (As := [.int (nI i), .int (nI 2)]) (rest := []) S hE hS (fun _ h => h.elim) (c_X7_noteOf l E B β (nI i) (nI 2) _ hB) kv_X7_noteOf kw7_21 kw7_22 kw7_23 (x_recv hE (hB.1) (ci := 7) rfl) ⟨Nat.le_of_ble_eq_true rfl, Nat.le_of_ble_eq_true rfl⟩ rfl rfl rfl hl.1 rfl (Nat.le_of_ble_eq_true rfl) dL_isSo_271 ⟨(Nat.le_of_ble_eq_true rfl), (Nat.le_of_ble_eq_true rfl)⟩) ?_
                                  refine x_top (y := (nf σ i 2)) (nt_2 hT hlt) ?_
                                  refine lv_aload_n S.1 S.2.1 dL_isSo_274 rfl (lv_at hl 13 rfl) ?_
                                  refine lv_iload S.1 S.2.1 dL_isSo_275 (lv_at hl 6 rfl) ?_
                                  refine x_lald S hE hEL (hc) i rfl (by omega) (by decide) dL_isSo_277 ?_
                                  refine lv_bipush (v := (nI 9)) S.1 S.2.1 dL_isSo_278 (by decide) ?_
                                  refine lv_bipush (v := (nI 7)) S.1 S.2.1 dL_isSo_280 (by decide) ?_
                                  refine xk_R (v := (lwG (κ i) (nI 9) (nI 7))) (x_runS (As := [.long (κ i), .int (nI 9), .int (nI 7)]) (rest := [.int (nf σ i 2)]) S hE hS (fun _ h => h.elim) (c_L_get l E (κ i) (nI 9) (nI 7) _) kv_L_get kw7_12 kw7_13 ⟨Nat.le_of_ble_eq_true rfl, Nat.le_of_ble_eq_true rfl⟩ rfl rfl rfl hl.1 rfl (Nat.le_of_ble_eq_true rfl) dL_isSo_282 ⟨(Nat.le_of_ble_eq_true rfl), (Nat.le_of_ble_eq_true rfl)⟩) ?_
                                  refine x_top (y := (nf σ i 2)) ((lwG_eq _ (by decide) (by decide)).trans ((hU i 2 (by omega) (by decide)).symm)) ?_
                                  refine lv_icmp_ne (tgt := 404) S.1 S.2.1 dL_isSo_285 rfl (fun h207 => ?_) (fun h207 => ?_)
                                  · exact absurd rfl h207
                                  · skip
                                    refine lv_aload_n S.1 S.2.1 dL_isSo_288 rfl (lv_at hl 11 rfl) ?_
                                    refine lv_iload S.1 S.2.1 dL_isSo_289 (lv_at hl 6 rfl) ?_
                                    refine lv_iconst (v := (nI 3)) S.1 S.2.1 dL_isSo_291 (by decide) ?_
                                    refine xk_R (v := (bxNote β.1 (nI i) (nI 3))) (x_runV (As := [.int (nI i), .int (nI 3)]) (rest := []) S hE hS (fun _ h => h.elim) (c_X7_noteOf l E B β (nI i) (nI 3) _ hB) kv_X7_noteOf kw7_21 kw7_22 kw7_23 (x_recv hE (hB.1) (ci := 7) rfl) ⟨Nat.le_of_ble_eq_true rfl, Nat.le_of_ble_eq_true rfl⟩ rfl rfl rfl hl.1 rfl (Nat.le_of_ble_eq_true rfl) dL_isSo_292 ⟨(Nat.le_of_ble_eq_true rfl), (Nat.le_of_ble_eq_true rfl)⟩) ?_
                                    refine x_top (y := (nI 3)) ((nt_3 hT hlt).trans ex) ?_
                                    refine lv_iload S.1 S.2.1 dL_isSo_295 (lv_at hl 5 rfl) ?_
                                    refine lv_icmp_ne (tgt := 404) S.1 S.2.1 dL_isSo_297 rfl (fun h208 => ?_) (fun h208 => ?_)
                                    · exact absurd h208 (by decide)
                                    · skip
                                      refine lv_aload_n S.1 S.2.1 dL_isSo_300 rfl (lv_at hl 11 rfl) ?_
                                      refine lv_iload S.1 S.2.1 dL_isSo_301 (lv_at hl 6 rfl) ?_
                                      refine lv_iconst (v := (nI 4)) S.1 S.2.1 dL_isSo_303 (by decide) ?_
                                      refine xk_R (v := (bxNote β.1 (nI i) (nI 4))) (x_runV (As := [.int (nI i), .int (nI 4)]) (rest := []) S hE hS (fun _ h => h.elim) (c_X7_noteOf l E B β (nI i) (nI 4) _ hB) kv_X7_noteOf kw7_21 kw7_22 kw7_23 (x_recv hE (hB.1) (ci := 7) rfl) ⟨Nat.le_of_ble_eq_true rfl, Nat.le_of_ble_eq_true rfl⟩ rfl rfl rfl hl.1 rfl (Nat.le_of_ble_eq_true rfl) dL_isSo_304 ⟨(Nat.le_of_ble_eq_true rfl), (Nat.le_of_ble_eq_true rfl)⟩) ?_
                                      refine x_top (y := (nf σ i 4)) ((nt_4 hT hlt).trans (if_pos fVo)) ?_
                                      refine lv_iload S.1 S.2.1 dL_isSo_307 (lv_at hl 3 rfl) ?_
                                      refine lv_if_eq (tgt := 317) S.1 S.2.1 dL_isSo_309 rfl (fun h209 => ?_) (fun h209 => ?_)
                                      · exact absurd h209 (by decide)
                                      · skip
                                        refine lv_iload S.1 S.2.1 dL_isSo_312 (lv_at hl 4 rfl) ?_
                                        refine lv_goto (tgt := 319) S.1 S.2.1 dL_isSo_314 rfl ?_
                                        refine lv_icmp_ne (tgt := 404) S.1 S.2.1 dL_isSo_319 rfl (fun h210 => ?_) (fun h210 => ?_)
                                        · exact absurd rfl h210
                                        · skip
                                          refine lv_aload_n S.1 S.2.1 dL_isSo_322 rfl (lv_at hl 11 rfl) ?_
                                          refine lv_iload S.1 S.2.1 dL_isSo_323 (lv_at hl 6 rfl) ?_
                                          refine lv_iconst (v := (nI 5)) S.1 S.2.1 dL_isSo_325 (by decide) ?_
                                          refine xk_R (v := (bxNote β.1 (nI i) (nI 5))) (x_runV (As := [.int (nI i), .int (nI 5)]) (rest := []) S hE hS (fun _ h => h.elim) (c_X7_noteOf l E B β (nI i) (nI 5) _ hB) kv_X7_noteOf kw7_21 kw7_22 kw7_23 (x_recv hE (hB.1) (ci := 7) rfl) ⟨Nat.le_of_ble_eq_true rfl, Nat.le_of_ble_eq_true rfl⟩ rfl rfl rfl hl.1 rfl (Nat.le_of_ble_eq_true rfl) dL_isSo_326 ⟨(Nat.le_of_ble_eq_true rfl), (Nat.le_of_ble_eq_true rfl)⟩) ?_
                                          refine x_top (y := (rfHrd σ n i)) ((nt_5 hT hlt).trans (if_pos fVo)) ?_
                                          refine lv_iload S.1 S.2.1 dL_isSo_329 (lv_at hl 3 rfl) ?_
                                          refine lv_if_eq (tgt := 339) S.1 S.2.1 dL_isSo_331 rfl (fun h211 => ?_) (fun h211 => ?_)
                                          · exact absurd h211 (by decide)
                                          · skip
                                            refine lv_iload S.1 S.2.1 dL_isSo_334 (lv_at hl 2 rfl) ?_
                                            refine lv_goto (tgt := 341) S.1 S.2.1 dL_isSo_336 rfl ?_
                                            refine lv_icmp_ne (tgt := 404) S.1 S.2.1 dL_isSo_341 rfl (fun h212 => ?_) (fun h212 => ?_)
                                            · exact absurd rfl h212
                                            · skip
                                              refine lv_aload_n S.1 S.2.1 dL_isSo_344 rfl (lv_at hl 11 rfl) ?_
                                              refine lv_iload S.1 S.2.1 dL_isSo_345 (lv_at hl 6 rfl) ?_
                                              refine lv_bipush (v := (nI 6)) S.1 S.2.1 dL_isSo_347 (by decide) ?_
                                              refine xk_R (v := (bxNote β.1 (nI i) (nI 6))) (x_runV (As := [.int (nI i), .int (nI 6)]) (rest := []) S hE hS (fun _ h => h.elim) (c_X7_noteOf l E B β (nI i) (nI 6) _ hB) kv_X7_noteOf kw7_21 kw7_22 kw7_23 (x_recv hE (hB.1) (ci := 7) rfl) ⟨Nat.le_of_ble_eq_true rfl, Nat.le_of_ble_eq_true rfl⟩ rfl rfl rfl hl.1 rfl (Nat.le_of_ble_eq_true rfl) dL_isSo_349 ⟨(Nat.le_of_ble_eq_true rfl), (Nat.le_of_ble_eq_true rfl)⟩) ?_
                                              refine x_top (y := (nf σ i 6)) (nt_6 hT hlt) ?_
                                              refine lv_aload_n S.1 S.2.1 dL_isSo_352 rfl (lv_at hl 13 rfl) ?_
                                              refine lv_iload S.1 S.2.1 dL_isSo_353 (lv_at hl 6 rfl) ?_
                                              refine x_lald S hE hEL (hc) i rfl (by omega) (by decide) dL_isSo_355 ?_
                                              refine lv_bipush (v := (nI 41)) S.1 S.2.1 dL_isSo_356 (by decide) ?_
                                              refine lv_iconst (v := (nI 1)) S.1 S.2.1 dL_isSo_358 (by decide) ?_
                                              refine xk_R (v := (lwG (κ i) (nI 41) (nI 1))) (x_runS (As := [.long (κ i), .int (nI 41), .int (nI 1)]) (rest := [.int (nf σ i 6)]) S hE hS (fun _ h => h.elim) (c_L_get l E (κ i) (nI 41) (nI 1) _) kv_L_get kw7_12 kw7_13 ⟨Nat.le_of_ble_eq_true rfl, Nat.le_of_ble_eq_true rfl⟩ rfl rfl rfl hl.1 rfl (Nat.le_of_ble_eq_true rfl) dL_isSo_359 ⟨(Nat.le_of_ble_eq_true rfl), (Nat.le_of_ble_eq_true rfl)⟩) ?_
                                              refine x_top (y := (nf σ i 6)) ((lwG_eq _ (by decide) (by decide)).trans ((hU i 6 (by omega) (by decide)).symm)) ?_
                                              refine lv_icmp_ne (tgt := 404) S.1 S.2.1 dL_isSo_362 rfl (fun h213 => ?_) (fun h213 => ?_)
                                              · exact absurd rfl h213
                                              · skip
                                                refine lv_aload_n S.1 S.2.1 dL_isSo_365 rfl (lv_at hl 11 rfl) ?_
                                                refine lv_iload S.1 S.2.1 dL_isSo_366 (lv_at hl 6 rfl) ?_
                                                refine lv_bipush (v := (nI 7)) S.1 S.2.1 dL_isSo_368 (by decide) ?_
                                                refine xk_R (v := (bxNote β.1 (nI i) (nI 7))) (x_runV (As := [.int (nI i), .int (nI 7)]) (rest := []) S hE hS (fun _ h => h.elim) (c_X7_noteOf l E B β (nI i) (nI 7) _ hB) kv_X7_noteOf kw7_21 kw7_22 kw7_23 (x_recv hE (hB.1) (ci := 7) rfl) ⟨Nat.le_of_ble_eq_true rfl, Nat.le_of_ble_eq_true rfl⟩ rfl rfl rfl hl.1 rfl (Nat.le_of_ble_eq_true rfl) dL_isSo_370 ⟨(Nat.le_of_ble_eq_true rfl), (Nat.le_of_ble_eq_true rfl)⟩) ?_
                                                refine x_top (y := (-4)) ((nt_7 hT hlt).trans (if_neg f0)) ?_
                                                refine lv_iload S.1 S.2.1 dL_isSo_373 (lv_at hl 5 rfl) ?_
                                                refine lv_if_ne (tgt := 383) S.1 S.2.1 dL_isSo_375 rfl (fun h214 => ?_) (fun h214 => ?_)
                                                · skip
                                                  refine lv_bipush (v := (-4)) S.1 S.2.1 dL_isSo_383 (by decide) ?_
                                                  refine lv_icmp_ne (tgt := 404) S.1 S.2.1 dL_isSo_385 rfl (fun h215 => ?_) (fun h215 => ?_)
                                                  · exact absurd h215 (by decide)
                                                  · skip
                                                    refine lv_aload_n S.1 S.2.1 dL_isSo_388 rfl (lv_at hl 11 rfl) ?_
                                                    refine lv_iload S.1 S.2.1 dL_isSo_389 (lv_at hl 6 rfl) ?_
                                                    refine lv_bipush (v := (nI 8)) S.1 S.2.1 dL_isSo_391 (by decide) ?_
                                                    refine xk_R (v := (bxNote β.1 (nI i) (nI 8))) (x_runV (As := [.int (nI i), .int (nI 8)]) (rest := []) S hE hS (fun _ h => h.elim) (c_X7_noteOf l E B β (nI i) (nI 8) _ hB) kv_X7_noteOf kw7_21 kw7_22 kw7_23 (x_recv hE (hB.1) (ci := 7) rfl) ⟨Nat.le_of_ble_eq_true rfl, Nat.le_of_ble_eq_true rfl⟩ rfl rfl rfl hl.1 rfl (Nat.le_of_ble_eq_true rfl) dL_isSo_393 ⟨(Nat.le_of_ble_eq_true rfl), (Nat.le_of_ble_eq_true rfl)⟩) ?_
                                                    refine x_top (y := (-1)) (nt_8 hT hlt) ?_
                                                    refine lv_iconst (v := (-1)) S.1 S.2.1 dL_isSo_396 (by decide) ?_
                                                    refine lv_icmp_ne (tgt := 404) S.1 S.2.1 dL_isSo_397 rfl (fun h216 => ?_) (fun h216 => ?_)
                                                    · exact absurd h216 (by decide)
                                                    · skip
                                                      refine lv_iconst (v := (nI 1)) S.1 S.2.1 dL_isSo_400 (by decide) ?_
                                                      refine lv_goto (tgt := 405) S.1 S.2.1 dL_isSo_401 rfl ?_
                                                      refine lv_istore S.1 S.2.1 dL_isSo_405 hl (by decide) rfl (fun ls hl => ?_)
                                                      have hl : lv_has ls 15 [(7, .int (nI 1)), (5, .int ((lwAll σ n i) + (rfHrd σ n i))), (13, .int (nI (5 * pp))), (12, .int (rfHrd σ n i)), (11, .int (nI 1)), (10, .int (nf σ i 4)), (9, .int (nI 3)), (8, .int (nI i)), (4, .int (rfAhd σ i)), (3, .int (rfSum σ n)), (6, .ref s.heap.size), (0, .ref B), (1, .ref a), (2, .ref b)] := hl
                                                      refine lv_iload S.1 S.2.1 dL_isSo_407 (lv_at hl 8 rfl) ?_
                                                      refine lv_iload S.1 S.2.1 dL_isSo_409 (lv_at hl 6 rfl) ?_
                                                      refine lv_if_ne (tgt := 418) S.1 S.2.1 dL_isSo_411 rfl (fun h217 => ?_) (fun h217 => ?_)
                                                      · skip
                                                        refine lv_iconst (v := (nI 0)) S.1 S.2.1 dL_isSo_418 (by decide) ?_
                                                        refine lv_iadd S.1 S.2.1 dL_isSo_419 ?_
                                                        refine lv_istore S.1 S.2.1 dL_isSo_420 hl (by decide) rfl (fun ls hl => ?_)
                                                        have hl : lv_has ls 15 [(4, .int ((rfAhd σ i) + (nI 0))), (7, .int (nI 1)), (5, .int ((lwAll σ n i) + (rfHrd σ n i))), (13, .int (nI (5 * pp))), (12, .int (rfHrd σ n i)), (11, .int (nI 1)), (10, .int (nf σ i 4)), (9, .int (nI 3)), (8, .int (nI i)), (3, .int (rfSum σ n)), (6, .ref s.heap.size), (0, .ref B), (1, .ref a), (2, .ref b)] := hl
                                                        refine lv_iinc (k := 8) (v := (nI (i + 1))) S.1 S.2.1 dL_isSo_422 hl rfl (iincP i 1) (by decide) rfl (fun ls hl => ?_)
                                                        have hl : lv_has ls 15 [(8, .int (nI (i + 1))), (4, .int ((rfAhd σ i) + (nI 0))), (7, .int (nI 1)), (5, .int ((lwAll σ n i) + (rfHrd σ n i))), (13, .int (nI (5 * pp))), (12, .int (rfHrd σ n i)), (11, .int (nI 1)), (10, .int (nf σ i 4)), (9, .int (nI 3)), (3, .int (rfSum σ n)), (6, .ref s.heap.size), (0, .ref B), (1, .ref a), (2, .ref b)] := hl
                                                        refine lv_goto (tgt := 24) S.1 S.2.1 dL_isSo_425 rfl ?_
                                                        have hl : lv_has ls 15 [(8, .int (nI (i + 1))), (4, .int (rfAhd σ (i + 1))), (5, .int (lwAll σ n (i + 1))), (7, .int (nI 1)), (3, .int (rfSum σ n)), (6, .ref s.heap.size), (0, .ref B), (1, .ref a), (2, .ref b)] := by
                                                          rw [show (rfAhd σ (i + 1)) = ((rfAhd σ i) + (nI 0)) from by first | rw [rfAhd, if_pos f0] | rw [rfAhd, if_neg f0] | rw [lwAll, if_pos fVo] | rw [lwAll, if_neg fVo]]
                                                          rw [show (lwAll σ n (i + 1)) = ((lwAll σ n i) + (rfHrd σ n i)) from by first | rw [rfAhd, if_pos f0] | rw [rfAhd, if_neg f0] | rw [lwAll, if_pos fVo] | rw [lwAll, if_neg fVo]]
                                                          exact lv_sub hl [0, 1, 3, 2, 9, 10, 11, 12, 13] rfl
                                                        exact ih24 _ (by omega) (i + 1) (upd (upd (upd (upd (upd f (5 * pp) ((f (5 * pp)) + (nI 1))) ((5 * pp) + 1) ((f ((5 * pp) + 1)) + (nI 0))) ((5 * pp) + 2) ((f ((5 * pp) + 2)) + (nf σ i 4))) ((5 * pp) + 3) ((f ((5 * pp) + 3)) + (rfHrd σ n i))) ((5 * pp) + 4) ((f ((5 * pp) + 4)) + (nI 0))) _ _ ls rfl (by omega) (pa_step hPA hpp e0 (by first | rw [if_pos fPl] | rw [if_neg fPl]) (by first | rw [if_pos f5] | rw [if_neg f5]) (by first | rw [if_pos fVo] | rw [if_neg fVo]) (by first | rw [if_pos fVo] | rw [if_neg fVo]) (by first | rw [if_pos f0] | rw [if_neg f0])) (hB) (hg) (hc) (hp) (hS) (lv_sub hl [0, 1, 2, 3, 4, 5, 6, 7, 8] rfl)
                                                      · exact absurd h217 (by decide)
                                                · exact absurd h214 (by decide)
                          · exact absurd h203 (by decide)
                    · exact absurd h200 (by decide)
          · refine x_top (y := (nI 4)) ex ?_
            have fPl : rfPl σ i := by first | exact ex | (unfold rfPl; rw [ex]; decide)
            have fVo : rfVo σ i := by first | exact ex | (unfold rfVo; rw [ex]; decide)
            have f5 : ¬ nf σ i 3 = nI 5 := by first | exact ex | (rw [ex]; decide)
            have f0 : ¬ nf σ i 3 = 0 := by first | exact ex | (rw [ex]; decide)
            refine lv_istore S.1 S.2.1 dL_isSo_44 hl (by decide) rfl (fun ls hl => ?_)
            have hl : lv_has ls 15 [(9, .int (nI 4)), (8, .int (nI i)), (4, .int (rfAhd σ i)), (5, .int (lwAll σ n i)), (7, .int (nI 1)), (3, .int (rfSum σ n)), (6, .ref s.heap.size), (0, .ref B), (1, .ref a), (2, .ref b)] := hl
            refine lv_aload_n S.1 S.2.1 dL_isSo_46 rfl (lv_at hl 9 rfl) ?_
            refine lv_iload S.1 S.2.1 dL_isSo_47 (lv_at hl 1 rfl) ?_
            refine x_lald S hE hEL (hc) i rfl (by omega) (by decide) dL_isSo_49 ?_
            refine xk_R (v := (fld 4 (κ i))) (x_runS (As := [.long (κ i)]) (rest := []) S hE hS (fun _ h => h.elim) (c_L_level l E (κ i) _) kv_L_level kw7_15 kw7_16 ⟨Nat.le_of_ble_eq_true rfl, Nat.le_of_ble_eq_true rfl⟩ rfl rfl rfl hl.1 rfl (Nat.le_of_ble_eq_true rfl) dL_isSo_50 ⟨(Nat.le_of_ble_eq_true rfl), (Nat.le_of_ble_eq_true rfl)⟩) ?_
            refine x_top (y := (nf σ i 4)) ((hU i 4 (by omega) (by decide)).symm) ?_
            refine lv_istore S.1 S.2.1 dL_isSo_53 hl (by decide) rfl (fun ls hl => ?_)
            have hl : lv_has ls 15 [(10, .int (nf σ i 4)), (9, .int (nI 4)), (8, .int (nI i)), (4, .int (rfAhd σ i)), (5, .int (lwAll σ n i)), (7, .int (nI 1)), (3, .int (rfSum σ n)), (6, .ref s.heap.size), (0, .ref B), (1, .ref a), (2, .ref b)] := hl
            refine lv_iload S.1 S.2.1 dL_isSo_55 (lv_at hl 1 rfl) ?_
            refine lv_if_le (tgt := 71) S.1 S.2.1 dL_isSo_57 rfl (fun h218 => ?_) (fun h218 => ?_)
            · exact absurd h218 (by decide)
            · skip
              refine lv_iload S.1 S.2.1 dL_isSo_60 (lv_at hl 1 rfl) ?_
              refine lv_bipush (v := (nI 6)) S.1 S.2.1 dL_isSo_62 (by decide) ?_
              refine lv_icmp_ge (tgt := 71) S.1 S.2.1 dL_isSo_64 rfl (fun h219 => ?_) (fun h219 => ?_)
              · exact absurd h219 (by decide)
              · skip
                refine lv_iconst (v := (nI 1)) S.1 S.2.1 dL_isSo_67 (by decide) ?_
                refine lv_goto (tgt := 72) S.1 S.2.1 dL_isSo_68 rfl ?_
                refine lv_istore S.1 S.2.1 dL_isSo_72 hl (by decide) rfl (fun ls hl => ?_)
                have hl : lv_has ls 15 [(11, .int (nI 1)), (10, .int (nf σ i 4)), (9, .int (nI 4)), (8, .int (nI i)), (4, .int (rfAhd σ i)), (5, .int (lwAll σ n i)), (7, .int (nI 1)), (3, .int (rfSum σ n)), (6, .ref s.heap.size), (0, .ref B), (1, .ref a), (2, .ref b)] := hl
                refine lv_iload_n S.1 S.2.1 dL_isSo_74 rfl (lv_at hl 7 rfl) ?_
                refine lv_aload_n S.1 S.2.1 dL_isSo_75 rfl (lv_at hl 10 rfl) ?_
                refine lv_bipush (v := (nI 8)) S.1 S.2.1 dL_isSo_76 (by decide) ?_
                refine x_iald S hE (hg) 8 rfl (by decide) (by decide) dL_isSo_78 ?_
                refine lv_icmp_gt (tgt := 87) S.1 S.2.1 dL_isSo_79 rfl (fun h220 => ?_) (fun h220 => ?_)
                · skip
                  refine lv_iload S.1 S.2.1 dL_isSo_87 (lv_at hl 1 rfl) ?_
                  refine lv_aload_n S.1 S.2.1 dL_isSo_89 rfl (lv_at hl 10 rfl) ?_
                  refine lv_bipush (v := (nI 8)) S.1 S.2.1 dL_isSo_90 (by decide) ?_
                  refine x_iald S hE (hg) 8 rfl (by decide) (by decide) dL_isSo_92 ?_
                  refine lv_imul S.1 S.2.1 dL_isSo_93 ?_
                  refine lv_iload_n S.1 S.2.1 dL_isSo_94 rfl (lv_at hl 7 rfl) ?_
                  refine lv_idiv S.1 S.2.1 dL_isSo_95 (nz_of h8 h220) ?_
                  refine x_top (y := (rfHrd σ n i)) (by rw [rfHrd]; first | rw [if_pos (Int32.not_lt.mp h220)] | rw [if_neg (Int32.not_le.mpr h220)]) ?_
                  refine lv_istore S.1 S.2.1 dL_isSo_96 hl (by decide) rfl (fun ls hl => ?_)
                  have hl : lv_has ls 15 [(12, .int (rfHrd σ n i)), (11, .int (nI 1)), (10, .int (nf σ i 4)), (9, .int (nI 4)), (8, .int (nI i)), (4, .int (rfAhd σ i)), (5, .int (lwAll σ n i)), (7, .int (nI 1)), (3, .int (rfSum σ n)), (6, .ref s.heap.size), (0, .ref B), (1, .ref a), (2, .ref b)] := hl
                  refine lv_iconst (v := (nI 5)) S.1 S.2.1 dL_isSo_98 (by decide) ?_
                  refine lv_aload_n S.1 S.2.1 dL_isSo_99 rfl (lv_at hl 12 rfl) ?_
                  refine lv_iload S.1 S.2.1 dL_isSo_100 (lv_at hl 4 rfl) ?_
                  refine x_lald S hE hEL (hc) i rfl (by omega) (by decide) dL_isSo_102 ?_
                  refine lv_iconst (v := (nI 0)) S.1 S.2.1 dL_isSo_103 (by decide) ?_
                  refine lv_iconst (v := (nI 2)) S.1 S.2.1 dL_isSo_104 (by decide) ?_
                  refine xk_R (v := (lwG (κ i) (nI 0) (nI 2))) (x_runS (As := [.long (κ i), .int (nI 0), .int (nI 2)]) (rest := [.int (nI 5)]) S hE hS (fun _ h => h.elim) (c_L_get l E (κ i) (nI 0) (nI 2) _) kv_L_get kw7_12 kw7_13 ⟨Nat.le_of_ble_eq_true rfl, Nat.le_of_ble_eq_true rfl⟩ rfl rfl rfl hl.1 rfl (Nat.le_of_ble_eq_true rfl) dL_isSo_105 ⟨(Nat.le_of_ble_eq_true rfl), (Nat.le_of_ble_eq_true rfl)⟩) ?_
                  refine x_top (y := (nf σ i 0)) ((lwG_eq _ (by decide) (by decide)).trans ((hU i 0 (by omega) (by decide)).symm)) ?_
                  refine x_top (y := (nI pp)) (e0) ?_
                  refine lv_imul S.1 S.2.1 dL_isSo_108 ?_
                  refine x_top (y := (nI (5 * pp))) (pk_mul 5 pp) ?_
                  refine lv_istore S.1 S.2.1 dL_isSo_109 hl (by decide) rfl (fun ls hl => ?_)
                  have hl : lv_has ls 15 [(13, .int (nI (5 * pp))), (12, .int (rfHrd σ n i)), (11, .int (nI 1)), (10, .int (nf σ i 4)), (9, .int (nI 4)), (8, .int (nI i)), (4, .int (rfAhd σ i)), (5, .int (lwAll σ n i)), (7, .int (nI 1)), (3, .int (rfSum σ n)), (6, .ref s.heap.size), (0, .ref B), (1, .ref a), (2, .ref b)] := hl
                  refine lv_aload S.1 S.2.1 dL_isSo_111 (lv_at hl 10 rfl) ?_
                  refine lv_iload S.1 S.2.1 dL_isSo_113 (lv_at hl 0 rfl) ?_
                  refine lv_dup2_11 S.1 S.2.1 dL_isSo_115 rfl rfl ?_
                  refine x_iald S hE (hp) (5 * pp) rfl (by omega) (by decide) dL_isSo_116 ?_
                  refine lv_aload_n S.1 S.2.1 dL_isSo_117 rfl (lv_at hl 13 rfl) ?_
                  refine lv_iload S.1 S.2.1 dL_isSo_118 (lv_at hl 5 rfl) ?_
                  refine x_lald S hE hEL (hc) i rfl (by omega) (by decide) dL_isSo_120 ?_
                  refine xk_R (v := (bI (nI 1 ≤ fld 3 (κ i) ∧ fld 3 (κ i) ≤ nI 4))) (x_runS (As := [.long (κ i)]) (rest := [.int (f (5 * pp)), .int (nI (5 * pp)), .ref s.heap.size]) S hE hS (fun _ h => h.elim) (c_L_placed l E (κ i) _) kv_L_placed kw7_18 kw7_19 ⟨Nat.le_of_ble_eq_true rfl, Nat.le_of_ble_eq_true rfl⟩ rfl rfl rfl hl.1 rfl (Nat.le_of_ble_eq_true rfl) dL_isSo_121 ⟨(Nat.le_of_ble_eq_true rfl), (Nat.le_of_ble_eq_true rfl)⟩) ?_
                  refine x_top (y := (nI 1)) ((bI_iff (by show _ ↔ (nI 1 ≤ nf σ i 3 ∧ nf σ i 3 ≤ nI 4); rw [hU i 3 (by omega) (by decide)])).trans (bI_t fPl).symm) ?_
                  refine lv_if_eq (tgt := 131) S.1 S.2.1 dL_isSo_124 rfl (fun h221 => ?_) (fun h221 => ?_)
                  · exact absurd h221 (by decide)
                  · skip
                    refine lv_iconst (v := (nI 1)) S.1 S.2.1 dL_isSo_127 (by decide) ?_
                    refine lv_goto (tgt := 132) S.1 S.2.1 dL_isSo_128 rfl ?_
                    refine lv_iadd S.1 S.2.1 dL_isSo_132 ?_
                    refine x_iast S hE hS (Or.inr (Nat.le_refl _)) (hp) (5 * pp) rfl (by omega) (by decide) dL_isSo_133 (fun H locs hX hO1 hS => ?_)
                    have hg := va_at.kept hg (hO1.2 a (Nat.ne_of_lt haz))
                    have hc := va_at.kept hc (hO1.2 b (Nat.ne_of_lt hbz))
                    have hB := hB.fr (fun q z => hO1.2 q (by have := z.2; omega))
                    have hp := hX
                    refine lv_aload S.1 S.2.1 dL_isSo_134 (lv_at hl 10 rfl) ?_
                    refine lv_iload S.1 S.2.1 dL_isSo_136 (lv_at hl 0 rfl) ?_
                    refine lv_iconst (v := (nI 1)) S.1 S.2.1 dL_isSo_138 (by decide) ?_
                    refine lv_iadd S.1 S.2.1 dL_isSo_139 ?_
                    refine x_top (y := (nI ((5 * pp) + 1))) (nI_add (5 * pp) 1) ?_
                    refine lv_dup2_11 S.1 S.2.1 dL_isSo_140 rfl rfl ?_
                    refine x_iald S hE (hp) ((5 * pp) + 1) rfl (by omega) (by decide) dL_isSo_141 ?_
                    refine x_top (y := (f ((5 * pp) + 1))) (pk_un (by omega)) ?_
                    refine lv_iload S.1 S.2.1 dL_isSo_142 (lv_at hl 4 rfl) ?_
                    refine lv_iconst (v := (nI 5)) S.1 S.2.1 dL_isSo_144 (by decide) ?_
                    refine lv_icmp_ne (tgt := 152) S.1 S.2.1 dL_isSo_145 rfl (fun h222 => ?_) (fun h222 => ?_)
                    · skip
                      refine lv_iconst (v := (nI 0)) S.1 S.2.1 dL_isSo_152 (by decide) ?_
                      refine lv_iadd S.1 S.2.1 dL_isSo_153 ?_
                      refine x_iast S hE hS (Or.inr (Nat.le_refl _)) (hp) ((5 * pp) + 1) rfl (by omega) (by decide) dL_isSo_154 (fun H locs hX hO1 hS => ?_)
                      have hg := va_at.kept hg (hO1.2 a (Nat.ne_of_lt haz))
                      have hc := va_at.kept hc (hO1.2 b (Nat.ne_of_lt hbz))
                      have hB := hB.fr (fun q z => hO1.2 q (by have := z.2; omega))
                      have hp := hX
                      refine lv_aload S.1 S.2.1 dL_isSo_155 (lv_at hl 10 rfl) ?_
                      refine lv_iload S.1 S.2.1 dL_isSo_157 (lv_at hl 0 rfl) ?_
                      refine lv_iconst (v := (nI 2)) S.1 S.2.1 dL_isSo_159 (by decide) ?_
                      refine lv_iadd S.1 S.2.1 dL_isSo_160 ?_
                      refine x_top (y := (nI ((5 * pp) + 2))) (nI_add (5 * pp) 2) ?_
                      refine lv_dup2_11 S.1 S.2.1 dL_isSo_161 rfl rfl ?_
                      refine x_iald S hE (hp) ((5 * pp) + 2) rfl (by omega) (by decide) dL_isSo_162 ?_
                      refine x_top (y := (f ((5 * pp) + 2))) ((pk_un (by omega)).trans (pk_un (by omega))) ?_
                      refine lv_iload S.1 S.2.1 dL_isSo_163 (lv_at hl 2 rfl) ?_
                      refine lv_if_eq (tgt := 173) S.1 S.2.1 dL_isSo_165 rfl (fun h223 => ?_) (fun h223 => ?_)
                      · exact absurd h223 (by decide)
                      · skip
                        refine lv_iload S.1 S.2.1 dL_isSo_168 (lv_at hl 3 rfl) ?_
                        refine lv_goto (tgt := 174) S.1 S.2.1 dL_isSo_170 rfl ?_
                        refine lv_iadd S.1 S.2.1 dL_isSo_174 ?_
                        refine x_iast S hE hS (Or.inr (Nat.le_refl _)) (hp) ((5 * pp) + 2) rfl (by omega) (by decide) dL_isSo_175 (fun H locs hX hO1 hS => ?_)
                        have hg := va_at.kept hg (hO1.2 a (Nat.ne_of_lt haz))
                        have hc := va_at.kept hc (hO1.2 b (Nat.ne_of_lt hbz))
                        have hB := hB.fr (fun q z => hO1.2 q (by have := z.2; omega))
                        have hp := hX
                        refine lv_aload S.1 S.2.1 dL_isSo_176 (lv_at hl 10 rfl) ?_
                        refine lv_iload S.1 S.2.1 dL_isSo_178 (lv_at hl 0 rfl) ?_
                        refine lv_iconst (v := (nI 3)) S.1 S.2.1 dL_isSo_180 (by decide) ?_
                        refine lv_iadd S.1 S.2.1 dL_isSo_181 ?_
                        refine x_top (y := (nI ((5 * pp) + 3))) (nI_add (5 * pp) 3) ?_
                        refine lv_dup2_11 S.1 S.2.1 dL_isSo_182 rfl rfl ?_
                        refine x_iald S hE (hp) ((5 * pp) + 3) rfl (by omega) (by decide) dL_isSo_183 ?_
                        refine x_top (y := (f ((5 * pp) + 3))) ((pk_un (by omega)).trans ((pk_un (by omega)).trans (pk_un (by omega)))) ?_
                        refine lv_iload S.1 S.2.1 dL_isSo_184 (lv_at hl 2 rfl) ?_
                        refine lv_if_eq (tgt := 194) S.1 S.2.1 dL_isSo_186 rfl (fun h224 => ?_) (fun h224 => ?_)
                        · exact absurd h224 (by decide)
                        · skip
                          refine lv_iload S.1 S.2.1 dL_isSo_189 (lv_at hl 1 rfl) ?_
                          refine lv_goto (tgt := 195) S.1 S.2.1 dL_isSo_191 rfl ?_
                          refine lv_iadd S.1 S.2.1 dL_isSo_195 ?_
                          refine x_iast S hE hS (Or.inr (Nat.le_refl _)) (hp) ((5 * pp) + 3) rfl (by omega) (by decide) dL_isSo_196 (fun H locs hX hO1 hS => ?_)
                          have hg := va_at.kept hg (hO1.2 a (Nat.ne_of_lt haz))
                          have hc := va_at.kept hc (hO1.2 b (Nat.ne_of_lt hbz))
                          have hB := hB.fr (fun q z => hO1.2 q (by have := z.2; omega))
                          have hp := hX
                          refine lv_aload S.1 S.2.1 dL_isSo_197 (lv_at hl 10 rfl) ?_
                          refine lv_iload S.1 S.2.1 dL_isSo_199 (lv_at hl 0 rfl) ?_
                          refine lv_iconst (v := (nI 4)) S.1 S.2.1 dL_isSo_201 (by decide) ?_
                          refine lv_iadd S.1 S.2.1 dL_isSo_202 ?_
                          refine x_top (y := (nI ((5 * pp) + 4))) (nI_add (5 * pp) 4) ?_
                          refine lv_dup2_11 S.1 S.2.1 dL_isSo_203 rfl rfl ?_
                          refine x_iald S hE (hp) ((5 * pp) + 4) rfl (by omega) (by decide) dL_isSo_204 ?_
                          refine x_top (y := (f ((5 * pp) + 4))) ((pk_un (by omega)).trans ((pk_un (by omega)).trans ((pk_un (by omega)).trans (pk_un (by omega))))) ?_
                          refine lv_iload S.1 S.2.1 dL_isSo_205 (lv_at hl 4 rfl) ?_
                          refine lv_if_ne (tgt := 214) S.1 S.2.1 dL_isSo_207 rfl (fun h225 => ?_) (fun h225 => ?_)
                          · skip
                            refine lv_iconst (v := (nI 0)) S.1 S.2.1 dL_isSo_214 (by decide) ?_
                            refine lv_iadd S.1 S.2.1 dL_isSo_215 ?_
                            refine x_iast S hE hS (Or.inr (Nat.le_refl _)) (hp) ((5 * pp) + 4) rfl (by omega) (by decide) dL_isSo_216 (fun H locs hX hO1 hS => ?_)
                            have hg := va_at.kept hg (hO1.2 a (Nat.ne_of_lt haz))
                            have hc := va_at.kept hc (hO1.2 b (Nat.ne_of_lt hbz))
                            have hB := hB.fr (fun q z => hO1.2 q (by have := z.2; omega))
                            have hp := hX
                            refine lv_iload S.1 S.2.1 dL_isSo_217 (lv_at hl 7 rfl) ?_
                            refine lv_iload S.1 S.2.1 dL_isSo_219 (lv_at hl 2 rfl) ?_
                            refine lv_if_eq (tgt := 229) S.1 S.2.1 dL_isSo_221 rfl (fun h226 => ?_) (fun h226 => ?_)
                            · exact absurd h226 (by decide)
                            · skip
                              refine lv_iload S.1 S.2.1 dL_isSo_224 (lv_at hl 1 rfl) ?_
                              refine lv_goto (tgt := 230) S.1 S.2.1 dL_isSo_226 rfl ?_
                              refine lv_iadd S.1 S.2.1 dL_isSo_230 ?_
                              refine lv_istore S.1 S.2.1 dL_isSo_231 hl (by decide) rfl (fun ls hl => ?_)
                              have hl : lv_has ls 15 [(5, .int ((lwAll σ n i) + (rfHrd σ n i))), (13, .int (nI (5 * pp))), (12, .int (rfHrd σ n i)), (11, .int (nI 1)), (10, .int (nf σ i 4)), (9, .int (nI 4)), (8, .int (nI i)), (4, .int (rfAhd σ i)), (7, .int (nI 1)), (3, .int (rfSum σ n)), (6, .ref s.heap.size), (0, .ref B), (1, .ref a), (2, .ref b)] := hl
                              refine lv_aload_n S.1 S.2.1 dL_isSo_233 rfl (lv_at hl 11 rfl) ?_
                              refine lv_iload S.1 S.2.1 dL_isSo_234 (lv_at hl 6 rfl) ?_
                              refine lv_iconst (v := (nI 0)) S.1 S.2.1 dL_isSo_236 (by decide) ?_
                              refine xk_R (v := (bxNote β.1 (nI i) (nI 0))) (x_runV (As := [.int (nI i), .int (nI 0)]) (rest := []) S hE hS (fun _ h => h.elim) (c_X7_noteOf l E B β (nI i) (nI 0) _ hB) kv_X7_noteOf kw7_21 kw7_22 kw7_23 (x_recv hE (hB.1) (ci := 7) rfl) ⟨Nat.le_of_ble_eq_true rfl, Nat.le_of_ble_eq_true rfl⟩ rfl rfl rfl hl.1 rfl (Nat.le_of_ble_eq_true rfl) dL_isSo_237 ⟨(Nat.le_of_ble_eq_true rfl), (Nat.le_of_ble_eq_true rfl)⟩) ?_
                              refine x_top (y := (nI ((5 * pp) / 5))) ((nt_0 hT hlt).trans (e0.trans (congrArg nI (by omega)))) ?_
                              refine lv_iload S.1 S.2.1 dL_isSo_240 (lv_at hl 1 rfl) ?_
                              refine lv_iconst (v := (nI 5)) S.1 S.2.1 dL_isSo_242 (by decide) ?_
                              refine lv_idiv S.1 S.2.1 dL_isSo_243 (by decide) ?_
                              refine x_top (y := (nI ((5 * pp) / 5))) (pk_div (by omega) (by decide) (by decide)) ?_
                              refine lv_icmp_ne (tgt := 404) S.1 S.2.1 dL_isSo_244 rfl (fun h227 => ?_) (fun h227 => ?_)
                              · exact absurd rfl h227
                              · skip
                                refine lv_aload_n S.1 S.2.1 dL_isSo_247 rfl (lv_at hl 11 rfl) ?_
                                refine lv_iload S.1 S.2.1 dL_isSo_248 (lv_at hl 6 rfl) ?_
                                refine lv_iconst (v := (nI 1)) S.1 S.2.1 dL_isSo_250 (by decide) ?_
                                refine xk_R (v := (bxNote β.1 (nI i) (nI 1))) (x_runV (As := [.int (nI i), .int (nI 1)]) (rest := []) S hE hS (fun _ h => h.elim) (c_X7_noteOf l E B β (nI i) (nI 1) _ hB) kv_X7_noteOf kw7_21 kw7_22 kw7_23 (x_recv hE (hB.1) (ci := 7) rfl) ⟨Nat.le_of_ble_eq_true rfl, Nat.le_of_ble_eq_true rfl⟩ rfl rfl rfl hl.1 rfl (Nat.le_of_ble_eq_true rfl) dL_isSo_251 ⟨(Nat.le_of_ble_eq_true rfl), (Nat.le_of_ble_eq_true rfl)⟩) ?_
                                refine x_top (y := (nf σ i 1)) (nt_1 hT hlt) ?_
                                refine lv_aload_n S.1 S.2.1 dL_isSo_254 rfl (lv_at hl 13 rfl) ?_
                                refine lv_iload S.1 S.2.1 dL_isSo_255 (lv_at hl 6 rfl) ?_
                                refine x_lald S hE hEL (hc) i rfl (by omega) (by decide) dL_isSo_257 ?_
                                refine lv_iconst (v := (nI 2)) S.1 S.2.1 dL_isSo_258 (by decide) ?_
                                refine lv_bipush (v := (nI 7)) S.1 S.2.1 dL_isSo_259 (by decide) ?_
                                refine xk_R (v := (lwG (κ i) (nI 2) (nI 7))) (x_runS (As := [.long (κ i), .int (nI 2), .int (nI 7)]) (rest := [.int (nf σ i 1)]) S hE hS (fun _ h => h.elim) (c_L_get l E (κ i) (nI 2) (nI 7) _) kv_L_get kw7_12 kw7_13 ⟨Nat.le_of_ble_eq_true rfl, Nat.le_of_ble_eq_true rfl⟩ rfl rfl rfl hl.1 rfl (Nat.le_of_ble_eq_true rfl) dL_isSo_261 ⟨(Nat.le_of_ble_eq_true rfl), (Nat.le_of_ble_eq_true rfl)⟩) ?_
                                refine x_top (y := (nf σ i 1)) ((lwG_eq _ (by decide) (by decide)).trans ((hU i 1 (by omega) (by decide)).symm)) ?_
                                refine lv_icmp_ne (tgt := 404) S.1 S.2.1 dL_isSo_264 rfl (fun h228 => ?_) (fun h228 => ?_)
                                · exact absurd rfl h228
                                · skip
                                  refine lv_aload_n S.1 S.2.1 dL_isSo_267 rfl (lv_at hl 11 rfl) ?_
                                  refine lv_iload S.1 S.2.1 dL_isSo_268 (lv_at hl 6 rfl) ?_
                                  refine lv_iconst (v := (nI 2)) S.1 S.2.1 dL_isSo_270 (by decide) ?_
                                  refine xk_R (v := (bxNote β.1 (nI i) (nI 2))) (x_runV (As := [.int (nI i), .int (nI 2)]) (rest := []) S hE hS (fun _ h => h.elim) (c_X7_noteOf l E B β (nI i) (nI 2) _ hB) kv_X7_noteOf kw7_21 kw7_22 kw7_23 (x_recv hE (hB.1) (ci := 7) rfl) ⟨Nat.le_of_ble_eq_true rfl, Nat.le_of_ble_eq_true rfl⟩ rfl rfl rfl hl.1 rfl (Nat.le_of_ble_eq_true rfl) dL_isSo_271 ⟨(Nat.le_of_ble_eq_true rfl), (Nat.le_of_ble_eq_true rfl)⟩) ?_
                                  refine x_top (y := (nf σ i 2)) (nt_2 hT hlt) ?_
                                  refine lv_aload_n S.1 S.2.1 dL_isSo_274 rfl (lv_at hl 13 rfl) ?_
                                  refine lv_iload S.1 S.2.1 dL_isSo_275 (lv_at hl 6 rfl) ?_
                                  refine x_lald S hE hEL (hc) i rfl (by omega) (by decide) dL_isSo_277 ?_
                                  refine lv_bipush (v := (nI 9)) S.1 S.2.1 dL_isSo_278 (by decide) ?_
                                  refine lv_bipush (v := (nI 7)) S.1 S.2.1 dL_isSo_280 (by decide) ?_
                                  refine xk_R (v := (lwG (κ i) (nI 9) (nI 7))) (x_runS (As := [.long (κ i), .int (nI 9), .int (nI 7)]) (rest := [.int (nf σ i 2)]) S hE hS (fun _ h => h.elim) (c_L_get l E (κ i) (nI 9) (nI 7) _) kv_L_get kw7_12 kw7_13 ⟨Nat.le_of_ble_eq_true rfl, Nat.le_of_ble_eq_true rfl⟩ rfl rfl rfl hl.1 rfl (Nat.le_of_ble_eq_true rfl) dL_isSo_282 ⟨(Nat.le_of_ble_eq_true rfl), (Nat.le_of_ble_eq_true rfl)⟩) ?_
                                  refine x_top (y := (nf σ i 2)) ((lwG_eq _ (by decide) (by decide)).trans ((hU i 2 (by omega) (by decide)).symm)) ?_
                                  refine lv_icmp_ne (tgt := 404) S.1 S.2.1 dL_isSo_285 rfl (fun h229 => ?_) (fun h229 => ?_)
                                  · exact absurd rfl h229
                                  · skip
                                    refine lv_aload_n S.1 S.2.1 dL_isSo_288 rfl (lv_at hl 11 rfl) ?_
                                    refine lv_iload S.1 S.2.1 dL_isSo_289 (lv_at hl 6 rfl) ?_
                                    refine lv_iconst (v := (nI 3)) S.1 S.2.1 dL_isSo_291 (by decide) ?_
                                    refine xk_R (v := (bxNote β.1 (nI i) (nI 3))) (x_runV (As := [.int (nI i), .int (nI 3)]) (rest := []) S hE hS (fun _ h => h.elim) (c_X7_noteOf l E B β (nI i) (nI 3) _ hB) kv_X7_noteOf kw7_21 kw7_22 kw7_23 (x_recv hE (hB.1) (ci := 7) rfl) ⟨Nat.le_of_ble_eq_true rfl, Nat.le_of_ble_eq_true rfl⟩ rfl rfl rfl hl.1 rfl (Nat.le_of_ble_eq_true rfl) dL_isSo_292 ⟨(Nat.le_of_ble_eq_true rfl), (Nat.le_of_ble_eq_true rfl)⟩) ?_
                                    refine x_top (y := (nI 4)) ((nt_3 hT hlt).trans ex) ?_
                                    refine lv_iload S.1 S.2.1 dL_isSo_295 (lv_at hl 5 rfl) ?_
                                    refine lv_icmp_ne (tgt := 404) S.1 S.2.1 dL_isSo_297 rfl (fun h230 => ?_) (fun h230 => ?_)
                                    · exact absurd h230 (by decide)
                                    · skip
                                      refine lv_aload_n S.1 S.2.1 dL_isSo_300 rfl (lv_at hl 11 rfl) ?_
                                      refine lv_iload S.1 S.2.1 dL_isSo_301 (lv_at hl 6 rfl) ?_
                                      refine lv_iconst (v := (nI 4)) S.1 S.2.1 dL_isSo_303 (by decide) ?_
                                      refine xk_R (v := (bxNote β.1 (nI i) (nI 4))) (x_runV (As := [.int (nI i), .int (nI 4)]) (rest := []) S hE hS (fun _ h => h.elim) (c_X7_noteOf l E B β (nI i) (nI 4) _ hB) kv_X7_noteOf kw7_21 kw7_22 kw7_23 (x_recv hE (hB.1) (ci := 7) rfl) ⟨Nat.le_of_ble_eq_true rfl, Nat.le_of_ble_eq_true rfl⟩ rfl rfl rfl hl.1 rfl (Nat.le_of_ble_eq_true rfl) dL_isSo_304 ⟨(Nat.le_of_ble_eq_true rfl), (Nat.le_of_ble_eq_true rfl)⟩) ?_
                                      refine x_top (y := (nf σ i 4)) ((nt_4 hT hlt).trans (if_pos fVo)) ?_
                                      refine lv_iload S.1 S.2.1 dL_isSo_307 (lv_at hl 3 rfl) ?_
                                      refine lv_if_eq (tgt := 317) S.1 S.2.1 dL_isSo_309 rfl (fun h231 => ?_) (fun h231 => ?_)
                                      · exact absurd h231 (by decide)
                                      · skip
                                        refine lv_iload S.1 S.2.1 dL_isSo_312 (lv_at hl 4 rfl) ?_
                                        refine lv_goto (tgt := 319) S.1 S.2.1 dL_isSo_314 rfl ?_
                                        refine lv_icmp_ne (tgt := 404) S.1 S.2.1 dL_isSo_319 rfl (fun h232 => ?_) (fun h232 => ?_)
                                        · exact absurd rfl h232
                                        · skip
                                          refine lv_aload_n S.1 S.2.1 dL_isSo_322 rfl (lv_at hl 11 rfl) ?_
                                          refine lv_iload S.1 S.2.1 dL_isSo_323 (lv_at hl 6 rfl) ?_
                                          refine lv_iconst (v := (nI 5)) S.1 S.2.1 dL_isSo_325 (by decide) ?_
                                          refine xk_R (v := (bxNote β.1 (nI i) (nI 5))) (x_runV (As := [.int (nI i), .int (nI 5)]) (rest := []) S hE hS (fun _ h => h.elim) (c_X7_noteOf l E B β (nI i) (nI 5) _ hB) kv_X7_noteOf kw7_21 kw7_22 kw7_23 (x_recv hE (hB.1) (ci := 7) rfl) ⟨Nat.le_of_ble_eq_true rfl, Nat.le_of_ble_eq_true rfl⟩ rfl rfl rfl hl.1 rfl (Nat.le_of_ble_eq_true rfl) dL_isSo_326 ⟨(Nat.le_of_ble_eq_true rfl), (Nat.le_of_ble_eq_true rfl)⟩) ?_
                                          refine x_top (y := (rfHrd σ n i)) ((nt_5 hT hlt).trans (if_pos fVo)) ?_
                                          refine lv_iload S.1 S.2.1 dL_isSo_329 (lv_at hl 3 rfl) ?_
                                          refine lv_if_eq (tgt := 339) S.1 S.2.1 dL_isSo_331 rfl (fun h233 => ?_) (fun h233 => ?_)
                                          · exact absurd h233 (by decide)
                                          · skip
                                            refine lv_iload S.1 S.2.1 dL_isSo_334 (lv_at hl 2 rfl) ?_
                                            refine lv_goto (tgt := 341) S.1 S.2.1 dL_isSo_336 rfl ?_
                                            refine lv_icmp_ne (tgt := 404) S.1 S.2.1 dL_isSo_341 rfl (fun h234 => ?_) (fun h234 => ?_)
                                            · exact absurd rfl h234
                                            · skip
                                              refine lv_aload_n S.1 S.2.1 dL_isSo_344 rfl (lv_at hl 11 rfl) ?_
                                              refine lv_iload S.1 S.2.1 dL_isSo_345 (lv_at hl 6 rfl) ?_
                                              refine lv_bipush (v := (nI 6)) S.1 S.2.1 dL_isSo_347 (by decide) ?_
                                              refine xk_R (v := (bxNote β.1 (nI i) (nI 6))) (x_runV (As := [.int (nI i), .int (nI 6)]) (rest := []) S hE hS (fun _ h => h.elim) (c_X7_noteOf l E B β (nI i) (nI 6) _ hB) kv_X7_noteOf kw7_21 kw7_22 kw7_23 (x_recv hE (hB.1) (ci := 7) rfl) ⟨Nat.le_of_ble_eq_true rfl, Nat.le_of_ble_eq_true rfl⟩ rfl rfl rfl hl.1 rfl (Nat.le_of_ble_eq_true rfl) dL_isSo_349 ⟨(Nat.le_of_ble_eq_true rfl), (Nat.le_of_ble_eq_true rfl)⟩) ?_
                                              refine x_top (y := (nf σ i 6)) (nt_6 hT hlt) ?_
                                              refine lv_aload_n S.1 S.2.1 dL_isSo_352 rfl (lv_at hl 13 rfl) ?_
                                              refine lv_iload S.1 S.2.1 dL_isSo_353 (lv_at hl 6 rfl) ?_
                                              refine x_lald S hE hEL (hc) i rfl (by omega) (by decide) dL_isSo_355 ?_
                                              refine lv_bipush (v := (nI 41)) S.1 S.2.1 dL_isSo_356 (by decide) ?_
                                              refine lv_iconst (v := (nI 1)) S.1 S.2.1 dL_isSo_358 (by decide) ?_
                                              refine xk_R (v := (lwG (κ i) (nI 41) (nI 1))) (x_runS (As := [.long (κ i), .int (nI 41), .int (nI 1)]) (rest := [.int (nf σ i 6)]) S hE hS (fun _ h => h.elim) (c_L_get l E (κ i) (nI 41) (nI 1) _) kv_L_get kw7_12 kw7_13 ⟨Nat.le_of_ble_eq_true rfl, Nat.le_of_ble_eq_true rfl⟩ rfl rfl rfl hl.1 rfl (Nat.le_of_ble_eq_true rfl) dL_isSo_359 ⟨(Nat.le_of_ble_eq_true rfl), (Nat.le_of_ble_eq_true rfl)⟩) ?_
                                              refine x_top (y := (nf σ i 6)) ((lwG_eq _ (by decide) (by decide)).trans ((hU i 6 (by omega) (by decide)).symm)) ?_
                                              refine lv_icmp_ne (tgt := 404) S.1 S.2.1 dL_isSo_362 rfl (fun h235 => ?_) (fun h235 => ?_)
                                              · exact absurd rfl h235
                                              · skip
                                                refine lv_aload_n S.1 S.2.1 dL_isSo_365 rfl (lv_at hl 11 rfl) ?_
                                                refine lv_iload S.1 S.2.1 dL_isSo_366 (lv_at hl 6 rfl) ?_
                                                refine lv_bipush (v := (nI 7)) S.1 S.2.1 dL_isSo_368 (by decide) ?_
                                                refine xk_R (v := (bxNote β.1 (nI i) (nI 7))) (x_runV (As := [.int (nI i), .int (nI 7)]) (rest := []) S hE hS (fun _ h => h.elim) (c_X7_noteOf l E B β (nI i) (nI 7) _ hB) kv_X7_noteOf kw7_21 kw7_22 kw7_23 (x_recv hE (hB.1) (ci := 7) rfl) ⟨Nat.le_of_ble_eq_true rfl, Nat.le_of_ble_eq_true rfl⟩ rfl rfl rfl hl.1 rfl (Nat.le_of_ble_eq_true rfl) dL_isSo_370 ⟨(Nat.le_of_ble_eq_true rfl), (Nat.le_of_ble_eq_true rfl)⟩) ?_
                                                refine x_top (y := (-4)) ((nt_7 hT hlt).trans (if_neg f0)) ?_
                                                refine lv_iload S.1 S.2.1 dL_isSo_373 (lv_at hl 5 rfl) ?_
                                                refine lv_if_ne (tgt := 383) S.1 S.2.1 dL_isSo_375 rfl (fun h236 => ?_) (fun h236 => ?_)
                                                · skip
                                                  refine lv_bipush (v := (-4)) S.1 S.2.1 dL_isSo_383 (by decide) ?_
                                                  refine lv_icmp_ne (tgt := 404) S.1 S.2.1 dL_isSo_385 rfl (fun h237 => ?_) (fun h237 => ?_)
                                                  · exact absurd h237 (by decide)
                                                  · skip
                                                    refine lv_aload_n S.1 S.2.1 dL_isSo_388 rfl (lv_at hl 11 rfl) ?_
                                                    refine lv_iload S.1 S.2.1 dL_isSo_389 (lv_at hl 6 rfl) ?_
                                                    refine lv_bipush (v := (nI 8)) S.1 S.2.1 dL_isSo_391 (by decide) ?_
                                                    refine xk_R (v := (bxNote β.1 (nI i) (nI 8))) (x_runV (As := [.int (nI i), .int (nI 8)]) (rest := []) S hE hS (fun _ h => h.elim) (c_X7_noteOf l E B β (nI i) (nI 8) _ hB) kv_X7_noteOf kw7_21 kw7_22 kw7_23 (x_recv hE (hB.1) (ci := 7) rfl) ⟨Nat.le_of_ble_eq_true rfl, Nat.le_of_ble_eq_true rfl⟩ rfl rfl rfl hl.1 rfl (Nat.le_of_ble_eq_true rfl) dL_isSo_393 ⟨(Nat.le_of_ble_eq_true rfl), (Nat.le_of_ble_eq_true rfl)⟩) ?_
                                                    refine x_top (y := (-1)) (nt_8 hT hlt) ?_
                                                    refine lv_iconst (v := (-1)) S.1 S.2.1 dL_isSo_396 (by decide) ?_
                                                    refine lv_icmp_ne (tgt := 404) S.1 S.2.1 dL_isSo_397 rfl (fun h238 => ?_) (fun h238 => ?_)
                                                    · exact absurd h238 (by decide)
                                                    · skip
                                                      refine lv_iconst (v := (nI 1)) S.1 S.2.1 dL_isSo_400 (by decide) ?_
                                                      refine lv_goto (tgt := 405) S.1 S.2.1 dL_isSo_401 rfl ?_
                                                      refine lv_istore S.1 S.2.1 dL_isSo_405 hl (by decide) rfl (fun ls hl => ?_)
                                                      have hl : lv_has ls 15 [(7, .int (nI 1)), (5, .int ((lwAll σ n i) + (rfHrd σ n i))), (13, .int (nI (5 * pp))), (12, .int (rfHrd σ n i)), (11, .int (nI 1)), (10, .int (nf σ i 4)), (9, .int (nI 4)), (8, .int (nI i)), (4, .int (rfAhd σ i)), (3, .int (rfSum σ n)), (6, .ref s.heap.size), (0, .ref B), (1, .ref a), (2, .ref b)] := hl
                                                      refine lv_iload S.1 S.2.1 dL_isSo_407 (lv_at hl 8 rfl) ?_
                                                      refine lv_iload S.1 S.2.1 dL_isSo_409 (lv_at hl 6 rfl) ?_
                                                      refine lv_if_ne (tgt := 418) S.1 S.2.1 dL_isSo_411 rfl (fun h239 => ?_) (fun h239 => ?_)
                                                      · skip
                                                        refine lv_iconst (v := (nI 0)) S.1 S.2.1 dL_isSo_418 (by decide) ?_
                                                        refine lv_iadd S.1 S.2.1 dL_isSo_419 ?_
                                                        refine lv_istore S.1 S.2.1 dL_isSo_420 hl (by decide) rfl (fun ls hl => ?_)
                                                        have hl : lv_has ls 15 [(4, .int ((rfAhd σ i) + (nI 0))), (7, .int (nI 1)), (5, .int ((lwAll σ n i) + (rfHrd σ n i))), (13, .int (nI (5 * pp))), (12, .int (rfHrd σ n i)), (11, .int (nI 1)), (10, .int (nf σ i 4)), (9, .int (nI 4)), (8, .int (nI i)), (3, .int (rfSum σ n)), (6, .ref s.heap.size), (0, .ref B), (1, .ref a), (2, .ref b)] := hl
                                                        refine lv_iinc (k := 8) (v := (nI (i + 1))) S.1 S.2.1 dL_isSo_422 hl rfl (iincP i 1) (by decide) rfl (fun ls hl => ?_)
                                                        have hl : lv_has ls 15 [(8, .int (nI (i + 1))), (4, .int ((rfAhd σ i) + (nI 0))), (7, .int (nI 1)), (5, .int ((lwAll σ n i) + (rfHrd σ n i))), (13, .int (nI (5 * pp))), (12, .int (rfHrd σ n i)), (11, .int (nI 1)), (10, .int (nf σ i 4)), (9, .int (nI 4)), (3, .int (rfSum σ n)), (6, .ref s.heap.size), (0, .ref B), (1, .ref a), (2, .ref b)] := hl
                                                        refine lv_goto (tgt := 24) S.1 S.2.1 dL_isSo_425 rfl ?_
                                                        have hl : lv_has ls 15 [(8, .int (nI (i + 1))), (4, .int (rfAhd σ (i + 1))), (5, .int (lwAll σ n (i + 1))), (7, .int (nI 1)), (3, .int (rfSum σ n)), (6, .ref s.heap.size), (0, .ref B), (1, .ref a), (2, .ref b)] := by
                                                          rw [show (rfAhd σ (i + 1)) = ((rfAhd σ i) + (nI 0)) from by first | rw [rfAhd, if_pos f0] | rw [rfAhd, if_neg f0] | rw [lwAll, if_pos fVo] | rw [lwAll, if_neg fVo]]
                                                          rw [show (lwAll σ n (i + 1)) = ((lwAll σ n i) + (rfHrd σ n i)) from by first | rw [rfAhd, if_pos f0] | rw [rfAhd, if_neg f0] | rw [lwAll, if_pos fVo] | rw [lwAll, if_neg fVo]]
                                                          exact lv_sub hl [0, 1, 3, 2, 9, 10, 11, 12, 13] rfl
                                                        exact ih24 _ (by omega) (i + 1) (upd (upd (upd (upd (upd f (5 * pp) ((f (5 * pp)) + (nI 1))) ((5 * pp) + 1) ((f ((5 * pp) + 1)) + (nI 0))) ((5 * pp) + 2) ((f ((5 * pp) + 2)) + (nf σ i 4))) ((5 * pp) + 3) ((f ((5 * pp) + 3)) + (rfHrd σ n i))) ((5 * pp) + 4) ((f ((5 * pp) + 4)) + (nI 0))) _ _ ls rfl (by omega) (pa_step hPA hpp e0 (by first | rw [if_pos fPl] | rw [if_neg fPl]) (by first | rw [if_pos f5] | rw [if_neg f5]) (by first | rw [if_pos fVo] | rw [if_neg fVo]) (by first | rw [if_pos fVo] | rw [if_neg fVo]) (by first | rw [if_pos f0] | rw [if_neg f0])) (hB) (hg) (hc) (hp) (hS) (lv_sub hl [0, 1, 2, 3, 4, 5, 6, 7, 8] rfl)
                                                      · exact absurd h239 (by decide)
                                                · exact absurd h236 (by decide)
                          · exact absurd h225 (by decide)
                    · exact absurd h222 (by decide)
                · skip
                  refine lv_iload S.1 S.2.1 dL_isSo_82 (lv_at hl 1 rfl) ?_
                  refine lv_goto (tgt := 96) S.1 S.2.1 dL_isSo_84 rfl ?_
                  refine x_top (y := (rfHrd σ n i)) (by rw [rfHrd]; first | rw [if_pos (Int32.not_lt.mp h220)] | rw [if_neg (Int32.not_le.mpr h220)]) ?_
                  refine lv_istore S.1 S.2.1 dL_isSo_96 hl (by decide) rfl (fun ls hl => ?_)
                  have hl : lv_has ls 15 [(12, .int (rfHrd σ n i)), (11, .int (nI 1)), (10, .int (nf σ i 4)), (9, .int (nI 4)), (8, .int (nI i)), (4, .int (rfAhd σ i)), (5, .int (lwAll σ n i)), (7, .int (nI 1)), (3, .int (rfSum σ n)), (6, .ref s.heap.size), (0, .ref B), (1, .ref a), (2, .ref b)] := hl
                  refine lv_iconst (v := (nI 5)) S.1 S.2.1 dL_isSo_98 (by decide) ?_
                  refine lv_aload_n S.1 S.2.1 dL_isSo_99 rfl (lv_at hl 12 rfl) ?_
                  refine lv_iload S.1 S.2.1 dL_isSo_100 (lv_at hl 4 rfl) ?_
                  refine x_lald S hE hEL (hc) i rfl (by omega) (by decide) dL_isSo_102 ?_
                  refine lv_iconst (v := (nI 0)) S.1 S.2.1 dL_isSo_103 (by decide) ?_
                  refine lv_iconst (v := (nI 2)) S.1 S.2.1 dL_isSo_104 (by decide) ?_
                  refine xk_R (v := (lwG (κ i) (nI 0) (nI 2))) (x_runS (As := [.long (κ i), .int (nI 0), .int (nI 2)]) (rest := [.int (nI 5)]) S hE hS (fun _ h => h.elim) (c_L_get l E (κ i) (nI 0) (nI 2) _) kv_L_get kw7_12 kw7_13 ⟨Nat.le_of_ble_eq_true rfl, Nat.le_of_ble_eq_true rfl⟩ rfl rfl rfl hl.1 rfl (Nat.le_of_ble_eq_true rfl) dL_isSo_105 ⟨(Nat.le_of_ble_eq_true rfl), (Nat.le_of_ble_eq_true rfl)⟩) ?_
                  refine x_top (y := (nf σ i 0)) ((lwG_eq _ (by decide) (by decide)).trans ((hU i 0 (by omega) (by decide)).symm)) ?_
                  refine x_top (y := (nI pp)) (e0) ?_
                  refine lv_imul S.1 S.2.1 dL_isSo_108 ?_
                  refine x_top (y := (nI (5 * pp))) (pk_mul 5 pp) ?_
                  refine lv_istore S.1 S.2.1 dL_isSo_109 hl (by decide) rfl (fun ls hl => ?_)
                  have hl : lv_has ls 15 [(13, .int (nI (5 * pp))), (12, .int (rfHrd σ n i)), (11, .int (nI 1)), (10, .int (nf σ i 4)), (9, .int (nI 4)), (8, .int (nI i)), (4, .int (rfAhd σ i)), (5, .int (lwAll σ n i)), (7, .int (nI 1)), (3, .int (rfSum σ n)), (6, .ref s.heap.size), (0, .ref B), (1, .ref a), (2, .ref b)] := hl
                  refine lv_aload S.1 S.2.1 dL_isSo_111 (lv_at hl 10 rfl) ?_
                  refine lv_iload S.1 S.2.1 dL_isSo_113 (lv_at hl 0 rfl) ?_
                  refine lv_dup2_11 S.1 S.2.1 dL_isSo_115 rfl rfl ?_
                  refine x_iald S hE (hp) (5 * pp) rfl (by omega) (by decide) dL_isSo_116 ?_
                  refine lv_aload_n S.1 S.2.1 dL_isSo_117 rfl (lv_at hl 13 rfl) ?_
                  refine lv_iload S.1 S.2.1 dL_isSo_118 (lv_at hl 5 rfl) ?_
                  refine x_lald S hE hEL (hc) i rfl (by omega) (by decide) dL_isSo_120 ?_
                  refine xk_R (v := (bI (nI 1 ≤ fld 3 (κ i) ∧ fld 3 (κ i) ≤ nI 4))) (x_runS (As := [.long (κ i)]) (rest := [.int (f (5 * pp)), .int (nI (5 * pp)), .ref s.heap.size]) S hE hS (fun _ h => h.elim) (c_L_placed l E (κ i) _) kv_L_placed kw7_18 kw7_19 ⟨Nat.le_of_ble_eq_true rfl, Nat.le_of_ble_eq_true rfl⟩ rfl rfl rfl hl.1 rfl (Nat.le_of_ble_eq_true rfl) dL_isSo_121 ⟨(Nat.le_of_ble_eq_true rfl), (Nat.le_of_ble_eq_true rfl)⟩) ?_
                  refine x_top (y := (nI 1)) ((bI_iff (by show _ ↔ (nI 1 ≤ nf σ i 3 ∧ nf σ i 3 ≤ nI 4); rw [hU i 3 (by omega) (by decide)])).trans (bI_t fPl).symm) ?_
                  refine lv_if_eq (tgt := 131) S.1 S.2.1 dL_isSo_124 rfl (fun h240 => ?_) (fun h240 => ?_)
                  · exact absurd h240 (by decide)
                  · skip
                    refine lv_iconst (v := (nI 1)) S.1 S.2.1 dL_isSo_127 (by decide) ?_
                    refine lv_goto (tgt := 132) S.1 S.2.1 dL_isSo_128 rfl ?_
                    refine lv_iadd S.1 S.2.1 dL_isSo_132 ?_
                    refine x_iast S hE hS (Or.inr (Nat.le_refl _)) (hp) (5 * pp) rfl (by omega) (by decide) dL_isSo_133 (fun H locs hX hO1 hS => ?_)
                    have hg := va_at.kept hg (hO1.2 a (Nat.ne_of_lt haz))
                    have hc := va_at.kept hc (hO1.2 b (Nat.ne_of_lt hbz))
                    have hB := hB.fr (fun q z => hO1.2 q (by have := z.2; omega))
                    have hp := hX
                    refine lv_aload S.1 S.2.1 dL_isSo_134 (lv_at hl 10 rfl) ?_
                    refine lv_iload S.1 S.2.1 dL_isSo_136 (lv_at hl 0 rfl) ?_
                    refine lv_iconst (v := (nI 1)) S.1 S.2.1 dL_isSo_138 (by decide) ?_
                    refine lv_iadd S.1 S.2.1 dL_isSo_139 ?_
                    refine x_top (y := (nI ((5 * pp) + 1))) (nI_add (5 * pp) 1) ?_
                    refine lv_dup2_11 S.1 S.2.1 dL_isSo_140 rfl rfl ?_
                    refine x_iald S hE (hp) ((5 * pp) + 1) rfl (by omega) (by decide) dL_isSo_141 ?_
                    refine x_top (y := (f ((5 * pp) + 1))) (pk_un (by omega)) ?_
                    refine lv_iload S.1 S.2.1 dL_isSo_142 (lv_at hl 4 rfl) ?_
                    refine lv_iconst (v := (nI 5)) S.1 S.2.1 dL_isSo_144 (by decide) ?_
                    refine lv_icmp_ne (tgt := 152) S.1 S.2.1 dL_isSo_145 rfl (fun h241 => ?_) (fun h241 => ?_)
                    · skip
                      refine lv_iconst (v := (nI 0)) S.1 S.2.1 dL_isSo_152 (by decide) ?_
                      refine lv_iadd S.1 S.2.1 dL_isSo_153 ?_
                      refine x_iast S hE hS (Or.inr (Nat.le_refl _)) (hp) ((5 * pp) + 1) rfl (by omega) (by decide) dL_isSo_154 (fun H locs hX hO1 hS => ?_)
                      have hg := va_at.kept hg (hO1.2 a (Nat.ne_of_lt haz))
                      have hc := va_at.kept hc (hO1.2 b (Nat.ne_of_lt hbz))
                      have hB := hB.fr (fun q z => hO1.2 q (by have := z.2; omega))
                      have hp := hX
                      refine lv_aload S.1 S.2.1 dL_isSo_155 (lv_at hl 10 rfl) ?_
                      refine lv_iload S.1 S.2.1 dL_isSo_157 (lv_at hl 0 rfl) ?_
                      refine lv_iconst (v := (nI 2)) S.1 S.2.1 dL_isSo_159 (by decide) ?_
                      refine lv_iadd S.1 S.2.1 dL_isSo_160 ?_
                      refine x_top (y := (nI ((5 * pp) + 2))) (nI_add (5 * pp) 2) ?_
                      refine lv_dup2_11 S.1 S.2.1 dL_isSo_161 rfl rfl ?_
                      refine x_iald S hE (hp) ((5 * pp) + 2) rfl (by omega) (by decide) dL_isSo_162 ?_
                      refine x_top (y := (f ((5 * pp) + 2))) ((pk_un (by omega)).trans (pk_un (by omega))) ?_
                      refine lv_iload S.1 S.2.1 dL_isSo_163 (lv_at hl 2 rfl) ?_
                      refine lv_if_eq (tgt := 173) S.1 S.2.1 dL_isSo_165 rfl (fun h242 => ?_) (fun h242 => ?_)
                      · exact absurd h242 (by decide)
                      · skip
                        refine lv_iload S.1 S.2.1 dL_isSo_168 (lv_at hl 3 rfl) ?_
                        refine lv_goto (tgt := 174) S.1 S.2.1 dL_isSo_170 rfl ?_
                        refine lv_iadd S.1 S.2.1 dL_isSo_174 ?_
                        refine x_iast S hE hS (Or.inr (Nat.le_refl _)) (hp) ((5 * pp) + 2) rfl (by omega) (by decide) dL_isSo_175 (fun H locs hX hO1 hS => ?_)
                        have hg := va_at.kept hg (hO1.2 a (Nat.ne_of_lt haz))
                        have hc := va_at.kept hc (hO1.2 b (Nat.ne_of_lt hbz))
                        have hB := hB.fr (fun q z => hO1.2 q (by have := z.2; omega))
                        have hp := hX
                        refine lv_aload S.1 S.2.1 dL_isSo_176 (lv_at hl 10 rfl) ?_
                        refine lv_iload S.1 S.2.1 dL_isSo_178 (lv_at hl 0 rfl) ?_
                        refine lv_iconst (v := (nI 3)) S.1 S.2.1 dL_isSo_180 (by decide) ?_
                        refine lv_iadd S.1 S.2.1 dL_isSo_181 ?_
                        refine x_top (y := (nI ((5 * pp) + 3))) (nI_add (5 * pp) 3) ?_
                        refine lv_dup2_11 S.1 S.2.1 dL_isSo_182 rfl rfl ?_
                        refine x_iald S hE (hp) ((5 * pp) + 3) rfl (by omega) (by decide) dL_isSo_183 ?_
                        refine x_top (y := (f ((5 * pp) + 3))) ((pk_un (by omega)).trans ((pk_un (by omega)).trans (pk_un (by omega)))) ?_
                        refine lv_iload S.1 S.2.1 dL_isSo_184 (lv_at hl 2 rfl) ?_
                        refine lv_if_eq (tgt := 194) S.1 S.2.1 dL_isSo_186 rfl (fun h243 => ?_) (fun h243 => ?_)
                        · exact absurd h243 (by decide)
                        · skip
                          refine lv_iload S.1 S.2.1 dL_isSo_189 (lv_at hl 1 rfl) ?_
                          refine lv_goto (tgt := 195) S.1 S.2.1 dL_isSo_191 rfl ?_
                          refine lv_iadd S.1 S.2.1 dL_isSo_195 ?_
                          refine x_iast S hE hS (Or.inr (Nat.le_refl _)) (hp) ((5 * pp) + 3) rfl (by omega) (by decide) dL_isSo_196 (fun H locs hX hO1 hS => ?_)
                          have hg := va_at.kept hg (hO1.2 a (Nat.ne_of_lt haz))
                          have hc := va_at.kept hc (hO1.2 b (Nat.ne_of_lt hbz))
                          have hB := hB.fr (fun q z => hO1.2 q (by have := z.2; omega))
                          have hp := hX
                          refine lv_aload S.1 S.2.1 dL_isSo_197 (lv_at hl 10 rfl) ?_
                          refine lv_iload S.1 S.2.1 dL_isSo_199 (lv_at hl 0 rfl) ?_
                          refine lv_iconst (v := (nI 4)) S.1 S.2.1 dL_isSo_201 (by decide) ?_
                          refine lv_iadd S.1 S.2.1 dL_isSo_202 ?_
                          refine x_top (y := (nI ((5 * pp) + 4))) (nI_add (5 * pp) 4) ?_
                          refine lv_dup2_11 S.1 S.2.1 dL_isSo_203 rfl rfl ?_
                          refine x_iald S hE (hp) ((5 * pp) + 4) rfl (by omega) (by decide) dL_isSo_204 ?_
                          refine x_top (y := (f ((5 * pp) + 4))) ((pk_un (by omega)).trans ((pk_un (by omega)).trans ((pk_un (by omega)).trans (pk_un (by omega))))) ?_
                          refine lv_iload S.1 S.2.1 dL_isSo_205 (lv_at hl 4 rfl) ?_
                          refine lv_if_ne (tgt := 214) S.1 S.2.1 dL_isSo_207 rfl (fun h244 => ?_) (fun h244 => ?_)
                          · skip
                            refine lv_iconst (v := (nI 0)) S.1 S.2.1 dL_isSo_214 (by decide) ?_
                            refine lv_iadd S.1 S.2.1 dL_isSo_215 ?_
                            refine x_iast S hE hS (Or.inr (Nat.le_refl _)) (hp) ((5 * pp) + 4) rfl (by omega) (by decide) dL_isSo_216 (fun H locs hX hO1 hS => ?_)
                            have hg := va_at.kept hg (hO1.2 a (Nat.ne_of_lt haz))
                            have hc := va_at.kept hc (hO1.2 b (Nat.ne_of_lt hbz))
                            have hB := hB.fr (fun q z => hO1.2 q (by have := z.2; omega))
                            have hp := hX
                            refine lv_iload S.1 S.2.1 dL_isSo_217 (lv_at hl 7 rfl) ?_
                            refine lv_iload S.1 S.2.1 dL_isSo_219 (lv_at hl 2 rfl) ?_
                            refine lv_if_eq (tgt := 229) S.1 S.2.1 dL_isSo_221 rfl (fun h245 => ?_) (fun h245 => ?_)
                            · exact absurd h245 (by decide)
                            · skip
                              refine lv_iload S.1 S.2.1 dL_isSo_224 (lv_at hl 1 rfl) ?_
                              refine lv_goto (tgt := 230) S.1 S.2.1 dL_isSo_226 rfl ?_
                              refine lv_iadd S.1 S.2.1 dL_isSo_230 ?_
                              refine lv_istore S.1 S.2.1 dL_isSo_231 hl (by decide) rfl (fun ls hl => ?_)
                              have hl : lv_has ls 15 [(5, .int ((lwAll σ n i) + (rfHrd σ n i))), (13, .int (nI (5 * pp))), (12, .int (rfHrd σ n i)), (11, .int (nI 1)), (10, .int (nf σ i 4)), (9, .int (nI 4)), (8, .int (nI i)), (4, .int (rfAhd σ i)), (7, .int (nI 1)), (3, .int (rfSum σ n)), (6, .ref s.heap.size), (0, .ref B), (1, .ref a), (2, .ref b)] := hl
                              refine lv_aload_n S.1 S.2.1 dL_isSo_233 rfl (lv_at hl 11 rfl) ?_
                              refine lv_iload S.1 S.2.1 dL_isSo_234 (lv_at hl 6 rfl) ?_
                              refine lv_iconst (v := (nI 0)) S.1 S.2.1 dL_isSo_236 (by decide) ?_
                              refine xk_R (v := (bxNote β.1 (nI i) (nI 0))) (x_runV (As := [.int (nI i), .int (nI 0)]) (rest := []) S hE hS (fun _ h => h.elim) (c_X7_noteOf l E B β (nI i) (nI 0) _ hB) kv_X7_noteOf kw7_21 kw7_22 kw7_23 (x_recv hE (hB.1) (ci := 7) rfl) ⟨Nat.le_of_ble_eq_true rfl, Nat.le_of_ble_eq_true rfl⟩ rfl rfl rfl hl.1 rfl (Nat.le_of_ble_eq_true rfl) dL_isSo_237 ⟨(Nat.le_of_ble_eq_true rfl), (Nat.le_of_ble_eq_true rfl)⟩) ?_
                              refine x_top (y := (nI ((5 * pp) / 5))) ((nt_0 hT hlt).trans (e0.trans (congrArg nI (by omega)))) ?_
                              refine lv_iload S.1 S.2.1 dL_isSo_240 (lv_at hl 1 rfl) ?_
                              refine lv_iconst (v := (nI 5)) S.1 S.2.1 dL_isSo_242 (by decide) ?_
                              refine lv_idiv S.1 S.2.1 dL_isSo_243 (by decide) ?_
                              refine x_top (y := (nI ((5 * pp) / 5))) (pk_div (by omega) (by decide) (by decide)) ?_
                              refine lv_icmp_ne (tgt := 404) S.1 S.2.1 dL_isSo_244 rfl (fun h246 => ?_) (fun h246 => ?_)
                              · exact absurd rfl h246
                              · skip
                                refine lv_aload_n S.1 S.2.1 dL_isSo_247 rfl (lv_at hl 11 rfl) ?_
                                refine lv_iload S.1 S.2.1 dL_isSo_248 (lv_at hl 6 rfl) ?_
                                refine lv_iconst (v := (nI 1)) S.1 S.2.1 dL_isSo_250 (by decide) ?_
                                refine xk_R (v := (bxNote β.1 (nI i) (nI 1))) (x_runV (As := [.int (nI i), .int (nI 1)]) (rest := []) S hE hS (fun _ h => h.elim) (c_X7_noteOf l E B β (nI i) (nI 1) _ hB) kv_X7_noteOf kw7_21 kw7_22 kw7_23 (x_recv hE (hB.1) (ci := 7) rfl) ⟨Nat.le_of_ble_eq_true rfl, Nat.le_of_ble_eq_true rfl⟩ rfl rfl rfl hl.1 rfl (Nat.le_of_ble_eq_true rfl) dL_isSo_251 ⟨(Nat.le_of_ble_eq_true rfl), (Nat.le_of_ble_eq_true rfl)⟩) ?_
                                refine x_top (y := (nf σ i 1)) (nt_1 hT hlt) ?_
                                refine lv_aload_n S.1 S.2.1 dL_isSo_254 rfl (lv_at hl 13 rfl) ?_
                                refine lv_iload S.1 S.2.1 dL_isSo_255 (lv_at hl 6 rfl) ?_
                                refine x_lald S hE hEL (hc) i rfl (by omega) (by decide) dL_isSo_257 ?_
                                refine lv_iconst (v := (nI 2)) S.1 S.2.1 dL_isSo_258 (by decide) ?_
                                refine lv_bipush (v := (nI 7)) S.1 S.2.1 dL_isSo_259 (by decide) ?_
                                refine xk_R (v := (lwG (κ i) (nI 2) (nI 7))) (x_runS (As := [.long (κ i), .int (nI 2), .int (nI 7)]) (rest := [.int (nf σ i 1)]) S hE hS (fun _ h => h.elim) (c_L_get l E (κ i) (nI 2) (nI 7) _) kv_L_get kw7_12 kw7_13 ⟨Nat.le_of_ble_eq_true rfl, Nat.le_of_ble_eq_true rfl⟩ rfl rfl rfl hl.1 rfl (Nat.le_of_ble_eq_true rfl) dL_isSo_261 ⟨(Nat.le_of_ble_eq_true rfl), (Nat.le_of_ble_eq_true rfl)⟩) ?_
                                refine x_top (y := (nf σ i 1)) ((lwG_eq _ (by decide) (by decide)).trans ((hU i 1 (by omega) (by decide)).symm)) ?_
                                refine lv_icmp_ne (tgt := 404) S.1 S.2.1 dL_isSo_264 rfl (fun h247 => ?_) (fun h247 => ?_)
                                · exact absurd rfl h247
                                · skip
                                  refine lv_aload_n S.1 S.2.1 dL_isSo_267 rfl (lv_at hl 11 rfl) ?_
                                  refine lv_iload S.1 S.2.1 dL_isSo_268 (lv_at hl 6 rfl) ?_
                                  refine lv_iconst (v := (nI 2)) S.1 S.2.1 dL_isSo_270 (by decide) ?_
                                  refine xk_R (v := (bxNote β.1 (nI i) (nI 2))) (x_runV (As := [.int (nI i), .int (nI 2)]) (rest := []) S hE hS (fun _ h => h.elim) (c_X7_noteOf l E B β (nI i) (nI 2) _ hB) kv_X7_noteOf kw7_21 kw7_22 kw7_23 (x_recv hE (hB.1) (ci := 7) rfl) ⟨Nat.le_of_ble_eq_true rfl, Nat.le_of_ble_eq_true rfl⟩ rfl rfl rfl hl.1 rfl (Nat.le_of_ble_eq_true rfl) dL_isSo_271 ⟨(Nat.le_of_ble_eq_true rfl), (Nat.le_of_ble_eq_true rfl)⟩) ?_
                                  refine x_top (y := (nf σ i 2)) (nt_2 hT hlt) ?_
                                  refine lv_aload_n S.1 S.2.1 dL_isSo_274 rfl (lv_at hl 13 rfl) ?_
                                  refine lv_iload S.1 S.2.1 dL_isSo_275 (lv_at hl 6 rfl) ?_
                                  refine x_lald S hE hEL (hc) i rfl (by omega) (by decide) dL_isSo_277 ?_
                                  refine lv_bipush (v := (nI 9)) S.1 S.2.1 dL_isSo_278 (by decide) ?_
                                  refine lv_bipush (v := (nI 7)) S.1 S.2.1 dL_isSo_280 (by decide) ?_
                                  refine xk_R (v := (lwG (κ i) (nI 9) (nI 7))) (x_runS (As := [.long (κ i), .int (nI 9), .int (nI 7)]) (rest := [.int (nf σ i 2)]) S hE hS (fun _ h => h.elim) (c_L_get l E (κ i) (nI 9) (nI 7) _) kv_L_get kw7_12 kw7_13 ⟨Nat.le_of_ble_eq_true rfl, Nat.le_of_ble_eq_true rfl⟩ rfl rfl rfl hl.1 rfl (Nat.le_of_ble_eq_true rfl) dL_isSo_282 ⟨(Nat.le_of_ble_eq_true rfl), (Nat.le_of_ble_eq_true rfl)⟩) ?_
                                  refine x_top (y := (nf σ i 2)) ((lwG_eq _ (by decide) (by decide)).trans ((hU i 2 (by omega) (by decide)).symm)) ?_
                                  refine lv_icmp_ne (tgt := 404) S.1 S.2.1 dL_isSo_285 rfl (fun h248 => ?_) (fun h248 => ?_)
                                  · exact absurd rfl h248
                                  · skip
                                    refine lv_aload_n S.1 S.2.1 dL_isSo_288 rfl (lv_at hl 11 rfl) ?_
                                    refine lv_iload S.1 S.2.1 dL_isSo_289 (lv_at hl 6 rfl) ?_
                                    refine lv_iconst (v := (nI 3)) S.1 S.2.1 dL_isSo_291 (by decide) ?_
                                    refine xk_R (v := (bxNote β.1 (nI i) (nI 3))) (x_runV (As := [.int (nI i), .int (nI 3)]) (rest := []) S hE hS (fun _ h => h.elim) (c_X7_noteOf l E B β (nI i) (nI 3) _ hB) kv_X7_noteOf kw7_21 kw7_22 kw7_23 (x_recv hE (hB.1) (ci := 7) rfl) ⟨Nat.le_of_ble_eq_true rfl, Nat.le_of_ble_eq_true rfl⟩ rfl rfl rfl hl.1 rfl (Nat.le_of_ble_eq_true rfl) dL_isSo_292 ⟨(Nat.le_of_ble_eq_true rfl), (Nat.le_of_ble_eq_true rfl)⟩) ?_
                                    refine x_top (y := (nI 4)) ((nt_3 hT hlt).trans ex) ?_
                                    refine lv_iload S.1 S.2.1 dL_isSo_295 (lv_at hl 5 rfl) ?_
                                    refine lv_icmp_ne (tgt := 404) S.1 S.2.1 dL_isSo_297 rfl (fun h249 => ?_) (fun h249 => ?_)
                                    · exact absurd h249 (by decide)
                                    · skip
                                      refine lv_aload_n S.1 S.2.1 dL_isSo_300 rfl (lv_at hl 11 rfl) ?_
                                      refine lv_iload S.1 S.2.1 dL_isSo_301 (lv_at hl 6 rfl) ?_
                                      refine lv_iconst (v := (nI 4)) S.1 S.2.1 dL_isSo_303 (by decide) ?_
                                      refine xk_R (v := (bxNote β.1 (nI i) (nI 4))) (x_runV (As := [.int (nI i), .int (nI 4)]) (rest := []) S hE hS (fun _ h => h.elim) (c_X7_noteOf l E B β (nI i) (nI 4) _ hB) kv_X7_noteOf kw7_21 kw7_22 kw7_23 (x_recv hE (hB.1) (ci := 7) rfl) ⟨Nat.le_of_ble_eq_true rfl, Nat.le_of_ble_eq_true rfl⟩ rfl rfl rfl hl.1 rfl (Nat.le_of_ble_eq_true rfl) dL_isSo_304 ⟨(Nat.le_of_ble_eq_true rfl), (Nat.le_of_ble_eq_true rfl)⟩) ?_
                                      refine x_top (y := (nf σ i 4)) ((nt_4 hT hlt).trans (if_pos fVo)) ?_
                                      refine lv_iload S.1 S.2.1 dL_isSo_307 (lv_at hl 3 rfl) ?_
                                      refine lv_if_eq (tgt := 317) S.1 S.2.1 dL_isSo_309 rfl (fun h250 => ?_) (fun h250 => ?_)
                                      · exact absurd h250 (by decide)
                                      · skip
                                        refine lv_iload S.1 S.2.1 dL_isSo_312 (lv_at hl 4 rfl) ?_
                                        refine lv_goto (tgt := 319) S.1 S.2.1 dL_isSo_314 rfl ?_
                                        refine lv_icmp_ne (tgt := 404) S.1 S.2.1 dL_isSo_319 rfl (fun h251 => ?_) (fun h251 => ?_)
                                        · exact absurd rfl h251
                                        · skip
                                          refine lv_aload_n S.1 S.2.1 dL_isSo_322 rfl (lv_at hl 11 rfl) ?_
                                          refine lv_iload S.1 S.2.1 dL_isSo_323 (lv_at hl 6 rfl) ?_
                                          refine lv_iconst (v := (nI 5)) S.1 S.2.1 dL_isSo_325 (by decide) ?_
                                          refine xk_R (v := (bxNote β.1 (nI i) (nI 5))) (x_runV (As := [.int (nI i), .int (nI 5)]) (rest := []) S hE hS (fun _ h => h.elim) (c_X7_noteOf l E B β (nI i) (nI 5) _ hB) kv_X7_noteOf kw7_21 kw7_22 kw7_23 (x_recv hE (hB.1) (ci := 7) rfl) ⟨Nat.le_of_ble_eq_true rfl, Nat.le_of_ble_eq_true rfl⟩ rfl rfl rfl hl.1 rfl (Nat.le_of_ble_eq_true rfl) dL_isSo_326 ⟨(Nat.le_of_ble_eq_true rfl), (Nat.le_of_ble_eq_true rfl)⟩) ?_
                                          refine x_top (y := (rfHrd σ n i)) ((nt_5 hT hlt).trans (if_pos fVo)) ?_
                                          refine lv_iload S.1 S.2.1 dL_isSo_329 (lv_at hl 3 rfl) ?_
                                          refine lv_if_eq (tgt := 339) S.1 S.2.1 dL_isSo_331 rfl (fun h252 => ?_) (fun h252 => ?_)
                                          · exact absurd h252 (by decide)
                                          · skip
                                            refine lv_iload S.1 S.2.1 dL_isSo_334 (lv_at hl 2 rfl) ?_
                                            refine lv_goto (tgt := 341) S.1 S.2.1 dL_isSo_336 rfl ?_
                                            refine lv_icmp_ne (tgt := 404) S.1 S.2.1 dL_isSo_341 rfl (fun h253 => ?_) (fun h253 => ?_)
                                            · exact absurd rfl h253
                                            · skip
                                              refine lv_aload_n S.1 S.2.1 dL_isSo_344 rfl (lv_at hl 11 rfl) ?_
                                              refine lv_iload S.1 S.2.1 dL_isSo_345 (lv_at hl 6 rfl) ?_
                                              refine lv_bipush (v := (nI 6)) S.1 S.2.1 dL_isSo_347 (by decide) ?_
                                              refine xk_R (v := (bxNote β.1 (nI i) (nI 6))) (x_runV (As := [.int (nI i), .int (nI 6)]) (rest := []) S hE hS (fun _ h => h.elim) (c_X7_noteOf l E B β (nI i) (nI 6) _ hB) kv_X7_noteOf kw7_21 kw7_22 kw7_23 (x_recv hE (hB.1) (ci := 7) rfl) ⟨Nat.le_of_ble_eq_true rfl, Nat.le_of_ble_eq_true rfl⟩ rfl rfl rfl hl.1 rfl (Nat.le_of_ble_eq_true rfl) dL_isSo_349 ⟨(Nat.le_of_ble_eq_true rfl), (Nat.le_of_ble_eq_true rfl)⟩) ?_
                                              refine x_top (y := (nf σ i 6)) (nt_6 hT hlt) ?_
                                              refine lv_aload_n S.1 S.2.1 dL_isSo_352 rfl (lv_at hl 13 rfl) ?_
                                              refine lv_iload S.1 S.2.1 dL_isSo_353 (lv_at hl 6 rfl) ?_
                                              refine x_lald S hE hEL (hc) i rfl (by omega) (by decide) dL_isSo_355 ?_
                                              refine lv_bipush (v := (nI 41)) S.1 S.2.1 dL_isSo_356 (by decide) ?_
                                              refine lv_iconst (v := (nI 1)) S.1 S.2.1 dL_isSo_358 (by decide) ?_
                                              refine xk_R (v := (lwG (κ i) (nI 41) (nI 1))) (x_runS (As := [.long (κ i), .int (nI 41), .int (nI 1)]) (rest := [.int (nf σ i 6)]) S hE hS (fun _ h => h.elim) (c_L_get l E (κ i) (nI 41) (nI 1) _) kv_L_get kw7_12 kw7_13 ⟨Nat.le_of_ble_eq_true rfl, Nat.le_of_ble_eq_true rfl⟩ rfl rfl rfl hl.1 rfl (Nat.le_of_ble_eq_true rfl) dL_isSo_359 ⟨(Nat.le_of_ble_eq_true rfl), (Nat.le_of_ble_eq_true rfl)⟩) ?_
                                              refine x_top (y := (nf σ i 6)) ((lwG_eq _ (by decide) (by decide)).trans ((hU i 6 (by omega) (by decide)).symm)) ?_
                                              refine lv_icmp_ne (tgt := 404) S.1 S.2.1 dL_isSo_362 rfl (fun h254 => ?_) (fun h254 => ?_)
                                              · exact absurd rfl h254
                                              · skip
                                                refine lv_aload_n S.1 S.2.1 dL_isSo_365 rfl (lv_at hl 11 rfl) ?_
                                                refine lv_iload S.1 S.2.1 dL_isSo_366 (lv_at hl 6 rfl) ?_
                                                refine lv_bipush (v := (nI 7)) S.1 S.2.1 dL_isSo_368 (by decide) ?_
                                                refine xk_R (v := (bxNote β.1 (nI i) (nI 7))) (x_runV (As := [.int (nI i), .int (nI 7)]) (rest := []) S hE hS (fun _ h => h.elim) (c_X7_noteOf l E B β (nI i) (nI 7) _ hB) kv_X7_noteOf kw7_21 kw7_22 kw7_23 (x_recv hE (hB.1) (ci := 7) rfl) ⟨Nat.le_of_ble_eq_true rfl, Nat.le_of_ble_eq_true rfl⟩ rfl rfl rfl hl.1 rfl (Nat.le_of_ble_eq_true rfl) dL_isSo_370 ⟨(Nat.le_of_ble_eq_true rfl), (Nat.le_of_ble_eq_true rfl)⟩) ?_
                                                refine x_top (y := (-4)) ((nt_7 hT hlt).trans (if_neg f0)) ?_
                                                refine lv_iload S.1 S.2.1 dL_isSo_373 (lv_at hl 5 rfl) ?_
                                                refine lv_if_ne (tgt := 383) S.1 S.2.1 dL_isSo_375 rfl (fun h255 => ?_) (fun h255 => ?_)
                                                · skip
                                                  refine lv_bipush (v := (-4)) S.1 S.2.1 dL_isSo_383 (by decide) ?_
                                                  refine lv_icmp_ne (tgt := 404) S.1 S.2.1 dL_isSo_385 rfl (fun h256 => ?_) (fun h256 => ?_)
                                                  · exact absurd h256 (by decide)
                                                  · skip
                                                    refine lv_aload_n S.1 S.2.1 dL_isSo_388 rfl (lv_at hl 11 rfl) ?_
                                                    refine lv_iload S.1 S.2.1 dL_isSo_389 (lv_at hl 6 rfl) ?_
                                                    refine lv_bipush (v := (nI 8)) S.1 S.2.1 dL_isSo_391 (by decide) ?_
                                                    refine xk_R (v := (bxNote β.1 (nI i) (nI 8))) (x_runV (As := [.int (nI i), .int (nI 8)]) (rest := []) S hE hS (fun _ h => h.elim) (c_X7_noteOf l E B β (nI i) (nI 8) _ hB) kv_X7_noteOf kw7_21 kw7_22 kw7_23 (x_recv hE (hB.1) (ci := 7) rfl) ⟨Nat.le_of_ble_eq_true rfl, Nat.le_of_ble_eq_true rfl⟩ rfl rfl rfl hl.1 rfl (Nat.le_of_ble_eq_true rfl) dL_isSo_393 ⟨(Nat.le_of_ble_eq_true rfl), (Nat.le_of_ble_eq_true rfl)⟩) ?_
                                                    refine x_top (y := (-1)) (nt_8 hT hlt) ?_
                                                    refine lv_iconst (v := (-1)) S.1 S.2.1 dL_isSo_396 (by decide) ?_
                                                    refine lv_icmp_ne (tgt := 404) S.1 S.2.1 dL_isSo_397 rfl (fun h257 => ?_) (fun h257 => ?_)
                                                    · exact absurd h257 (by decide)
                                                    · skip
                                                      refine lv_iconst (v := (nI 1)) S.1 S.2.1 dL_isSo_400 (by decide) ?_
                                                      refine lv_goto (tgt := 405) S.1 S.2.1 dL_isSo_401 rfl ?_
                                                      refine lv_istore S.1 S.2.1 dL_isSo_405 hl (by decide) rfl (fun ls hl => ?_)
                                                      have hl : lv_has ls 15 [(7, .int (nI 1)), (5, .int ((lwAll σ n i) + (rfHrd σ n i))), (13, .int (nI (5 * pp))), (12, .int (rfHrd σ n i)), (11, .int (nI 1)), (10, .int (nf σ i 4)), (9, .int (nI 4)), (8, .int (nI i)), (4, .int (rfAhd σ i)), (3, .int (rfSum σ n)), (6, .ref s.heap.size), (0, .ref B), (1, .ref a), (2, .ref b)] := hl
                                                      refine lv_iload S.1 S.2.1 dL_isSo_407 (lv_at hl 8 rfl) ?_
                                                      refine lv_iload S.1 S.2.1 dL_isSo_409 (lv_at hl 6 rfl) ?_
                                                      refine lv_if_ne (tgt := 418) S.1 S.2.1 dL_isSo_411 rfl (fun h258 => ?_) (fun h258 => ?_)
                                                      · skip
                                                        refine lv_iconst (v := (nI 0)) S.1 S.2.1 dL_isSo_418 (by decide) ?_
                                                        refine lv_iadd S.1 S.2.1 dL_isSo_419 ?_
                                                        refine lv_istore S.1 S.2.1 dL_isSo_420 hl (by decide) rfl (fun ls hl => ?_)
                                                        have hl : lv_has ls 15 [(4, .int ((rfAhd σ i) + (nI 0))), (7, .int (nI 1)), (5, .int ((lwAll σ n i) + (rfHrd σ n i))), (13, .int (nI (5 * pp))), (12, .int (rfHrd σ n i)), (11, .int (nI 1)), (10, .int (nf σ i 4)), (9, .int (nI 4)), (8, .int (nI i)), (3, .int (rfSum σ n)), (6, .ref s.heap.size), (0, .ref B), (1, .ref a), (2, .ref b)] := hl
                                                        refine lv_iinc (k := 8) (v := (nI (i + 1))) S.1 S.2.1 dL_isSo_422 hl rfl (iincP i 1) (by decide) rfl (fun ls hl => ?_)
                                                        have hl : lv_has ls 15 [(8, .int (nI (i + 1))), (4, .int ((rfAhd σ i) + (nI 0))), (7, .int (nI 1)), (5, .int ((lwAll σ n i) + (rfHrd σ n i))), (13, .int (nI (5 * pp))), (12, .int (rfHrd σ n i)), (11, .int (nI 1)), (10, .int (nf σ i 4)), (9, .int (nI 4)), (3, .int (rfSum σ n)), (6, .ref s.heap.size), (0, .ref B), (1, .ref a), (2, .ref b)] := hl
                                                        refine lv_goto (tgt := 24) S.1 S.2.1 dL_isSo_425 rfl ?_
                                                        have hl : lv_has ls 15 [(8, .int (nI (i + 1))), (4, .int (rfAhd σ (i + 1))), (5, .int (lwAll σ n (i + 1))), (7, .int (nI 1)), (3, .int (rfSum σ n)), (6, .ref s.heap.size), (0, .ref B), (1, .ref a), (2, .ref b)] := by
                                                          rw [show (rfAhd σ (i + 1)) = ((rfAhd σ i) + (nI 0)) from by first | rw [rfAhd, if_pos f0] | rw [rfAhd, if_neg f0] | rw [lwAll, if_pos fVo] | rw [lwAll, if_neg fVo]]
                                                          rw [show (lwAll σ n (i + 1)) = ((lwAll σ n i) + (rfHrd σ n i)) from by first | rw [rfAhd, if_pos f0] | rw [rfAhd, if_neg f0] | rw [lwAll, if_pos fVo] | rw [lwAll, if_neg fVo]]
                                                          exact lv_sub hl [0, 1, 3, 2, 9, 10, 11, 12, 13] rfl
                                                        exact ih24 _ (by omega) (i + 1) (upd (upd (upd (upd (upd f (5 * pp) ((f (5 * pp)) + (nI 1))) ((5 * pp) + 1) ((f ((5 * pp) + 1)) + (nI 0))) ((5 * pp) + 2) ((f ((5 * pp) + 2)) + (nf σ i 4))) ((5 * pp) + 3) ((f ((5 * pp) + 3)) + (rfHrd σ n i))) ((5 * pp) + 4) ((f ((5 * pp) + 4)) + (nI 0))) _ _ ls rfl (by omega) (pa_step hPA hpp e0 (by first | rw [if_pos fPl] | rw [if_neg fPl]) (by first | rw [if_pos f5] | rw [if_neg f5]) (by first | rw [if_pos fVo] | rw [if_neg fVo]) (by first | rw [if_pos fVo] | rw [if_neg fVo]) (by first | rw [if_pos f0] | rw [if_neg f0])) (hB) (hg) (hc) (hp) (hS) (lv_sub hl [0, 1, 2, 3, 4, 5, 6, 7, 8] rfl)
                                                      · exact absurd h258 (by decide)
                                                · exact absurd h255 (by decide)
                          · exact absurd h244 (by decide)
                    · exact absurd h241 (by decide)
          · refine x_top (y := (nI 5)) ex ?_
            have fPl : ¬ rfPl σ i := by first | exact ex | (unfold rfPl; rw [ex]; decide)
            have fVo : rfVo σ i := by first | exact ex | (unfold rfVo; rw [ex]; decide)
            have f5 : nf σ i 3 = nI 5 := by first | exact ex | (rw [ex]; decide)
            have f0 : ¬ nf σ i 3 = 0 := by first | exact ex | (rw [ex]; decide)
            refine lv_istore S.1 S.2.1 dL_isSo_44 hl (by decide) rfl (fun ls hl => ?_)
            have hl : lv_has ls 15 [(9, .int (nI 5)), (8, .int (nI i)), (4, .int (rfAhd σ i)), (5, .int (lwAll σ n i)), (7, .int (nI 1)), (3, .int (rfSum σ n)), (6, .ref s.heap.size), (0, .ref B), (1, .ref a), (2, .ref b)] := hl
            refine lv_aload_n S.1 S.2.1 dL_isSo_46 rfl (lv_at hl 9 rfl) ?_
            refine lv_iload S.1 S.2.1 dL_isSo_47 (lv_at hl 1 rfl) ?_
            refine x_lald S hE hEL (hc) i rfl (by omega) (by decide) dL_isSo_49 ?_
            refine xk_R (v := (fld 4 (κ i))) (x_runS (As := [.long (κ i)]) (rest := []) S hE hS (fun _ h => h.elim) (c_L_level l E (κ i) _) kv_L_level kw7_15 kw7_16 ⟨Nat.le_of_ble_eq_true rfl, Nat.le_of_ble_eq_true rfl⟩ rfl rfl rfl hl.1 rfl (Nat.le_of_ble_eq_true rfl) dL_isSo_50 ⟨(Nat.le_of_ble_eq_true rfl), (Nat.le_of_ble_eq_true rfl)⟩) ?_
            refine x_top (y := (nf σ i 4)) ((hU i 4 (by omega) (by decide)).symm) ?_
            refine lv_istore S.1 S.2.1 dL_isSo_53 hl (by decide) rfl (fun ls hl => ?_)
            have hl : lv_has ls 15 [(10, .int (nf σ i 4)), (9, .int (nI 5)), (8, .int (nI i)), (4, .int (rfAhd σ i)), (5, .int (lwAll σ n i)), (7, .int (nI 1)), (3, .int (rfSum σ n)), (6, .ref s.heap.size), (0, .ref B), (1, .ref a), (2, .ref b)] := hl
            refine lv_iload S.1 S.2.1 dL_isSo_55 (lv_at hl 1 rfl) ?_
            refine lv_if_le (tgt := 71) S.1 S.2.1 dL_isSo_57 rfl (fun h259 => ?_) (fun h259 => ?_)
            · exact absurd h259 (by decide)
            · skip
              refine lv_iload S.1 S.2.1 dL_isSo_60 (lv_at hl 1 rfl) ?_
              refine lv_bipush (v := (nI 6)) S.1 S.2.1 dL_isSo_62 (by decide) ?_
              refine lv_icmp_ge (tgt := 71) S.1 S.2.1 dL_isSo_64 rfl (fun h260 => ?_) (fun h260 => ?_)
              · exact absurd h260 (by decide)
              · skip
                refine lv_iconst (v := (nI 1)) S.1 S.2.1 dL_isSo_67 (by decide) ?_
                refine lv_goto (tgt := 72) S.1 S.2.1 dL_isSo_68 rfl ?_
                refine lv_istore S.1 S.2.1 dL_isSo_72 hl (by decide) rfl (fun ls hl => ?_)
                have hl : lv_has ls 15 [(11, .int (nI 1)), (10, .int (nf σ i 4)), (9, .int (nI 5)), (8, .int (nI i)), (4, .int (rfAhd σ i)), (5, .int (lwAll σ n i)), (7, .int (nI 1)), (3, .int (rfSum σ n)), (6, .ref s.heap.size), (0, .ref B), (1, .ref a), (2, .ref b)] := hl
                refine lv_iload_n S.1 S.2.1 dL_isSo_74 rfl (lv_at hl 7 rfl) ?_
                refine lv_aload_n S.1 S.2.1 dL_isSo_75 rfl (lv_at hl 10 rfl) ?_
                refine lv_bipush (v := (nI 8)) S.1 S.2.1 dL_isSo_76 (by decide) ?_
                refine x_iald S hE (hg) 8 rfl (by decide) (by decide) dL_isSo_78 ?_
                refine lv_icmp_gt (tgt := 87) S.1 S.2.1 dL_isSo_79 rfl (fun h261 => ?_) (fun h261 => ?_)
                · skip
                  refine lv_iload S.1 S.2.1 dL_isSo_87 (lv_at hl 1 rfl) ?_
                  refine lv_aload_n S.1 S.2.1 dL_isSo_89 rfl (lv_at hl 10 rfl) ?_
                  refine lv_bipush (v := (nI 8)) S.1 S.2.1 dL_isSo_90 (by decide) ?_
                  refine x_iald S hE (hg) 8 rfl (by decide) (by decide) dL_isSo_92 ?_
                  refine lv_imul S.1 S.2.1 dL_isSo_93 ?_
                  refine lv_iload_n S.1 S.2.1 dL_isSo_94 rfl (lv_at hl 7 rfl) ?_
                  refine lv_idiv S.1 S.2.1 dL_isSo_95 (nz_of h8 h261) ?_
                  refine x_top (y := (rfHrd σ n i)) (by rw [rfHrd]; first | rw [if_pos (Int32.not_lt.mp h261)] | rw [if_neg (Int32.not_le.mpr h261)]) ?_
                  refine lv_istore S.1 S.2.1 dL_isSo_96 hl (by decide) rfl (fun ls hl => ?_)
                  have hl : lv_has ls 15 [(12, .int (rfHrd σ n i)), (11, .int (nI 1)), (10, .int (nf σ i 4)), (9, .int (nI 5)), (8, .int (nI i)), (4, .int (rfAhd σ i)), (5, .int (lwAll σ n i)), (7, .int (nI 1)), (3, .int (rfSum σ n)), (6, .ref s.heap.size), (0, .ref B), (1, .ref a), (2, .ref b)] := hl
                  refine lv_iconst (v := (nI 5)) S.1 S.2.1 dL_isSo_98 (by decide) ?_
                  refine lv_aload_n S.1 S.2.1 dL_isSo_99 rfl (lv_at hl 12 rfl) ?_
                  refine lv_iload S.1 S.2.1 dL_isSo_100 (lv_at hl 4 rfl) ?_
                  refine x_lald S hE hEL (hc) i rfl (by omega) (by decide) dL_isSo_102 ?_
                  refine lv_iconst (v := (nI 0)) S.1 S.2.1 dL_isSo_103 (by decide) ?_
                  refine lv_iconst (v := (nI 2)) S.1 S.2.1 dL_isSo_104 (by decide) ?_
                  refine xk_R (v := (lwG (κ i) (nI 0) (nI 2))) (x_runS (As := [.long (κ i), .int (nI 0), .int (nI 2)]) (rest := [.int (nI 5)]) S hE hS (fun _ h => h.elim) (c_L_get l E (κ i) (nI 0) (nI 2) _) kv_L_get kw7_12 kw7_13 ⟨Nat.le_of_ble_eq_true rfl, Nat.le_of_ble_eq_true rfl⟩ rfl rfl rfl hl.1 rfl (Nat.le_of_ble_eq_true rfl) dL_isSo_105 ⟨(Nat.le_of_ble_eq_true rfl), (Nat.le_of_ble_eq_true rfl)⟩) ?_
                  refine x_top (y := (nf σ i 0)) ((lwG_eq _ (by decide) (by decide)).trans ((hU i 0 (by omega) (by decide)).symm)) ?_
                  refine x_top (y := (nI pp)) (e0) ?_
                  refine lv_imul S.1 S.2.1 dL_isSo_108 ?_
                  refine x_top (y := (nI (5 * pp))) (pk_mul 5 pp) ?_
                  refine lv_istore S.1 S.2.1 dL_isSo_109 hl (by decide) rfl (fun ls hl => ?_)
                  have hl : lv_has ls 15 [(13, .int (nI (5 * pp))), (12, .int (rfHrd σ n i)), (11, .int (nI 1)), (10, .int (nf σ i 4)), (9, .int (nI 5)), (8, .int (nI i)), (4, .int (rfAhd σ i)), (5, .int (lwAll σ n i)), (7, .int (nI 1)), (3, .int (rfSum σ n)), (6, .ref s.heap.size), (0, .ref B), (1, .ref a), (2, .ref b)] := hl
                  refine lv_aload S.1 S.2.1 dL_isSo_111 (lv_at hl 10 rfl) ?_
                  refine lv_iload S.1 S.2.1 dL_isSo_113 (lv_at hl 0 rfl) ?_
                  refine lv_dup2_11 S.1 S.2.1 dL_isSo_115 rfl rfl ?_
                  refine x_iald S hE (hp) (5 * pp) rfl (by omega) (by decide) dL_isSo_116 ?_
                  refine lv_aload_n S.1 S.2.1 dL_isSo_117 rfl (lv_at hl 13 rfl) ?_
                  refine lv_iload S.1 S.2.1 dL_isSo_118 (lv_at hl 5 rfl) ?_
                  refine x_lald S hE hEL (hc) i rfl (by omega) (by decide) dL_isSo_120 ?_
                  refine xk_R (v := (bI (nI 1 ≤ fld 3 (κ i) ∧ fld 3 (κ i) ≤ nI 4))) (x_runS (As := [.long (κ i)]) (rest := [.int (f (5 * pp)), .int (nI (5 * pp)), .ref s.heap.size]) S hE hS (fun _ h => h.elim) (c_L_placed l E (κ i) _) kv_L_placed kw7_18 kw7_19 ⟨Nat.le_of_ble_eq_true rfl, Nat.le_of_ble_eq_true rfl⟩ rfl rfl rfl hl.1 rfl (Nat.le_of_ble_eq_true rfl) dL_isSo_121 ⟨(Nat.le_of_ble_eq_true rfl), (Nat.le_of_ble_eq_true rfl)⟩) ?_
                  refine x_top (y := (nI 0)) ((bI_iff (by show _ ↔ (nI 1 ≤ nf σ i 3 ∧ nf σ i 3 ≤ nI 4); rw [hU i 3 (by omega) (by decide)])).trans (bI_f fPl).symm) ?_
                  refine lv_if_eq (tgt := 131) S.1 S.2.1 dL_isSo_124 rfl (fun h262 => ?_) (fun h262 => ?_)
                  · skip
                    refine lv_iconst (v := (nI 0)) S.1 S.2.1 dL_isSo_131 (by decide) ?_
                    refine lv_iadd S.1 S.2.1 dL_isSo_132 ?_
                    refine x_iast S hE hS (Or.inr (Nat.le_refl _)) (hp) (5 * pp) rfl (by omega) (by decide) dL_isSo_133 (fun H locs hX hO1 hS => ?_)
                    have hg := va_at.kept hg (hO1.2 a (Nat.ne_of_lt haz))
                    have hc := va_at.kept hc (hO1.2 b (Nat.ne_of_lt hbz))
                    have hB := hB.fr (fun q z => hO1.2 q (by have := z.2; omega))
                    have hp := hX
                    refine lv_aload S.1 S.2.1 dL_isSo_134 (lv_at hl 10 rfl) ?_
                    refine lv_iload S.1 S.2.1 dL_isSo_136 (lv_at hl 0 rfl) ?_
                    refine lv_iconst (v := (nI 1)) S.1 S.2.1 dL_isSo_138 (by decide) ?_
                    refine lv_iadd S.1 S.2.1 dL_isSo_139 ?_
                    refine x_top (y := (nI ((5 * pp) + 1))) (nI_add (5 * pp) 1) ?_
                    refine lv_dup2_11 S.1 S.2.1 dL_isSo_140 rfl rfl ?_
                    refine x_iald S hE (hp) ((5 * pp) + 1) rfl (by omega) (by decide) dL_isSo_141 ?_
                    refine x_top (y := (f ((5 * pp) + 1))) (pk_un (by omega)) ?_
                    refine lv_iload S.1 S.2.1 dL_isSo_142 (lv_at hl 4 rfl) ?_
                    refine lv_iconst (v := (nI 5)) S.1 S.2.1 dL_isSo_144 (by decide) ?_
                    refine lv_icmp_ne (tgt := 152) S.1 S.2.1 dL_isSo_145 rfl (fun h263 => ?_) (fun h263 => ?_)
                    · exact absurd h263 (by decide)
                    · skip
                      refine lv_iconst (v := (nI 1)) S.1 S.2.1 dL_isSo_148 (by decide) ?_
                      refine lv_goto (tgt := 153) S.1 S.2.1 dL_isSo_149 rfl ?_
                      refine lv_iadd S.1 S.2.1 dL_isSo_153 ?_
                      refine x_iast S hE hS (Or.inr (Nat.le_refl _)) (hp) ((5 * pp) + 1) rfl (by omega) (by decide) dL_isSo_154 (fun H locs hX hO1 hS => ?_)
                      have hg := va_at.kept hg (hO1.2 a (Nat.ne_of_lt haz))
                      have hc := va_at.kept hc (hO1.2 b (Nat.ne_of_lt hbz))
                      have hB := hB.fr (fun q z => hO1.2 q (by have := z.2; omega))
                      have hp := hX
                      refine lv_aload S.1 S.2.1 dL_isSo_155 (lv_at hl 10 rfl) ?_
                      refine lv_iload S.1 S.2.1 dL_isSo_157 (lv_at hl 0 rfl) ?_
                      refine lv_iconst (v := (nI 2)) S.1 S.2.1 dL_isSo_159 (by decide) ?_
                      refine lv_iadd S.1 S.2.1 dL_isSo_160 ?_
                      refine x_top (y := (nI ((5 * pp) + 2))) (nI_add (5 * pp) 2) ?_
                      refine lv_dup2_11 S.1 S.2.1 dL_isSo_161 rfl rfl ?_
                      refine x_iald S hE (hp) ((5 * pp) + 2) rfl (by omega) (by decide) dL_isSo_162 ?_
                      refine x_top (y := (f ((5 * pp) + 2))) ((pk_un (by omega)).trans (pk_un (by omega))) ?_
                      refine lv_iload S.1 S.2.1 dL_isSo_163 (lv_at hl 2 rfl) ?_
                      refine lv_if_eq (tgt := 173) S.1 S.2.1 dL_isSo_165 rfl (fun h264 => ?_) (fun h264 => ?_)
                      · exact absurd h264 (by decide)
                      · skip
                        refine lv_iload S.1 S.2.1 dL_isSo_168 (lv_at hl 3 rfl) ?_
                        refine lv_goto (tgt := 174) S.1 S.2.1 dL_isSo_170 rfl ?_
                        refine lv_iadd S.1 S.2.1 dL_isSo_174 ?_
                        refine x_iast S hE hS (Or.inr (Nat.le_refl _)) (hp) ((5 * pp) + 2) rfl (by omega) (by decide) dL_isSo_175 (fun H locs hX hO1 hS => ?_)
                        have hg := va_at.kept hg (hO1.2 a (Nat.ne_of_lt haz))
                        have hc := va_at.kept hc (hO1.2 b (Nat.ne_of_lt hbz))
                        have hB := hB.fr (fun q z => hO1.2 q (by have := z.2; omega))
                        have hp := hX
                        refine lv_aload S.1 S.2.1 dL_isSo_176 (lv_at hl 10 rfl) ?_
                        refine lv_iload S.1 S.2.1 dL_isSo_178 (lv_at hl 0 rfl) ?_
                        refine lv_iconst (v := (nI 3)) S.1 S.2.1 dL_isSo_180 (by decide) ?_
                        refine lv_iadd S.1 S.2.1 dL_isSo_181 ?_
                        refine x_top (y := (nI ((5 * pp) + 3))) (nI_add (5 * pp) 3) ?_
                        refine lv_dup2_11 S.1 S.2.1 dL_isSo_182 rfl rfl ?_
                        refine x_iald S hE (hp) ((5 * pp) + 3) rfl (by omega) (by decide) dL_isSo_183 ?_
                        refine x_top (y := (f ((5 * pp) + 3))) ((pk_un (by omega)).trans ((pk_un (by omega)).trans (pk_un (by omega)))) ?_
                        refine lv_iload S.1 S.2.1 dL_isSo_184 (lv_at hl 2 rfl) ?_
                        refine lv_if_eq (tgt := 194) S.1 S.2.1 dL_isSo_186 rfl (fun h265 => ?_) (fun h265 => ?_)
                        · exact absurd h265 (by decide)
                        · skip
                          refine lv_iload S.1 S.2.1 dL_isSo_189 (lv_at hl 1 rfl) ?_
                          refine lv_goto (tgt := 195) S.1 S.2.1 dL_isSo_191 rfl ?_
                          refine lv_iadd S.1 S.2.1 dL_isSo_195 ?_
                          refine x_iast S hE hS (Or.inr (Nat.le_refl _)) (hp) ((5 * pp) + 3) rfl (by omega) (by decide) dL_isSo_196 (fun H locs hX hO1 hS => ?_)
                          have hg := va_at.kept hg (hO1.2 a (Nat.ne_of_lt haz))
                          have hc := va_at.kept hc (hO1.2 b (Nat.ne_of_lt hbz))
                          have hB := hB.fr (fun q z => hO1.2 q (by have := z.2; omega))
                          have hp := hX
                          refine lv_aload S.1 S.2.1 dL_isSo_197 (lv_at hl 10 rfl) ?_
                          refine lv_iload S.1 S.2.1 dL_isSo_199 (lv_at hl 0 rfl) ?_
                          refine lv_iconst (v := (nI 4)) S.1 S.2.1 dL_isSo_201 (by decide) ?_
                          refine lv_iadd S.1 S.2.1 dL_isSo_202 ?_
                          refine x_top (y := (nI ((5 * pp) + 4))) (nI_add (5 * pp) 4) ?_
                          refine lv_dup2_11 S.1 S.2.1 dL_isSo_203 rfl rfl ?_
                          refine x_iald S hE (hp) ((5 * pp) + 4) rfl (by omega) (by decide) dL_isSo_204 ?_
                          refine x_top (y := (f ((5 * pp) + 4))) ((pk_un (by omega)).trans ((pk_un (by omega)).trans ((pk_un (by omega)).trans (pk_un (by omega))))) ?_
                          refine lv_iload S.1 S.2.1 dL_isSo_205 (lv_at hl 4 rfl) ?_
                          refine lv_if_ne (tgt := 214) S.1 S.2.1 dL_isSo_207 rfl (fun h266 => ?_) (fun h266 => ?_)
                          · skip
                            refine lv_iconst (v := (nI 0)) S.1 S.2.1 dL_isSo_214 (by decide) ?_
                            refine lv_iadd S.1 S.2.1 dL_isSo_215 ?_
                            refine x_iast S hE hS (Or.inr (Nat.le_refl _)) (hp) ((5 * pp) + 4) rfl (by omega) (by decide) dL_isSo_216 (fun H locs hX hO1 hS => ?_)
                            have hg := va_at.kept hg (hO1.2 a (Nat.ne_of_lt haz))
                            have hc := va_at.kept hc (hO1.2 b (Nat.ne_of_lt hbz))
                            have hB := hB.fr (fun q z => hO1.2 q (by have := z.2; omega))
                            have hp := hX
                            refine lv_iload S.1 S.2.1 dL_isSo_217 (lv_at hl 7 rfl) ?_
                            refine lv_iload S.1 S.2.1 dL_isSo_219 (lv_at hl 2 rfl) ?_
                            refine lv_if_eq (tgt := 229) S.1 S.2.1 dL_isSo_221 rfl (fun h267 => ?_) (fun h267 => ?_)
                            · exact absurd h267 (by decide)
                            · skip
                              refine lv_iload S.1 S.2.1 dL_isSo_224 (lv_at hl 1 rfl) ?_
                              refine lv_goto (tgt := 230) S.1 S.2.1 dL_isSo_226 rfl ?_
                              refine lv_iadd S.1 S.2.1 dL_isSo_230 ?_
                              refine lv_istore S.1 S.2.1 dL_isSo_231 hl (by decide) rfl (fun ls hl => ?_)
                              have hl : lv_has ls 15 [(5, .int ((lwAll σ n i) + (rfHrd σ n i))), (13, .int (nI (5 * pp))), (12, .int (rfHrd σ n i)), (11, .int (nI 1)), (10, .int (nf σ i 4)), (9, .int (nI 5)), (8, .int (nI i)), (4, .int (rfAhd σ i)), (7, .int (nI 1)), (3, .int (rfSum σ n)), (6, .ref s.heap.size), (0, .ref B), (1, .ref a), (2, .ref b)] := hl
                              refine lv_aload_n S.1 S.2.1 dL_isSo_233 rfl (lv_at hl 11 rfl) ?_
                              refine lv_iload S.1 S.2.1 dL_isSo_234 (lv_at hl 6 rfl) ?_
                              refine lv_iconst (v := (nI 0)) S.1 S.2.1 dL_isSo_236 (by decide) ?_
                              refine xk_R (v := (bxNote β.1 (nI i) (nI 0))) (x_runV (As := [.int (nI i), .int (nI 0)]) (rest := []) S hE hS (fun _ h => h.elim) (c_X7_noteOf l E B β (nI i) (nI 0) _ hB) kv_X7_noteOf kw7_21 kw7_22 kw7_23 (x_recv hE (hB.1) (ci := 7) rfl) ⟨Nat.le_of_ble_eq_true rfl, Nat.le_of_ble_eq_true rfl⟩ rfl rfl rfl hl.1 rfl (Nat.le_of_ble_eq_true rfl) dL_isSo_237 ⟨(Nat.le_of_ble_eq_true rfl), (Nat.le_of_ble_eq_true rfl)⟩) ?_
                              refine x_top (y := (nI ((5 * pp) / 5))) ((nt_0 hT hlt).trans (e0.trans (congrArg nI (by omega)))) ?_
                              refine lv_iload S.1 S.2.1 dL_isSo_240 (lv_at hl 1 rfl) ?_
                              refine lv_iconst (v := (nI 5)) S.1 S.2.1 dL_isSo_242 (by decide) ?_
                              refine lv_idiv S.1 S.2.1 dL_isSo_243 (by decide) ?_
                              refine x_top (y := (nI ((5 * pp) / 5))) (pk_div (by omega) (by decide) (by decide)) ?_
                              refine lv_icmp_ne (tgt := 404) S.1 S.2.1 dL_isSo_244 rfl (fun h268 => ?_) (fun h268 => ?_)
                              · exact absurd rfl h268
                              · skip
                                refine lv_aload_n S.1 S.2.1 dL_isSo_247 rfl (lv_at hl 11 rfl) ?_
                                refine lv_iload S.1 S.2.1 dL_isSo_248 (lv_at hl 6 rfl) ?_
                                refine lv_iconst (v := (nI 1)) S.1 S.2.1 dL_isSo_250 (by decide) ?_
                                refine xk_R (v := (bxNote β.1 (nI i) (nI 1))) (x_runV (As := [.int (nI i), .int (nI 1)]) (rest := []) S hE hS (fun _ h => h.elim) (c_X7_noteOf l E B β (nI i) (nI 1) _ hB) kv_X7_noteOf kw7_21 kw7_22 kw7_23 (x_recv hE (hB.1) (ci := 7) rfl) ⟨Nat.le_of_ble_eq_true rfl, Nat.le_of_ble_eq_true rfl⟩ rfl rfl rfl hl.1 rfl (Nat.le_of_ble_eq_true rfl) dL_isSo_251 ⟨(Nat.le_of_ble_eq_true rfl), (Nat.le_of_ble_eq_true rfl)⟩) ?_
                                refine x_top (y := (nf σ i 1)) (nt_1 hT hlt) ?_
                                refine lv_aload_n S.1 S.2.1 dL_isSo_254 rfl (lv_at hl 13 rfl) ?_
                                refine lv_iload S.1 S.2.1 dL_isSo_255 (lv_at hl 6 rfl) ?_
                                refine x_lald S hE hEL (hc) i rfl (by omega) (by decide) dL_isSo_257 ?_
                                refine lv_iconst (v := (nI 2)) S.1 S.2.1 dL_isSo_258 (by decide) ?_
                                refine lv_bipush (v := (nI 7)) S.1 S.2.1 dL_isSo_259 (by decide) ?_
                                refine xk_R (v := (lwG (κ i) (nI 2) (nI 7))) (x_runS (As := [.long (κ i), .int (nI 2), .int (nI 7)]) (rest := [.int (nf σ i 1)]) S hE hS (fun _ h => h.elim) (c_L_get l E (κ i) (nI 2) (nI 7) _) kv_L_get kw7_12 kw7_13 ⟨Nat.le_of_ble_eq_true rfl, Nat.le_of_ble_eq_true rfl⟩ rfl rfl rfl hl.1 rfl (Nat.le_of_ble_eq_true rfl) dL_isSo_261 ⟨(Nat.le_of_ble_eq_true rfl), (Nat.le_of_ble_eq_true rfl)⟩) ?_
                                refine x_top (y := (nf σ i 1)) ((lwG_eq _ (by decide) (by decide)).trans ((hU i 1 (by omega) (by decide)).symm)) ?_
                                refine lv_icmp_ne (tgt := 404) S.1 S.2.1 dL_isSo_264 rfl (fun h269 => ?_) (fun h269 => ?_)
                                · exact absurd rfl h269
                                · skip
                                  refine lv_aload_n S.1 S.2.1 dL_isSo_267 rfl (lv_at hl 11 rfl) ?_
                                  refine lv_iload S.1 S.2.1 dL_isSo_268 (lv_at hl 6 rfl) ?_
                                  refine lv_iconst (v := (nI 2)) S.1 S.2.1 dL_isSo_270 (by decide) ?_
                                  refine xk_R (v := (bxNote β.1 (nI i) (nI 2))) (x_runV (As := [.int (nI i), .int (nI 2)]) (rest := []) S hE hS (fun _ h => h.elim) (c_X7_noteOf l E B β (nI i) (nI 2) _ hB) kv_X7_noteOf kw7_21 kw7_22 kw7_23 (x_recv hE (hB.1) (ci := 7) rfl) ⟨Nat.le_of_ble_eq_true rfl, Nat.le_of_ble_eq_true rfl⟩ rfl rfl rfl hl.1 rfl (Nat.le_of_ble_eq_true rfl) dL_isSo_271 ⟨(Nat.le_of_ble_eq_true rfl), (Nat.le_of_ble_eq_true rfl)⟩) ?_
                                  refine x_top (y := (nf σ i 2)) (nt_2 hT hlt) ?_
                                  refine lv_aload_n S.1 S.2.1 dL_isSo_274 rfl (lv_at hl 13 rfl) ?_
                                  refine lv_iload S.1 S.2.1 dL_isSo_275 (lv_at hl 6 rfl) ?_
                                  refine x_lald S hE hEL (hc) i rfl (by omega) (by decide) dL_isSo_277 ?_
                                  refine lv_bipush (v := (nI 9)) S.1 S.2.1 dL_isSo_278 (by decide) ?_
                                  refine lv_bipush (v := (nI 7)) S.1 S.2.1 dL_isSo_280 (by decide) ?_
                                  refine xk_R (v := (lwG (κ i) (nI 9) (nI 7))) (x_runS (As := [.long (κ i), .int (nI 9), .int (nI 7)]) (rest := [.int (nf σ i 2)]) S hE hS (fun _ h => h.elim) (c_L_get l E (κ i) (nI 9) (nI 7) _) kv_L_get kw7_12 kw7_13 ⟨Nat.le_of_ble_eq_true rfl, Nat.le_of_ble_eq_true rfl⟩ rfl rfl rfl hl.1 rfl (Nat.le_of_ble_eq_true rfl) dL_isSo_282 ⟨(Nat.le_of_ble_eq_true rfl), (Nat.le_of_ble_eq_true rfl)⟩) ?_
                                  refine x_top (y := (nf σ i 2)) ((lwG_eq _ (by decide) (by decide)).trans ((hU i 2 (by omega) (by decide)).symm)) ?_
                                  refine lv_icmp_ne (tgt := 404) S.1 S.2.1 dL_isSo_285 rfl (fun h270 => ?_) (fun h270 => ?_)
                                  · exact absurd rfl h270
                                  · skip
                                    refine lv_aload_n S.1 S.2.1 dL_isSo_288 rfl (lv_at hl 11 rfl) ?_
                                    refine lv_iload S.1 S.2.1 dL_isSo_289 (lv_at hl 6 rfl) ?_
                                    refine lv_iconst (v := (nI 3)) S.1 S.2.1 dL_isSo_291 (by decide) ?_
                                    refine xk_R (v := (bxNote β.1 (nI i) (nI 3))) (x_runV (As := [.int (nI i), .int (nI 3)]) (rest := []) S hE hS (fun _ h => h.elim) (c_X7_noteOf l E B β (nI i) (nI 3) _ hB) kv_X7_noteOf kw7_21 kw7_22 kw7_23 (x_recv hE (hB.1) (ci := 7) rfl) ⟨Nat.le_of_ble_eq_true rfl, Nat.le_of_ble_eq_true rfl⟩ rfl rfl rfl hl.1 rfl (Nat.le_of_ble_eq_true rfl) dL_isSo_292 ⟨(Nat.le_of_ble_eq_true rfl), (Nat.le_of_ble_eq_true rfl)⟩) ?_
                                    refine x_top (y := (nI 5)) ((nt_3 hT hlt).trans ex) ?_
                                    refine lv_iload S.1 S.2.1 dL_isSo_295 (lv_at hl 5 rfl) ?_
                                    refine lv_icmp_ne (tgt := 404) S.1 S.2.1 dL_isSo_297 rfl (fun h271 => ?_) (fun h271 => ?_)
                                    · exact absurd h271 (by decide)
                                    · skip
                                      refine lv_aload_n S.1 S.2.1 dL_isSo_300 rfl (lv_at hl 11 rfl) ?_
                                      refine lv_iload S.1 S.2.1 dL_isSo_301 (lv_at hl 6 rfl) ?_
                                      refine lv_iconst (v := (nI 4)) S.1 S.2.1 dL_isSo_303 (by decide) ?_
                                      refine xk_R (v := (bxNote β.1 (nI i) (nI 4))) (x_runV (As := [.int (nI i), .int (nI 4)]) (rest := []) S hE hS (fun _ h => h.elim) (c_X7_noteOf l E B β (nI i) (nI 4) _ hB) kv_X7_noteOf kw7_21 kw7_22 kw7_23 (x_recv hE (hB.1) (ci := 7) rfl) ⟨Nat.le_of_ble_eq_true rfl, Nat.le_of_ble_eq_true rfl⟩ rfl rfl rfl hl.1 rfl (Nat.le_of_ble_eq_true rfl) dL_isSo_304 ⟨(Nat.le_of_ble_eq_true rfl), (Nat.le_of_ble_eq_true rfl)⟩) ?_
                                      refine x_top (y := (nf σ i 4)) ((nt_4 hT hlt).trans (if_pos fVo)) ?_
                                      refine lv_iload S.1 S.2.1 dL_isSo_307 (lv_at hl 3 rfl) ?_
                                      refine lv_if_eq (tgt := 317) S.1 S.2.1 dL_isSo_309 rfl (fun h272 => ?_) (fun h272 => ?_)
                                      · exact absurd h272 (by decide)
                                      · skip
                                        refine lv_iload S.1 S.2.1 dL_isSo_312 (lv_at hl 4 rfl) ?_
                                        refine lv_goto (tgt := 319) S.1 S.2.1 dL_isSo_314 rfl ?_
                                        refine lv_icmp_ne (tgt := 404) S.1 S.2.1 dL_isSo_319 rfl (fun h273 => ?_) (fun h273 => ?_)
                                        · exact absurd rfl h273
                                        · skip
                                          refine lv_aload_n S.1 S.2.1 dL_isSo_322 rfl (lv_at hl 11 rfl) ?_
                                          refine lv_iload S.1 S.2.1 dL_isSo_323 (lv_at hl 6 rfl) ?_
                                          refine lv_iconst (v := (nI 5)) S.1 S.2.1 dL_isSo_325 (by decide) ?_
                                          refine xk_R (v := (bxNote β.1 (nI i) (nI 5))) (x_runV (As := [.int (nI i), .int (nI 5)]) (rest := []) S hE hS (fun _ h => h.elim) (c_X7_noteOf l E B β (nI i) (nI 5) _ hB) kv_X7_noteOf kw7_21 kw7_22 kw7_23 (x_recv hE (hB.1) (ci := 7) rfl) ⟨Nat.le_of_ble_eq_true rfl, Nat.le_of_ble_eq_true rfl⟩ rfl rfl rfl hl.1 rfl (Nat.le_of_ble_eq_true rfl) dL_isSo_326 ⟨(Nat.le_of_ble_eq_true rfl), (Nat.le_of_ble_eq_true rfl)⟩) ?_
                                          refine x_top (y := (rfHrd σ n i)) ((nt_5 hT hlt).trans (if_pos fVo)) ?_
                                          refine lv_iload S.1 S.2.1 dL_isSo_329 (lv_at hl 3 rfl) ?_
                                          refine lv_if_eq (tgt := 339) S.1 S.2.1 dL_isSo_331 rfl (fun h274 => ?_) (fun h274 => ?_)
                                          · exact absurd h274 (by decide)
                                          · skip
                                            refine lv_iload S.1 S.2.1 dL_isSo_334 (lv_at hl 2 rfl) ?_
                                            refine lv_goto (tgt := 341) S.1 S.2.1 dL_isSo_336 rfl ?_
                                            refine lv_icmp_ne (tgt := 404) S.1 S.2.1 dL_isSo_341 rfl (fun h275 => ?_) (fun h275 => ?_)
                                            · exact absurd rfl h275
                                            · skip
                                              refine lv_aload_n S.1 S.2.1 dL_isSo_344 rfl (lv_at hl 11 rfl) ?_
                                              refine lv_iload S.1 S.2.1 dL_isSo_345 (lv_at hl 6 rfl) ?_
                                              refine lv_bipush (v := (nI 6)) S.1 S.2.1 dL_isSo_347 (by decide) ?_
                                              refine xk_R (v := (bxNote β.1 (nI i) (nI 6))) (x_runV (As := [.int (nI i), .int (nI 6)]) (rest := []) S hE hS (fun _ h => h.elim) (c_X7_noteOf l E B β (nI i) (nI 6) _ hB) kv_X7_noteOf kw7_21 kw7_22 kw7_23 (x_recv hE (hB.1) (ci := 7) rfl) ⟨Nat.le_of_ble_eq_true rfl, Nat.le_of_ble_eq_true rfl⟩ rfl rfl rfl hl.1 rfl (Nat.le_of_ble_eq_true rfl) dL_isSo_349 ⟨(Nat.le_of_ble_eq_true rfl), (Nat.le_of_ble_eq_true rfl)⟩) ?_
                                              refine x_top (y := (nf σ i 6)) (nt_6 hT hlt) ?_
                                              refine lv_aload_n S.1 S.2.1 dL_isSo_352 rfl (lv_at hl 13 rfl) ?_
                                              refine lv_iload S.1 S.2.1 dL_isSo_353 (lv_at hl 6 rfl) ?_
                                              refine x_lald S hE hEL (hc) i rfl (by omega) (by decide) dL_isSo_355 ?_
                                              refine lv_bipush (v := (nI 41)) S.1 S.2.1 dL_isSo_356 (by decide) ?_
                                              refine lv_iconst (v := (nI 1)) S.1 S.2.1 dL_isSo_358 (by decide) ?_
                                              refine xk_R (v := (lwG (κ i) (nI 41) (nI 1))) (x_runS (As := [.long (κ i), .int (nI 41), .int (nI 1)]) (rest := [.int (nf σ i 6)]) S hE hS (fun _ h => h.elim) (c_L_get l E (κ i) (nI 41) (nI 1) _) kv_L_get kw7_12 kw7_13 ⟨Nat.le_of_ble_eq_true rfl, Nat.le_of_ble_eq_true rfl⟩ rfl rfl rfl hl.1 rfl (Nat.le_of_ble_eq_true rfl) dL_isSo_359 ⟨(Nat.le_of_ble_eq_true rfl), (Nat.le_of_ble_eq_true rfl)⟩) ?_
                                              refine x_top (y := (nf σ i 6)) ((lwG_eq _ (by decide) (by decide)).trans ((hU i 6 (by omega) (by decide)).symm)) ?_
                                              refine lv_icmp_ne (tgt := 404) S.1 S.2.1 dL_isSo_362 rfl (fun h276 => ?_) (fun h276 => ?_)
                                              · exact absurd rfl h276
                                              · skip
                                                refine lv_aload_n S.1 S.2.1 dL_isSo_365 rfl (lv_at hl 11 rfl) ?_
                                                refine lv_iload S.1 S.2.1 dL_isSo_366 (lv_at hl 6 rfl) ?_
                                                refine lv_bipush (v := (nI 7)) S.1 S.2.1 dL_isSo_368 (by decide) ?_
                                                refine xk_R (v := (bxNote β.1 (nI i) (nI 7))) (x_runV (As := [.int (nI i), .int (nI 7)]) (rest := []) S hE hS (fun _ h => h.elim) (c_X7_noteOf l E B β (nI i) (nI 7) _ hB) kv_X7_noteOf kw7_21 kw7_22 kw7_23 (x_recv hE (hB.1) (ci := 7) rfl) ⟨Nat.le_of_ble_eq_true rfl, Nat.le_of_ble_eq_true rfl⟩ rfl rfl rfl hl.1 rfl (Nat.le_of_ble_eq_true rfl) dL_isSo_370 ⟨(Nat.le_of_ble_eq_true rfl), (Nat.le_of_ble_eq_true rfl)⟩) ?_
                                                refine x_top (y := (-4)) ((nt_7 hT hlt).trans (if_neg f0)) ?_
                                                refine lv_iload S.1 S.2.1 dL_isSo_373 (lv_at hl 5 rfl) ?_
                                                refine lv_if_ne (tgt := 383) S.1 S.2.1 dL_isSo_375 rfl (fun h277 => ?_) (fun h277 => ?_)
                                                · skip
                                                  refine lv_bipush (v := (-4)) S.1 S.2.1 dL_isSo_383 (by decide) ?_
                                                  refine lv_icmp_ne (tgt := 404) S.1 S.2.1 dL_isSo_385 rfl (fun h278 => ?_) (fun h278 => ?_)
                                                  · exact absurd h278 (by decide)
                                                  · skip
                                                    refine lv_aload_n S.1 S.2.1 dL_isSo_388 rfl (lv_at hl 11 rfl) ?_
                                                    refine lv_iload S.1 S.2.1 dL_isSo_389 (lv_at hl 6 rfl) ?_
                                                    refine lv_bipush (v := (nI 8)) S.1 S.2.1 dL_isSo_391 (by decide) ?_
                                                    refine xk_R (v := (bxNote β.1 (nI i) (nI 8))) (x_runV (As := [.int (nI i), .int (nI 8)]) (rest := []) S hE hS (fun _ h => h.elim) (c_X7_noteOf l E B β (nI i) (nI 8) _ hB) kv_X7_noteOf kw7_21 kw7_22 kw7_23 (x_recv hE (hB.1) (ci := 7) rfl) ⟨Nat.le_of_ble_eq_true rfl, Nat.le_of_ble_eq_true rfl⟩ rfl rfl rfl hl.1 rfl (Nat.le_of_ble_eq_true rfl) dL_isSo_393 ⟨(Nat.le_of_ble_eq_true rfl), (Nat.le_of_ble_eq_true rfl)⟩) ?_
                                                    refine x_top (y := (-1)) (nt_8 hT hlt) ?_
                                                    refine lv_iconst (v := (-1)) S.1 S.2.1 dL_isSo_396 (by decide) ?_
                                                    refine lv_icmp_ne (tgt := 404) S.1 S.2.1 dL_isSo_397 rfl (fun h279 => ?_) (fun h279 => ?_)
                                                    · exact absurd h279 (by decide)
                                                    · skip
                                                      refine lv_iconst (v := (nI 1)) S.1 S.2.1 dL_isSo_400 (by decide) ?_
                                                      refine lv_goto (tgt := 405) S.1 S.2.1 dL_isSo_401 rfl ?_
                                                      refine lv_istore S.1 S.2.1 dL_isSo_405 hl (by decide) rfl (fun ls hl => ?_)
                                                      have hl : lv_has ls 15 [(7, .int (nI 1)), (5, .int ((lwAll σ n i) + (rfHrd σ n i))), (13, .int (nI (5 * pp))), (12, .int (rfHrd σ n i)), (11, .int (nI 1)), (10, .int (nf σ i 4)), (9, .int (nI 5)), (8, .int (nI i)), (4, .int (rfAhd σ i)), (3, .int (rfSum σ n)), (6, .ref s.heap.size), (0, .ref B), (1, .ref a), (2, .ref b)] := hl
                                                      refine lv_iload S.1 S.2.1 dL_isSo_407 (lv_at hl 8 rfl) ?_
                                                      refine lv_iload S.1 S.2.1 dL_isSo_409 (lv_at hl 6 rfl) ?_
                                                      refine lv_if_ne (tgt := 418) S.1 S.2.1 dL_isSo_411 rfl (fun h280 => ?_) (fun h280 => ?_)
                                                      · skip
                                                        refine lv_iconst (v := (nI 0)) S.1 S.2.1 dL_isSo_418 (by decide) ?_
                                                        refine lv_iadd S.1 S.2.1 dL_isSo_419 ?_
                                                        refine lv_istore S.1 S.2.1 dL_isSo_420 hl (by decide) rfl (fun ls hl => ?_)
                                                        have hl : lv_has ls 15 [(4, .int ((rfAhd σ i) + (nI 0))), (7, .int (nI 1)), (5, .int ((lwAll σ n i) + (rfHrd σ n i))), (13, .int (nI (5 * pp))), (12, .int (rfHrd σ n i)), (11, .int (nI 1)), (10, .int (nf σ i 4)), (9, .int (nI 5)), (8, .int (nI i)), (3, .int (rfSum σ n)), (6, .ref s.heap.size), (0, .ref B), (1, .ref a), (2, .ref b)] := hl
                                                        refine lv_iinc (k := 8) (v := (nI (i + 1))) S.1 S.2.1 dL_isSo_422 hl rfl (iincP i 1) (by decide) rfl (fun ls hl => ?_)
                                                        have hl : lv_has ls 15 [(8, .int (nI (i + 1))), (4, .int ((rfAhd σ i) + (nI 0))), (7, .int (nI 1)), (5, .int ((lwAll σ n i) + (rfHrd σ n i))), (13, .int (nI (5 * pp))), (12, .int (rfHrd σ n i)), (11, .int (nI 1)), (10, .int (nf σ i 4)), (9, .int (nI 5)), (3, .int (rfSum σ n)), (6, .ref s.heap.size), (0, .ref B), (1, .ref a), (2, .ref b)] := hl
                                                        refine lv_goto (tgt := 24) S.1 S.2.1 dL_isSo_425 rfl ?_
                                                        have hl : lv_has ls 15 [(8, .int (nI (i + 1))), (4, .int (rfAhd σ (i + 1))), (5, .int (lwAll σ n (i + 1))), (7, .int (nI 1)), (3, .int (rfSum σ n)), (6, .ref s.heap.size), (0, .ref B), (1, .ref a), (2, .ref b)] := by
                                                          rw [show (rfAhd σ (i + 1)) = ((rfAhd σ i) + (nI 0)) from by first | rw [rfAhd, if_pos f0] | rw [rfAhd, if_neg f0] | rw [lwAll, if_pos fVo] | rw [lwAll, if_neg fVo]]
                                                          rw [show (lwAll σ n (i + 1)) = ((lwAll σ n i) + (rfHrd σ n i)) from by first | rw [rfAhd, if_pos f0] | rw [rfAhd, if_neg f0] | rw [lwAll, if_pos fVo] | rw [lwAll, if_neg fVo]]
                                                          exact lv_sub hl [0, 1, 3, 2, 9, 10, 11, 12, 13] rfl
                                                        exact ih24 _ (by omega) (i + 1) (upd (upd (upd (upd (upd f (5 * pp) ((f (5 * pp)) + (nI 0))) ((5 * pp) + 1) ((f ((5 * pp) + 1)) + (nI 1))) ((5 * pp) + 2) ((f ((5 * pp) + 2)) + (nf σ i 4))) ((5 * pp) + 3) ((f ((5 * pp) + 3)) + (rfHrd σ n i))) ((5 * pp) + 4) ((f ((5 * pp) + 4)) + (nI 0))) _ _ ls rfl (by omega) (pa_step hPA hpp e0 (by first | rw [if_pos fPl] | rw [if_neg fPl]) (by first | rw [if_pos f5] | rw [if_neg f5]) (by first | rw [if_pos fVo] | rw [if_neg fVo]) (by first | rw [if_pos fVo] | rw [if_neg fVo]) (by first | rw [if_pos f0] | rw [if_neg f0])) (hB) (hg) (hc) (hp) (hS) (lv_sub hl [0, 1, 2, 3, 4, 5, 6, 7, 8] rfl)
                                                      · exact absurd h280 (by decide)
                                                · exact absurd h277 (by decide)
                          · exact absurd h266 (by decide)
                  · exact absurd h262 (by decide)
                · skip
                  refine lv_iload S.1 S.2.1 dL_isSo_82 (lv_at hl 1 rfl) ?_
                  refine lv_goto (tgt := 96) S.1 S.2.1 dL_isSo_84 rfl ?_
                  refine x_top (y := (rfHrd σ n i)) (by rw [rfHrd]; first | rw [if_pos (Int32.not_lt.mp h261)] | rw [if_neg (Int32.not_le.mpr h261)]) ?_
                  refine lv_istore S.1 S.2.1 dL_isSo_96 hl (by decide) rfl (fun ls hl => ?_)
                  have hl : lv_has ls 15 [(12, .int (rfHrd σ n i)), (11, .int (nI 1)), (10, .int (nf σ i 4)), (9, .int (nI 5)), (8, .int (nI i)), (4, .int (rfAhd σ i)), (5, .int (lwAll σ n i)), (7, .int (nI 1)), (3, .int (rfSum σ n)), (6, .ref s.heap.size), (0, .ref B), (1, .ref a), (2, .ref b)] := hl
                  refine lv_iconst (v := (nI 5)) S.1 S.2.1 dL_isSo_98 (by decide) ?_
                  refine lv_aload_n S.1 S.2.1 dL_isSo_99 rfl (lv_at hl 12 rfl) ?_
                  refine lv_iload S.1 S.2.1 dL_isSo_100 (lv_at hl 4 rfl) ?_
                  refine x_lald S hE hEL (hc) i rfl (by omega) (by decide) dL_isSo_102 ?_
                  refine lv_iconst (v := (nI 0)) S.1 S.2.1 dL_isSo_103 (by decide) ?_
                  refine lv_iconst (v := (nI 2)) S.1 S.2.1 dL_isSo_104 (by decide) ?_
                  refine xk_R (v := (lwG (κ i) (nI 0) (nI 2))) (x_runS (As := [.long (κ i), .int (nI 0), .int (nI 2)]) (rest := [.int (nI 5)]) S hE hS (fun _ h => h.elim) (c_L_get l E (κ i) (nI 0) (nI 2) _) kv_L_get kw7_12 kw7_13 ⟨Nat.le_of_ble_eq_true rfl, Nat.le_of_ble_eq_true rfl⟩ rfl rfl rfl hl.1 rfl (Nat.le_of_ble_eq_true rfl) dL_isSo_105 ⟨(Nat.le_of_ble_eq_true rfl), (Nat.le_of_ble_eq_true rfl)⟩) ?_
                  refine x_top (y := (nf σ i 0)) ((lwG_eq _ (by decide) (by decide)).trans ((hU i 0 (by omega) (by decide)).symm)) ?_
                  refine x_top (y := (nI pp)) (e0) ?_
                  refine lv_imul S.1 S.2.1 dL_isSo_108 ?_
                  refine x_top (y := (nI (5 * pp))) (pk_mul 5 pp) ?_
                  refine lv_istore S.1 S.2.1 dL_isSo_109 hl (by decide) rfl (fun ls hl => ?_)
                  have hl : lv_has ls 15 [(13, .int (nI (5 * pp))), (12, .int (rfHrd σ n i)), (11, .int (nI 1)), (10, .int (nf σ i 4)), (9, .int (nI 5)), (8, .int (nI i)), (4, .int (rfAhd σ i)), (5, .int (lwAll σ n i)), (7, .int (nI 1)), (3, .int (rfSum σ n)), (6, .ref s.heap.size), (0, .ref B), (1, .ref a), (2, .ref b)] := hl
                  refine lv_aload S.1 S.2.1 dL_isSo_111 (lv_at hl 10 rfl) ?_
                  refine lv_iload S.1 S.2.1 dL_isSo_113 (lv_at hl 0 rfl) ?_
                  refine lv_dup2_11 S.1 S.2.1 dL_isSo_115 rfl rfl ?_
                  refine x_iald S hE (hp) (5 * pp) rfl (by omega) (by decide) dL_isSo_116 ?_
                  refine lv_aload_n S.1 S.2.1 dL_isSo_117 rfl (lv_at hl 13 rfl) ?_
                  refine lv_iload S.1 S.2.1 dL_isSo_118 (lv_at hl 5 rfl) ?_
                  refine x_lald S hE hEL (hc) i rfl (by omega) (by decide) dL_isSo_120 ?_
                  refine xk_R (v := (bI (nI 1 ≤ fld 3 (κ i) ∧ fld 3 (κ i) ≤ nI 4))) (x_runS (As := [.long (κ i)]) (rest := [.int (f (5 * pp)), .int (nI (5 * pp)), .ref s.heap.size]) S hE hS (fun _ h => h.elim) (c_L_placed l E (κ i) _) kv_L_placed kw7_18 kw7_19 ⟨Nat.le_of_ble_eq_true rfl, Nat.le_of_ble_eq_true rfl⟩ rfl rfl rfl hl.1 rfl (Nat.le_of_ble_eq_true rfl) dL_isSo_121 ⟨(Nat.le_of_ble_eq_true rfl), (Nat.le_of_ble_eq_true rfl)⟩) ?_
                  refine x_top (y := (nI 0)) ((bI_iff (by show _ ↔ (nI 1 ≤ nf σ i 3 ∧ nf σ i 3 ≤ nI 4); rw [hU i 3 (by omega) (by decide)])).trans (bI_f fPl).symm) ?_
                  refine lv_if_eq (tgt := 131) S.1 S.2.1 dL_isSo_124 rfl (fun h281 => ?_) (fun h281 => ?_)
                  · skip
                    refine lv_iconst (v := (nI 0)) S.1 S.2.1 dL_isSo_131 (by decide) ?_
                    refine lv_iadd S.1 S.2.1 dL_isSo_132 ?_
                    refine x_iast S hE hS (Or.inr (Nat.le_refl _)) (hp) (5 * pp) rfl (by omega) (by decide) dL_isSo_133 (fun H locs hX hO1 hS => ?_)
                    have hg := va_at.kept hg (hO1.2 a (Nat.ne_of_lt haz))
                    have hc := va_at.kept hc (hO1.2 b (Nat.ne_of_lt hbz))
                    have hB := hB.fr (fun q z => hO1.2 q (by have := z.2; omega))
                    have hp := hX
                    refine lv_aload S.1 S.2.1 dL_isSo_134 (lv_at hl 10 rfl) ?_
                    refine lv_iload S.1 S.2.1 dL_isSo_136 (lv_at hl 0 rfl) ?_
                    refine lv_iconst (v := (nI 1)) S.1 S.2.1 dL_isSo_138 (by decide) ?_
                    refine lv_iadd S.1 S.2.1 dL_isSo_139 ?_
                    refine x_top (y := (nI ((5 * pp) + 1))) (nI_add (5 * pp) 1) ?_
                    refine lv_dup2_11 S.1 S.2.1 dL_isSo_140 rfl rfl ?_
                    refine x_iald S hE (hp) ((5 * pp) + 1) rfl (by omega) (by decide) dL_isSo_141 ?_
                    refine x_top (y := (f ((5 * pp) + 1))) (pk_un (by omega)) ?_
                    refine lv_iload S.1 S.2.1 dL_isSo_142 (lv_at hl 4 rfl) ?_
                    refine lv_iconst (v := (nI 5)) S.1 S.2.1 dL_isSo_144 (by decide) ?_
                    refine lv_icmp_ne (tgt := 152) S.1 S.2.1 dL_isSo_145 rfl (fun h282 => ?_) (fun h282 => ?_)
                    · exact absurd h282 (by decide)
                    · skip
                      refine lv_iconst (v := (nI 1)) S.1 S.2.1 dL_isSo_148 (by decide) ?_
                      refine lv_goto (tgt := 153) S.1 S.2.1 dL_isSo_149 rfl ?_
                      refine lv_iadd S.1 S.2.1 dL_isSo_153 ?_
                      refine x_iast S hE hS (Or.inr (Nat.le_refl _)) (hp) ((5 * pp) + 1) rfl (by omega) (by decide) dL_isSo_154 (fun H locs hX hO1 hS => ?_)
                      have hg := va_at.kept hg (hO1.2 a (Nat.ne_of_lt haz))
                      have hc := va_at.kept hc (hO1.2 b (Nat.ne_of_lt hbz))
                      have hB := hB.fr (fun q z => hO1.2 q (by have := z.2; omega))
                      have hp := hX
                      refine lv_aload S.1 S.2.1 dL_isSo_155 (lv_at hl 10 rfl) ?_
                      refine lv_iload S.1 S.2.1 dL_isSo_157 (lv_at hl 0 rfl) ?_
                      refine lv_iconst (v := (nI 2)) S.1 S.2.1 dL_isSo_159 (by decide) ?_
                      refine lv_iadd S.1 S.2.1 dL_isSo_160 ?_
                      refine x_top (y := (nI ((5 * pp) + 2))) (nI_add (5 * pp) 2) ?_
                      refine lv_dup2_11 S.1 S.2.1 dL_isSo_161 rfl rfl ?_
                      refine x_iald S hE (hp) ((5 * pp) + 2) rfl (by omega) (by decide) dL_isSo_162 ?_
                      refine x_top (y := (f ((5 * pp) + 2))) ((pk_un (by omega)).trans (pk_un (by omega))) ?_
                      refine lv_iload S.1 S.2.1 dL_isSo_163 (lv_at hl 2 rfl) ?_
                      refine lv_if_eq (tgt := 173) S.1 S.2.1 dL_isSo_165 rfl (fun h283 => ?_) (fun h283 => ?_)
                      · exact absurd h283 (by decide)
                      · skip
                        refine lv_iload S.1 S.2.1 dL_isSo_168 (lv_at hl 3 rfl) ?_
                        refine lv_goto (tgt := 174) S.1 S.2.1 dL_isSo_170 rfl ?_
                        refine lv_iadd S.1 S.2.1 dL_isSo_174 ?_
                        refine x_iast S hE hS (Or.inr (Nat.le_refl _)) (hp) ((5 * pp) + 2) rfl (by omega) (by decide) dL_isSo_175 (fun H locs hX hO1 hS => ?_)
                        have hg := va_at.kept hg (hO1.2 a (Nat.ne_of_lt haz))
                        have hc := va_at.kept hc (hO1.2 b (Nat.ne_of_lt hbz))
                        have hB := hB.fr (fun q z => hO1.2 q (by have := z.2; omega))
                        have hp := hX
                        refine lv_aload S.1 S.2.1 dL_isSo_176 (lv_at hl 10 rfl) ?_
                        refine lv_iload S.1 S.2.1 dL_isSo_178 (lv_at hl 0 rfl) ?_
                        refine lv_iconst (v := (nI 3)) S.1 S.2.1 dL_isSo_180 (by decide) ?_
                        refine lv_iadd S.1 S.2.1 dL_isSo_181 ?_
                        refine x_top (y := (nI ((5 * pp) + 3))) (nI_add (5 * pp) 3) ?_
                        refine lv_dup2_11 S.1 S.2.1 dL_isSo_182 rfl rfl ?_
                        refine x_iald S hE (hp) ((5 * pp) + 3) rfl (by omega) (by decide) dL_isSo_183 ?_
                        refine x_top (y := (f ((5 * pp) + 3))) ((pk_un (by omega)).trans ((pk_un (by omega)).trans (pk_un (by omega)))) ?_
                        refine lv_iload S.1 S.2.1 dL_isSo_184 (lv_at hl 2 rfl) ?_
                        refine lv_if_eq (tgt := 194) S.1 S.2.1 dL_isSo_186 rfl (fun h284 => ?_) (fun h284 => ?_)
                        · exact absurd h284 (by decide)
                        · skip
                          refine lv_iload S.1 S.2.1 dL_isSo_189 (lv_at hl 1 rfl) ?_
                          refine lv_goto (tgt := 195) S.1 S.2.1 dL_isSo_191 rfl ?_
                          refine lv_iadd S.1 S.2.1 dL_isSo_195 ?_
                          refine x_iast S hE hS (Or.inr (Nat.le_refl _)) (hp) ((5 * pp) + 3) rfl (by omega) (by decide) dL_isSo_196 (fun H locs hX hO1 hS => ?_)
                          have hg := va_at.kept hg (hO1.2 a (Nat.ne_of_lt haz))
                          have hc := va_at.kept hc (hO1.2 b (Nat.ne_of_lt hbz))
                          have hB := hB.fr (fun q z => hO1.2 q (by have := z.2; omega))
                          have hp := hX
                          refine lv_aload S.1 S.2.1 dL_isSo_197 (lv_at hl 10 rfl) ?_
                          refine lv_iload S.1 S.2.1 dL_isSo_199 (lv_at hl 0 rfl) ?_
                          refine lv_iconst (v := (nI 4)) S.1 S.2.1 dL_isSo_201 (by decide) ?_
                          refine lv_iadd S.1 S.2.1 dL_isSo_202 ?_
                          refine x_top (y := (nI ((5 * pp) + 4))) (nI_add (5 * pp) 4) ?_
                          refine lv_dup2_11 S.1 S.2.1 dL_isSo_203 rfl rfl ?_
                          refine x_iald S hE (hp) ((5 * pp) + 4) rfl (by omega) (by decide) dL_isSo_204 ?_
                          refine x_top (y := (f ((5 * pp) + 4))) ((pk_un (by omega)).trans ((pk_un (by omega)).trans ((pk_un (by omega)).trans (pk_un (by omega))))) ?_
                          refine lv_iload S.1 S.2.1 dL_isSo_205 (lv_at hl 4 rfl) ?_
                          refine lv_if_ne (tgt := 214) S.1 S.2.1 dL_isSo_207 rfl (fun h285 => ?_) (fun h285 => ?_)
                          · skip
                            refine lv_iconst (v := (nI 0)) S.1 S.2.1 dL_isSo_214 (by decide) ?_
                            refine lv_iadd S.1 S.2.1 dL_isSo_215 ?_
                            refine x_iast S hE hS (Or.inr (Nat.le_refl _)) (hp) ((5 * pp) + 4) rfl (by omega) (by decide) dL_isSo_216 (fun H locs hX hO1 hS => ?_)
                            have hg := va_at.kept hg (hO1.2 a (Nat.ne_of_lt haz))
                            have hc := va_at.kept hc (hO1.2 b (Nat.ne_of_lt hbz))
                            have hB := hB.fr (fun q z => hO1.2 q (by have := z.2; omega))
                            have hp := hX
                            refine lv_iload S.1 S.2.1 dL_isSo_217 (lv_at hl 7 rfl) ?_
                            refine lv_iload S.1 S.2.1 dL_isSo_219 (lv_at hl 2 rfl) ?_
                            refine lv_if_eq (tgt := 229) S.1 S.2.1 dL_isSo_221 rfl (fun h286 => ?_) (fun h286 => ?_)
                            · exact absurd h286 (by decide)
                            · skip
                              refine lv_iload S.1 S.2.1 dL_isSo_224 (lv_at hl 1 rfl) ?_
                              refine lv_goto (tgt := 230) S.1 S.2.1 dL_isSo_226 rfl ?_
                              refine lv_iadd S.1 S.2.1 dL_isSo_230 ?_
                              refine lv_istore S.1 S.2.1 dL_isSo_231 hl (by decide) rfl (fun ls hl => ?_)
                              have hl : lv_has ls 15 [(5, .int ((lwAll σ n i) + (rfHrd σ n i))), (13, .int (nI (5 * pp))), (12, .int (rfHrd σ n i)), (11, .int (nI 1)), (10, .int (nf σ i 4)), (9, .int (nI 5)), (8, .int (nI i)), (4, .int (rfAhd σ i)), (7, .int (nI 1)), (3, .int (rfSum σ n)), (6, .ref s.heap.size), (0, .ref B), (1, .ref a), (2, .ref b)] := hl
                              refine lv_aload_n S.1 S.2.1 dL_isSo_233 rfl (lv_at hl 11 rfl) ?_
                              refine lv_iload S.1 S.2.1 dL_isSo_234 (lv_at hl 6 rfl) ?_
                              refine lv_iconst (v := (nI 0)) S.1 S.2.1 dL_isSo_236 (by decide) ?_
                              refine xk_R (v := (bxNote β.1 (nI i) (nI 0))) (x_runV (As := [.int (nI i), .int (nI 0)]) (rest := []) S hE hS (fun _ h => h.elim) (c_X7_noteOf l E B β (nI i) (nI 0) _ hB) kv_X7_noteOf kw7_21 kw7_22 kw7_23 (x_recv hE (hB.1) (ci := 7) rfl) ⟨Nat.le_of_ble_eq_true rfl, Nat.le_of_ble_eq_true rfl⟩ rfl rfl rfl hl.1 rfl (Nat.le_of_ble_eq_true rfl) dL_isSo_237 ⟨(Nat.le_of_ble_eq_true rfl), (Nat.le_of_ble_eq_true rfl)⟩) ?_
                              refine x_top (y := (nI ((5 * pp) / 5))) ((nt_0 hT hlt).trans (e0.trans (congrArg nI (by omega)))) ?_
                              refine lv_iload S.1 S.2.1 dL_isSo_240 (lv_at hl 1 rfl) ?_
                              refine lv_iconst (v := (nI 5)) S.1 S.2.1 dL_isSo_242 (by decide) ?_
                              refine lv_idiv S.1 S.2.1 dL_isSo_243 (by decide) ?_
                              refine x_top (y := (nI ((5 * pp) / 5))) (pk_div (by omega) (by decide) (by decide)) ?_
                              refine lv_icmp_ne (tgt := 404) S.1 S.2.1 dL_isSo_244 rfl (fun h287 => ?_) (fun h287 => ?_)
                              · exact absurd rfl h287
                              · skip
                                refine lv_aload_n S.1 S.2.1 dL_isSo_247 rfl (lv_at hl 11 rfl) ?_
                                refine lv_iload S.1 S.2.1 dL_isSo_248 (lv_at hl 6 rfl) ?_
                                refine lv_iconst (v := (nI 1)) S.1 S.2.1 dL_isSo_250 (by decide) ?_
                                refine xk_R (v := (bxNote β.1 (nI i) (nI 1))) (x_runV (As := [.int (nI i), .int (nI 1)]) (rest := []) S hE hS (fun _ h => h.elim) (c_X7_noteOf l E B β (nI i) (nI 1) _ hB) kv_X7_noteOf kw7_21 kw7_22 kw7_23 (x_recv hE (hB.1) (ci := 7) rfl) ⟨Nat.le_of_ble_eq_true rfl, Nat.le_of_ble_eq_true rfl⟩ rfl rfl rfl hl.1 rfl (Nat.le_of_ble_eq_true rfl) dL_isSo_251 ⟨(Nat.le_of_ble_eq_true rfl), (Nat.le_of_ble_eq_true rfl)⟩) ?_
                                refine x_top (y := (nf σ i 1)) (nt_1 hT hlt) ?_
                                refine lv_aload_n S.1 S.2.1 dL_isSo_254 rfl (lv_at hl 13 rfl) ?_
                                refine lv_iload S.1 S.2.1 dL_isSo_255 (lv_at hl 6 rfl) ?_
                                refine x_lald S hE hEL (hc) i rfl (by omega) (by decide) dL_isSo_257 ?_
                                refine lv_iconst (v := (nI 2)) S.1 S.2.1 dL_isSo_258 (by decide) ?_
                                refine lv_bipush (v := (nI 7)) S.1 S.2.1 dL_isSo_259 (by decide) ?_
                                refine xk_R (v := (lwG (κ i) (nI 2) (nI 7))) (x_runS (As := [.long (κ i), .int (nI 2), .int (nI 7)]) (rest := [.int (nf σ i 1)]) S hE hS (fun _ h => h.elim) (c_L_get l E (κ i) (nI 2) (nI 7) _) kv_L_get kw7_12 kw7_13 ⟨Nat.le_of_ble_eq_true rfl, Nat.le_of_ble_eq_true rfl⟩ rfl rfl rfl hl.1 rfl (Nat.le_of_ble_eq_true rfl) dL_isSo_261 ⟨(Nat.le_of_ble_eq_true rfl), (Nat.le_of_ble_eq_true rfl)⟩) ?_
                                refine x_top (y := (nf σ i 1)) ((lwG_eq _ (by decide) (by decide)).trans ((hU i 1 (by omega) (by decide)).symm)) ?_
                                refine lv_icmp_ne (tgt := 404) S.1 S.2.1 dL_isSo_264 rfl (fun h288 => ?_) (fun h288 => ?_)
                                · exact absurd rfl h288
                                · skip
                                  refine lv_aload_n S.1 S.2.1 dL_isSo_267 rfl (lv_at hl 11 rfl) ?_
                                  refine lv_iload S.1 S.2.1 dL_isSo_268 (lv_at hl 6 rfl) ?_
                                  refine lv_iconst (v := (nI 2)) S.1 S.2.1 dL_isSo_270 (by decide) ?_
                                  refine xk_R (v := (bxNote β.1 (nI i) (nI 2))) (x_runV (As := [.int (nI i), .int (nI 2)]) (rest := []) S hE hS (fun _ h => h.elim) (c_X7_noteOf l E B β (nI i) (nI 2) _ hB) kv_X7_noteOf kw7_21 kw7_22 kw7_23 (x_recv hE (hB.1) (ci := 7) rfl) ⟨Nat.le_of_ble_eq_true rfl, Nat.le_of_ble_eq_true rfl⟩ rfl rfl rfl hl.1 rfl (Nat.le_of_ble_eq_true rfl) dL_isSo_271 ⟨(Nat.le_of_ble_eq_true rfl), (Nat.le_of_ble_eq_true rfl)⟩) ?_
                                  refine x_top (y := (nf σ i 2)) (nt_2 hT hlt) ?_
                                  refine lv_aload_n S.1 S.2.1 dL_isSo_274 rfl (lv_at hl 13 rfl) ?_
                                  refine lv_iload S.1 S.2.1 dL_isSo_275 (lv_at hl 6 rfl) ?_
                                  refine x_lald S hE hEL (hc) i rfl (by omega) (by decide) dL_isSo_277 ?_
                                  refine lv_bipush (v := (nI 9)) S.1 S.2.1 dL_isSo_278 (by decide) ?_
                                  refine lv_bipush (v := (nI 7)) S.1 S.2.1 dL_isSo_280 (by decide) ?_
                                  refine xk_R (v := (lwG (κ i) (nI 9) (nI 7))) (x_runS (As := [.long (κ i), .int (nI 9), .int (nI 7)]) (rest := [.int (nf σ i 2)]) S hE hS (fun _ h => h.elim) (c_L_get l E (κ i) (nI 9) (nI 7) _) kv_L_get kw7_12 kw7_13 ⟨Nat.le_of_ble_eq_true rfl, Nat.le_of_ble_eq_true rfl⟩ rfl rfl rfl hl.1 rfl (Nat.le_of_ble_eq_true rfl) dL_isSo_282 ⟨(Nat.le_of_ble_eq_true rfl), (Nat.le_of_ble_eq_true rfl)⟩) ?_
                                  refine x_top (y := (nf σ i 2)) ((lwG_eq _ (by decide) (by decide)).trans ((hU i 2 (by omega) (by decide)).symm)) ?_
                                  refine lv_icmp_ne (tgt := 404) S.1 S.2.1 dL_isSo_285 rfl (fun h289 => ?_) (fun h289 => ?_)
                                  · exact absurd rfl h289
                                  · skip
                                    refine lv_aload_n S.1 S.2.1 dL_isSo_288 rfl (lv_at hl 11 rfl) ?_
                                    refine lv_iload S.1 S.2.1 dL_isSo_289 (lv_at hl 6 rfl) ?_
                                    refine lv_iconst (v := (nI 3)) S.1 S.2.1 dL_isSo_291 (by decide) ?_
                                    refine xk_R (v := (bxNote β.1 (nI i) (nI 3))) (x_runV (As := [.int (nI i), .int (nI 3)]) (rest := []) S hE hS (fun _ h => h.elim) (c_X7_noteOf l E B β (nI i) (nI 3) _ hB) kv_X7_noteOf kw7_21 kw7_22 kw7_23 (x_recv hE (hB.1) (ci := 7) rfl) ⟨Nat.le_of_ble_eq_true rfl, Nat.le_of_ble_eq_true rfl⟩ rfl rfl rfl hl.1 rfl (Nat.le_of_ble_eq_true rfl) dL_isSo_292 ⟨(Nat.le_of_ble_eq_true rfl), (Nat.le_of_ble_eq_true rfl)⟩) ?_
                                    refine x_top (y := (nI 5)) ((nt_3 hT hlt).trans ex) ?_
                                    refine lv_iload S.1 S.2.1 dL_isSo_295 (lv_at hl 5 rfl) ?_
                                    refine lv_icmp_ne (tgt := 404) S.1 S.2.1 dL_isSo_297 rfl (fun h290 => ?_) (fun h290 => ?_)
                                    · exact absurd h290 (by decide)
                                    · skip
                                      refine lv_aload_n S.1 S.2.1 dL_isSo_300 rfl (lv_at hl 11 rfl) ?_
                                      refine lv_iload S.1 S.2.1 dL_isSo_301 (lv_at hl 6 rfl) ?_
                                      refine lv_iconst (v := (nI 4)) S.1 S.2.1 dL_isSo_303 (by decide) ?_
                                      refine xk_R (v := (bxNote β.1 (nI i) (nI 4))) (x_runV (As := [.int (nI i), .int (nI 4)]) (rest := []) S hE hS (fun _ h => h.elim) (c_X7_noteOf l E B β (nI i) (nI 4) _ hB) kv_X7_noteOf kw7_21 kw7_22 kw7_23 (x_recv hE (hB.1) (ci := 7) rfl) ⟨Nat.le_of_ble_eq_true rfl, Nat.le_of_ble_eq_true rfl⟩ rfl rfl rfl hl.1 rfl (Nat.le_of_ble_eq_true rfl) dL_isSo_304 ⟨(Nat.le_of_ble_eq_true rfl), (Nat.le_of_ble_eq_true rfl)⟩) ?_
                                      refine x_top (y := (nf σ i 4)) ((nt_4 hT hlt).trans (if_pos fVo)) ?_
                                      refine lv_iload S.1 S.2.1 dL_isSo_307 (lv_at hl 3 rfl) ?_
                                      refine lv_if_eq (tgt := 317) S.1 S.2.1 dL_isSo_309 rfl (fun h291 => ?_) (fun h291 => ?_)
                                      · exact absurd h291 (by decide)
                                      · skip
                                        refine lv_iload S.1 S.2.1 dL_isSo_312 (lv_at hl 4 rfl) ?_
                                        refine lv_goto (tgt := 319) S.1 S.2.1 dL_isSo_314 rfl ?_
                                        refine lv_icmp_ne (tgt := 404) S.1 S.2.1 dL_isSo_319 rfl (fun h292 => ?_) (fun h292 => ?_)
                                        · exact absurd rfl h292
                                        · skip
                                          refine lv_aload_n S.1 S.2.1 dL_isSo_322 rfl (lv_at hl 11 rfl) ?_
                                          refine lv_iload S.1 S.2.1 dL_isSo_323 (lv_at hl 6 rfl) ?_
                                          refine lv_iconst (v := (nI 5)) S.1 S.2.1 dL_isSo_325 (by decide) ?_
                                          refine xk_R (v := (bxNote β.1 (nI i) (nI 5))) (x_runV (As := [.int (nI i), .int (nI 5)]) (rest := []) S hE hS (fun _ h => h.elim) (c_X7_noteOf l E B β (nI i) (nI 5) _ hB) kv_X7_noteOf kw7_21 kw7_22 kw7_23 (x_recv hE (hB.1) (ci := 7) rfl) ⟨Nat.le_of_ble_eq_true rfl, Nat.le_of_ble_eq_true rfl⟩ rfl rfl rfl hl.1 rfl (Nat.le_of_ble_eq_true rfl) dL_isSo_326 ⟨(Nat.le_of_ble_eq_true rfl), (Nat.le_of_ble_eq_true rfl)⟩) ?_
                                          refine x_top (y := (rfHrd σ n i)) ((nt_5 hT hlt).trans (if_pos fVo)) ?_
                                          refine lv_iload S.1 S.2.1 dL_isSo_329 (lv_at hl 3 rfl) ?_
                                          refine lv_if_eq (tgt := 339) S.1 S.2.1 dL_isSo_331 rfl (fun h293 => ?_) (fun h293 => ?_)
                                          · exact absurd h293 (by decide)
                                          · skip
                                            refine lv_iload S.1 S.2.1 dL_isSo_334 (lv_at hl 2 rfl) ?_
                                            refine lv_goto (tgt := 341) S.1 S.2.1 dL_isSo_336 rfl ?_
                                            refine lv_icmp_ne (tgt := 404) S.1 S.2.1 dL_isSo_341 rfl (fun h294 => ?_) (fun h294 => ?_)
                                            · exact absurd rfl h294
                                            · skip
                                              refine lv_aload_n S.1 S.2.1 dL_isSo_344 rfl (lv_at hl 11 rfl) ?_
                                              refine lv_iload S.1 S.2.1 dL_isSo_345 (lv_at hl 6 rfl) ?_
                                              refine lv_bipush (v := (nI 6)) S.1 S.2.1 dL_isSo_347 (by decide) ?_
                                              refine xk_R (v := (bxNote β.1 (nI i) (nI 6))) (x_runV (As := [.int (nI i), .int (nI 6)]) (rest := []) S hE hS (fun _ h => h.elim) (c_X7_noteOf l E B β (nI i) (nI 6) _ hB) kv_X7_noteOf kw7_21 kw7_22 kw7_23 (x_recv hE (hB.1) (ci := 7) rfl) ⟨Nat.le_of_ble_eq_true rfl, Nat.le_of_ble_eq_true rfl⟩ rfl rfl rfl hl.1 rfl (Nat.le_of_ble_eq_true rfl) dL_isSo_349 ⟨(Nat.le_of_ble_eq_true rfl), (Nat.le_of_ble_eq_true rfl)⟩) ?_
                                              refine x_top (y := (nf σ i 6)) (nt_6 hT hlt) ?_
                                              refine lv_aload_n S.1 S.2.1 dL_isSo_352 rfl (lv_at hl 13 rfl) ?_
                                              refine lv_iload S.1 S.2.1 dL_isSo_353 (lv_at hl 6 rfl) ?_
                                              refine x_lald S hE hEL (hc) i rfl (by omega) (by decide) dL_isSo_355 ?_
                                              refine lv_bipush (v := (nI 41)) S.1 S.2.1 dL_isSo_356 (by decide) ?_
                                              refine lv_iconst (v := (nI 1)) S.1 S.2.1 dL_isSo_358 (by decide) ?_
                                              refine xk_R (v := (lwG (κ i) (nI 41) (nI 1))) (x_runS (As := [.long (κ i), .int (nI 41), .int (nI 1)]) (rest := [.int (nf σ i 6)]) S hE hS (fun _ h => h.elim) (c_L_get l E (κ i) (nI 41) (nI 1) _) kv_L_get kw7_12 kw7_13 ⟨Nat.le_of_ble_eq_true rfl, Nat.le_of_ble_eq_true rfl⟩ rfl rfl rfl hl.1 rfl (Nat.le_of_ble_eq_true rfl) dL_isSo_359 ⟨(Nat.le_of_ble_eq_true rfl), (Nat.le_of_ble_eq_true rfl)⟩) ?_
                                              refine x_top (y := (nf σ i 6)) ((lwG_eq _ (by decide) (by decide)).trans ((hU i 6 (by omega) (by decide)).symm)) ?_
                                              refine lv_icmp_ne (tgt := 404) S.1 S.2.1 dL_isSo_362 rfl (fun h295 => ?_) (fun h295 => ?_)
                                              · exact absurd rfl h295
                                              · skip
                                                refine lv_aload_n S.1 S.2.1 dL_isSo_365 rfl (lv_at hl 11 rfl) ?_
                                                refine lv_iload S.1 S.2.1 dL_isSo_366 (lv_at hl 6 rfl) ?_
                                                refine lv_bipush (v := (nI 7)) S.1 S.2.1 dL_isSo_368 (by decide) ?_
                                                refine xk_R (v := (bxNote β.1 (nI i) (nI 7))) (x_runV (As := [.int (nI i), .int (nI 7)]) (rest := []) S hE hS (fun _ h => h.elim) (c_X7_noteOf l E B β (nI i) (nI 7) _ hB) kv_X7_noteOf kw7_21 kw7_22 kw7_23 (x_recv hE (hB.1) (ci := 7) rfl) ⟨Nat.le_of_ble_eq_true rfl, Nat.le_of_ble_eq_true rfl⟩ rfl rfl rfl hl.1 rfl (Nat.le_of_ble_eq_true rfl) dL_isSo_370 ⟨(Nat.le_of_ble_eq_true rfl), (Nat.le_of_ble_eq_true rfl)⟩) ?_
                                                refine x_top (y := (-4)) ((nt_7 hT hlt).trans (if_neg f0)) ?_
                                                refine lv_iload S.1 S.2.1 dL_isSo_373 (lv_at hl 5 rfl) ?_
                                                refine lv_if_ne (tgt := 383) S.1 S.2.1 dL_isSo_375 rfl (fun h296 => ?_) (fun h296 => ?_)
                                                · skip
                                                  refine lv_bipush (v := (-4)) S.1 S.2.1 dL_isSo_383 (by decide) ?_
                                                  refine lv_icmp_ne (tgt := 404) S.1 S.2.1 dL_isSo_385 rfl (fun h297 => ?_) (fun h297 => ?_)
                                                  · exact absurd h297 (by decide)
                                                  · skip
                                                    refine lv_aload_n S.1 S.2.1 dL_isSo_388 rfl (lv_at hl 11 rfl) ?_
                                                    refine lv_iload S.1 S.2.1 dL_isSo_389 (lv_at hl 6 rfl) ?_
                                                    refine lv_bipush (v := (nI 8)) S.1 S.2.1 dL_isSo_391 (by decide) ?_
                                                    refine xk_R (v := (bxNote β.1 (nI i) (nI 8))) (x_runV (As := [.int (nI i), .int (nI 8)]) (rest := []) S hE hS (fun _ h => h.elim) (c_X7_noteOf l E B β (nI i) (nI 8) _ hB) kv_X7_noteOf kw7_21 kw7_22 kw7_23 (x_recv hE (hB.1) (ci := 7) rfl) ⟨Nat.le_of_ble_eq_true rfl, Nat.le_of_ble_eq_true rfl⟩ rfl rfl rfl hl.1 rfl (Nat.le_of_ble_eq_true rfl) dL_isSo_393 ⟨(Nat.le_of_ble_eq_true rfl), (Nat.le_of_ble_eq_true rfl)⟩) ?_
                                                    refine x_top (y := (-1)) (nt_8 hT hlt) ?_
                                                    refine lv_iconst (v := (-1)) S.1 S.2.1 dL_isSo_396 (by decide) ?_
                                                    refine lv_icmp_ne (tgt := 404) S.1 S.2.1 dL_isSo_397 rfl (fun h298 => ?_) (fun h298 => ?_)
                                                    · exact absurd h298 (by decide)
                                                    · skip
                                                      refine lv_iconst (v := (nI 1)) S.1 S.2.1 dL_isSo_400 (by decide) ?_
                                                      refine lv_goto (tgt := 405) S.1 S.2.1 dL_isSo_401 rfl ?_
                                                      refine lv_istore S.1 S.2.1 dL_isSo_405 hl (by decide) rfl (fun ls hl => ?_)
                                                      have hl : lv_has ls 15 [(7, .int (nI 1)), (5, .int ((lwAll σ n i) + (rfHrd σ n i))), (13, .int (nI (5 * pp))), (12, .int (rfHrd σ n i)), (11, .int (nI 1)), (10, .int (nf σ i 4)), (9, .int (nI 5)), (8, .int (nI i)), (4, .int (rfAhd σ i)), (3, .int (rfSum σ n)), (6, .ref s.heap.size), (0, .ref B), (1, .ref a), (2, .ref b)] := hl
                                                      refine lv_iload S.1 S.2.1 dL_isSo_407 (lv_at hl 8 rfl) ?_
                                                      refine lv_iload S.1 S.2.1 dL_isSo_409 (lv_at hl 6 rfl) ?_
                                                      refine lv_if_ne (tgt := 418) S.1 S.2.1 dL_isSo_411 rfl (fun h299 => ?_) (fun h299 => ?_)
                                                      · skip
                                                        refine lv_iconst (v := (nI 0)) S.1 S.2.1 dL_isSo_418 (by decide) ?_
                                                        refine lv_iadd S.1 S.2.1 dL_isSo_419 ?_
                                                        refine lv_istore S.1 S.2.1 dL_isSo_420 hl (by decide) rfl (fun ls hl => ?_)
                                                        have hl : lv_has ls 15 [(4, .int ((rfAhd σ i) + (nI 0))), (7, .int (nI 1)), (5, .int ((lwAll σ n i) + (rfHrd σ n i))), (13, .int (nI (5 * pp))), (12, .int (rfHrd σ n i)), (11, .int (nI 1)), (10, .int (nf σ i 4)), (9, .int (nI 5)), (8, .int (nI i)), (3, .int (rfSum σ n)), (6, .ref s.heap.size), (0, .ref B), (1, .ref a), (2, .ref b)] := hl
                                                        refine lv_iinc (k := 8) (v := (nI (i + 1))) S.1 S.2.1 dL_isSo_422 hl rfl (iincP i 1) (by decide) rfl (fun ls hl => ?_)
                                                        have hl : lv_has ls 15 [(8, .int (nI (i + 1))), (4, .int ((rfAhd σ i) + (nI 0))), (7, .int (nI 1)), (5, .int ((lwAll σ n i) + (rfHrd σ n i))), (13, .int (nI (5 * pp))), (12, .int (rfHrd σ n i)), (11, .int (nI 1)), (10, .int (nf σ i 4)), (9, .int (nI 5)), (3, .int (rfSum σ n)), (6, .ref s.heap.size), (0, .ref B), (1, .ref a), (2, .ref b)] := hl
                                                        refine lv_goto (tgt := 24) S.1 S.2.1 dL_isSo_425 rfl ?_
                                                        have hl : lv_has ls 15 [(8, .int (nI (i + 1))), (4, .int (rfAhd σ (i + 1))), (5, .int (lwAll σ n (i + 1))), (7, .int (nI 1)), (3, .int (rfSum σ n)), (6, .ref s.heap.size), (0, .ref B), (1, .ref a), (2, .ref b)] := by
                                                          rw [show (rfAhd σ (i + 1)) = ((rfAhd σ i) + (nI 0)) from by first | rw [rfAhd, if_pos f0] | rw [rfAhd, if_neg f0] | rw [lwAll, if_pos fVo] | rw [lwAll, if_neg fVo]]
                                                          rw [show (lwAll σ n (i + 1)) = ((lwAll σ n i) + (rfHrd σ n i)) from by first | rw [rfAhd, if_pos f0] | rw [rfAhd, if_neg f0] | rw [lwAll, if_pos fVo] | rw [lwAll, if_neg fVo]]
                                                          exact lv_sub hl [0, 1, 3, 2, 9, 10, 11, 12, 13] rfl
                                                        exact ih24 _ (by omega) (i + 1) (upd (upd (upd (upd (upd f (5 * pp) ((f (5 * pp)) + (nI 0))) ((5 * pp) + 1) ((f ((5 * pp) + 1)) + (nI 1))) ((5 * pp) + 2) ((f ((5 * pp) + 2)) + (nf σ i 4))) ((5 * pp) + 3) ((f ((5 * pp) + 3)) + (rfHrd σ n i))) ((5 * pp) + 4) ((f ((5 * pp) + 4)) + (nI 0))) _ _ ls rfl (by omega) (pa_step hPA hpp e0 (by first | rw [if_pos fPl] | rw [if_neg fPl]) (by first | rw [if_pos f5] | rw [if_neg f5]) (by first | rw [if_pos fVo] | rw [if_neg fVo]) (by first | rw [if_pos fVo] | rw [if_neg fVo]) (by first | rw [if_pos f0] | rw [if_neg f0])) (hB) (hg) (hc) (hp) (hS) (lv_sub hl [0, 1, 2, 3, 4, 5, 6, 7, 8] rfl)
                                                      · exact absurd h299 (by decide)
                                                · exact absurd h296 (by decide)
                          · exact absurd h285 (by decide)
                  · exact absurd h281 (by decide)
          · refine x_top (y := (nI 6)) ex ?_
            have fPl : ¬ rfPl σ i := by first | exact ex | (unfold rfPl; rw [ex]; decide)
            have fVo : ¬ rfVo σ i := by first | exact ex | (unfold rfVo; rw [ex]; decide)
            have f5 : ¬ nf σ i 3 = nI 5 := by first | exact ex | (rw [ex]; decide)
            have f0 : ¬ nf σ i 3 = 0 := by first | exact ex | (rw [ex]; decide)
            refine lv_istore S.1 S.2.1 dL_isSo_44 hl (by decide) rfl (fun ls hl => ?_)
            have hl : lv_has ls 15 [(9, .int (nI 6)), (8, .int (nI i)), (4, .int (rfAhd σ i)), (5, .int (lwAll σ n i)), (7, .int (nI 1)), (3, .int (rfSum σ n)), (6, .ref s.heap.size), (0, .ref B), (1, .ref a), (2, .ref b)] := hl
            refine lv_aload_n S.1 S.2.1 dL_isSo_46 rfl (lv_at hl 9 rfl) ?_
            refine lv_iload S.1 S.2.1 dL_isSo_47 (lv_at hl 1 rfl) ?_
            refine x_lald S hE hEL (hc) i rfl (by omega) (by decide) dL_isSo_49 ?_
            refine xk_R (v := (fld 4 (κ i))) (x_runS (As := [.long (κ i)]) (rest := []) S hE hS (fun _ h => h.elim) (c_L_level l E (κ i) _) kv_L_level kw7_15 kw7_16 ⟨Nat.le_of_ble_eq_true rfl, Nat.le_of_ble_eq_true rfl⟩ rfl rfl rfl hl.1 rfl (Nat.le_of_ble_eq_true rfl) dL_isSo_50 ⟨(Nat.le_of_ble_eq_true rfl), (Nat.le_of_ble_eq_true rfl)⟩) ?_
            refine x_top (y := (nf σ i 4)) ((hU i 4 (by omega) (by decide)).symm) ?_
            refine lv_istore S.1 S.2.1 dL_isSo_53 hl (by decide) rfl (fun ls hl => ?_)
            have hl : lv_has ls 15 [(10, .int (nf σ i 4)), (9, .int (nI 6)), (8, .int (nI i)), (4, .int (rfAhd σ i)), (5, .int (lwAll σ n i)), (7, .int (nI 1)), (3, .int (rfSum σ n)), (6, .ref s.heap.size), (0, .ref B), (1, .ref a), (2, .ref b)] := hl
            refine lv_iload S.1 S.2.1 dL_isSo_55 (lv_at hl 1 rfl) ?_
            refine lv_if_le (tgt := 71) S.1 S.2.1 dL_isSo_57 rfl (fun h300 => ?_) (fun h300 => ?_)
            · exact absurd h300 (by decide)
            · skip
              refine lv_iload S.1 S.2.1 dL_isSo_60 (lv_at hl 1 rfl) ?_
              refine lv_bipush (v := (nI 6)) S.1 S.2.1 dL_isSo_62 (by decide) ?_
              refine lv_icmp_ge (tgt := 71) S.1 S.2.1 dL_isSo_64 rfl (fun h301 => ?_) (fun h301 => ?_)
              · skip
                refine lv_iconst (v := (nI 0)) S.1 S.2.1 dL_isSo_71 (by decide) ?_
                refine lv_istore S.1 S.2.1 dL_isSo_72 hl (by decide) rfl (fun ls hl => ?_)
                have hl : lv_has ls 15 [(11, .int (nI 0)), (10, .int (nf σ i 4)), (9, .int (nI 6)), (8, .int (nI i)), (4, .int (rfAhd σ i)), (5, .int (lwAll σ n i)), (7, .int (nI 1)), (3, .int (rfSum σ n)), (6, .ref s.heap.size), (0, .ref B), (1, .ref a), (2, .ref b)] := hl
                refine lv_iload_n S.1 S.2.1 dL_isSo_74 rfl (lv_at hl 7 rfl) ?_
                refine lv_aload_n S.1 S.2.1 dL_isSo_75 rfl (lv_at hl 10 rfl) ?_
                refine lv_bipush (v := (nI 8)) S.1 S.2.1 dL_isSo_76 (by decide) ?_
                refine x_iald S hE (hg) 8 rfl (by decide) (by decide) dL_isSo_78 ?_
                refine lv_icmp_gt (tgt := 87) S.1 S.2.1 dL_isSo_79 rfl (fun h302 => ?_) (fun h302 => ?_)
                · skip
                  refine lv_iload S.1 S.2.1 dL_isSo_87 (lv_at hl 1 rfl) ?_
                  refine lv_aload_n S.1 S.2.1 dL_isSo_89 rfl (lv_at hl 10 rfl) ?_
                  refine lv_bipush (v := (nI 8)) S.1 S.2.1 dL_isSo_90 (by decide) ?_
                  refine x_iald S hE (hg) 8 rfl (by decide) (by decide) dL_isSo_92 ?_
                  refine lv_imul S.1 S.2.1 dL_isSo_93 ?_
                  refine lv_iload_n S.1 S.2.1 dL_isSo_94 rfl (lv_at hl 7 rfl) ?_
                  refine lv_idiv S.1 S.2.1 dL_isSo_95 (nz_of h8 h302) ?_
                  refine x_top (y := (rfHrd σ n i)) (by rw [rfHrd]; first | rw [if_pos (Int32.not_lt.mp h302)] | rw [if_neg (Int32.not_le.mpr h302)]) ?_
                  refine lv_istore S.1 S.2.1 dL_isSo_96 hl (by decide) rfl (fun ls hl => ?_)
                  have hl : lv_has ls 15 [(12, .int (rfHrd σ n i)), (11, .int (nI 0)), (10, .int (nf σ i 4)), (9, .int (nI 6)), (8, .int (nI i)), (4, .int (rfAhd σ i)), (5, .int (lwAll σ n i)), (7, .int (nI 1)), (3, .int (rfSum σ n)), (6, .ref s.heap.size), (0, .ref B), (1, .ref a), (2, .ref b)] := hl
                  refine lv_iconst (v := (nI 5)) S.1 S.2.1 dL_isSo_98 (by decide) ?_
                  refine lv_aload_n S.1 S.2.1 dL_isSo_99 rfl (lv_at hl 12 rfl) ?_
                  refine lv_iload S.1 S.2.1 dL_isSo_100 (lv_at hl 4 rfl) ?_
                  refine x_lald S hE hEL (hc) i rfl (by omega) (by decide) dL_isSo_102 ?_
                  refine lv_iconst (v := (nI 0)) S.1 S.2.1 dL_isSo_103 (by decide) ?_
                  refine lv_iconst (v := (nI 2)) S.1 S.2.1 dL_isSo_104 (by decide) ?_
                  refine xk_R (v := (lwG (κ i) (nI 0) (nI 2))) (x_runS (As := [.long (κ i), .int (nI 0), .int (nI 2)]) (rest := [.int (nI 5)]) S hE hS (fun _ h => h.elim) (c_L_get l E (κ i) (nI 0) (nI 2) _) kv_L_get kw7_12 kw7_13 ⟨Nat.le_of_ble_eq_true rfl, Nat.le_of_ble_eq_true rfl⟩ rfl rfl rfl hl.1 rfl (Nat.le_of_ble_eq_true rfl) dL_isSo_105 ⟨(Nat.le_of_ble_eq_true rfl), (Nat.le_of_ble_eq_true rfl)⟩) ?_
                  refine x_top (y := (nf σ i 0)) ((lwG_eq _ (by decide) (by decide)).trans ((hU i 0 (by omega) (by decide)).symm)) ?_
                  refine x_top (y := (nI pp)) (e0) ?_
                  refine lv_imul S.1 S.2.1 dL_isSo_108 ?_
                  refine x_top (y := (nI (5 * pp))) (pk_mul 5 pp) ?_
                  refine lv_istore S.1 S.2.1 dL_isSo_109 hl (by decide) rfl (fun ls hl => ?_)
                  have hl : lv_has ls 15 [(13, .int (nI (5 * pp))), (12, .int (rfHrd σ n i)), (11, .int (nI 0)), (10, .int (nf σ i 4)), (9, .int (nI 6)), (8, .int (nI i)), (4, .int (rfAhd σ i)), (5, .int (lwAll σ n i)), (7, .int (nI 1)), (3, .int (rfSum σ n)), (6, .ref s.heap.size), (0, .ref B), (1, .ref a), (2, .ref b)] := hl
                  refine lv_aload S.1 S.2.1 dL_isSo_111 (lv_at hl 10 rfl) ?_
                  refine lv_iload S.1 S.2.1 dL_isSo_113 (lv_at hl 0 rfl) ?_
                  refine lv_dup2_11 S.1 S.2.1 dL_isSo_115 rfl rfl ?_
                  refine x_iald S hE (hp) (5 * pp) rfl (by omega) (by decide) dL_isSo_116 ?_
                  refine lv_aload_n S.1 S.2.1 dL_isSo_117 rfl (lv_at hl 13 rfl) ?_
                  refine lv_iload S.1 S.2.1 dL_isSo_118 (lv_at hl 5 rfl) ?_
                  refine x_lald S hE hEL (hc) i rfl (by omega) (by decide) dL_isSo_120 ?_
                  refine xk_R (v := (bI (nI 1 ≤ fld 3 (κ i) ∧ fld 3 (κ i) ≤ nI 4))) (x_runS (As := [.long (κ i)]) (rest := [.int (f (5 * pp)), .int (nI (5 * pp)), .ref s.heap.size]) S hE hS (fun _ h => h.elim) (c_L_placed l E (κ i) _) kv_L_placed kw7_18 kw7_19 ⟨Nat.le_of_ble_eq_true rfl, Nat.le_of_ble_eq_true rfl⟩ rfl rfl rfl hl.1 rfl (Nat.le_of_ble_eq_true rfl) dL_isSo_121 ⟨(Nat.le_of_ble_eq_true rfl), (Nat.le_of_ble_eq_true rfl)⟩) ?_
                  refine x_top (y := (nI 0)) ((bI_iff (by show _ ↔ (nI 1 ≤ nf σ i 3 ∧ nf σ i 3 ≤ nI 4); rw [hU i 3 (by omega) (by decide)])).trans (bI_f fPl).symm) ?_
                  refine lv_if_eq (tgt := 131) S.1 S.2.1 dL_isSo_124 rfl (fun h303 => ?_) (fun h303 => ?_)
                  · skip
                    refine lv_iconst (v := (nI 0)) S.1 S.2.1 dL_isSo_131 (by decide) ?_
                    refine lv_iadd S.1 S.2.1 dL_isSo_132 ?_
                    refine x_iast S hE hS (Or.inr (Nat.le_refl _)) (hp) (5 * pp) rfl (by omega) (by decide) dL_isSo_133 (fun H locs hX hO1 hS => ?_)
                    have hg := va_at.kept hg (hO1.2 a (Nat.ne_of_lt haz))
                    have hc := va_at.kept hc (hO1.2 b (Nat.ne_of_lt hbz))
                    have hB := hB.fr (fun q z => hO1.2 q (by have := z.2; omega))
                    have hp := hX
                    refine lv_aload S.1 S.2.1 dL_isSo_134 (lv_at hl 10 rfl) ?_
                    refine lv_iload S.1 S.2.1 dL_isSo_136 (lv_at hl 0 rfl) ?_
                    refine lv_iconst (v := (nI 1)) S.1 S.2.1 dL_isSo_138 (by decide) ?_
                    refine lv_iadd S.1 S.2.1 dL_isSo_139 ?_
                    refine x_top (y := (nI ((5 * pp) + 1))) (nI_add (5 * pp) 1) ?_
                    refine lv_dup2_11 S.1 S.2.1 dL_isSo_140 rfl rfl ?_
                    refine x_iald S hE (hp) ((5 * pp) + 1) rfl (by omega) (by decide) dL_isSo_141 ?_
                    refine x_top (y := (f ((5 * pp) + 1))) (pk_un (by omega)) ?_
                    refine lv_iload S.1 S.2.1 dL_isSo_142 (lv_at hl 4 rfl) ?_
                    refine lv_iconst (v := (nI 5)) S.1 S.2.1 dL_isSo_144 (by decide) ?_
                    refine lv_icmp_ne (tgt := 152) S.1 S.2.1 dL_isSo_145 rfl (fun h304 => ?_) (fun h304 => ?_)
                    · skip
                      refine lv_iconst (v := (nI 0)) S.1 S.2.1 dL_isSo_152 (by decide) ?_
                      refine lv_iadd S.1 S.2.1 dL_isSo_153 ?_
                      refine x_iast S hE hS (Or.inr (Nat.le_refl _)) (hp) ((5 * pp) + 1) rfl (by omega) (by decide) dL_isSo_154 (fun H locs hX hO1 hS => ?_)
                      have hg := va_at.kept hg (hO1.2 a (Nat.ne_of_lt haz))
                      have hc := va_at.kept hc (hO1.2 b (Nat.ne_of_lt hbz))
                      have hB := hB.fr (fun q z => hO1.2 q (by have := z.2; omega))
                      have hp := hX
                      refine lv_aload S.1 S.2.1 dL_isSo_155 (lv_at hl 10 rfl) ?_
                      refine lv_iload S.1 S.2.1 dL_isSo_157 (lv_at hl 0 rfl) ?_
                      refine lv_iconst (v := (nI 2)) S.1 S.2.1 dL_isSo_159 (by decide) ?_
                      refine lv_iadd S.1 S.2.1 dL_isSo_160 ?_
                      refine x_top (y := (nI ((5 * pp) + 2))) (nI_add (5 * pp) 2) ?_
                      refine lv_dup2_11 S.1 S.2.1 dL_isSo_161 rfl rfl ?_
                      refine x_iald S hE (hp) ((5 * pp) + 2) rfl (by omega) (by decide) dL_isSo_162 ?_
                      refine x_top (y := (f ((5 * pp) + 2))) ((pk_un (by omega)).trans (pk_un (by omega))) ?_
                      refine lv_iload S.1 S.2.1 dL_isSo_163 (lv_at hl 2 rfl) ?_
                      refine lv_if_eq (tgt := 173) S.1 S.2.1 dL_isSo_165 rfl (fun h305 => ?_) (fun h305 => ?_)
                      · skip
                        refine lv_iconst (v := (nI 0)) S.1 S.2.1 dL_isSo_173 (by decide) ?_
                        refine lv_iadd S.1 S.2.1 dL_isSo_174 ?_
                        refine x_iast S hE hS (Or.inr (Nat.le_refl _)) (hp) ((5 * pp) + 2) rfl (by omega) (by decide) dL_isSo_175 (fun H locs hX hO1 hS => ?_)
                        have hg := va_at.kept hg (hO1.2 a (Nat.ne_of_lt haz))
                        have hc := va_at.kept hc (hO1.2 b (Nat.ne_of_lt hbz))
                        have hB := hB.fr (fun q z => hO1.2 q (by have := z.2; omega))
                        have hp := hX
                        refine lv_aload S.1 S.2.1 dL_isSo_176 (lv_at hl 10 rfl) ?_
                        refine lv_iload S.1 S.2.1 dL_isSo_178 (lv_at hl 0 rfl) ?_
                        refine lv_iconst (v := (nI 3)) S.1 S.2.1 dL_isSo_180 (by decide) ?_
                        refine lv_iadd S.1 S.2.1 dL_isSo_181 ?_
                        refine x_top (y := (nI ((5 * pp) + 3))) (nI_add (5 * pp) 3) ?_
                        refine lv_dup2_11 S.1 S.2.1 dL_isSo_182 rfl rfl ?_
                        refine x_iald S hE (hp) ((5 * pp) + 3) rfl (by omega) (by decide) dL_isSo_183 ?_
                        refine x_top (y := (f ((5 * pp) + 3))) ((pk_un (by omega)).trans ((pk_un (by omega)).trans (pk_un (by omega)))) ?_
                        refine lv_iload S.1 S.2.1 dL_isSo_184 (lv_at hl 2 rfl) ?_
                        refine lv_if_eq (tgt := 194) S.1 S.2.1 dL_isSo_186 rfl (fun h306 => ?_) (fun h306 => ?_)
                        · skip
                          refine lv_iconst (v := (nI 0)) S.1 S.2.1 dL_isSo_194 (by decide) ?_
                          refine lv_iadd S.1 S.2.1 dL_isSo_195 ?_
                          refine x_iast S hE hS (Or.inr (Nat.le_refl _)) (hp) ((5 * pp) + 3) rfl (by omega) (by decide) dL_isSo_196 (fun H locs hX hO1 hS => ?_)
                          have hg := va_at.kept hg (hO1.2 a (Nat.ne_of_lt haz))
                          have hc := va_at.kept hc (hO1.2 b (Nat.ne_of_lt hbz))
                          have hB := hB.fr (fun q z => hO1.2 q (by have := z.2; omega))
                          have hp := hX
                          refine lv_aload S.1 S.2.1 dL_isSo_197 (lv_at hl 10 rfl) ?_
                          refine lv_iload S.1 S.2.1 dL_isSo_199 (lv_at hl 0 rfl) ?_
                          refine lv_iconst (v := (nI 4)) S.1 S.2.1 dL_isSo_201 (by decide) ?_
                          refine lv_iadd S.1 S.2.1 dL_isSo_202 ?_
                          refine x_top (y := (nI ((5 * pp) + 4))) (nI_add (5 * pp) 4) ?_
                          refine lv_dup2_11 S.1 S.2.1 dL_isSo_203 rfl rfl ?_
                          refine x_iald S hE (hp) ((5 * pp) + 4) rfl (by omega) (by decide) dL_isSo_204 ?_
                          refine x_top (y := (f ((5 * pp) + 4))) ((pk_un (by omega)).trans ((pk_un (by omega)).trans ((pk_un (by omega)).trans (pk_un (by omega))))) ?_
                          refine lv_iload S.1 S.2.1 dL_isSo_205 (lv_at hl 4 rfl) ?_
                          refine lv_if_ne (tgt := 214) S.1 S.2.1 dL_isSo_207 rfl (fun h307 => ?_) (fun h307 => ?_)
                          · skip
                            refine lv_iconst (v := (nI 0)) S.1 S.2.1 dL_isSo_214 (by decide) ?_
                            refine lv_iadd S.1 S.2.1 dL_isSo_215 ?_
                            refine x_iast S hE hS (Or.inr (Nat.le_refl _)) (hp) ((5 * pp) + 4) rfl (by omega) (by decide) dL_isSo_216 (fun H locs hX hO1 hS => ?_)
                            have hg := va_at.kept hg (hO1.2 a (Nat.ne_of_lt haz))
                            have hc := va_at.kept hc (hO1.2 b (Nat.ne_of_lt hbz))
                            have hB := hB.fr (fun q z => hO1.2 q (by have := z.2; omega))
                            have hp := hX
                            refine lv_iload S.1 S.2.1 dL_isSo_217 (lv_at hl 7 rfl) ?_
                            refine lv_iload S.1 S.2.1 dL_isSo_219 (lv_at hl 2 rfl) ?_
                            refine lv_if_eq (tgt := 229) S.1 S.2.1 dL_isSo_221 rfl (fun h308 => ?_) (fun h308 => ?_)
                            · skip
                              refine lv_iconst (v := (nI 0)) S.1 S.2.1 dL_isSo_229 (by decide) ?_
                              refine lv_iadd S.1 S.2.1 dL_isSo_230 ?_
                              refine lv_istore S.1 S.2.1 dL_isSo_231 hl (by decide) rfl (fun ls hl => ?_)
                              have hl : lv_has ls 15 [(5, .int ((lwAll σ n i) + (nI 0))), (13, .int (nI (5 * pp))), (12, .int (rfHrd σ n i)), (11, .int (nI 0)), (10, .int (nf σ i 4)), (9, .int (nI 6)), (8, .int (nI i)), (4, .int (rfAhd σ i)), (7, .int (nI 1)), (3, .int (rfSum σ n)), (6, .ref s.heap.size), (0, .ref B), (1, .ref a), (2, .ref b)] := hl
                              refine lv_aload_n S.1 S.2.1 dL_isSo_233 rfl (lv_at hl 11 rfl) ?_
                              refine lv_iload S.1 S.2.1 dL_isSo_234 (lv_at hl 6 rfl) ?_
                              refine lv_iconst (v := (nI 0)) S.1 S.2.1 dL_isSo_236 (by decide) ?_
                              refine xk_R (v := (bxNote β.1 (nI i) (nI 0))) (x_runV (As := [.int (nI i), .int (nI 0)]) (rest := []) S hE hS (fun _ h => h.elim) (c_X7_noteOf l E B β (nI i) (nI 0) _ hB) kv_X7_noteOf kw7_21 kw7_22 kw7_23 (x_recv hE (hB.1) (ci := 7) rfl) ⟨Nat.le_of_ble_eq_true rfl, Nat.le_of_ble_eq_true rfl⟩ rfl rfl rfl hl.1 rfl (Nat.le_of_ble_eq_true rfl) dL_isSo_237 ⟨(Nat.le_of_ble_eq_true rfl), (Nat.le_of_ble_eq_true rfl)⟩) ?_
                              refine x_top (y := (nI ((5 * pp) / 5))) ((nt_0 hT hlt).trans (e0.trans (congrArg nI (by omega)))) ?_
                              refine lv_iload S.1 S.2.1 dL_isSo_240 (lv_at hl 1 rfl) ?_
                              refine lv_iconst (v := (nI 5)) S.1 S.2.1 dL_isSo_242 (by decide) ?_
                              refine lv_idiv S.1 S.2.1 dL_isSo_243 (by decide) ?_
                              refine x_top (y := (nI ((5 * pp) / 5))) (pk_div (by omega) (by decide) (by decide)) ?_
                              refine lv_icmp_ne (tgt := 404) S.1 S.2.1 dL_isSo_244 rfl (fun h309 => ?_) (fun h309 => ?_)
                              · exact absurd rfl h309
                              · skip
                                refine lv_aload_n S.1 S.2.1 dL_isSo_247 rfl (lv_at hl 11 rfl) ?_
                                refine lv_iload S.1 S.2.1 dL_isSo_248 (lv_at hl 6 rfl) ?_
                                refine lv_iconst (v := (nI 1)) S.1 S.2.1 dL_isSo_250 (by decide) ?_
                                refine xk_R (v := (bxNote β.1 (nI i) (nI 1))) (x_runV (As := [.int (nI i), .int (nI 1)]) (rest := []) S hE hS (fun _ h => h.elim) (c_X7_noteOf l E B β (nI i) (nI 1) _ hB) kv_X7_noteOf kw7_21 kw7_22 kw7_23 (x_recv hE (hB.1) (ci := 7) rfl) ⟨Nat.le_of_ble_eq_true rfl, Nat.le_of_ble_eq_true rfl⟩ rfl rfl rfl hl.1 rfl (Nat.le_of_ble_eq_true rfl) dL_isSo_251 ⟨(Nat.le_of_ble_eq_true rfl), (Nat.le_of_ble_eq_true rfl)⟩) ?_
                                refine x_top (y := (nf σ i 1)) (nt_1 hT hlt) ?_
                                refine lv_aload_n S.1 S.2.1 dL_isSo_254 rfl (lv_at hl 13 rfl) ?_
                                refine lv_iload S.1 S.2.1 dL_isSo_255 (lv_at hl 6 rfl) ?_
                                refine x_lald S hE hEL (hc) i rfl (by omega) (by decide) dL_isSo_257 ?_
                                refine lv_iconst (v := (nI 2)) S.1 S.2.1 dL_isSo_258 (by decide) ?_
                                refine lv_bipush (v := (nI 7)) S.1 S.2.1 dL_isSo_259 (by decide) ?_
                                refine xk_R (v := (lwG (κ i) (nI 2) (nI 7))) (x_runS (As := [.long (κ i), .int (nI 2), .int (nI 7)]) (rest := [.int (nf σ i 1)]) S hE hS (fun _ h => h.elim) (c_L_get l E (κ i) (nI 2) (nI 7) _) kv_L_get kw7_12 kw7_13 ⟨Nat.le_of_ble_eq_true rfl, Nat.le_of_ble_eq_true rfl⟩ rfl rfl rfl hl.1 rfl (Nat.le_of_ble_eq_true rfl) dL_isSo_261 ⟨(Nat.le_of_ble_eq_true rfl), (Nat.le_of_ble_eq_true rfl)⟩) ?_
                                refine x_top (y := (nf σ i 1)) ((lwG_eq _ (by decide) (by decide)).trans ((hU i 1 (by omega) (by decide)).symm)) ?_
                                refine lv_icmp_ne (tgt := 404) S.1 S.2.1 dL_isSo_264 rfl (fun h310 => ?_) (fun h310 => ?_)
                                · exact absurd rfl h310
                                · skip
                                  refine lv_aload_n S.1 S.2.1 dL_isSo_267 rfl (lv_at hl 11 rfl) ?_
                                  refine lv_iload S.1 S.2.1 dL_isSo_268 (lv_at hl 6 rfl) ?_
                                  refine lv_iconst (v := (nI 2)) S.1 S.2.1 dL_isSo_270 (by decide) ?_
                                  refine xk_R (v := (bxNote β.1 (nI i) (nI 2))) (x_runV (As := [.int (nI i), .int (nI 2)]) (rest := []) S hE hS (fun _ h => h.elim) (c_X7_noteOf l E B β (nI i) (nI 2) _ hB) kv_X7_noteOf kw7_21 kw7_22 kw7_23 (x_recv hE (hB.1) (ci := 7) rfl) ⟨Nat.le_of_ble_eq_true rfl, Nat.le_of_ble_eq_true rfl⟩ rfl rfl rfl hl.1 rfl (Nat.le_of_ble_eq_true rfl) dL_isSo_271 ⟨(Nat.le_of_ble_eq_true rfl), (Nat.le_of_ble_eq_true rfl)⟩) ?_
                                  refine x_top (y := (nf σ i 2)) (nt_2 hT hlt) ?_
                                  refine lv_aload_n S.1 S.2.1 dL_isSo_274 rfl (lv_at hl 13 rfl) ?_
                                  refine lv_iload S.1 S.2.1 dL_isSo_275 (lv_at hl 6 rfl) ?_
                                  refine x_lald S hE hEL (hc) i rfl (by omega) (by decide) dL_isSo_277 ?_
                                  refine lv_bipush (v := (nI 9)) S.1 S.2.1 dL_isSo_278 (by decide) ?_
                                  refine lv_bipush (v := (nI 7)) S.1 S.2.1 dL_isSo_280 (by decide) ?_
                                  refine xk_R (v := (lwG (κ i) (nI 9) (nI 7))) (x_runS (As := [.long (κ i), .int (nI 9), .int (nI 7)]) (rest := [.int (nf σ i 2)]) S hE hS (fun _ h => h.elim) (c_L_get l E (κ i) (nI 9) (nI 7) _) kv_L_get kw7_12 kw7_13 ⟨Nat.le_of_ble_eq_true rfl, Nat.le_of_ble_eq_true rfl⟩ rfl rfl rfl hl.1 rfl (Nat.le_of_ble_eq_true rfl) dL_isSo_282 ⟨(Nat.le_of_ble_eq_true rfl), (Nat.le_of_ble_eq_true rfl)⟩) ?_
                                  refine x_top (y := (nf σ i 2)) ((lwG_eq _ (by decide) (by decide)).trans ((hU i 2 (by omega) (by decide)).symm)) ?_
                                  refine lv_icmp_ne (tgt := 404) S.1 S.2.1 dL_isSo_285 rfl (fun h311 => ?_) (fun h311 => ?_)
                                  · exact absurd rfl h311
                                  · skip
                                    refine lv_aload_n S.1 S.2.1 dL_isSo_288 rfl (lv_at hl 11 rfl) ?_
                                    refine lv_iload S.1 S.2.1 dL_isSo_289 (lv_at hl 6 rfl) ?_
                                    refine lv_iconst (v := (nI 3)) S.1 S.2.1 dL_isSo_291 (by decide) ?_
                                    refine xk_R (v := (bxNote β.1 (nI i) (nI 3))) (x_runV (As := [.int (nI i), .int (nI 3)]) (rest := []) S hE hS (fun _ h => h.elim) (c_X7_noteOf l E B β (nI i) (nI 3) _ hB) kv_X7_noteOf kw7_21 kw7_22 kw7_23 (x_recv hE (hB.1) (ci := 7) rfl) ⟨Nat.le_of_ble_eq_true rfl, Nat.le_of_ble_eq_true rfl⟩ rfl rfl rfl hl.1 rfl (Nat.le_of_ble_eq_true rfl) dL_isSo_292 ⟨(Nat.le_of_ble_eq_true rfl), (Nat.le_of_ble_eq_true rfl)⟩) ?_
                                    refine x_top (y := (nI 6)) ((nt_3 hT hlt).trans ex) ?_
                                    refine lv_iload S.1 S.2.1 dL_isSo_295 (lv_at hl 5 rfl) ?_
                                    refine lv_icmp_ne (tgt := 404) S.1 S.2.1 dL_isSo_297 rfl (fun h312 => ?_) (fun h312 => ?_)
                                    · exact absurd h312 (by decide)
                                    · skip
                                      refine lv_aload_n S.1 S.2.1 dL_isSo_300 rfl (lv_at hl 11 rfl) ?_
                                      refine lv_iload S.1 S.2.1 dL_isSo_301 (lv_at hl 6 rfl) ?_
                                      refine lv_iconst (v := (nI 4)) S.1 S.2.1 dL_isSo_303 (by decide) ?_
                                      refine xk_R (v := (bxNote β.1 (nI i) (nI 4))) (x_runV (As := [.int (nI i), .int (nI 4)]) (rest := []) S hE hS (fun _ h => h.elim) (c_X7_noteOf l E B β (nI i) (nI 4) _ hB) kv_X7_noteOf kw7_21 kw7_22 kw7_23 (x_recv hE (hB.1) (ci := 7) rfl) ⟨Nat.le_of_ble_eq_true rfl, Nat.le_of_ble_eq_true rfl⟩ rfl rfl rfl hl.1 rfl (Nat.le_of_ble_eq_true rfl) dL_isSo_304 ⟨(Nat.le_of_ble_eq_true rfl), (Nat.le_of_ble_eq_true rfl)⟩) ?_
                                      refine x_top (y := (-4)) ((nt_4 hT hlt).trans (if_neg fVo)) ?_
                                      refine lv_iload S.1 S.2.1 dL_isSo_307 (lv_at hl 3 rfl) ?_
                                      refine lv_if_eq (tgt := 317) S.1 S.2.1 dL_isSo_309 rfl (fun h313 => ?_) (fun h313 => ?_)
                                      · skip
                                        refine lv_bipush (v := (-4)) S.1 S.2.1 dL_isSo_317 (by decide) ?_
                                        refine lv_icmp_ne (tgt := 404) S.1 S.2.1 dL_isSo_319 rfl (fun h314 => ?_) (fun h314 => ?_)
                                        · exact absurd h314 (by decide)
                                        · skip
                                          refine lv_aload_n S.1 S.2.1 dL_isSo_322 rfl (lv_at hl 11 rfl) ?_
                                          refine lv_iload S.1 S.2.1 dL_isSo_323 (lv_at hl 6 rfl) ?_
                                          refine lv_iconst (v := (nI 5)) S.1 S.2.1 dL_isSo_325 (by decide) ?_
                                          refine xk_R (v := (bxNote β.1 (nI i) (nI 5))) (x_runV (As := [.int (nI i), .int (nI 5)]) (rest := []) S hE hS (fun _ h => h.elim) (c_X7_noteOf l E B β (nI i) (nI 5) _ hB) kv_X7_noteOf kw7_21 kw7_22 kw7_23 (x_recv hE (hB.1) (ci := 7) rfl) ⟨Nat.le_of_ble_eq_true rfl, Nat.le_of_ble_eq_true rfl⟩ rfl rfl rfl hl.1 rfl (Nat.le_of_ble_eq_true rfl) dL_isSo_326 ⟨(Nat.le_of_ble_eq_true rfl), (Nat.le_of_ble_eq_true rfl)⟩) ?_
                                          refine x_top (y := (-4)) ((nt_5 hT hlt).trans (if_neg fVo)) ?_
                                          refine lv_iload S.1 S.2.1 dL_isSo_329 (lv_at hl 3 rfl) ?_
                                          refine lv_if_eq (tgt := 339) S.1 S.2.1 dL_isSo_331 rfl (fun h315 => ?_) (fun h315 => ?_)
                                          · skip
                                            refine lv_bipush (v := (-4)) S.1 S.2.1 dL_isSo_339 (by decide) ?_
                                            refine lv_icmp_ne (tgt := 404) S.1 S.2.1 dL_isSo_341 rfl (fun h316 => ?_) (fun h316 => ?_)
                                            · exact absurd h316 (by decide)
                                            · skip
                                              refine lv_aload_n S.1 S.2.1 dL_isSo_344 rfl (lv_at hl 11 rfl) ?_
                                              refine lv_iload S.1 S.2.1 dL_isSo_345 (lv_at hl 6 rfl) ?_
                                              refine lv_bipush (v := (nI 6)) S.1 S.2.1 dL_isSo_347 (by decide) ?_
                                              refine xk_R (v := (bxNote β.1 (nI i) (nI 6))) (x_runV (As := [.int (nI i), .int (nI 6)]) (rest := []) S hE hS (fun _ h => h.elim) (c_X7_noteOf l E B β (nI i) (nI 6) _ hB) kv_X7_noteOf kw7_21 kw7_22 kw7_23 (x_recv hE (hB.1) (ci := 7) rfl) ⟨Nat.le_of_ble_eq_true rfl, Nat.le_of_ble_eq_true rfl⟩ rfl rfl rfl hl.1 rfl (Nat.le_of_ble_eq_true rfl) dL_isSo_349 ⟨(Nat.le_of_ble_eq_true rfl), (Nat.le_of_ble_eq_true rfl)⟩) ?_
                                              refine x_top (y := (nf σ i 6)) (nt_6 hT hlt) ?_
                                              refine lv_aload_n S.1 S.2.1 dL_isSo_352 rfl (lv_at hl 13 rfl) ?_
                                              refine lv_iload S.1 S.2.1 dL_isSo_353 (lv_at hl 6 rfl) ?_
                                              refine x_lald S hE hEL (hc) i rfl (by omega) (by decide) dL_isSo_355 ?_
                                              refine lv_bipush (v := (nI 41)) S.1 S.2.1 dL_isSo_356 (by decide) ?_
                                              refine lv_iconst (v := (nI 1)) S.1 S.2.1 dL_isSo_358 (by decide) ?_
                                              refine xk_R (v := (lwG (κ i) (nI 41) (nI 1))) (x_runS (As := [.long (κ i), .int (nI 41), .int (nI 1)]) (rest := [.int (nf σ i 6)]) S hE hS (fun _ h => h.elim) (c_L_get l E (κ i) (nI 41) (nI 1) _) kv_L_get kw7_12 kw7_13 ⟨Nat.le_of_ble_eq_true rfl, Nat.le_of_ble_eq_true rfl⟩ rfl rfl rfl hl.1 rfl (Nat.le_of_ble_eq_true rfl) dL_isSo_359 ⟨(Nat.le_of_ble_eq_true rfl), (Nat.le_of_ble_eq_true rfl)⟩) ?_
                                              refine x_top (y := (nf σ i 6)) ((lwG_eq _ (by decide) (by decide)).trans ((hU i 6 (by omega) (by decide)).symm)) ?_
                                              refine lv_icmp_ne (tgt := 404) S.1 S.2.1 dL_isSo_362 rfl (fun h317 => ?_) (fun h317 => ?_)
                                              · exact absurd rfl h317
                                              · skip
                                                refine lv_aload_n S.1 S.2.1 dL_isSo_365 rfl (lv_at hl 11 rfl) ?_
                                                refine lv_iload S.1 S.2.1 dL_isSo_366 (lv_at hl 6 rfl) ?_
                                                refine lv_bipush (v := (nI 7)) S.1 S.2.1 dL_isSo_368 (by decide) ?_
                                                refine xk_R (v := (bxNote β.1 (nI i) (nI 7))) (x_runV (As := [.int (nI i), .int (nI 7)]) (rest := []) S hE hS (fun _ h => h.elim) (c_X7_noteOf l E B β (nI i) (nI 7) _ hB) kv_X7_noteOf kw7_21 kw7_22 kw7_23 (x_recv hE (hB.1) (ci := 7) rfl) ⟨Nat.le_of_ble_eq_true rfl, Nat.le_of_ble_eq_true rfl⟩ rfl rfl rfl hl.1 rfl (Nat.le_of_ble_eq_true rfl) dL_isSo_370 ⟨(Nat.le_of_ble_eq_true rfl), (Nat.le_of_ble_eq_true rfl)⟩) ?_
                                                refine x_top (y := (-4)) ((nt_7 hT hlt).trans (if_neg f0)) ?_
                                                refine lv_iload S.1 S.2.1 dL_isSo_373 (lv_at hl 5 rfl) ?_
                                                refine lv_if_ne (tgt := 383) S.1 S.2.1 dL_isSo_375 rfl (fun h318 => ?_) (fun h318 => ?_)
                                                · skip
                                                  refine lv_bipush (v := (-4)) S.1 S.2.1 dL_isSo_383 (by decide) ?_
                                                  refine lv_icmp_ne (tgt := 404) S.1 S.2.1 dL_isSo_385 rfl (fun h319 => ?_) (fun h319 => ?_)
                                                  · exact absurd h319 (by decide)
                                                  · skip
                                                    refine lv_aload_n S.1 S.2.1 dL_isSo_388 rfl (lv_at hl 11 rfl) ?_
                                                    refine lv_iload S.1 S.2.1 dL_isSo_389 (lv_at hl 6 rfl) ?_
                                                    refine lv_bipush (v := (nI 8)) S.1 S.2.1 dL_isSo_391 (by decide) ?_
                                                    refine xk_R (v := (bxNote β.1 (nI i) (nI 8))) (x_runV (As := [.int (nI i), .int (nI 8)]) (rest := []) S hE hS (fun _ h => h.elim) (c_X7_noteOf l E B β (nI i) (nI 8) _ hB) kv_X7_noteOf kw7_21 kw7_22 kw7_23 (x_recv hE (hB.1) (ci := 7) rfl) ⟨Nat.le_of_ble_eq_true rfl, Nat.le_of_ble_eq_true rfl⟩ rfl rfl rfl hl.1 rfl (Nat.le_of_ble_eq_true rfl) dL_isSo_393 ⟨(Nat.le_of_ble_eq_true rfl), (Nat.le_of_ble_eq_true rfl)⟩) ?_
                                                    refine x_top (y := (-1)) (nt_8 hT hlt) ?_
                                                    refine lv_iconst (v := (-1)) S.1 S.2.1 dL_isSo_396 (by decide) ?_
                                                    refine lv_icmp_ne (tgt := 404) S.1 S.2.1 dL_isSo_397 rfl (fun h320 => ?_) (fun h320 => ?_)
                                                    · exact absurd h320 (by decide)
                                                    · skip
                                                      refine lv_iconst (v := (nI 1)) S.1 S.2.1 dL_isSo_400 (by decide) ?_
                                                      refine lv_goto (tgt := 405) S.1 S.2.1 dL_isSo_401 rfl ?_
                                                      refine lv_istore S.1 S.2.1 dL_isSo_405 hl (by decide) rfl (fun ls hl => ?_)
                                                      have hl : lv_has ls 15 [(7, .int (nI 1)), (5, .int ((lwAll σ n i) + (nI 0))), (13, .int (nI (5 * pp))), (12, .int (rfHrd σ n i)), (11, .int (nI 0)), (10, .int (nf σ i 4)), (9, .int (nI 6)), (8, .int (nI i)), (4, .int (rfAhd σ i)), (3, .int (rfSum σ n)), (6, .ref s.heap.size), (0, .ref B), (1, .ref a), (2, .ref b)] := hl
                                                      refine lv_iload S.1 S.2.1 dL_isSo_407 (lv_at hl 8 rfl) ?_
                                                      refine lv_iload S.1 S.2.1 dL_isSo_409 (lv_at hl 6 rfl) ?_
                                                      refine lv_if_ne (tgt := 418) S.1 S.2.1 dL_isSo_411 rfl (fun h321 => ?_) (fun h321 => ?_)
                                                      · skip
                                                        refine lv_iconst (v := (nI 0)) S.1 S.2.1 dL_isSo_418 (by decide) ?_
                                                        refine lv_iadd S.1 S.2.1 dL_isSo_419 ?_
                                                        refine lv_istore S.1 S.2.1 dL_isSo_420 hl (by decide) rfl (fun ls hl => ?_)
                                                        have hl : lv_has ls 15 [(4, .int ((rfAhd σ i) + (nI 0))), (7, .int (nI 1)), (5, .int ((lwAll σ n i) + (nI 0))), (13, .int (nI (5 * pp))), (12, .int (rfHrd σ n i)), (11, .int (nI 0)), (10, .int (nf σ i 4)), (9, .int (nI 6)), (8, .int (nI i)), (3, .int (rfSum σ n)), (6, .ref s.heap.size), (0, .ref B), (1, .ref a), (2, .ref b)] := hl
                                                        refine lv_iinc (k := 8) (v := (nI (i + 1))) S.1 S.2.1 dL_isSo_422 hl rfl (iincP i 1) (by decide) rfl (fun ls hl => ?_)
                                                        have hl : lv_has ls 15 [(8, .int (nI (i + 1))), (4, .int ((rfAhd σ i) + (nI 0))), (7, .int (nI 1)), (5, .int ((lwAll σ n i) + (nI 0))), (13, .int (nI (5 * pp))), (12, .int (rfHrd σ n i)), (11, .int (nI 0)), (10, .int (nf σ i 4)), (9, .int (nI 6)), (3, .int (rfSum σ n)), (6, .ref s.heap.size), (0, .ref B), (1, .ref a), (2, .ref b)] := hl
                                                        refine lv_goto (tgt := 24) S.1 S.2.1 dL_isSo_425 rfl ?_
                                                        have hl : lv_has ls 15 [(8, .int (nI (i + 1))), (4, .int (rfAhd σ (i + 1))), (5, .int (lwAll σ n (i + 1))), (7, .int (nI 1)), (3, .int (rfSum σ n)), (6, .ref s.heap.size), (0, .ref B), (1, .ref a), (2, .ref b)] := by
                                                          rw [show (rfAhd σ (i + 1)) = ((rfAhd σ i) + (nI 0)) from by first | rw [rfAhd, if_pos f0] | rw [rfAhd, if_neg f0] | rw [lwAll, if_pos fVo] | rw [lwAll, if_neg fVo]]
                                                          rw [show (lwAll σ n (i + 1)) = ((lwAll σ n i) + (nI 0)) from by first | rw [rfAhd, if_pos f0] | rw [rfAhd, if_neg f0] | rw [lwAll, if_pos fVo] | rw [lwAll, if_neg fVo]]
                                                          exact lv_sub hl [0, 1, 3, 2, 9, 10, 11, 12, 13] rfl
                                                        exact ih24 _ (by omega) (i + 1) (upd (upd (upd (upd (upd f (5 * pp) ((f (5 * pp)) + (nI 0))) ((5 * pp) + 1) ((f ((5 * pp) + 1)) + (nI 0))) ((5 * pp) + 2) ((f ((5 * pp) + 2)) + (nI 0))) ((5 * pp) + 3) ((f ((5 * pp) + 3)) + (nI 0))) ((5 * pp) + 4) ((f ((5 * pp) + 4)) + (nI 0))) _ _ ls rfl (by omega) (pa_step hPA hpp e0 (by first | rw [if_pos fPl] | rw [if_neg fPl]) (by first | rw [if_pos f5] | rw [if_neg f5]) (by first | rw [if_pos fVo] | rw [if_neg fVo]) (by first | rw [if_pos fVo] | rw [if_neg fVo]) (by first | rw [if_pos f0] | rw [if_neg f0])) (hB) (hg) (hc) (hp) (hS) (lv_sub hl [0, 1, 2, 3, 4, 5, 6, 7, 8] rfl)
                                                      · exact absurd h321 (by decide)
                                                · exact absurd h318 (by decide)
                                          · exact absurd h315 (by decide)
                                      · exact absurd h313 (by decide)
                            · exact absurd h308 (by decide)
                          · exact absurd h307 (by decide)
                        · exact absurd h306 (by decide)
                      · exact absurd h305 (by decide)
                    · exact absurd h304 (by decide)
                  · exact absurd h303 (by decide)
                · skip
                  refine lv_iload S.1 S.2.1 dL_isSo_82 (lv_at hl 1 rfl) ?_
                  refine lv_goto (tgt := 96) S.1 S.2.1 dL_isSo_84 rfl ?_
                  refine x_top (y := (rfHrd σ n i)) (by rw [rfHrd]; first | rw [if_pos (Int32.not_lt.mp h302)] | rw [if_neg (Int32.not_le.mpr h302)]) ?_
                  refine lv_istore S.1 S.2.1 dL_isSo_96 hl (by decide) rfl (fun ls hl => ?_)
                  have hl : lv_has ls 15 [(12, .int (rfHrd σ n i)), (11, .int (nI 0)), (10, .int (nf σ i 4)), (9, .int (nI 6)), (8, .int (nI i)), (4, .int (rfAhd σ i)), (5, .int (lwAll σ n i)), (7, .int (nI 1)), (3, .int (rfSum σ n)), (6, .ref s.heap.size), (0, .ref B), (1, .ref a), (2, .ref b)] := hl
                  refine lv_iconst (v := (nI 5)) S.1 S.2.1 dL_isSo_98 (by decide) ?_
                  refine lv_aload_n S.1 S.2.1 dL_isSo_99 rfl (lv_at hl 12 rfl) ?_
                  refine lv_iload S.1 S.2.1 dL_isSo_100 (lv_at hl 4 rfl) ?_
                  refine x_lald S hE hEL (hc) i rfl (by omega) (by decide) dL_isSo_102 ?_
                  refine lv_iconst (v := (nI 0)) S.1 S.2.1 dL_isSo_103 (by decide) ?_
                  refine lv_iconst (v := (nI 2)) S.1 S.2.1 dL_isSo_104 (by decide) ?_
                  refine xk_R (v := (lwG (κ i) (nI 0) (nI 2))) (x_runS (As := [.long (κ i), .int (nI 0), .int (nI 2)]) (rest := [.int (nI 5)]) S hE hS (fun _ h => h.elim) (c_L_get l E (κ i) (nI 0) (nI 2) _) kv_L_get kw7_12 kw7_13 ⟨Nat.le_of_ble_eq_true rfl, Nat.le_of_ble_eq_true rfl⟩ rfl rfl rfl hl.1 rfl (Nat.le_of_ble_eq_true rfl) dL_isSo_105 ⟨(Nat.le_of_ble_eq_true rfl), (Nat.le_of_ble_eq_true rfl)⟩) ?_
                  refine x_top (y := (nf σ i 0)) ((lwG_eq _ (by decide) (by decide)).trans ((hU i 0 (by omega) (by decide)).symm)) ?_
                  refine x_top (y := (nI pp)) (e0) ?_
                  refine lv_imul S.1 S.2.1 dL_isSo_108 ?_
                  refine x_top (y := (nI (5 * pp))) (pk_mul 5 pp) ?_
                  refine lv_istore S.1 S.2.1 dL_isSo_109 hl (by decide) rfl (fun ls hl => ?_)
                  have hl : lv_has ls 15 [(13, .int (nI (5 * pp))), (12, .int (rfHrd σ n i)), (11, .int (nI 0)), (10, .int (nf σ i 4)), (9, .int (nI 6)), (8, .int (nI i)), (4, .int (rfAhd σ i)), (5, .int (lwAll σ n i)), (7, .int (nI 1)), (3, .int (rfSum σ n)), (6, .ref s.heap.size), (0, .ref B), (1, .ref a), (2, .ref b)] := hl
                  refine lv_aload S.1 S.2.1 dL_isSo_111 (lv_at hl 10 rfl) ?_
                  refine lv_iload S.1 S.2.1 dL_isSo_113 (lv_at hl 0 rfl) ?_
                  refine lv_dup2_11 S.1 S.2.1 dL_isSo_115 rfl rfl ?_
                  refine x_iald S hE (hp) (5 * pp) rfl (by omega) (by decide) dL_isSo_116 ?_
                  refine lv_aload_n S.1 S.2.1 dL_isSo_117 rfl (lv_at hl 13 rfl) ?_
                  refine lv_iload S.1 S.2.1 dL_isSo_118 (lv_at hl 5 rfl) ?_
                  refine x_lald S hE hEL (hc) i rfl (by omega) (by decide) dL_isSo_120 ?_
                  refine xk_R (v := (bI (nI 1 ≤ fld 3 (κ i) ∧ fld 3 (κ i) ≤ nI 4))) (x_runS (As := [.long (κ i)]) (rest := [.int (f (5 * pp)), .int (nI (5 * pp)), .ref s.heap.size]) S hE hS (fun _ h => h.elim) (c_L_placed l E (κ i) _) kv_L_placed kw7_18 kw7_19 ⟨Nat.le_of_ble_eq_true rfl, Nat.le_of_ble_eq_true rfl⟩ rfl rfl rfl hl.1 rfl (Nat.le_of_ble_eq_true rfl) dL_isSo_121 ⟨(Nat.le_of_ble_eq_true rfl), (Nat.le_of_ble_eq_true rfl)⟩) ?_
                  refine x_top (y := (nI 0)) ((bI_iff (by show _ ↔ (nI 1 ≤ nf σ i 3 ∧ nf σ i 3 ≤ nI 4); rw [hU i 3 (by omega) (by decide)])).trans (bI_f fPl).symm) ?_
                  refine lv_if_eq (tgt := 131) S.1 S.2.1 dL_isSo_124 rfl (fun h322 => ?_) (fun h322 => ?_)
                  · skip
                    refine lv_iconst (v := (nI 0)) S.1 S.2.1 dL_isSo_131 (by decide) ?_
                    refine lv_iadd S.1 S.2.1 dL_isSo_132 ?_
                    refine x_iast S hE hS (Or.inr (Nat.le_refl _)) (hp) (5 * pp) rfl (by omega) (by decide) dL_isSo_133 (fun H locs hX hO1 hS => ?_)
                    have hg := va_at.kept hg (hO1.2 a (Nat.ne_of_lt haz))
                    have hc := va_at.kept hc (hO1.2 b (Nat.ne_of_lt hbz))
                    have hB := hB.fr (fun q z => hO1.2 q (by have := z.2; omega))
                    have hp := hX
                    refine lv_aload S.1 S.2.1 dL_isSo_134 (lv_at hl 10 rfl) ?_
                    refine lv_iload S.1 S.2.1 dL_isSo_136 (lv_at hl 0 rfl) ?_
                    refine lv_iconst (v := (nI 1)) S.1 S.2.1 dL_isSo_138 (by decide) ?_
                    refine lv_iadd S.1 S.2.1 dL_isSo_139 ?_
                    refine x_top (y := (nI ((5 * pp) + 1))) (nI_add (5 * pp) 1) ?_
                    refine lv_dup2_11 S.1 S.2.1 dL_isSo_140 rfl rfl ?_
                    refine x_iald S hE (hp) ((5 * pp) + 1) rfl (by omega) (by decide) dL_isSo_141 ?_
                    refine x_top (y := (f ((5 * pp) + 1))) (pk_un (by omega)) ?_
                    refine lv_iload S.1 S.2.1 dL_isSo_142 (lv_at hl 4 rfl) ?_
                    refine lv_iconst (v := (nI 5)) S.1 S.2.1 dL_isSo_144 (by decide) ?_
                    refine lv_icmp_ne (tgt := 152) S.1 S.2.1 dL_isSo_145 rfl (fun h323 => ?_) (fun h323 => ?_)
                    · skip
                      refine lv_iconst (v := (nI 0)) S.1 S.2.1 dL_isSo_152 (by decide) ?_
                      refine lv_iadd S.1 S.2.1 dL_isSo_153 ?_
                      refine x_iast S hE hS (Or.inr (Nat.le_refl _)) (hp) ((5 * pp) + 1) rfl (by omega) (by decide) dL_isSo_154 (fun H locs hX hO1 hS => ?_)
                      have hg := va_at.kept hg (hO1.2 a (Nat.ne_of_lt haz))
                      have hc := va_at.kept hc (hO1.2 b (Nat.ne_of_lt hbz))
                      have hB := hB.fr (fun q z => hO1.2 q (by have := z.2; omega))
                      have hp := hX
                      refine lv_aload S.1 S.2.1 dL_isSo_155 (lv_at hl 10 rfl) ?_
                      refine lv_iload S.1 S.2.1 dL_isSo_157 (lv_at hl 0 rfl) ?_
                      refine lv_iconst (v := (nI 2)) S.1 S.2.1 dL_isSo_159 (by decide) ?_
                      refine lv_iadd S.1 S.2.1 dL_isSo_160 ?_
                      refine x_top (y := (nI ((5 * pp) + 2))) (nI_add (5 * pp) 2) ?_
                      refine lv_dup2_11 S.1 S.2.1 dL_isSo_161 rfl rfl ?_
                      refine x_iald S hE (hp) ((5 * pp) + 2) rfl (by omega) (by decide) dL_isSo_162 ?_
                      refine x_top (y := (f ((5 * pp) + 2))) ((pk_un (by omega)).trans (pk_un (by omega))) ?_
                      refine lv_iload S.1 S.2.1 dL_isSo_163 (lv_at hl 2 rfl) ?_
                      refine lv_if_eq (tgt := 173) S.1 S.2.1 dL_isSo_165 rfl (fun h324 => ?_) (fun h324 => ?_)
                      · skip
                        refine lv_iconst (v := (nI 0)) S.1 S.2.1 dL_isSo_173 (by decide) ?_
                        refine lv_iadd S.1 S.2.1 dL_isSo_174 ?_
                        refine x_iast S hE hS (Or.inr (Nat.le_refl _)) (hp) ((5 * pp) + 2) rfl (by omega) (by decide) dL_isSo_175 (fun H locs hX hO1 hS => ?_)
                        have hg := va_at.kept hg (hO1.2 a (Nat.ne_of_lt haz))
                        have hc := va_at.kept hc (hO1.2 b (Nat.ne_of_lt hbz))
                        have hB := hB.fr (fun q z => hO1.2 q (by have := z.2; omega))
                        have hp := hX
                        refine lv_aload S.1 S.2.1 dL_isSo_176 (lv_at hl 10 rfl) ?_
                        refine lv_iload S.1 S.2.1 dL_isSo_178 (lv_at hl 0 rfl) ?_
                        refine lv_iconst (v := (nI 3)) S.1 S.2.1 dL_isSo_180 (by decide) ?_
                        refine lv_iadd S.1 S.2.1 dL_isSo_181 ?_
                        refine x_top (y := (nI ((5 * pp) + 3))) (nI_add (5 * pp) 3) ?_
                        refine lv_dup2_11 S.1 S.2.1 dL_isSo_182 rfl rfl ?_
                        refine x_iald S hE (hp) ((5 * pp) + 3) rfl (by omega) (by decide) dL_isSo_183 ?_
                        refine x_top (y := (f ((5 * pp) + 3))) ((pk_un (by omega)).trans ((pk_un (by omega)).trans (pk_un (by omega)))) ?_
                        refine lv_iload S.1 S.2.1 dL_isSo_184 (lv_at hl 2 rfl) ?_
                        refine lv_if_eq (tgt := 194) S.1 S.2.1 dL_isSo_186 rfl (fun h325 => ?_) (fun h325 => ?_)
                        · skip
                          refine lv_iconst (v := (nI 0)) S.1 S.2.1 dL_isSo_194 (by decide) ?_
                          refine lv_iadd S.1 S.2.1 dL_isSo_195 ?_
                          refine x_iast S hE hS (Or.inr (Nat.le_refl _)) (hp) ((5 * pp) + 3) rfl (by omega) (by decide) dL_isSo_196 (fun H locs hX hO1 hS => ?_)
                          have hg := va_at.kept hg (hO1.2 a (Nat.ne_of_lt haz))
                          have hc := va_at.kept hc (hO1.2 b (Nat.ne_of_lt hbz))
                          have hB := hB.fr (fun q z => hO1.2 q (by have := z.2; omega))
                          have hp := hX
                          refine lv_aload S.1 S.2.1 dL_isSo_197 (lv_at hl 10 rfl) ?_
                          refine lv_iload S.1 S.2.1 dL_isSo_199 (lv_at hl 0 rfl) ?_
                          refine lv_iconst (v := (nI 4)) S.1 S.2.1 dL_isSo_201 (by decide) ?_
                          refine lv_iadd S.1 S.2.1 dL_isSo_202 ?_
                          refine x_top (y := (nI ((5 * pp) + 4))) (nI_add (5 * pp) 4) ?_
                          refine lv_dup2_11 S.1 S.2.1 dL_isSo_203 rfl rfl ?_
                          refine x_iald S hE (hp) ((5 * pp) + 4) rfl (by omega) (by decide) dL_isSo_204 ?_
                          refine x_top (y := (f ((5 * pp) + 4))) ((pk_un (by omega)).trans ((pk_un (by omega)).trans ((pk_un (by omega)).trans (pk_un (by omega))))) ?_
                          refine lv_iload S.1 S.2.1 dL_isSo_205 (lv_at hl 4 rfl) ?_
                          refine lv_if_ne (tgt := 214) S.1 S.2.1 dL_isSo_207 rfl (fun h326 => ?_) (fun h326 => ?_)
                          · skip
                            refine lv_iconst (v := (nI 0)) S.1 S.2.1 dL_isSo_214 (by decide) ?_
                            refine lv_iadd S.1 S.2.1 dL_isSo_215 ?_
                            refine x_iast S hE hS (Or.inr (Nat.le_refl _)) (hp) ((5 * pp) + 4) rfl (by omega) (by decide) dL_isSo_216 (fun H locs hX hO1 hS => ?_)
                            have hg := va_at.kept hg (hO1.2 a (Nat.ne_of_lt haz))
                            have hc := va_at.kept hc (hO1.2 b (Nat.ne_of_lt hbz))
                            have hB := hB.fr (fun q z => hO1.2 q (by have := z.2; omega))
                            have hp := hX
                            refine lv_iload S.1 S.2.1 dL_isSo_217 (lv_at hl 7 rfl) ?_
                            refine lv_iload S.1 S.2.1 dL_isSo_219 (lv_at hl 2 rfl) ?_
                            refine lv_if_eq (tgt := 229) S.1 S.2.1 dL_isSo_221 rfl (fun h327 => ?_) (fun h327 => ?_)
                            · skip
                              refine lv_iconst (v := (nI 0)) S.1 S.2.1 dL_isSo_229 (by decide) ?_
                              refine lv_iadd S.1 S.2.1 dL_isSo_230 ?_
                              refine lv_istore S.1 S.2.1 dL_isSo_231 hl (by decide) rfl (fun ls hl => ?_)
                              have hl : lv_has ls 15 [(5, .int ((lwAll σ n i) + (nI 0))), (13, .int (nI (5 * pp))), (12, .int (rfHrd σ n i)), (11, .int (nI 0)), (10, .int (nf σ i 4)), (9, .int (nI 6)), (8, .int (nI i)), (4, .int (rfAhd σ i)), (7, .int (nI 1)), (3, .int (rfSum σ n)), (6, .ref s.heap.size), (0, .ref B), (1, .ref a), (2, .ref b)] := hl
                              refine lv_aload_n S.1 S.2.1 dL_isSo_233 rfl (lv_at hl 11 rfl) ?_
                              refine lv_iload S.1 S.2.1 dL_isSo_234 (lv_at hl 6 rfl) ?_
                              refine lv_iconst (v := (nI 0)) S.1 S.2.1 dL_isSo_236 (by decide) ?_
                              refine xk_R (v := (bxNote β.1 (nI i) (nI 0))) (x_runV (As := [.int (nI i), .int (nI 0)]) (rest := []) S hE hS (fun _ h => h.elim) (c_X7_noteOf l E B β (nI i) (nI 0) _ hB) kv_X7_noteOf kw7_21 kw7_22 kw7_23 (x_recv hE (hB.1) (ci := 7) rfl) ⟨Nat.le_of_ble_eq_true rfl, Nat.le_of_ble_eq_true rfl⟩ rfl rfl rfl hl.1 rfl (Nat.le_of_ble_eq_true rfl) dL_isSo_237 ⟨(Nat.le_of_ble_eq_true rfl), (Nat.le_of_ble_eq_true rfl)⟩) ?_
                              refine x_top (y := (nI ((5 * pp) / 5))) ((nt_0 hT hlt).trans (e0.trans (congrArg nI (by omega)))) ?_
                              refine lv_iload S.1 S.2.1 dL_isSo_240 (lv_at hl 1 rfl) ?_
                              refine lv_iconst (v := (nI 5)) S.1 S.2.1 dL_isSo_242 (by decide) ?_
                              refine lv_idiv S.1 S.2.1 dL_isSo_243 (by decide) ?_
                              refine x_top (y := (nI ((5 * pp) / 5))) (pk_div (by omega) (by decide) (by decide)) ?_
                              refine lv_icmp_ne (tgt := 404) S.1 S.2.1 dL_isSo_244 rfl (fun h328 => ?_) (fun h328 => ?_)
                              · exact absurd rfl h328
                              · skip
                                refine lv_aload_n S.1 S.2.1 dL_isSo_247 rfl (lv_at hl 11 rfl) ?_
                                refine lv_iload S.1 S.2.1 dL_isSo_248 (lv_at hl 6 rfl) ?_
                                refine lv_iconst (v := (nI 1)) S.1 S.2.1 dL_isSo_250 (by decide) ?_
                                refine xk_R (v := (bxNote β.1 (nI i) (nI 1))) (x_runV (As := [.int (nI i), .int (nI 1)]) (rest := []) S hE hS (fun _ h => h.elim) (c_X7_noteOf l E B β (nI i) (nI 1) _ hB) kv_X7_noteOf kw7_21 kw7_22 kw7_23 (x_recv hE (hB.1) (ci := 7) rfl) ⟨Nat.le_of_ble_eq_true rfl, Nat.le_of_ble_eq_true rfl⟩ rfl rfl rfl hl.1 rfl (Nat.le_of_ble_eq_true rfl) dL_isSo_251 ⟨(Nat.le_of_ble_eq_true rfl), (Nat.le_of_ble_eq_true rfl)⟩) ?_
                                refine x_top (y := (nf σ i 1)) (nt_1 hT hlt) ?_
                                refine lv_aload_n S.1 S.2.1 dL_isSo_254 rfl (lv_at hl 13 rfl) ?_
                                refine lv_iload S.1 S.2.1 dL_isSo_255 (lv_at hl 6 rfl) ?_
                                refine x_lald S hE hEL (hc) i rfl (by omega) (by decide) dL_isSo_257 ?_
                                refine lv_iconst (v := (nI 2)) S.1 S.2.1 dL_isSo_258 (by decide) ?_
                                refine lv_bipush (v := (nI 7)) S.1 S.2.1 dL_isSo_259 (by decide) ?_
                                refine xk_R (v := (lwG (κ i) (nI 2) (nI 7))) (x_runS (As := [.long (κ i), .int (nI 2), .int (nI 7)]) (rest := [.int (nf σ i 1)]) S hE hS (fun _ h => h.elim) (c_L_get l E (κ i) (nI 2) (nI 7) _) kv_L_get kw7_12 kw7_13 ⟨Nat.le_of_ble_eq_true rfl, Nat.le_of_ble_eq_true rfl⟩ rfl rfl rfl hl.1 rfl (Nat.le_of_ble_eq_true rfl) dL_isSo_261 ⟨(Nat.le_of_ble_eq_true rfl), (Nat.le_of_ble_eq_true rfl)⟩) ?_
                                refine x_top (y := (nf σ i 1)) ((lwG_eq _ (by decide) (by decide)).trans ((hU i 1 (by omega) (by decide)).symm)) ?_
                                refine lv_icmp_ne (tgt := 404) S.1 S.2.1 dL_isSo_264 rfl (fun h329 => ?_) (fun h329 => ?_)
                                · exact absurd rfl h329
                                · skip
                                  refine lv_aload_n S.1 S.2.1 dL_isSo_267 rfl (lv_at hl 11 rfl) ?_
                                  refine lv_iload S.1 S.2.1 dL_isSo_268 (lv_at hl 6 rfl) ?_
                                  refine lv_iconst (v := (nI 2)) S.1 S.2.1 dL_isSo_270 (by decide) ?_
                                  refine xk_R (v := (bxNote β.1 (nI i) (nI 2))) (x_runV (As := [.int (nI i), .int (nI 2)]) (rest := []) S hE hS (fun _ h => h.elim) (c_X7_noteOf l E B β (nI i) (nI 2) _ hB) kv_X7_noteOf kw7_21 kw7_22 kw7_23 (x_recv hE (hB.1) (ci := 7) rfl) ⟨Nat.le_of_ble_eq_true rfl, Nat.le_of_ble_eq_true rfl⟩ rfl rfl rfl hl.1 rfl (Nat.le_of_ble_eq_true rfl) dL_isSo_271 ⟨(Nat.le_of_ble_eq_true rfl), (Nat.le_of_ble_eq_true rfl)⟩) ?_
                                  refine x_top (y := (nf σ i 2)) (nt_2 hT hlt) ?_
                                  refine lv_aload_n S.1 S.2.1 dL_isSo_274 rfl (lv_at hl 13 rfl) ?_
                                  refine lv_iload S.1 S.2.1 dL_isSo_275 (lv_at hl 6 rfl) ?_
                                  refine x_lald S hE hEL (hc) i rfl (by omega) (by decide) dL_isSo_277 ?_
                                  refine lv_bipush (v := (nI 9)) S.1 S.2.1 dL_isSo_278 (by decide) ?_
                                  refine lv_bipush (v := (nI 7)) S.1 S.2.1 dL_isSo_280 (by decide) ?_
                                  refine xk_R (v := (lwG (κ i) (nI 9) (nI 7))) (x_runS (As := [.long (κ i), .int (nI 9), .int (nI 7)]) (rest := [.int (nf σ i 2)]) S hE hS (fun _ h => h.elim) (c_L_get l E (κ i) (nI 9) (nI 7) _) kv_L_get kw7_12 kw7_13 ⟨Nat.le_of_ble_eq_true rfl, Nat.le_of_ble_eq_true rfl⟩ rfl rfl rfl hl.1 rfl (Nat.le_of_ble_eq_true rfl) dL_isSo_282 ⟨(Nat.le_of_ble_eq_true rfl), (Nat.le_of_ble_eq_true rfl)⟩) ?_
                                  refine x_top (y := (nf σ i 2)) ((lwG_eq _ (by decide) (by decide)).trans ((hU i 2 (by omega) (by decide)).symm)) ?_
                                  refine lv_icmp_ne (tgt := 404) S.1 S.2.1 dL_isSo_285 rfl (fun h330 => ?_) (fun h330 => ?_)
                                  · exact absurd rfl h330
                                  · skip
                                    refine lv_aload_n S.1 S.2.1 dL_isSo_288 rfl (lv_at hl 11 rfl) ?_
                                    refine lv_iload S.1 S.2.1 dL_isSo_289 (lv_at hl 6 rfl) ?_
                                    refine lv_iconst (v := (nI 3)) S.1 S.2.1 dL_isSo_291 (by decide) ?_
                                    refine xk_R (v := (bxNote β.1 (nI i) (nI 3))) (x_runV (As := [.int (nI i), .int (nI 3)]) (rest := []) S hE hS (fun _ h => h.elim) (c_X7_noteOf l E B β (nI i) (nI 3) _ hB) kv_X7_noteOf kw7_21 kw7_22 kw7_23 (x_recv hE (hB.1) (ci := 7) rfl) ⟨Nat.le_of_ble_eq_true rfl, Nat.le_of_ble_eq_true rfl⟩ rfl rfl rfl hl.1 rfl (Nat.le_of_ble_eq_true rfl) dL_isSo_292 ⟨(Nat.le_of_ble_eq_true rfl), (Nat.le_of_ble_eq_true rfl)⟩) ?_
                                    refine x_top (y := (nI 6)) ((nt_3 hT hlt).trans ex) ?_
                                    refine lv_iload S.1 S.2.1 dL_isSo_295 (lv_at hl 5 rfl) ?_
                                    refine lv_icmp_ne (tgt := 404) S.1 S.2.1 dL_isSo_297 rfl (fun h331 => ?_) (fun h331 => ?_)
                                    · exact absurd h331 (by decide)
                                    · skip
                                      refine lv_aload_n S.1 S.2.1 dL_isSo_300 rfl (lv_at hl 11 rfl) ?_
                                      refine lv_iload S.1 S.2.1 dL_isSo_301 (lv_at hl 6 rfl) ?_
                                      refine lv_iconst (v := (nI 4)) S.1 S.2.1 dL_isSo_303 (by decide) ?_
                                      refine xk_R (v := (bxNote β.1 (nI i) (nI 4))) (x_runV (As := [.int (nI i), .int (nI 4)]) (rest := []) S hE hS (fun _ h => h.elim) (c_X7_noteOf l E B β (nI i) (nI 4) _ hB) kv_X7_noteOf kw7_21 kw7_22 kw7_23 (x_recv hE (hB.1) (ci := 7) rfl) ⟨Nat.le_of_ble_eq_true rfl, Nat.le_of_ble_eq_true rfl⟩ rfl rfl rfl hl.1 rfl (Nat.le_of_ble_eq_true rfl) dL_isSo_304 ⟨(Nat.le_of_ble_eq_true rfl), (Nat.le_of_ble_eq_true rfl)⟩) ?_
                                      refine x_top (y := (-4)) ((nt_4 hT hlt).trans (if_neg fVo)) ?_
                                      refine lv_iload S.1 S.2.1 dL_isSo_307 (lv_at hl 3 rfl) ?_
                                      refine lv_if_eq (tgt := 317) S.1 S.2.1 dL_isSo_309 rfl (fun h332 => ?_) (fun h332 => ?_)
                                      · skip
                                        refine lv_bipush (v := (-4)) S.1 S.2.1 dL_isSo_317 (by decide) ?_
                                        refine lv_icmp_ne (tgt := 404) S.1 S.2.1 dL_isSo_319 rfl (fun h333 => ?_) (fun h333 => ?_)
                                        · exact absurd h333 (by decide)
                                        · skip
                                          refine lv_aload_n S.1 S.2.1 dL_isSo_322 rfl (lv_at hl 11 rfl) ?_
                                          refine lv_iload S.1 S.2.1 dL_isSo_323 (lv_at hl 6 rfl) ?_
                                          refine lv_iconst (v := (nI 5)) S.1 S.2.1 dL_isSo_325 (by decide) ?_
                                          refine xk_R (v := (bxNote β.1 (nI i) (nI 5))) (x_runV (As := [.int (nI i), .int (nI 5)]) (rest := []) S hE hS (fun _ h => h.elim) (c_X7_noteOf l E B β (nI i) (nI 5) _ hB) kv_X7_noteOf kw7_21 kw7_22 kw7_23 (x_recv hE (hB.1) (ci := 7) rfl) ⟨Nat.le_of_ble_eq_true rfl, Nat.le_of_ble_eq_true rfl⟩ rfl rfl rfl hl.1 rfl (Nat.le_of_ble_eq_true rfl) dL_isSo_326 ⟨(Nat.le_of_ble_eq_true rfl), (Nat.le_of_ble_eq_true rfl)⟩) ?_
                                          refine x_top (y := (-4)) ((nt_5 hT hlt).trans (if_neg fVo)) ?_
                                          refine lv_iload S.1 S.2.1 dL_isSo_329 (lv_at hl 3 rfl) ?_
                                          refine lv_if_eq (tgt := 339) S.1 S.2.1 dL_isSo_331 rfl (fun h334 => ?_) (fun h334 => ?_)
                                          · skip
                                            refine lv_bipush (v := (-4)) S.1 S.2.1 dL_isSo_339 (by decide) ?_
                                            refine lv_icmp_ne (tgt := 404) S.1 S.2.1 dL_isSo_341 rfl (fun h335 => ?_) (fun h335 => ?_)
                                            · exact absurd h335 (by decide)
                                            · skip
                                              refine lv_aload_n S.1 S.2.1 dL_isSo_344 rfl (lv_at hl 11 rfl) ?_
                                              refine lv_iload S.1 S.2.1 dL_isSo_345 (lv_at hl 6 rfl) ?_
                                              refine lv_bipush (v := (nI 6)) S.1 S.2.1 dL_isSo_347 (by decide) ?_
                                              refine xk_R (v := (bxNote β.1 (nI i) (nI 6))) (x_runV (As := [.int (nI i), .int (nI 6)]) (rest := []) S hE hS (fun _ h => h.elim) (c_X7_noteOf l E B β (nI i) (nI 6) _ hB) kv_X7_noteOf kw7_21 kw7_22 kw7_23 (x_recv hE (hB.1) (ci := 7) rfl) ⟨Nat.le_of_ble_eq_true rfl, Nat.le_of_ble_eq_true rfl⟩ rfl rfl rfl hl.1 rfl (Nat.le_of_ble_eq_true rfl) dL_isSo_349 ⟨(Nat.le_of_ble_eq_true rfl), (Nat.le_of_ble_eq_true rfl)⟩) ?_
                                              refine x_top (y := (nf σ i 6)) (nt_6 hT hlt) ?_
                                              refine lv_aload_n S.1 S.2.1 dL_isSo_352 rfl (lv_at hl 13 rfl) ?_
                                              refine lv_iload S.1 S.2.1 dL_isSo_353 (lv_at hl 6 rfl) ?_
                                              refine x_lald S hE hEL (hc) i rfl (by omega) (by decide) dL_isSo_355 ?_
                                              refine lv_bipush (v := (nI 41)) S.1 S.2.1 dL_isSo_356 (by decide) ?_
                                              refine lv_iconst (v := (nI 1)) S.1 S.2.1 dL_isSo_358 (by decide) ?_
                                              refine xk_R (v := (lwG (κ i) (nI 41) (nI 1))) (x_runS (As := [.long (κ i), .int (nI 41), .int (nI 1)]) (rest := [.int (nf σ i 6)]) S hE hS (fun _ h => h.elim) (c_L_get l E (κ i) (nI 41) (nI 1) _) kv_L_get kw7_12 kw7_13 ⟨Nat.le_of_ble_eq_true rfl, Nat.le_of_ble_eq_true rfl⟩ rfl rfl rfl hl.1 rfl (Nat.le_of_ble_eq_true rfl) dL_isSo_359 ⟨(Nat.le_of_ble_eq_true rfl), (Nat.le_of_ble_eq_true rfl)⟩) ?_
                                              refine x_top (y := (nf σ i 6)) ((lwG_eq _ (by decide) (by decide)).trans ((hU i 6 (by omega) (by decide)).symm)) ?_
                                              refine lv_icmp_ne (tgt := 404) S.1 S.2.1 dL_isSo_362 rfl (fun h336 => ?_) (fun h336 => ?_)
                                              · exact absurd rfl h336
                                              · skip
                                                refine lv_aload_n S.1 S.2.1 dL_isSo_365 rfl (lv_at hl 11 rfl) ?_
                                                refine lv_iload S.1 S.2.1 dL_isSo_366 (lv_at hl 6 rfl) ?_
                                                refine lv_bipush (v := (nI 7)) S.1 S.2.1 dL_isSo_368 (by decide) ?_
                                                refine xk_R (v := (bxNote β.1 (nI i) (nI 7))) (x_runV (As := [.int (nI i), .int (nI 7)]) (rest := []) S hE hS (fun _ h => h.elim) (c_X7_noteOf l E B β (nI i) (nI 7) _ hB) kv_X7_noteOf kw7_21 kw7_22 kw7_23 (x_recv hE (hB.1) (ci := 7) rfl) ⟨Nat.le_of_ble_eq_true rfl, Nat.le_of_ble_eq_true rfl⟩ rfl rfl rfl hl.1 rfl (Nat.le_of_ble_eq_true rfl) dL_isSo_370 ⟨(Nat.le_of_ble_eq_true rfl), (Nat.le_of_ble_eq_true rfl)⟩) ?_
                                                refine x_top (y := (-4)) ((nt_7 hT hlt).trans (if_neg f0)) ?_
                                                refine lv_iload S.1 S.2.1 dL_isSo_373 (lv_at hl 5 rfl) ?_
                                                refine lv_if_ne (tgt := 383) S.1 S.2.1 dL_isSo_375 rfl (fun h337 => ?_) (fun h337 => ?_)
                                                · skip
                                                  refine lv_bipush (v := (-4)) S.1 S.2.1 dL_isSo_383 (by decide) ?_
                                                  refine lv_icmp_ne (tgt := 404) S.1 S.2.1 dL_isSo_385 rfl (fun h338 => ?_) (fun h338 => ?_)
                                                  · exact absurd h338 (by decide)
                                                  · skip
                                                    refine lv_aload_n S.1 S.2.1 dL_isSo_388 rfl (lv_at hl 11 rfl) ?_
                                                    refine lv_iload S.1 S.2.1 dL_isSo_389 (lv_at hl 6 rfl) ?_
                                                    refine lv_bipush (v := (nI 8)) S.1 S.2.1 dL_isSo_391 (by decide) ?_
                                                    refine xk_R (v := (bxNote β.1 (nI i) (nI 8))) (x_runV (As := [.int (nI i), .int (nI 8)]) (rest := []) S hE hS (fun _ h => h.elim) (c_X7_noteOf l E B β (nI i) (nI 8) _ hB) kv_X7_noteOf kw7_21 kw7_22 kw7_23 (x_recv hE (hB.1) (ci := 7) rfl) ⟨Nat.le_of_ble_eq_true rfl, Nat.le_of_ble_eq_true rfl⟩ rfl rfl rfl hl.1 rfl (Nat.le_of_ble_eq_true rfl) dL_isSo_393 ⟨(Nat.le_of_ble_eq_true rfl), (Nat.le_of_ble_eq_true rfl)⟩) ?_
                                                    refine x_top (y := (-1)) (nt_8 hT hlt) ?_
                                                    refine lv_iconst (v := (-1)) S.1 S.2.1 dL_isSo_396 (by decide) ?_
                                                    refine lv_icmp_ne (tgt := 404) S.1 S.2.1 dL_isSo_397 rfl (fun h339 => ?_) (fun h339 => ?_)
                                                    · exact absurd h339 (by decide)
                                                    · skip
                                                      refine lv_iconst (v := (nI 1)) S.1 S.2.1 dL_isSo_400 (by decide) ?_
                                                      refine lv_goto (tgt := 405) S.1 S.2.1 dL_isSo_401 rfl ?_
                                                      refine lv_istore S.1 S.2.1 dL_isSo_405 hl (by decide) rfl (fun ls hl => ?_)
                                                      have hl : lv_has ls 15 [(7, .int (nI 1)), (5, .int ((lwAll σ n i) + (nI 0))), (13, .int (nI (5 * pp))), (12, .int (rfHrd σ n i)), (11, .int (nI 0)), (10, .int (nf σ i 4)), (9, .int (nI 6)), (8, .int (nI i)), (4, .int (rfAhd σ i)), (3, .int (rfSum σ n)), (6, .ref s.heap.size), (0, .ref B), (1, .ref a), (2, .ref b)] := hl
                                                      refine lv_iload S.1 S.2.1 dL_isSo_407 (lv_at hl 8 rfl) ?_
                                                      refine lv_iload S.1 S.2.1 dL_isSo_409 (lv_at hl 6 rfl) ?_
                                                      refine lv_if_ne (tgt := 418) S.1 S.2.1 dL_isSo_411 rfl (fun h340 => ?_) (fun h340 => ?_)
                                                      · skip
                                                        refine lv_iconst (v := (nI 0)) S.1 S.2.1 dL_isSo_418 (by decide) ?_
                                                        refine lv_iadd S.1 S.2.1 dL_isSo_419 ?_
                                                        refine lv_istore S.1 S.2.1 dL_isSo_420 hl (by decide) rfl (fun ls hl => ?_)
                                                        have hl : lv_has ls 15 [(4, .int ((rfAhd σ i) + (nI 0))), (7, .int (nI 1)), (5, .int ((lwAll σ n i) + (nI 0))), (13, .int (nI (5 * pp))), (12, .int (rfHrd σ n i)), (11, .int (nI 0)), (10, .int (nf σ i 4)), (9, .int (nI 6)), (8, .int (nI i)), (3, .int (rfSum σ n)), (6, .ref s.heap.size), (0, .ref B), (1, .ref a), (2, .ref b)] := hl
                                                        refine lv_iinc (k := 8) (v := (nI (i + 1))) S.1 S.2.1 dL_isSo_422 hl rfl (iincP i 1) (by decide) rfl (fun ls hl => ?_)
                                                        have hl : lv_has ls 15 [(8, .int (nI (i + 1))), (4, .int ((rfAhd σ i) + (nI 0))), (7, .int (nI 1)), (5, .int ((lwAll σ n i) + (nI 0))), (13, .int (nI (5 * pp))), (12, .int (rfHrd σ n i)), (11, .int (nI 0)), (10, .int (nf σ i 4)), (9, .int (nI 6)), (3, .int (rfSum σ n)), (6, .ref s.heap.size), (0, .ref B), (1, .ref a), (2, .ref b)] := hl
                                                        refine lv_goto (tgt := 24) S.1 S.2.1 dL_isSo_425 rfl ?_
                                                        have hl : lv_has ls 15 [(8, .int (nI (i + 1))), (4, .int (rfAhd σ (i + 1))), (5, .int (lwAll σ n (i + 1))), (7, .int (nI 1)), (3, .int (rfSum σ n)), (6, .ref s.heap.size), (0, .ref B), (1, .ref a), (2, .ref b)] := by
                                                          rw [show (rfAhd σ (i + 1)) = ((rfAhd σ i) + (nI 0)) from by first | rw [rfAhd, if_pos f0] | rw [rfAhd, if_neg f0] | rw [lwAll, if_pos fVo] | rw [lwAll, if_neg fVo]]
                                                          rw [show (lwAll σ n (i + 1)) = ((lwAll σ n i) + (nI 0)) from by first | rw [rfAhd, if_pos f0] | rw [rfAhd, if_neg f0] | rw [lwAll, if_pos fVo] | rw [lwAll, if_neg fVo]]
                                                          exact lv_sub hl [0, 1, 3, 2, 9, 10, 11, 12, 13] rfl
                                                        exact ih24 _ (by omega) (i + 1) (upd (upd (upd (upd (upd f (5 * pp) ((f (5 * pp)) + (nI 0))) ((5 * pp) + 1) ((f ((5 * pp) + 1)) + (nI 0))) ((5 * pp) + 2) ((f ((5 * pp) + 2)) + (nI 0))) ((5 * pp) + 3) ((f ((5 * pp) + 3)) + (nI 0))) ((5 * pp) + 4) ((f ((5 * pp) + 4)) + (nI 0))) _ _ ls rfl (by omega) (pa_step hPA hpp e0 (by first | rw [if_pos fPl] | rw [if_neg fPl]) (by first | rw [if_pos f5] | rw [if_neg f5]) (by first | rw [if_pos fVo] | rw [if_neg fVo]) (by first | rw [if_pos fVo] | rw [if_neg fVo]) (by first | rw [if_pos f0] | rw [if_neg f0])) (hB) (hg) (hc) (hp) (hS) (lv_sub hl [0, 1, 2, 3, 4, 5, 6, 7, 8] rfl)
                                                      · exact absurd h340 (by decide)
                                                · exact absurd h337 (by decide)
                                          · exact absurd h334 (by decide)
                                      · exact absurd h332 (by decide)
                            · exact absurd h327 (by decide)
                          · exact absurd h326 (by decide)
                        · exact absurd h325 (by decide)
                      · exact absurd h324 (by decide)
                    · exact absurd h323 (by decide)
                  · exact absurd h322 (by decide)
              · exact absurd h301 (by decide)
  exact hloop24 _ 0 (fun _ => 0) _ _ ls rfl (Nat.zero_le _) (pa_0) (hB) (hg) (hc) (hp) (hS) (lv_sub hl [0, 4, 3, 1, 5, 2, 6, 7, 8] rfl)
