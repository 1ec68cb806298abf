/-! 77.lb: the law from its entry to its end -/
set_option maxRecDepth 100000 in
set_option maxHeartbeats 4000000 in
/-- YOUR PART: from the entry, for every script of at most 260 ints, the law comes to its end with true -/
theorem whole_start {p : Program} {e : Env} {s : State} {m : MethodId} {below : List Frame} {meth : Method} {c : Code} (l : Launch) (hflags : l.flags = flags0) {b L : Nat} {xs : Nat → Int32} (hL : L ≤ 260) (C0 : lw_At p s m meth c b L xs) : W p l e room_1 s m #[Value.ref b] below meth c s.heap [] 0 0 (lw_Z below #[Value.ref b] s) (entryFrame m ([Value.ref b] : List Value).toArray 8) := by
  obtain ⟨E, hEL, hQt, hEA⟩ := lw_ea C0
  obtain ⟨hx, hb, hr, hml, hown, hts, hX, hbl, hlk, hgv⟩ := id C0
  have S : CallFix p m c cL_law 8 s #[Value.ref b] GW RL := ⟨hx, hb, hml, hown, fun w h => hts w (wsL_law_in w h)⟩
  have hE := hEA.1
  have hXs := hX
  have hLs := hL
  have hD : LD s.heap.size (s.heap.size + 118) (s.heap.size + 119) := ld_0
  have hS : va_S (fun q => s.heap.size ≤ q) s.heap s.heap [] := va_S.rf
  have hl := lv_entry ([.ref b]) (n := 8) (Nat.le_of_ble_eq_true rfl)
  rw [lg_entry_eq]
  generalize (lg_sl ([.ref b]) ++ List.replicate (8 - (lg_sl ([.ref b])).length) Slot.unset).toArray = ls at hl ⊢
  have hl : lv_has ls 8 [(0, .ref b)] := hl
  refine x_newO S hE hS (ci := 7) (C := RX7) (T := TX7) (N := 7) (fs := [.null, .null, .null, .null, .null, .null, .null]) rfl inlX7 tyX7 tyX7_ok kw1_0 kw1_1 kw1_2 (fun j hj => by rcases (show j = 0 ∨ j = 1 ∨ j = 2 ∨ j = 3 ∨ j = 4 ∨ j = 5 ∨ j = 6 by omega) with rfl | rfl | rfl | rfl | rfl | rfl | rfl <;> rfl) (Nat.le_of_ble_eq_true rfl) (Nat.le_of_ble_eq_true rfl) dL_law_0 (z := s.heap.size) rfl (fun H hX7 hz hK hS => ?_)
  refine W.widen (k := 1) (n := 7) (Nat.le_of_ble_eq_true rfl) (Nat.le_of_ble_eq_true rfl) ?_
  refine lv_dup S.1 S.2.1 dL_law_3 rfl ?_
  refine xk_C (x_runI (As := []) (rest := [.ref s.heap.size]) S hEA hS (fun q h => h) (c_X7_init l E s.heap.size _ hQt hz hX7) kv_X7_init kw1_6 kw1_7 rfl ⟨Nat.le_of_ble_eq_true rfl, Nat.le_of_ble_eq_true rfl⟩ rfl rfl rfl hl.1 rfl (Nat.le_of_ble_eq_true rfl) dL_law_4 ⟨Nat.le_of_ble_eq_true rfl, Nat.le_of_ble_eq_true rfl⟩) hS (fun q h => h) (fun H locs hB1 hS => ?_)
  obtain ⟨hB, hz, hK⟩ := hB1
  have hz : H.size = s.heap.size + 118 := hz
  refine W.widen (k := 118) (n := 9142) (Nat.le_of_ble_eq_true rfl) (Nat.le_of_ble_eq_true rfl) ?_
  refine lv_astore_n S.1 S.2.1 dL_law_7 rfl hl (by decide) rfl (fun ls hl => ?_)
  have hl : lv_has ls 8 [(1, .ref s.heap.size), (0, .ref b)] := hl
  refine lv_bipush (v := (nI 9)) S.1 S.2.1 dL_law_8 (by decide) ?_
  refine x_newI S hE hS kw1_3 (k := 9) rfl (by decide) (Nat.le_of_ble_eq_true rfl) (Nat.le_of_ble_eq_true rfl) dL_law_10 hz (fun H hg hz1 hK hS => ?_)
  have hB := hB.fr (fun q z => hK q z.2)
  have hz : H.size = s.heap.size + 119 := hz1
  refine lv_astore_n S.1 S.2.1 dL_law_12 rfl hl (by decide) rfl (fun ls hl => ?_)
  have hl : lv_has ls 8 [(2, .ref (s.heap.size + 118)), (1, .ref s.heap.size), (0, .ref b)] := hl
  refine lv_bipush (v := (nI 64)) S.1 S.2.1 dL_law_13 (by decide) ?_
  refine x_newL S hE hEL hS kw1_4 (k := 64) rfl (by decide) (Nat.le_of_ble_eq_true rfl) (Nat.le_of_ble_eq_true rfl) dL_law_15 hz (fun H hc hz1 hK hS => ?_)
  have hB := hB.fr (fun q z => hK q (by have := z.2; omega))
  have hg := va_at.kept hg (hK _ (by omega))
  have hz : H.size = s.heap.size + 120 := hz1
  refine W.widen (k := 199) (n := 11980) (Nat.le_of_ble_eq_true rfl) (Nat.le_of_ble_eq_true rfl) ?_
  refine lv_astore_n S.1 S.2.1 dL_law_17 rfl hl (by decide) rfl (fun ls hl => ?_)
  have hl : lv_has ls 8 [(3, .ref (s.heap.size + 119)), (2, .ref (s.heap.size + 118)), (1, .ref s.heap.size), (0, .ref b)] := hl
  refine lv_aload_n S.1 S.2.1 dL_law_18 rfl (lv_at hl 1 rfl) ?_
  refine lv_bipush (v := (nI 6)) S.1 S.2.1 dL_law_19 (by decide) ?_
  refine lv_iconst (v := (nI 4)) S.1 S.2.1 dL_law_21 (by decide) ?_
  refine x_iast S hE hS ((show s.heap.size ≤ (s.heap.size + 118) from Nat.le_add_right _ _)) (hg) 6 rfl (by decide) (by decide) dL_law_22 (fun H locs hX hO1 hS => ?_)
  have hB := hB.fr (fun q z => hO1.2 q (by have := z.2; omega))
  have hc := va_at.kept hc (hO1.2 _ (by omega))
  have hz : H.size = s.heap.size + 120 := hO1.1.trans hz
  have hg := hX
  refine lv_aload_n S.1 S.2.1 dL_law_23 rfl (lv_at hl 1 rfl) ?_
  refine lv_bipush (v := (nI 8)) S.1 S.2.1 dL_law_24 (by decide) ?_
  refine lv_sipush (v := (nI 2500)) S.1 S.2.1 dL_law_26 (by decide) ?_
  refine x_iast S hE hS ((show s.heap.size ≤ (s.heap.size + 118) from Nat.le_add_right _ _)) (hg) 8 rfl (by decide) (by decide) dL_law_29 (fun H locs hX hO1 hS => ?_)
  have hB := hB.fr (fun q z => hO1.2 q (by have := z.2; omega))
  have hc := va_at.kept hc (hO1.2 _ (by omega))
  have hz : H.size = s.heap.size + 120 := hO1.1.trans hz
  have hg := hX
  refine lv_aload_n S.1 S.2.1 dL_law_30 rfl (lv_at hl 2 rfl) ?_
  refine lv_aload_n S.1 S.2.1 dL_law_31 rfl (lv_at hl 1 rfl) ?_
  refine lv_aload_n S.1 S.2.1 dL_law_32 rfl (lv_at hl 0 rfl) ?_
  refine xk_G (x_runS (As := [.ref s.heap.size, .ref (s.heap.size + 118), .ref (s.heap.size + 119)]) (rest := []) S hE hS (fun q h => h.elim (fun y => y.1) (fun y => Nat.le_trans hS.1 y)) (c_L_isSo l E s.heap.size (s.heap.size + 118) (s.heap.size + 119) 0 0 (χ0, (fun _ => χ0), 0, []) σ0 _ hEL hD hB (lw_0 hg hc) tr_start (by omega)) kv_L_isSo kw7_1 kw7_2 ⟨(Nat.le_of_ble_eq_true rfl), (Nat.le_of_ble_eq_true rfl)⟩ rfl rfl rfl hl.1 rfl (Nat.le_of_ble_eq_true rfl) dL_law_33 ⟨(Nat.le_of_ble_eq_true rfl), (Nat.le_of_ble_eq_true rfl)⟩) hS (fun q h => h.elim (fun y => y.1) (fun y => Nat.le_trans hS.1 y)) (fun v H locs hX1 hS => ?_)
  obtain ⟨hv1, hB, hL2⟩ := hX1
  subst hv1
  refine lv_istore S.1 S.2.1 dL_law_36 hl (by decide) rfl (fun ls hl => ?_)
  have hl : lv_has ls 8 [(4, .int (nI 1)), (3, .ref (s.heap.size + 119)), (2, .ref (s.heap.size + 118)), (1, .ref s.heap.size), (0, .ref b)] := hl
  refine lv_bipush (v := (nI 10)) S.1 S.2.1 dL_law_38 (by decide) ?_
  refine lv_aload_n S.1 S.2.1 dL_law_40 rfl (lv_at hl 4 rfl) ?_
  refine lv_iconst (v := (nI 0)) S.1 S.2.1 dL_law_41 (by decide) ?_
  refine xk_R (v := (lwC L xs (0))) (x_runSX (As := [.ref b, .int (nI 0)]) (rest := [.int (nI 10)]) S hE hS hXs hbl (Nat.not_le.mpr hbl) (c_L_cell l E b L (0) xs _ hLs (by omega)) kv_L_cell kw15_18 kw15_19 ⟨(Nat.le_of_ble_eq_true rfl), (Nat.le_of_ble_eq_true rfl)⟩ rfl rfl rfl hl.1 rfl (Nat.le_of_ble_eq_true rfl) dL_law_42 ⟨(Nat.le_of_ble_eq_true rfl), (Nat.le_of_ble_eq_true rfl)⟩) ?_
  refine lv_bipush (v := (nI 45)) S.1 S.2.1 dL_law_45 (by decide) ?_
  refine xk_R (v := (lowF (lwC L xs (0)) (nI 45))) (x_runS (As := [.int (lwC L xs (0)), .int (nI 45)]) (rest := [.int (nI 10)]) S hE hS (fun _ h => h.elim) (c_L_low l E (lwC L xs (0)) (nI 45) _ (by decide)) kv_L_low kw15_22 kw15_23 ⟨Nat.le_of_ble_eq_true rfl, Nat.le_of_ble_eq_true rfl⟩ rfl rfl rfl hl.1 rfl (Nat.le_of_ble_eq_true rfl) dL_law_47 ⟨(Nat.le_of_ble_eq_true rfl), (Nat.le_of_ble_eq_true rfl)⟩) ?_
  refine lv_iadd S.1 S.2.1 dL_law_50 ?_
  obtain ⟨r, hr45, er⟩ := low_ex (lwC L xs (0)) 45 (by decide) (by decide)
  refine x_top (y := (nI (10 + r))) (by rw [er, nI_add]) ?_
  refine lv_istore S.1 S.2.1 dL_law_51 hl (by decide) rfl (fun ls hl => ?_)
  have hl : lv_has ls 8 [(5, .int (nI (10 + r))), (4, .int (nI 1)), (3, .ref (s.heap.size + 119)), (2, .ref (s.heap.size + 118)), (1, .ref s.heap.size), (0, .ref b)] := hl
  refine lv_iconst (v := (nI 0)) S.1 S.2.1 dL_law_53 (by decide) ?_
  refine lv_istore S.1 S.2.1 dL_law_54 hl (by decide) rfl (fun ls hl => ?_)
  have hl : lv_has ls 8 [(6, .int (nI 0)), (5, .int (nI (10 + r))), (4, .int (nI 1)), (3, .ref (s.heap.size + 119)), (2, .ref (s.heap.size + 118)), (1, .ref s.heap.size), (0, .ref b)] := hl
  have hloop56 : ∀ (d : Nat) (i : Nat) (H : Heap) (locs : List Loc) (ls : Array Slot), (10 + r) - i = d → i ≤ 10 + r → TO E s.heap.size (s.heap.size + 118) (s.heap.size + 119) i H → va_S (fun q => s.heap.size ≤ q) s.heap H locs → lv_has ls 8 [(6, .int (nI i)), (5, .int (nI (10 + r))), (4, .int (nI 1)), (3, .ref (s.heap.size + 119)), (2, .ref (s.heap.size + 118)), (1, .ref s.heap.size), (0, .ref b)] → W p l e room_1 s m #[Value.ref b] below meth c H locs (200 + i) (12000 + 20 * i) (lw_Z below #[Value.ref b] s) (F0 m 56 ls []) := by
    intro d
    induction d using Nat.strongRecOn with
    | ind d ih =>
      intro i H locs ls hd hi hTO hS hl
      obtain ⟨n, β, σ, hB, hL, hT⟩ := hTO
      refine lv_iload S.1 S.2.1 dL_law_56 (lv_at hl 0 rfl) ?_
      refine lv_iload S.1 S.2.1 dL_law_58 (lv_at hl 1 rfl) ?_
      refine lv_icmp_ge (tgt := 140) S.1 S.2.1 dL_law_60 rfl (fun h1 => ?_) (fun h1 => ?_)
      · skip
        refine lv_iload S.1 S.2.1 dL_law_140 (lv_at hl 2 rfl) ?_
        refine lv_if_eq (tgt := 242) S.1 S.2.1 dL_law_142 rfl (fun h2 => ?_) (fun h2 => ?_)
        · exact absurd h2 (by decide)
        · skip
          refine lv_aload_n S.1 S.2.1 dL_law_145 rfl (lv_at hl 5 rfl) ?_
          refine lv_bipush (v := (nI 13)) S.1 S.2.1 dL_law_146 (by decide) ?_
          refine xk_R (v := (bxCount β (nI 13))) (x_runV (As := [.int (nI 13)]) (rest := []) S hE hS (fun _ h => h.elim) (c_X7_count l E s.heap.size β (nI 13) _ hB) kv_X7_count kw11_16 kw11_17 kw11_18 (x_recv hE (hB.1) (ci := 7) rfl) ⟨Nat.le_of_ble_eq_true rfl, Nat.le_of_ble_eq_true rfl⟩ rfl rfl rfl hl.1 rfl (Nat.le_of_ble_eq_true rfl) dL_law_148 ⟨by show 200 + i + 0 ≤ 600000; omega, by show 12000 + 20 * i + 0 ≤ 7302250; omega⟩) ?_
          refine x_top (y := (-1)) (ct_13 hT) ?_
          refine lv_iconst (v := (-1)) S.1 S.2.1 dL_law_151 (by decide) ?_
          refine lv_icmp_ne (tgt := 242) S.1 S.2.1 dL_law_152 rfl (fun h3 => ?_) (fun h3 => ?_)
          · exact absurd h3 (by decide)
          · skip
            refine lv_aload_n S.1 S.2.1 dL_law_155 rfl (lv_at hl 5 rfl) ?_
            refine lv_bipush (v := (nI 19)) S.1 S.2.1 dL_law_156 (by decide) ?_
            refine xk_R (v := (bxCount β (nI 19))) (x_runV (As := [.int (nI 19)]) (rest := []) S hE hS (fun _ h => h.elim) (c_X7_count l E s.heap.size β (nI 19) _ hB) kv_X7_count kw11_16 kw11_17 kw11_18 (x_recv hE (hB.1) (ci := 7) rfl) ⟨Nat.le_of_ble_eq_true rfl, Nat.le_of_ble_eq_true rfl⟩ rfl rfl rfl hl.1 rfl (Nat.le_of_ble_eq_true rfl) dL_law_158 ⟨by show 200 + i + 0 ≤ 600000; omega, by show 12000 + 20 * i + 0 ≤ 7302250; omega⟩) ?_
            refine x_top (y := (-1)) (ct_19 hT) ?_
            refine lv_iconst (v := (-1)) S.1 S.2.1 dL_law_161 (by decide) ?_
            refine lv_icmp_ne (tgt := 242) S.1 S.2.1 dL_law_162 rfl (fun h4 => ?_) (fun h4 => ?_)
            · exact absurd h4 (by decide)
            · skip
              refine lv_aload_n S.1 S.2.1 dL_law_165 rfl (lv_at hl 5 rfl) ?_
              refine lv_bipush (v := (nI 23)) S.1 S.2.1 dL_law_166 (by decide) ?_
              refine xk_R (v := (bxCount β (nI 23))) (x_runV (As := [.int (nI 23)]) (rest := []) S hE hS (fun _ h => h.elim) (c_X7_count l E s.heap.size β (nI 23) _ hB) kv_X7_count kw11_16 kw11_17 kw11_18 (x_recv hE (hB.1) (ci := 7) rfl) ⟨Nat.le_of_ble_eq_true rfl, Nat.le_of_ble_eq_true rfl⟩ rfl rfl rfl hl.1 rfl (Nat.le_of_ble_eq_true rfl) dL_law_168 ⟨by show 200 + i + 0 ≤ 600000; omega, by show 12000 + 20 * i + 0 ≤ 7302250; omega⟩) ?_
              refine x_top (y := (-1)) (ct_23 hT) ?_
              refine lv_iconst (v := (-1)) S.1 S.2.1 dL_law_171 (by decide) ?_
              refine lv_icmp_ne (tgt := 242) S.1 S.2.1 dL_law_172 rfl (fun h5 => ?_) (fun h5 => ?_)
              · exact absurd h5 (by decide)
              · skip
                obtain ⟨hg, κ, hc, hU⟩ := id hL
                have h0 := (st_0 hT.1).1
                refine lv_aload_n S.1 S.2.1 dL_law_175 rfl (lv_at hl 5 rfl) ?_
                refine lv_aload_n S.1 S.2.1 dL_law_176 rfl (lv_at hl 4 rfl) ?_
                refine lv_iconst (v := (nI 0)) S.1 S.2.1 dL_law_177 (by decide) ?_
                refine x_iald S hE (hg) 0 rfl (by decide) (by decide) dL_law_178 ?_
                refine x_top (y := (nI n)) (h0) ?_
                refine lv_iconst (v := (nI 0)) S.1 S.2.1 dL_law_179 (by decide) ?_
                refine xk_R (v := (bxNote β.1 (nI n) (nI 0))) (x_runV (As := [.int (nI n), .int (nI 0)]) (rest := []) S hE hS (fun _ h => h.elim) (c_X7_noteOf l E s.heap.size β (nI n) (nI 0) _ hB) kv_X7_noteOf kw7_21 kw7_22 kw7_23 (x_recv hE (hB.1) (ci := 7) rfl) ⟨Nat.le_of_ble_eq_true rfl, Nat.le_of_ble_eq_true rfl⟩ rfl rfl rfl hl.1 rfl (Nat.le_of_ble_eq_true rfl) dL_law_180 ⟨by show 200 + i + 0 ≤ 600000; omega, by show 12000 + 20 * i + 0 ≤ 7302250; omega⟩) ?_
                refine x_top (y := (-1)) (z_note hT) ?_
                refine lv_iconst (v := (-1)) S.1 S.2.1 dL_law_183 (by decide) ?_
                refine lv_icmp_ne (tgt := 242) S.1 S.2.1 dL_law_184 rfl (fun h6 => ?_) (fun h6 => ?_)
                · exact absurd h6 (by decide)
                · skip
                  refine lv_aload_n S.1 S.2.1 dL_law_187 rfl (lv_at hl 5 rfl) ?_
                  refine lv_iconst (v := (-1)) S.1 S.2.1 dL_law_188 (by decide) ?_
                  refine xk_R (v := (bxVoice β.1 (-1))) (x_runV (As := [.int (-1)]) (rest := []) S hE hS (fun _ h => h.elim) (c_X7_voiceAt l E s.heap.size β (-1) _ hB) kv_X7_voiceAt kw10_1 kw10_2 kw10_3 (x_recv hE (hB.1) (ci := 7) rfl) ⟨Nat.le_of_ble_eq_true rfl, Nat.le_of_ble_eq_true rfl⟩ rfl rfl rfl hl.1 rfl (Nat.le_of_ble_eq_true rfl) dL_law_189 ⟨by show 200 + i + 0 ≤ 600000; omega, by show 12000 + 20 * i + 0 ≤ 7302250; omega⟩) ?_
                  refine x_top (y := (-1)) (z_voice) ?_
                  refine lv_iconst (v := (-1)) S.1 S.2.1 dL_law_192 (by decide) ?_
                  refine lv_icmp_ne (tgt := 242) S.1 S.2.1 dL_law_193 rfl (fun h7 => ?_) (fun h7 => ?_)
                  · exact absurd h7 (by decide)
                  · skip
                    refine lv_aload_n S.1 S.2.1 dL_law_196 rfl (lv_at hl 5 rfl) ?_
                    refine lv_iconst (v := (nI 4)) S.1 S.2.1 dL_law_197 (by decide) ?_
                    refine lv_iconst (v := (nI 0)) S.1 S.2.1 dL_law_198 (by decide) ?_
                    refine xk_R (v := (bxFind β.1 (nI 4) (nI 0))) (x_runV (As := [.int (nI 4), .int (nI 0)]) (rest := []) S hE hS (fun _ h => h.elim) (c_X7_find l E s.heap.size β (nI 4) (nI 0) _ hB) kv_X7_find kw10_5 kw10_6 kw10_7 (x_recv hE (hB.1) (ci := 7) rfl) ⟨Nat.le_of_ble_eq_true rfl, Nat.le_of_ble_eq_true rfl⟩ rfl rfl rfl hl.1 rfl (Nat.le_of_ble_eq_true rfl) dL_law_199 ⟨by show 200 + i + 0 ≤ 600000; omega, by show 12000 + 20 * i + 0 ≤ 7302250; omega⟩) ?_
                    refine x_top (y := (-1)) (z_find1) ?_
                    refine lv_iconst (v := (-1)) S.1 S.2.1 dL_law_202 (by decide) ?_
                    refine lv_icmp_ne (tgt := 242) S.1 S.2.1 dL_law_203 rfl (fun h8 => ?_) (fun h8 => ?_)
                    · exact absurd h8 (by decide)
                    · skip
                      refine lv_aload_n S.1 S.2.1 dL_law_206 rfl (lv_at hl 5 rfl) ?_
                      refine lv_iconst (v := (nI 0)) S.1 S.2.1 dL_law_207 (by decide) ?_
                      refine lv_sipush (v := (nI 128)) S.1 S.2.1 dL_law_208 (by decide) ?_
                      refine xk_R (v := (bxFind β.1 (nI 0) (nI 128))) (x_runV (As := [.int (nI 0), .int (nI 128)]) (rest := []) S hE hS (fun _ h => h.elim) (c_X7_find l E s.heap.size β (nI 0) (nI 128) _ hB) kv_X7_find kw10_5 kw10_6 kw10_7 (x_recv hE (hB.1) (ci := 7) rfl) ⟨Nat.le_of_ble_eq_true rfl, Nat.le_of_ble_eq_true rfl⟩ rfl rfl rfl hl.1 rfl (Nat.le_of_ble_eq_true rfl) dL_law_211 ⟨by show 200 + i + 0 ≤ 600000; omega, by show 12000 + 20 * i + 0 ≤ 7302250; omega⟩) ?_
                      refine x_top (y := (-1)) (z_find2) ?_
                      refine lv_iconst (v := (-1)) S.1 S.2.1 dL_law_214 (by decide) ?_
                      refine lv_icmp_ne (tgt := 242) S.1 S.2.1 dL_law_215 rfl (fun h9 => ?_) (fun h9 => ?_)
                      · exact absurd h9 (by decide)
                      · skip
                        refine lv_aload_n S.1 S.2.1 dL_law_218 rfl (lv_at hl 5 rfl) ?_
                        refine lv_iconst (v := (nI 4)) S.1 S.2.1 dL_law_219 (by decide) ?_
                        refine lv_iconst (v := (nI 0)) S.1 S.2.1 dL_law_220 (by decide) ?_
                        refine xk_R (v := (bxPartOf β.1 (nI 4) (nI 0))) (x_runV (As := [.int (nI 4), .int (nI 0)]) (rest := []) S hE hS (fun _ h => h.elim) (c_X7_partOf l E s.heap.size β (nI 4) (nI 0) _ hB) kv_X7_partOf kw9_3 kw9_4 kw9_5 (x_recv hE (hB.1) (ci := 7) rfl) ⟨Nat.le_of_ble_eq_true rfl, Nat.le_of_ble_eq_true rfl⟩ rfl rfl rfl hl.1 rfl (Nat.le_of_ble_eq_true rfl) dL_law_221 ⟨by show 200 + i + 0 ≤ 600000; omega, by show 12000 + 20 * i + 0 ≤ 7302250; omega⟩) ?_
                        refine x_top (y := (-1)) (z_part1) ?_
                        refine lv_iconst (v := (-1)) S.1 S.2.1 dL_law_224 (by decide) ?_
                        refine lv_icmp_ne (tgt := 242) S.1 S.2.1 dL_law_225 rfl (fun h10 => ?_) (fun h10 => ?_)
                        · exact absurd h10 (by decide)
                        · skip
                          refine lv_aload_n S.1 S.2.1 dL_law_228 rfl (lv_at hl 5 rfl) ?_
                          refine lv_iconst (v := (nI 0)) S.1 S.2.1 dL_law_229 (by decide) ?_
                          refine lv_iconst (v := (nI 5)) S.1 S.2.1 dL_law_230 (by decide) ?_
                          refine xk_R (v := (bxPartOf β.1 (nI 0) (nI 5))) (x_runV (As := [.int (nI 0), .int (nI 5)]) (rest := []) S hE hS (fun _ h => h.elim) (c_X7_partOf l E s.heap.size β (nI 0) (nI 5) _ hB) kv_X7_partOf kw9_3 kw9_4 kw9_5 (x_recv hE (hB.1) (ci := 7) rfl) ⟨Nat.le_of_ble_eq_true rfl, Nat.le_of_ble_eq_true rfl⟩ rfl rfl rfl hl.1 rfl (Nat.le_of_ble_eq_true rfl) dL_law_231 ⟨by show 200 + i + 0 ≤ 600000; omega, by show 12000 + 20 * i + 0 ≤ 7302250; omega⟩) ?_
                          refine x_top (y := (-1)) (z_part2) ?_
                          refine lv_iconst (v := (-1)) S.1 S.2.1 dL_law_234 (by decide) ?_
                          refine lv_icmp_ne (tgt := 242) S.1 S.2.1 dL_law_235 rfl (fun h11 => ?_) (fun h11 => ?_)
                          · exact absurd h11 (by decide)
                          · skip
                            refine lv_iconst (v := (nI 1)) S.1 S.2.1 dL_law_238 (by decide) ?_
                            refine lv_goto (tgt := 243) S.1 S.2.1 dL_law_239 rfl ?_
                            refine W.widen (k := 600000) (n := 7302250) (by omega) (by omega) ?_
                            refine va_forget (fun q hq => hS.2.2 q hq) ?_
                            exact lw_ret S.1 S.2.1 hr hlk dL_law_243
      · skip
        have hlt := lt_of_nle (by omega) (by omega) h1
        refine lv_iload S.1 S.2.1 dL_law_63 (lv_at hl 2 rfl) ?_
        refine lv_if_eq (tgt := 140) S.1 S.2.1 dL_law_65 rfl (fun h12 => ?_) (fun h12 => ?_)
        · exact absurd h12 (by decide)
        · skip
          refine lv_aload_n S.1 S.2.1 dL_law_68 rfl (lv_at hl 6 rfl) ?_
          refine lv_iconst (v := (nI 1)) S.1 S.2.1 dL_law_69 (by decide) ?_
          refine lv_iload S.1 S.2.1 dL_law_70 (lv_at hl 0 rfl) ?_
          refine lv_iadd S.1 S.2.1 dL_law_72 ?_
          refine x_top (y := (nI (1 + i))) (nI_add 1 i) ?_
          refine xk_R (v := (lwC L xs ((1 + i)))) (x_runSX (As := [.ref b, .int (nI (1 + i))]) (rest := []) S hE hS hXs hbl (Nat.not_le.mpr hbl) (c_L_cell l E b L ((1 + i)) xs _ hLs (by omega)) kv_L_cell kw15_18 kw15_19 ⟨(Nat.le_of_ble_eq_true rfl), (Nat.le_of_ble_eq_true rfl)⟩ rfl rfl rfl hl.1 rfl (Nat.le_of_ble_eq_true rfl) dL_law_73 ⟨by show 200 + i + 0 ≤ 600000; omega, by show 12000 + 20 * i + 0 ≤ 7302250; omega⟩) ?_
          refine lv_sipush (v := (nI 7919)) S.1 S.2.1 dL_law_76 (by decide) ?_
          refine lv_iload S.1 S.2.1 dL_law_79 (lv_at hl 0 rfl) ?_
          refine lv_imul S.1 S.2.1 dL_law_81 ?_
          refine x_top (y := (nI (7919 * i))) (pk_mul 7919 i) ?_
          refine lv_ixor S.1 S.2.1 dL_law_82 ?_
          generalize ((lwC L xs ((1 + i))) ^^^ (nI (7919 * i))) = zz
          refine lv_istore S.1 S.2.1 dL_law_83 hl (by decide) rfl (fun ls hl => ?_)
          have hl : lv_has ls 8 [(7, .int zz), (6, .int (nI i)), (5, .int (nI (10 + r))), (4, .int (nI 1)), (3, .ref (s.heap.size + 119)), (2, .ref (s.heap.size + 118)), (1, .ref s.heap.size), (0, .ref b)] := hl
          refine lv_aload_n S.1 S.2.1 dL_law_85 rfl (lv_at hl 6 rfl) ?_
          refine lv_aload_n S.1 S.2.1 dL_law_86 rfl (lv_at hl 5 rfl) ?_
          refine lv_aload_n S.1 S.2.1 dL_law_87 rfl (lv_at hl 4 rfl) ?_
          refine lv_iload S.1 S.2.1 dL_law_88 (lv_at hl 1 rfl) ?_
          refine lv_iconst (v := (nI 4)) S.1 S.2.1 dL_law_90 (by decide) ?_
          refine lv_icmp_ge (tgt := 110) S.1 S.2.1 dL_law_91 rfl (fun h13 => ?_) (fun h13 => ?_)
          · skip
            refine lv_iload S.1 S.2.1 dL_law_110 (lv_at hl 0 rfl) ?_
            refine xk_W (x_runS (As := [.ref s.heap.size, .ref (s.heap.size + 118), .ref (s.heap.size + 119), .int zz]) (rest := []) S hE hS (fun q h => h.elim (fun y => y.1) (fun y => by rcases y with y | y <;> (rw [y]; exact Nat.le_add_right _ _))) (c_L_acts l E s.heap.size (s.heap.size + 118) (s.heap.size + 119) i n zz β σ _ hEL hD hB hL hT (by omega)) kv_L_acts kw16_1 kw16_2 ⟨Nat.le_of_ble_eq_true rfl, Nat.le_of_ble_eq_true rfl⟩ rfl rfl rfl hl.1 rfl (Nat.le_of_ble_eq_true rfl) dL_law_112 ⟨by show 200 + i + 0 ≤ 600000; omega, by show 12000 + 20 * i + 0 ≤ 7302250; omega⟩) hS (fun q h => h.elim (fun y => y.1) (fun y => by rcases y with y | y <;> (rw [y]; exact Nat.le_add_right _ _))) (fun v H locs hX hO1 hS => ?_)
            obtain ⟨hv1, n, β, σ, hB, hL, hT⟩ := hX
            subst hv1
            refine lv_if_eq (tgt := 131) S.1 S.2.1 dL_law_115 rfl (fun h14 => ?_) (fun h14 => ?_)
            · exact absurd h14 (by decide)
            · skip
              refine lv_aload_n S.1 S.2.1 dL_law_118 rfl (lv_at hl 6 rfl) ?_
              refine lv_aload_n S.1 S.2.1 dL_law_119 rfl (lv_at hl 5 rfl) ?_
              refine lv_aload_n S.1 S.2.1 dL_law_120 rfl (lv_at hl 4 rfl) ?_
              refine xk_G (x_runS (As := [.ref s.heap.size, .ref (s.heap.size + 118), .ref (s.heap.size + 119)]) (rest := []) S hE hS (fun q h => h.elim (fun y => y.1) (fun y => Nat.le_trans hS.1 y)) (c_L_isSo l E s.heap.size (s.heap.size + 118) (s.heap.size + 119) (i + 1) n β σ _ hEL hD hB hL hT (by omega)) kv_L_isSo kw7_1 kw7_2 ⟨(Nat.le_of_ble_eq_true rfl), (Nat.le_of_ble_eq_true rfl)⟩ rfl rfl rfl hl.1 rfl (Nat.le_of_ble_eq_true rfl) dL_law_121 ⟨by show 200 + i + 1 ≤ 600000; omega, by show 12000 + 20 * i + 20 ≤ 7302250; omega⟩) hS (fun q h => h.elim (fun y => y.1) (fun y => Nat.le_trans hS.1 y)) (fun v H locs hX1 hS => ?_)
              obtain ⟨hv1, hB, hL2⟩ := hX1
              subst hv1
              have hL2 := hL2
              refine lv_if_eq (tgt := 131) S.1 S.2.1 dL_law_124 rfl (fun h15 => ?_) (fun h15 => ?_)
              · exact absurd h15 (by decide)
              · skip
                refine lv_iconst (v := (nI 1)) S.1 S.2.1 dL_law_127 (by decide) ?_
                refine lv_goto (tgt := 132) S.1 S.2.1 dL_law_128 rfl ?_
                refine lv_istore S.1 S.2.1 dL_law_132 hl (by decide) rfl (fun ls hl => ?_)
                have hl : lv_has ls 8 [(4, .int (nI 1)), (7, .int zz), (6, .int (nI i)), (5, .int (nI (10 + r))), (3, .ref (s.heap.size + 119)), (2, .ref (s.heap.size + 118)), (1, .ref s.heap.size), (0, .ref b)] := hl
                refine lv_iinc (k := 2) (v := (nI (i + 1))) S.1 S.2.1 dL_law_134 hl rfl (iincP i 1) (by decide) rfl (fun ls hl => ?_)
                have hl : lv_has ls 8 [(6, .int (nI (i + 1))), (4, .int (nI 1)), (7, .int zz), (5, .int (nI (10 + r))), (3, .ref (s.heap.size + 119)), (2, .ref (s.heap.size + 118)), (1, .ref s.heap.size), (0, .ref b)] := hl
                refine lv_goto (tgt := 56) S.1 S.2.1 dL_law_137 rfl ?_
                refine W.widen (k := 200 + (i + 1)) (n := 12000 + 20 * (i + 1)) (by omega) (by omega) ?_
                exact ih _ (by omega) (i + 1) _ _ ls rfl (by omega) (⟨n, β, σ, hB, hL2, hT⟩) (hS) (lv_sub hl [0, 3, 1, 4, 5, 6, 7] rfl)
          · skip
            refine lv_iload S.1 S.2.1 dL_law_94 (lv_at hl 0 rfl) ?_
            refine lv_ldc (v := 2147483647) S.1 S.2.1 S.2.2.2.1 (S.2.2.2.2 _ kw1_5) dL_law_96 ?_
            refine x_top (y := (nI 2147483647)) (by decide) ?_
            refine lv_iand S.1 S.2.1 dL_law_98 ?_
            refine lv_sipush (v := (nI 640)) S.1 S.2.1 dL_law_99 (by decide) ?_
            refine lv_idiv S.1 S.2.1 dL_law_102 (by decide) ?_
            refine lv_sipush (v := (nI 640)) S.1 S.2.1 dL_law_103 (by decide) ?_
            refine lv_imul S.1 S.2.1 dL_law_106 ?_
            refine lv_goto (tgt := 112) S.1 S.2.1 dL_law_107 rfl ?_
            refine xk_W (x_runS (As := [.ref s.heap.size, .ref (s.heap.size + 118), .ref (s.heap.size + 119), .int (((zz &&& (nI 2147483647)) / (nI 640)) * (nI 640))]) (rest := []) S hE hS (fun q h => h.elim (fun y => y.1) (fun y => by rcases y with y | y <;> (rw [y]; exact Nat.le_add_right _ _))) (c_L_acts l E s.heap.size (s.heap.size + 118) (s.heap.size + 119) i n (((zz &&& (nI 2147483647)) / (nI 640)) * (nI 640)) β σ _ hEL hD hB hL hT (by omega)) kv_L_acts kw16_1 kw16_2 ⟨Nat.le_of_ble_eq_true rfl, Nat.le_of_ble_eq_true rfl⟩ rfl rfl rfl hl.1 rfl (Nat.le_of_ble_eq_true rfl) dL_law_112 ⟨by show 200 + i + 0 ≤ 600000; omega, by show 12000 + 20 * i + 0 ≤ 7302250; omega⟩) hS (fun q h => h.elim (fun y => y.1) (fun y => by rcases y with y | y <;> (rw [y]; exact Nat.le_add_right _ _))) (fun v H locs hX hO1 hS => ?_)
            obtain ⟨hv1, n, β, σ, hB, hL, hT⟩ := hX
            subst hv1
            refine lv_if_eq (tgt := 131) S.1 S.2.1 dL_law_115 rfl (fun h16 => ?_) (fun h16 => ?_)
            · exact absurd h16 (by decide)
            · skip
              refine lv_aload_n S.1 S.2.1 dL_law_118 rfl (lv_at hl 6 rfl) ?_
              refine lv_aload_n S.1 S.2.1 dL_law_119 rfl (lv_at hl 5 rfl) ?_
              refine lv_aload_n S.1 S.2.1 dL_law_120 rfl (lv_at hl 4 rfl) ?_
              refine xk_G (x_runS (As := [.ref s.heap.size, .ref (s.heap.size + 118), .ref (s.heap.size + 119)]) (rest := []) S hE hS (fun q h => h.elim (fun y => y.1) (fun y => Nat.le_trans hS.1 y)) (c_L_isSo l E s.heap.size (s.heap.size + 118) (s.heap.size + 119) (i + 1) n β σ _ hEL hD hB hL hT (by omega)) kv_L_isSo kw7_1 kw7_2 ⟨(Nat.le_of_ble_eq_true rfl), (Nat.le_of_ble_eq_true rfl)⟩ rfl rfl rfl hl.1 rfl (Nat.le_of_ble_eq_true rfl) dL_law_121 ⟨by show 200 + i + 1 ≤ 600000; omega, by show 12000 + 20 * i + 20 ≤ 7302250; omega⟩) hS (fun q h => h.elim (fun y => y.1) (fun y => Nat.le_trans hS.1 y)) (fun v H locs hX1 hS => ?_)
              obtain ⟨hv1, hB, hL2⟩ := hX1
              subst hv1
              have hL2 := hL2
              refine lv_if_eq (tgt := 131) S.1 S.2.1 dL_law_124 rfl (fun h17 => ?_) (fun h17 => ?_)
              · exact absurd h17 (by decide)
              · skip
                refine lv_iconst (v := (nI 1)) S.1 S.2.1 dL_law_127 (by decide) ?_
                refine lv_goto (tgt := 132) S.1 S.2.1 dL_law_128 rfl ?_
                refine lv_istore S.1 S.2.1 dL_law_132 hl (by decide) rfl (fun ls hl => ?_)
                have hl : lv_has ls 8 [(4, .int (nI 1)), (7, .int zz), (6, .int (nI i)), (5, .int (nI (10 + r))), (3, .ref (s.heap.size + 119)), (2, .ref (s.heap.size + 118)), (1, .ref s.heap.size), (0, .ref b)] := hl
                refine lv_iinc (k := 2) (v := (nI (i + 1))) S.1 S.2.1 dL_law_134 hl rfl (iincP i 1) (by decide) rfl (fun ls hl => ?_)
                have hl : lv_has ls 8 [(6, .int (nI (i + 1))), (4, .int (nI 1)), (7, .int zz), (5, .int (nI (10 + r))), (3, .ref (s.heap.size + 119)), (2, .ref (s.heap.size + 118)), (1, .ref s.heap.size), (0, .ref b)] := hl
                refine lv_goto (tgt := 56) S.1 S.2.1 dL_law_137 rfl ?_
                refine W.widen (k := 200 + (i + 1)) (n := 12000 + 20 * (i + 1)) (by omega) (by omega) ?_
                exact ih _ (by omega) (i + 1) _ _ ls rfl (by omega) (⟨n, β, σ, hB, hL2, hT⟩) (hS) (lv_sub hl [0, 3, 1, 4, 5, 6, 7] rfl)
  exact hloop56 _ 0 _ _ ls rfl (Nat.zero_le _) (⟨0, _, σ0, hB, hL2, tr_start⟩) (hS) (lv_sub hl [0, 1, 2, 3, 4, 5, 6] rfl)
