/-! 67.lr: walks of the law's own methods, by program -/
def LD (B a b : Nat) : Prop := ¬ a = b ∧ ¬ bk B 118 a ∧ ¬ bk B 118 b
def TO (E : XE) (B a b C : Nat) (H : Heap) : Prop := ∃ n β σ, BoxP E B β H ∧ LwP E a b σ H ∧ TR C n β σ
theorem ab_B {B a b q : Nat} (h1 : ¬ bk B 118 a) (h2 : ¬ bk B 118 b) (z : bk B 118 q) : ¬ (q = a ∨ q = b) := by
  rintro (h | h)
  · subst h; exact h1 z
  · subst h; exact h2 z
theorem a_B {B a q : Nat} (h1 : ¬ bk B 118 a) (z : bk B 118 q) : ¬ q = a := fun h => by subst h; exact h1 z
theorem wt_s {σ : Nat → Int32} {a b : Int32} {n i : Nat} (h : i < n) : rfWt σ a b (n - i) i = if nf σ i 3 = 0 ∧ nf σ i 0 = a ∧ nf σ i 1 = b then some i else rfWt σ a b (n - (i + 1)) (i + 1) := by
  rw [show n - i = (n - (i + 1)) + 1 by omega, rfWt]
theorem ge4 {σ : Nat → Int32} {j : Nat} (h : rfPl σ j) (h4 : nI 4 ≤ nf σ j 3) : nf σ j 3 = nI 4 := Int32.le_antisymm h.2 h4
abbrev rm_L_knocks : Room := ({ frames := 7, cells := 0, slots := 0, locals := 159 } : Room)
set_option maxRecDepth 100000 in
set_option maxHeartbeats 600000 in
theorem c_L_knocks (l : Launch) (E : XE) (B a b C n np nq nz : Nat) (β : BS) (σ : Nat → Int32) (H : Heap) (hEL : EL E) (hD : LD B a b) (hB : BoxP E B β H) (hL : LwP E a b σ H) (hT : TR C n β σ) (hC : C ≤ 60) (hnp : np < 4) (hnq : nq < 3) (hz1 : 1 ≤ nz) (hnz : nz < 128) : Wr l E yL_knocks cL_knocks 10 (some .boolean) rm_L_knocks [.ref B, .ref a, .ref b, .int (nI np), .int (nI nq), .int (nI nz)] H (fun q => bk B 118 q ∨ (q = a ∨ q = b)) (fun v H1 => v = nI 1 ∧ TO E B a b (C + 1) H1) := by
  refine met_of (by decide) (Nat.le_of_ble_eq_true rfl) (fun p e s m args below meth c hBD Q hQ ls hl => ?_)
  obtain ⟨S, hr, hlk, hnm, hE, hH⟩ := hBD
  subst hH
  have hl : lv_has ls 10 [(0, .ref B), (1, .ref a), (2, .ref b), (3, .int (nI np)), (4, .int (nI nq)), (5, .int (nI nz))] := hl
  have hO : Out (fun q => bk B 118 q ∨ (q = a ∨ q = b)) s.heap s.heap := Out.rf
  have hS : va_S (fun q => bk B 118 q ∨ (q = a ∨ q = b)) s.heap s.heap [] := va_S.rf
  obtain ⟨hg, κ, hc, hU⟩ := hL
  obtain ⟨hst, h0, hnC, hNB, hUq, hMK, ⟨sv, h5, hsv⟩, h7⟩ := tr_facts hT
  obtain ⟨hab, haB, hbB⟩ := hD
  have hn : n ≤ 64 := by omega
  refine lv_aload_n S.1 S.2.1 dL_knocks_0 rfl (lv_at hl 1 rfl) ?_
  refine lv_aload_n S.1 S.2.1 dL_knocks_1 rfl (lv_at hl 2 rfl) ?_
  refine lv_iload_n S.1 S.2.1 dL_knocks_2 rfl (lv_at hl 3 rfl) ?_
  refine lv_iload S.1 S.2.1 dL_knocks_3 (lv_at hl 4 rfl) ?_
  refine xk_R (v := (oi (lwV σ (nI np) (nI nq) n 0))) (x_runS (As := [.ref a, .ref b, .int (nI np), .int (nI nq)]) (rest := []) S hE hS (fun _ h => h.elim) (c_L_voice l E a b n σ (nI np) (nI nq) _ hEL ⟨hg, κ, hc, hU⟩ h0 hn (⟨np, hnp, rfl⟩) (⟨nq, by omega, rfl⟩)) kv_L_voice kw10_22 kw10_23 ⟨Nat.le_of_ble_eq_true rfl, Nat.le_of_ble_eq_true rfl⟩ rfl rfl rfl hl.1 rfl (Nat.le_of_ble_eq_true rfl) dL_knocks_5 ⟨Nat.zero_le _, Nat.zero_le _⟩) ?_
  refine lv_istore S.1 S.2.1 dL_knocks_8 hl (by decide) rfl (fun ls hl => ?_)
  have hl : lv_has ls 10 [(6, .int (oi (lwV σ (nI np) (nI nq) n 0))), (0, .ref B), (1, .ref a), (2, .ref b), (3, .int (nI np)), (4, .int (nI nq)), (5, .int (nI nz))] := hl
  rcases hv1 : lwV σ (nI np) (nI nq) n 0 with _ | j1
  · rw [hv1] at hl
    have hl : lv_has ls 10 [(6, .int (-4)), (0, .ref B), (1, .ref a), (2, .ref b), (3, .int (nI np)), (4, .int (nI nq)), (5, .int (nI nz))] := hl
    refine lv_iload S.1 S.2.1 dL_knocks_10 (lv_at hl 0 rfl) ?_
    refine lv_if_lt (tgt := 44) S.1 S.2.1 dL_knocks_12 rfl (fun h1 => ?_) (fun h1 => ?_)
    · skip
      refine lv_aload_n S.1 S.2.1 dL_knocks_44 rfl (lv_at hl 2 rfl) ?_
      refine lv_aload_n S.1 S.2.1 dL_knocks_45 rfl (lv_at hl 3 rfl) ?_
      refine lv_bipush (v := (nI 9)) S.1 S.2.1 dL_knocks_46 (by decide) ?_
      refine xk_R (v := (rfPlc σ n)) (x_runS (As := [.ref a, .ref b, .int (nI 9)]) (rest := []) S hE hS (fun _ h => h.elim) (c_L_many_0 l E a b n σ _ hEL ⟨hg, κ, hc, hU⟩ h0 hn) kv_L_many kw9_22 kw9_23 ⟨Nat.le_of_ble_eq_true rfl, Nat.le_of_ble_eq_true rfl⟩ rfl rfl rfl hl.1 rfl (Nat.le_of_ble_eq_true rfl) dL_knocks_48 ⟨Nat.zero_le _, Nat.zero_le _⟩) ?_
      refine lv_aload_n S.1 S.2.1 dL_knocks_51 rfl (lv_at hl 2 rfl) ?_
      refine lv_bipush (v := (nI 6)) S.1 S.2.1 dL_knocks_52 (by decide) ?_
      refine x_iald S hE (hg) 6 rfl (by decide) (by decide) dL_knocks_54 ?_
      refine lv_icmp_ge (tgt := 62) S.1 S.2.1 dL_knocks_55 rfl (fun h2 => ?_) (fun h2 => ?_)
      · skip
        refine lv_iconst (v := (nI 0)) S.1 S.2.1 dL_knocks_62 (by decide) ?_
        refine lv_istore S.1 S.2.1 dL_knocks_63 hl (by decide) rfl (fun ls hl => ?_)
        have hl : lv_has ls 10 [(7, .int (nI 0)), (6, .int (-4)), (0, .ref B), (1, .ref a), (2, .ref b), (3, .int (nI np)), (4, .int (nI nq)), (5, .int (nI nz))] := hl
        refine lv_iload S.1 S.2.1 dL_knocks_65 (lv_at hl 0 rfl) ?_
        refine lv_if_ne (tgt := 80) S.1 S.2.1 dL_knocks_67 rfl (fun h3 => ?_) (fun h3 => ?_)
        · exact absurd h3 (by decide)
        · skip
          refine lv_aload_n S.1 S.2.1 dL_knocks_70 rfl (lv_at hl 3 rfl) ?_
          refine lv_aload_n S.1 S.2.1 dL_knocks_71 rfl (lv_at hl 4 rfl) ?_
          refine lv_iconst (v := (nI 5)) S.1 S.2.1 dL_knocks_72 (by decide) ?_
          refine xk_R (v := (rfMany σ (nI 5) n)) (x_runS (As := [.ref a, .ref b, .int (nI 5)]) (rest := []) S hE hS (fun _ h => h.elim) (c_L_many_z l E a b n σ 5 _ hEL ⟨hg, κ, hc, hU⟩ h0 hn (by decide)) kv_L_many kw9_22 kw9_23 ⟨Nat.le_of_ble_eq_true rfl, Nat.le_of_ble_eq_true rfl⟩ rfl rfl rfl hl.1 rfl (Nat.le_of_ble_eq_true rfl) dL_knocks_73 ⟨Nat.zero_le _, Nat.zero_le _⟩) ?_
          refine lv_iconst (v := (nI 3)) S.1 S.2.1 dL_knocks_76 (by decide) ?_
          refine lv_icmp_le (tgt := 85) S.1 S.2.1 dL_knocks_77 rfl (fun h4 => ?_) (fun h4 => ?_)
          · skip
            refine lv_aload_n S.1 S.2.1 dL_knocks_85 rfl (lv_at hl 3 rfl) ?_
            refine lv_aload_n S.1 S.2.1 dL_knocks_86 rfl (lv_at hl 4 rfl) ?_
            refine xk_R (v := (oi (rfNx σ n))) (x_runS (As := [.ref a, .ref b]) (rest := []) S hE hS (fun _ h => h.elim) (c_L_home l E a b n σ _ hEL ⟨hg, κ, hc, hU⟩ h0 hn h7) kv_L_home kw11_12 kw11_13 ⟨Nat.le_of_ble_eq_true rfl, Nat.le_of_ble_eq_true rfl⟩ rfl rfl rfl hl.1 rfl (Nat.le_of_ble_eq_true rfl) dL_knocks_87 ⟨Nat.zero_le _, Nat.zero_le _⟩) ?_
            refine lv_istore S.1 S.2.1 dL_knocks_90 hl (by decide) rfl (fun ls hl => ?_)
            have hl : lv_has ls 10 [(8, .int (oi (rfNx σ n))), (7, .int (nI 0)), (6, .int (-4)), (0, .ref B), (1, .ref a), (2, .ref b), (3, .int (nI np)), (4, .int (nI nq)), (5, .int (nI nz))] := hl
            rcases hv2 : rfNx σ n with _ | j2
            · rw [hv2] at hl
              have hl : lv_has ls 10 [(8, .int (-4)), (7, .int (nI 0)), (6, .int (-4)), (0, .ref B), (1, .ref a), (2, .ref b), (3, .int (nI np)), (4, .int (nI nq)), (5, .int (nI nz))] := hl
              refine lv_iload S.1 S.2.1 dL_knocks_92 (lv_at hl 1 rfl) ?_
              refine lv_if_ne (tgt := 133) S.1 S.2.1 dL_knocks_94 rfl (fun h5 => ?_) (fun h5 => ?_)
              · exact absurd h5 (by decide)
              · skip
                refine lv_iload S.1 S.2.1 dL_knocks_97 (lv_at hl 0 rfl) ?_
                refine lv_if_ge (tgt := 133) S.1 S.2.1 dL_knocks_99 rfl (fun h6 => ?_) (fun h6 => ?_)
                · exact absurd h6 (by decide)
                · skip
                  refine lv_aload_n S.1 S.2.1 dL_knocks_102 rfl (lv_at hl 4 rfl) ?_
                  refine lv_aload_n S.1 S.2.1 dL_knocks_103 rfl (lv_at hl 5 rfl) ?_
                  refine lv_iconst (v := (nI 0)) S.1 S.2.1 dL_knocks_104 (by decide) ?_
                  refine xk_R (v := (rfMany σ (nI 0) n)) (x_runS (As := [.ref a, .ref b, .int (nI 0)]) (rest := []) S hE hS (fun _ h => h.elim) (c_L_many_z l E a b n σ 0 _ hEL ⟨hg, κ, hc, hU⟩ h0 hn (by decide)) kv_L_many kw9_22 kw9_23 ⟨Nat.le_of_ble_eq_true rfl, Nat.le_of_ble_eq_true rfl⟩ rfl rfl rfl hl.1 rfl (Nat.le_of_ble_eq_true rfl) dL_knocks_105 ⟨Nat.zero_le _, Nat.zero_le _⟩) ?_
                  refine lv_bipush (v := (nI 6)) S.1 S.2.1 dL_knocks_108 (by decide) ?_
                  refine lv_icmp_ne (tgt := 133) S.1 S.2.1 dL_knocks_110 rfl (fun h7 => ?_) (fun h7 => ?_)
                  · skip
                    refine lv_aload_n S.1 S.2.1 dL_knocks_133 rfl (lv_at hl 4 rfl) ?_
                    refine lv_iconst (v := (nI 0)) S.1 S.2.1 dL_knocks_134 (by decide) ?_
                    refine x_iald S hE (hg) 0 rfl (by decide) (by decide) dL_knocks_135 ?_
                    refine x_top (y := (nI n)) (h0) ?_
                    refine lv_istore S.1 S.2.1 dL_knocks_136 hl (by decide) rfl (fun ls hl => ?_)
                    have hl : lv_has ls 10 [(9, .int (nI n)), (8, .int (-4)), (7, .int (nI 0)), (6, .int (-4)), (0, .ref B), (1, .ref a), (2, .ref b), (3, .int (nI np)), (4, .int (nI nq)), (5, .int (nI nz))] := hl
                    refine lv_aload_n S.1 S.2.1 dL_knocks_138 rfl (lv_at hl 6 rfl) ?_
                    refine lv_iload S.1 S.2.1 dL_knocks_139 (lv_at hl 0 rfl) ?_
                    refine lv_iload_n S.1 S.2.1 dL_knocks_141 rfl (lv_at hl 7 rfl) ?_
                    refine lv_iload S.1 S.2.1 dL_knocks_142 (lv_at hl 8 rfl) ?_
                    refine lv_iconst (v := (nI 2)) S.1 S.2.1 dL_knocks_144 (by decide) ?_
                    refine lv_ishl S.1 S.2.1 dL_knocks_145 ?_
                    refine lv_ior S.1 S.2.1 dL_knocks_146 ?_
                    refine lv_iload S.1 S.2.1 dL_knocks_147 (lv_at hl 9 rfl) ?_
                    refine lv_bipush (v := (nI 9)) S.1 S.2.1 dL_knocks_149 (by decide) ?_
                    refine lv_ishl S.1 S.2.1 dL_knocks_151 ?_
                    refine lv_ior S.1 S.2.1 dL_knocks_152 ?_
                    refine lv_i2l S.1 S.2.1 dL_knocks_153 rfl ?_
                    refine x_topl (y := (lN (np + 4 * nq + 512 * nz))) (new_or np hnp nq hnq nz hnz) ?_
                    refine x_last S hE hEL hS (Or.inr (Or.inr rfl)) (hc) n rfl (by omega) (by decide) dL_knocks_154 (fun H locs hX hO1 hS => ?_)
                    have hO := hO.tr hO1 (fun q z => Or.inr (Or.inr z))
                    have hg := va_at.kept hg (hO1.2 a hab)
                    have hc := hX
                    have hB := hB.fr (fun q z => hO1.2 q (a_B hbB z))
                    refine lv_aload_n S.1 S.2.1 dL_knocks_155 rfl (lv_at hl 5 rfl) ?_
                    refine lv_iconst (v := (nI 0)) S.1 S.2.1 dL_knocks_156 (by decide) ?_
                    refine lv_dup2_11 S.1 S.2.1 dL_knocks_157 rfl rfl ?_
                    refine x_iald S hE (hg) 0 rfl (by decide) (by decide) dL_knocks_158 ?_
                    refine x_top (y := (nI n)) (h0) ?_
                    refine lv_iconst (v := (nI 1)) S.1 S.2.1 dL_knocks_159 (by decide) ?_
                    refine lv_iadd S.1 S.2.1 dL_knocks_160 ?_
                    refine x_top (y := (nI (n + 1))) (nI_add n 1) ?_
                    refine x_iast S hE hS (Or.inr (Or.inl rfl)) (hg) 0 rfl (by decide) (by decide) dL_knocks_161 (fun H locs hX hO1 hS => ?_)
                    have hO := hO.tr hO1 (fun q z => Or.inr (Or.inl z))
                    have hg := hX
                    have hc := va_at.kept hc (hO1.2 b (fun z => hab z.symm))
                    have hB := hB.fr (fun q z => hO1.2 q (a_B haB z))
                    obtain ⟨hg, κ, hc, hU⟩ : LwP E a b (lwNew σ n (nI np) (nI nq) (nI nz)) H := ⟨xi_ext hg (fun j hj => by rw [ne_lo (by omega), upd_if]), _, hc, ne_U hU hnp hnq hnz⟩
                    refine lv_iload S.1 S.2.1 dL_knocks_162 (lv_at hl 1 rfl) ?_
                    refine lv_if_lt (tgt := 181) S.1 S.2.1 dL_knocks_164 rfl (fun h8 => ?_) (fun h8 => ?_)
                    · skip
                      refine lv_iload S.1 S.2.1 dL_knocks_181 (lv_at hl 2 rfl) ?_
                      refine lv_if_ne (tgt := 191) S.1 S.2.1 dL_knocks_183 rfl (fun h9 => ?_) (fun h9 => ?_)
                      · exact absurd h9 (by decide)
                      · skip
                        refine lv_iload S.1 S.2.1 dL_knocks_186 (lv_at hl 1 rfl) ?_
                        refine lv_if_lt (tgt := 201) S.1 S.2.1 dL_knocks_188 rfl (fun h10 => ?_) (fun h10 => ?_)
                        · skip
                          refine lv_aload_n S.1 S.2.1 dL_knocks_201 rfl (lv_at hl 4 rfl) ?_
                          refine lv_iload_n S.1 S.2.1 dL_knocks_202 rfl (lv_at hl 7 rfl) ?_
                          refine lv_iload S.1 S.2.1 dL_knocks_203 (lv_at hl 8 rfl) ?_
                          refine lv_iload S.1 S.2.1 dL_knocks_205 (lv_at hl 9 rfl) ?_
                          refine xk_W (x_runV (As := [.int (nI np), .int (nI nq), .int (nI nz)]) (rest := []) S hE hS (fun _ h => Or.inl h) (c_X7_knock l E B β (nI np) (nI nq) (nI nz) _ hB) kv_X7_knock kw16_17 kw16_18 kw16_19 (x_recv hE (hB.1) (ci := 7) rfl) ⟨Nat.le_of_ble_eq_true rfl, Nat.le_of_ble_eq_true rfl⟩ rfl rfl rfl hl.1 rfl (Nat.le_of_ble_eq_true rfl) dL_knocks_207 ⟨Nat.zero_le _, Nat.zero_le _⟩) hS (fun _ h => Or.inl h) (fun v H locs hX hO1 hS => ?_)
                          have hO := hO.tr hO1 (fun _ h => Or.inl h)
                          have hg := va_at.kept hg (hO1.2 a haB)
                          have hc := va_at.kept hc (hO1.2 b hbB)
                          obtain ⟨hv1, hB⟩ := hX
                          subst hv1
                          have hR := tr_kn5 hT hC hnp hnq hz1 hnz hv1 (Int32.not_lt.mpr h2) (lv_none hT (Int32.not_lt.mpr h2) (Or.inr hv2)) h7
                          refine x_top (y := (nI n)) hR.1 ?_
                          refine lv_iload S.1 S.2.1 dL_knocks_210 (lv_at hl 0 rfl) ?_
                          refine lv_icmp_ne (tgt := 219) S.1 S.2.1 dL_knocks_212 rfl (fun h11 => ?_) (fun h11 => ?_)
                          · exact absurd rfl h11
                          · skip
                            refine lv_iconst (v := (nI 1)) S.1 S.2.1 dL_knocks_215 (by decide) ?_
                            refine lv_goto (tgt := 220) S.1 S.2.1 dL_knocks_216 rfl ?_
                            subst hQ
                            refine x_retW S hr hlk (by first | rfl | decide | exact bI_nar _) hS hO ?_ dL_knocks_220
                            exact ⟨rfl, (n + 1), _, _, hB, ⟨hg, κ, hc, hU⟩, hR.2⟩
                        · exact absurd h10 (by decide)
                    · exact absurd h8 (by decide)
                  · skip
                    refine lv_aload_n S.1 S.2.1 dL_knocks_113 rfl (lv_at hl 3 rfl) ?_
                    refine lv_iload_n S.1 S.2.1 dL_knocks_114 rfl (lv_at hl 6 rfl) ?_
                    refine lv_iload S.1 S.2.1 dL_knocks_115 (lv_at hl 7 rfl) ?_
                    refine lv_iload S.1 S.2.1 dL_knocks_117 (lv_at hl 8 rfl) ?_
                    refine xk_W (x_runV (As := [.int (nI np), .int (nI nq), .int (nI nz)]) (rest := []) S hE hS (fun _ h => Or.inl h) (c_X7_knock l E B β (nI np) (nI nq) (nI nz) _ hB) kv_X7_knock kw16_17 kw16_18 kw16_19 (x_recv hE (hB.1) (ci := 7) rfl) ⟨Nat.le_of_ble_eq_true rfl, Nat.le_of_ble_eq_true rfl⟩ rfl rfl rfl hl.1 rfl (Nat.le_of_ble_eq_true rfl) dL_knocks_119 ⟨Nat.zero_le _, Nat.zero_le _⟩) hS (fun _ h => Or.inl h) (fun v H locs hX hO1 hS => ?_)
                    have hO := hO.tr hO1 (fun _ h => Or.inl h)
                    have hg := va_at.kept hg (hO1.2 a haB)
                    have hc := va_at.kept hc (hO1.2 b hbB)
                    obtain ⟨hv1, hB⟩ := hX
                    subst hv1
                    have hR := tr_kn2 hT hC hnp hnq hz1 hnz hv1 (Int32.not_lt.mpr h2) (lv_none hT (Int32.not_lt.mpr h2) (Or.inr hv2)) h7
                    refine x_top (y := (-3)) hR.1 ?_
                    refine lv_bipush (v := (-3)) S.1 S.2.1 dL_knocks_122 (by decide) ?_
                    refine lv_icmp_ne (tgt := 131) S.1 S.2.1 dL_knocks_124 rfl (fun h12 => ?_) (fun h12 => ?_)
                    · exact absurd h12 (by decide)
                    · skip
                      refine lv_iconst (v := (nI 1)) S.1 S.2.1 dL_knocks_127 (by decide) ?_
                      refine lv_goto (tgt := 132) S.1 S.2.1 dL_knocks_128 rfl ?_
                      subst hQ
                      refine x_retW S hr hlk (by first | rfl | decide | exact bI_nar _) hS hO ?_ dL_knocks_132
                      exact ⟨rfl, n, _, _, hB, ⟨hg, κ, hc, hU⟩, hR.2⟩
            · rw [hv2] at hl
              have hl : lv_has ls 10 [(8, .int (nI j2)), (7, .int (nI 0)), (6, .int (-4)), (0, .ref B), (1, .ref a), (2, .ref b), (3, .int (nI np)), (4, .int (nI nq)), (5, .int (nI nz))] := hl
              have j2b := rfNx_lt hv2
              refine lv_iload S.1 S.2.1 dL_knocks_92 (lv_at hl 1 rfl) ?_
              refine lv_if_ne (tgt := 133) S.1 S.2.1 dL_knocks_94 rfl (fun h13 => ?_) (fun h13 => ?_)
              · exact absurd h13 (by decide)
              · skip
                refine lv_iload S.1 S.2.1 dL_knocks_97 (lv_at hl 0 rfl) ?_
                refine lv_if_ge (tgt := 133) S.1 S.2.1 dL_knocks_99 rfl (fun h14 => ?_) (fun h14 => ?_)
                · skip
                  refine lv_aload_n S.1 S.2.1 dL_knocks_133 rfl (lv_at hl 4 rfl) ?_
                  refine lv_iconst (v := (nI 0)) S.1 S.2.1 dL_knocks_134 (by decide) ?_
                  refine x_iald S hE (hg) 0 rfl (by decide) (by decide) dL_knocks_135 ?_
                  refine x_top (y := (nI n)) (h0) ?_
                  refine lv_istore S.1 S.2.1 dL_knocks_136 hl (by decide) rfl (fun ls hl => ?_)
                  have hl : lv_has ls 10 [(9, .int (nI n)), (8, .int (nI j2)), (7, .int (nI 0)), (6, .int (-4)), (0, .ref B), (1, .ref a), (2, .ref b), (3, .int (nI np)), (4, .int (nI nq)), (5, .int (nI nz))] := hl
                  refine lv_aload_n S.1 S.2.1 dL_knocks_138 rfl (lv_at hl 6 rfl) ?_
                  refine lv_iload S.1 S.2.1 dL_knocks_139 (lv_at hl 0 rfl) ?_
                  refine lv_iload_n S.1 S.2.1 dL_knocks_141 rfl (lv_at hl 7 rfl) ?_
                  refine lv_iload S.1 S.2.1 dL_knocks_142 (lv_at hl 8 rfl) ?_
                  refine lv_iconst (v := (nI 2)) S.1 S.2.1 dL_knocks_144 (by decide) ?_
                  refine lv_ishl S.1 S.2.1 dL_knocks_145 ?_
                  refine lv_ior S.1 S.2.1 dL_knocks_146 ?_
                  refine lv_iload S.1 S.2.1 dL_knocks_147 (lv_at hl 9 rfl) ?_
                  refine lv_bipush (v := (nI 9)) S.1 S.2.1 dL_knocks_149 (by decide) ?_
                  refine lv_ishl S.1 S.2.1 dL_knocks_151 ?_
                  refine lv_ior S.1 S.2.1 dL_knocks_152 ?_
                  refine lv_i2l S.1 S.2.1 dL_knocks_153 rfl ?_
                  refine x_topl (y := (lN (np + 4 * nq + 512 * nz))) (new_or np hnp nq hnq nz hnz) ?_
                  refine x_last S hE hEL hS (Or.inr (Or.inr rfl)) (hc) n rfl (by omega) (by decide) dL_knocks_154 (fun H locs hX hO1 hS => ?_)
                  have hO := hO.tr hO1 (fun q z => Or.inr (Or.inr z))
                  have hg := va_at.kept hg (hO1.2 a hab)
                  have hc := hX
                  have hB := hB.fr (fun q z => hO1.2 q (a_B hbB z))
                  refine lv_aload_n S.1 S.2.1 dL_knocks_155 rfl (lv_at hl 5 rfl) ?_
                  refine lv_iconst (v := (nI 0)) S.1 S.2.1 dL_knocks_156 (by decide) ?_
                  refine lv_dup2_11 S.1 S.2.1 dL_knocks_157 rfl rfl ?_
                  refine x_iald S hE (hg) 0 rfl (by decide) (by decide) dL_knocks_158 ?_
                  refine x_top (y := (nI n)) (h0) ?_
                  refine lv_iconst (v := (nI 1)) S.1 S.2.1 dL_knocks_159 (by decide) ?_
                  refine lv_iadd S.1 S.2.1 dL_knocks_160 ?_
                  refine x_top (y := (nI (n + 1))) (nI_add n 1) ?_
                  refine x_iast S hE hS (Or.inr (Or.inl rfl)) (hg) 0 rfl (by decide) (by decide) dL_knocks_161 (fun H locs hX hO1 hS => ?_)
                  have hO := hO.tr hO1 (fun q z => Or.inr (Or.inl z))
                  have hg := hX
                  have hc := va_at.kept hc (hO1.2 b (fun z => hab z.symm))
                  have hB := hB.fr (fun q z => hO1.2 q (a_B haB z))
                  obtain ⟨hg, κ, hc, hU⟩ : LwP E a b (lwNew σ n (nI np) (nI nq) (nI nz)) H := ⟨xi_ext hg (fun j hj => by rw [ne_lo (by omega), upd_if]), _, hc, ne_U hU hnp hnq hnz⟩
                  refine lv_iload S.1 S.2.1 dL_knocks_162 (lv_at hl 1 rfl) ?_
                  refine lv_if_lt (tgt := 181) S.1 S.2.1 dL_knocks_164 rfl (fun h15 => ?_) (fun h15 => ?_)
                  · exact absurd h15 (nI_pos (by omega))
                  · skip
                    refine lv_aload_n S.1 S.2.1 dL_knocks_167 rfl (lv_at hl 6 rfl) ?_
                    refine lv_iload S.1 S.2.1 dL_knocks_168 (lv_at hl 1 rfl) ?_
                    refine lv_iconst (v := (nI 5)) S.1 S.2.1 dL_knocks_170 (by decide) ?_
                    refine xk_V (x_runS (As := [.ref b, .int (nI j2), .int (nI 5)]) (rest := []) S hE hS (fun _ h => Or.inr (Or.inr h)) (c_L_fades l E b j2 5 (lwNew σ n (nI np) (nI nq) (nI nz)) _ hEL ⟨κ, hc, hU⟩ (by omega) (by decide)) kv_L_fades kw19_21 kw19_22 ⟨Nat.le_of_ble_eq_true rfl, Nat.le_of_ble_eq_true rfl⟩ rfl rfl rfl hl.1 rfl (Nat.le_of_ble_eq_true rfl) dL_knocks_171 ⟨Nat.zero_le _, Nat.zero_le _⟩) hS (fun _ h => Or.inr (Or.inr h)) (fun H locs hX hO1 hS => ?_)
                    have hO := hO.tr hO1 (fun q z => Or.inr (Or.inr z))
                    have hB := hB.fr (fun q z => hO1.2 q (a_B hbB z))
                    have hg := va_at.kept hg (hO1.2 a hab)
                    obtain ⟨κ, hc, hU⟩ := hX
                    refine lv_aload_n S.1 S.2.1 dL_knocks_174 rfl (lv_at hl 5 rfl) ?_
                    refine lv_iconst (v := (nI 3)) S.1 S.2.1 dL_knocks_175 (by decide) ?_
                    refine lv_dup2_11 S.1 S.2.1 dL_knocks_176 rfl rfl ?_
                    refine x_iald S hE (hg) 3 rfl (by decide) (by decide) dL_knocks_177 ?_
                    refine x_top (y := (σ 3)) (by rw [ne_lo (by omega), if_neg (by omega)]) ?_
                    refine lv_iconst (v := (nI 1)) S.1 S.2.1 dL_knocks_178 (by decide) ?_
                    refine lv_iadd S.1 S.2.1 dL_knocks_179 ?_
                    refine x_iast S hE hS (Or.inr (Or.inl rfl)) (hg) 3 rfl (by decide) (by decide) dL_knocks_180 (fun H locs hX hO1 hS => ?_)
                    have hO := hO.tr hO1 (fun q z => Or.inr (Or.inl z))
                    have hg := hX
                    have hc := va_at.kept hc (hO1.2 b (fun z => hab z.symm))
                    have hB := hB.fr (fun q z => hO1.2 q (a_B haB z))
                    obtain ⟨hg, κ, hc, hU⟩ : LwP E a b (lwSnd σ n j2 (nI np) (nI nq) (nI nz)) H := ⟨xi_ext hg (fun i hi => by rw [lwSnd, upd_if, upd_if, fe_lo (by omega)]), κ, hc, fun i w hi hw => (nf_lo (by omega)).trans (hU i w hi hw)⟩
                    refine lv_iload S.1 S.2.1 dL_knocks_181 (lv_at hl 2 rfl) ?_
                    refine lv_if_ne (tgt := 191) S.1 S.2.1 dL_knocks_183 rfl (fun h16 => ?_) (fun h16 => ?_)
                    · exact absurd h16 (by decide)
                    · skip
                      refine lv_iload S.1 S.2.1 dL_knocks_186 (lv_at hl 1 rfl) ?_
                      refine lv_if_lt (tgt := 201) S.1 S.2.1 dL_knocks_188 rfl (fun h17 => ?_) (fun h17 => ?_)
                      · exact absurd h17 (nI_pos (by omega))
                      · skip
                        refine lv_aload_n S.1 S.2.1 dL_knocks_191 rfl (lv_at hl 5 rfl) ?_
                        refine lv_aload_n S.1 S.2.1 dL_knocks_192 rfl (lv_at hl 6 rfl) ?_
                        refine lv_iload S.1 S.2.1 dL_knocks_193 (lv_at hl 0 rfl) ?_
                        refine lv_iconst (v := (nI 1)) S.1 S.2.1 dL_knocks_195 (by decide) ?_
                        refine lv_iload S.1 S.2.1 dL_knocks_196 (lv_at hl 9 rfl) ?_
                        refine xk_V (x_runS (As := [.ref a, .ref b, .int (nI n), .int (nI 1), .int (nI nz)]) (rest := []) S hE hS (fun _ h => Or.inr h) (c_L_begins l E a b n 1 nz sv (lwSnd σ n j2 (nI np) (nI nq) (nI nz)) _ hEL hab ⟨hg, κ, hc, hU⟩ (by omega) (by decide) (by omega) (by omega) (by rw [lwSnd, upd_if, if_neg (by omega), fe_lo (by omega), ne_lo (by omega), if_neg (by omega)]; exact h5)) kv_L_begins kw16_11 kw16_12 ⟨Nat.le_of_ble_eq_true rfl, Nat.le_of_ble_eq_true rfl⟩ rfl rfl rfl hl.1 rfl (Nat.le_of_ble_eq_true rfl) dL_knocks_198 ⟨Nat.zero_le _, Nat.zero_le _⟩) hS (fun _ h => Or.inr h) (fun H locs hX hO1 hS => ?_)
                        have hO := hO.tr hO1 (fun _ h => Or.inr h)
                        have hB := hB.fr (fun q z => hO1.2 q (ab_B haB hbB z))
                        obtain ⟨hg, κ, hc, hU⟩ := hX
                        refine lv_aload_n S.1 S.2.1 dL_knocks_201 rfl (lv_at hl 4 rfl) ?_
                        refine lv_iload_n S.1 S.2.1 dL_knocks_202 rfl (lv_at hl 7 rfl) ?_
                        refine lv_iload S.1 S.2.1 dL_knocks_203 (lv_at hl 8 rfl) ?_
                        refine lv_iload S.1 S.2.1 dL_knocks_205 (lv_at hl 9 rfl) ?_
                        refine xk_W (x_runV (As := [.int (nI np), .int (nI nq), .int (nI nz)]) (rest := []) S hE hS (fun _ h => Or.inl h) (c_X7_knock l E B β (nI np) (nI nq) (nI nz) _ hB) kv_X7_knock kw16_17 kw16_18 kw16_19 (x_recv hE (hB.1) (ci := 7) rfl) ⟨Nat.le_of_ble_eq_true rfl, Nat.le_of_ble_eq_true rfl⟩ rfl rfl rfl hl.1 rfl (Nat.le_of_ble_eq_true rfl) dL_knocks_207 ⟨Nat.zero_le _, Nat.zero_le _⟩) hS (fun _ h => Or.inl h) (fun v H locs hX hO1 hS => ?_)
                        have hO := hO.tr hO1 (fun _ h => Or.inl h)
                        have hg := va_at.kept hg (hO1.2 a haB)
                        have hc := va_at.kept hc (hO1.2 b hbB)
                        obtain ⟨hv1, hB⟩ := hX
                        subst hv1
                        have hR := tr_kn4 hT hC hnp hnq hz1 hnz hv1 (Int32.not_lt.mpr h2) (lv_some hT (Int32.not_lt.mpr h2) h4 hv2) j2b
                        refine x_top (y := (nI n)) hR.1 ?_
                        refine lv_iload S.1 S.2.1 dL_knocks_210 (lv_at hl 0 rfl) ?_
                        refine lv_icmp_ne (tgt := 219) S.1 S.2.1 dL_knocks_212 rfl (fun h18 => ?_) (fun h18 => ?_)
                        · exact absurd rfl h18
                        · skip
                          refine lv_iconst (v := (nI 1)) S.1 S.2.1 dL_knocks_215 (by decide) ?_
                          refine lv_goto (tgt := 220) S.1 S.2.1 dL_knocks_216 rfl ?_
                          subst hQ
                          refine x_retW S hr hlk (by first | rfl | decide | exact bI_nar _) hS hO ?_ dL_knocks_220
                          exact ⟨rfl, (n + 1), _, _, hB, ⟨hg, κ, hc, hU⟩, hR.2⟩
                · exact absurd (nI_pos' (by omega)) h14
          · skip
            refine lv_bipush (v := (-4)) S.1 S.2.1 dL_knocks_80 (by decide) ?_
            refine lv_goto (tgt := 90) S.1 S.2.1 dL_knocks_82 rfl ?_
            refine lv_istore S.1 S.2.1 dL_knocks_90 hl (by decide) rfl (fun ls hl => ?_)
            have hl : lv_has ls 10 [(8, .int (-4)), (7, .int (nI 0)), (6, .int (-4)), (0, .ref B), (1, .ref a), (2, .ref b), (3, .int (nI np)), (4, .int (nI nq)), (5, .int (nI nz))] := hl
            refine lv_iload S.1 S.2.1 dL_knocks_92 (lv_at hl 1 rfl) ?_
            refine lv_if_ne (tgt := 133) S.1 S.2.1 dL_knocks_94 rfl (fun h19 => ?_) (fun h19 => ?_)
            · exact absurd h19 (by decide)
            · skip
              refine lv_iload S.1 S.2.1 dL_knocks_97 (lv_at hl 0 rfl) ?_
              refine lv_if_ge (tgt := 133) S.1 S.2.1 dL_knocks_99 rfl (fun h20 => ?_) (fun h20 => ?_)
              · exact absurd h20 (by decide)
              · skip
                refine lv_aload_n S.1 S.2.1 dL_knocks_102 rfl (lv_at hl 4 rfl) ?_
                refine lv_aload_n S.1 S.2.1 dL_knocks_103 rfl (lv_at hl 5 rfl) ?_
                refine lv_iconst (v := (nI 0)) S.1 S.2.1 dL_knocks_104 (by decide) ?_
                refine xk_R (v := (rfMany σ (nI 0) n)) (x_runS (As := [.ref a, .ref b, .int (nI 0)]) (rest := []) S hE hS (fun _ h => h.elim) (c_L_many_z l E a b n σ 0 _ hEL ⟨hg, κ, hc, hU⟩ h0 hn (by decide)) kv_L_many kw9_22 kw9_23 ⟨Nat.le_of_ble_eq_true rfl, Nat.le_of_ble_eq_true rfl⟩ rfl rfl rfl hl.1 rfl (Nat.le_of_ble_eq_true rfl) dL_knocks_105 ⟨Nat.zero_le _, Nat.zero_le _⟩) ?_
                refine lv_bipush (v := (nI 6)) S.1 S.2.1 dL_knocks_108 (by decide) ?_
                refine lv_icmp_ne (tgt := 133) S.1 S.2.1 dL_knocks_110 rfl (fun h21 => ?_) (fun h21 => ?_)
                · skip
                  refine lv_aload_n S.1 S.2.1 dL_knocks_133 rfl (lv_at hl 4 rfl) ?_
                  refine lv_iconst (v := (nI 0)) S.1 S.2.1 dL_knocks_134 (by decide) ?_
                  refine x_iald S hE (hg) 0 rfl (by decide) (by decide) dL_knocks_135 ?_
                  refine x_top (y := (nI n)) (h0) ?_
                  refine lv_istore S.1 S.2.1 dL_knocks_136 hl (by decide) rfl (fun ls hl => ?_)
                  have hl : lv_has ls 10 [(9, .int (nI n)), (8, .int (-4)), (7, .int (nI 0)), (6, .int (-4)), (0, .ref B), (1, .ref a), (2, .ref b), (3, .int (nI np)), (4, .int (nI nq)), (5, .int (nI nz))] := hl
                  refine lv_aload_n S.1 S.2.1 dL_knocks_138 rfl (lv_at hl 6 rfl) ?_
                  refine lv_iload S.1 S.2.1 dL_knocks_139 (lv_at hl 0 rfl) ?_
                  refine lv_iload_n S.1 S.2.1 dL_knocks_141 rfl (lv_at hl 7 rfl) ?_
                  refine lv_iload S.1 S.2.1 dL_knocks_142 (lv_at hl 8 rfl) ?_
                  refine lv_iconst (v := (nI 2)) S.1 S.2.1 dL_knocks_144 (by decide) ?_
                  refine lv_ishl S.1 S.2.1 dL_knocks_145 ?_
                  refine lv_ior S.1 S.2.1 dL_knocks_146 ?_
                  refine lv_iload S.1 S.2.1 dL_knocks_147 (lv_at hl 9 rfl) ?_
                  refine lv_bipush (v := (nI 9)) S.1 S.2.1 dL_knocks_149 (by decide) ?_
                  refine lv_ishl S.1 S.2.1 dL_knocks_151 ?_
                  refine lv_ior S.1 S.2.1 dL_knocks_152 ?_
                  refine lv_i2l S.1 S.2.1 dL_knocks_153 rfl ?_
                  refine x_topl (y := (lN (np + 4 * nq + 512 * nz))) (new_or np hnp nq hnq nz hnz) ?_
                  refine x_last S hE hEL hS (Or.inr (Or.inr rfl)) (hc) n rfl (by omega) (by decide) dL_knocks_154 (fun H locs hX hO1 hS => ?_)
                  have hO := hO.tr hO1 (fun q z => Or.inr (Or.inr z))
                  have hg := va_at.kept hg (hO1.2 a hab)
                  have hc := hX
                  have hB := hB.fr (fun q z => hO1.2 q (a_B hbB z))
                  refine lv_aload_n S.1 S.2.1 dL_knocks_155 rfl (lv_at hl 5 rfl) ?_
                  refine lv_iconst (v := (nI 0)) S.1 S.2.1 dL_knocks_156 (by decide) ?_
                  refine lv_dup2_11 S.1 S.2.1 dL_knocks_157 rfl rfl ?_
                  refine x_iald S hE (hg) 0 rfl (by decide) (by decide) dL_knocks_158 ?_
                  refine x_top (y := (nI n)) (h0) ?_
                  refine lv_iconst (v := (nI 1)) S.1 S.2.1 dL_knocks_159 (by decide) ?_
                  refine lv_iadd S.1 S.2.1 dL_knocks_160 ?_
                  refine x_top (y := (nI (n + 1))) (nI_add n 1) ?_
                  refine x_iast S hE hS (Or.inr (Or.inl rfl)) (hg) 0 rfl (by decide) (by decide) dL_knocks_161 (fun H locs hX hO1 hS => ?_)
                  have hO := hO.tr hO1 (fun q z => Or.inr (Or.inl z))
                  have hg := hX
                  have hc := va_at.kept hc (hO1.2 b (fun z => hab z.symm))
                  have hB := hB.fr (fun q z => hO1.2 q (a_B haB z))
                  obtain ⟨hg, κ, hc, hU⟩ : LwP E a b (lwNew σ n (nI np) (nI nq) (nI nz)) H := ⟨xi_ext hg (fun j hj => by rw [ne_lo (by omega), upd_if]), _, hc, ne_U hU hnp hnq hnz⟩
                  refine lv_iload S.1 S.2.1 dL_knocks_162 (lv_at hl 1 rfl) ?_
                  refine lv_if_lt (tgt := 181) S.1 S.2.1 dL_knocks_164 rfl (fun h22 => ?_) (fun h22 => ?_)
                  · skip
                    refine lv_iload S.1 S.2.1 dL_knocks_181 (lv_at hl 2 rfl) ?_
                    refine lv_if_ne (tgt := 191) S.1 S.2.1 dL_knocks_183 rfl (fun h23 => ?_) (fun h23 => ?_)
                    · exact absurd h23 (by decide)
                    · skip
                      refine lv_iload S.1 S.2.1 dL_knocks_186 (lv_at hl 1 rfl) ?_
                      refine lv_if_lt (tgt := 201) S.1 S.2.1 dL_knocks_188 rfl (fun h24 => ?_) (fun h24 => ?_)
                      · skip
                        refine lv_aload_n S.1 S.2.1 dL_knocks_201 rfl (lv_at hl 4 rfl) ?_
                        refine lv_iload_n S.1 S.2.1 dL_knocks_202 rfl (lv_at hl 7 rfl) ?_
                        refine lv_iload S.1 S.2.1 dL_knocks_203 (lv_at hl 8 rfl) ?_
                        refine lv_iload S.1 S.2.1 dL_knocks_205 (lv_at hl 9 rfl) ?_
                        refine xk_W (x_runV (As := [.int (nI np), .int (nI nq), .int (nI nz)]) (rest := []) S hE hS (fun _ h => Or.inl h) (c_X7_knock l E B β (nI np) (nI nq) (nI nz) _ hB) kv_X7_knock kw16_17 kw16_18 kw16_19 (x_recv hE (hB.1) (ci := 7) rfl) ⟨Nat.le_of_ble_eq_true rfl, Nat.le_of_ble_eq_true rfl⟩ rfl rfl rfl hl.1 rfl (Nat.le_of_ble_eq_true rfl) dL_knocks_207 ⟨Nat.zero_le _, Nat.zero_le _⟩) hS (fun _ h => Or.inl h) (fun v H locs hX hO1 hS => ?_)
                        have hO := hO.tr hO1 (fun _ h => Or.inl h)
                        have hg := va_at.kept hg (hO1.2 a haB)
                        have hc := va_at.kept hc (hO1.2 b hbB)
                        obtain ⟨hv1, hB⟩ := hX
                        subst hv1
                        have hR := tr_kn5 hT hC hnp hnq hz1 hnz hv1 (Int32.not_lt.mpr h2) (lv_none hT (Int32.not_lt.mpr h2) (Or.inl h4)) h21
                        refine x_top (y := (nI n)) hR.1 ?_
                        refine lv_iload S.1 S.2.1 dL_knocks_210 (lv_at hl 0 rfl) ?_
                        refine lv_icmp_ne (tgt := 219) S.1 S.2.1 dL_knocks_212 rfl (fun h25 => ?_) (fun h25 => ?_)
                        · exact absurd rfl h25
                        · skip
                          refine lv_iconst (v := (nI 1)) S.1 S.2.1 dL_knocks_215 (by decide) ?_
                          refine lv_goto (tgt := 220) S.1 S.2.1 dL_knocks_216 rfl ?_
                          subst hQ
                          refine x_retW S hr hlk (by first | rfl | decide | exact bI_nar _) hS hO ?_ dL_knocks_220
                          exact ⟨rfl, (n + 1), _, _, hB, ⟨hg, κ, hc, hU⟩, hR.2⟩
                      · exact absurd h24 (by decide)
                  · exact absurd h22 (by decide)
                · skip
                  refine lv_aload_n S.1 S.2.1 dL_knocks_113 rfl (lv_at hl 3 rfl) ?_
                  refine lv_iload_n S.1 S.2.1 dL_knocks_114 rfl (lv_at hl 6 rfl) ?_
                  refine lv_iload S.1 S.2.1 dL_knocks_115 (lv_at hl 7 rfl) ?_
                  refine lv_iload S.1 S.2.1 dL_knocks_117 (lv_at hl 8 rfl) ?_
                  refine xk_W (x_runV (As := [.int (nI np), .int (nI nq), .int (nI nz)]) (rest := []) S hE hS (fun _ h => Or.inl h) (c_X7_knock l E B β (nI np) (nI nq) (nI nz) _ hB) kv_X7_knock kw16_17 kw16_18 kw16_19 (x_recv hE (hB.1) (ci := 7) rfl) ⟨Nat.le_of_ble_eq_true rfl, Nat.le_of_ble_eq_true rfl⟩ rfl rfl rfl hl.1 rfl (Nat.le_of_ble_eq_true rfl) dL_knocks_119 ⟨Nat.zero_le _, Nat.zero_le _⟩) hS (fun _ h => Or.inl h) (fun v H locs hX hO1 hS => ?_)
                  have hO := hO.tr hO1 (fun _ h => Or.inl h)
                  have hg := va_at.kept hg (hO1.2 a haB)
                  have hc := va_at.kept hc (hO1.2 b hbB)
                  obtain ⟨hv1, hB⟩ := hX
                  subst hv1
                  have hR := tr_kn2 hT hC hnp hnq hz1 hnz hv1 (Int32.not_lt.mpr h2) (lv_none hT (Int32.not_lt.mpr h2) (Or.inl h4)) h21
                  refine x_top (y := (-3)) hR.1 ?_
                  refine lv_bipush (v := (-3)) S.1 S.2.1 dL_knocks_122 (by decide) ?_
                  refine lv_icmp_ne (tgt := 131) S.1 S.2.1 dL_knocks_124 rfl (fun h26 => ?_) (fun h26 => ?_)
                  · exact absurd h26 (by decide)
                  · skip
                    refine lv_iconst (v := (nI 1)) S.1 S.2.1 dL_knocks_127 (by decide) ?_
                    refine lv_goto (tgt := 132) S.1 S.2.1 dL_knocks_128 rfl ?_
                    subst hQ
                    refine x_retW S hr hlk (by first | rfl | decide | exact bI_nar _) hS hO ?_ dL_knocks_132
                    exact ⟨rfl, n, _, _, hB, ⟨hg, κ, hc, hU⟩, hR.2⟩
      · skip
        refine lv_iconst (v := (nI 1)) S.1 S.2.1 dL_knocks_58 (by decide) ?_
        refine lv_goto (tgt := 63) S.1 S.2.1 dL_knocks_59 rfl ?_
        refine lv_istore S.1 S.2.1 dL_knocks_63 hl (by decide) rfl (fun ls hl => ?_)
        have hl : lv_has ls 10 [(7, .int (nI 1)), (6, .int (-4)), (0, .ref B), (1, .ref a), (2, .ref b), (3, .int (nI np)), (4, .int (nI nq)), (5, .int (nI nz))] := hl
        refine lv_iload S.1 S.2.1 dL_knocks_65 (lv_at hl 0 rfl) ?_
        refine lv_if_ne (tgt := 80) S.1 S.2.1 dL_knocks_67 rfl (fun h27 => ?_) (fun h27 => ?_)
        · skip
          refine lv_bipush (v := (-4)) S.1 S.2.1 dL_knocks_80 (by decide) ?_
          refine lv_goto (tgt := 90) S.1 S.2.1 dL_knocks_82 rfl ?_
          refine lv_istore S.1 S.2.1 dL_knocks_90 hl (by decide) rfl (fun ls hl => ?_)
          have hl : lv_has ls 10 [(8, .int (-4)), (7, .int (nI 1)), (6, .int (-4)), (0, .ref B), (1, .ref a), (2, .ref b), (3, .int (nI np)), (4, .int (nI nq)), (5, .int (nI nz))] := hl
          refine lv_iload S.1 S.2.1 dL_knocks_92 (lv_at hl 1 rfl) ?_
          refine lv_if_ne (tgt := 133) S.1 S.2.1 dL_knocks_94 rfl (fun h28 => ?_) (fun h28 => ?_)
          · skip
            refine lv_aload_n S.1 S.2.1 dL_knocks_133 rfl (lv_at hl 4 rfl) ?_
            refine lv_iconst (v := (nI 0)) S.1 S.2.1 dL_knocks_134 (by decide) ?_
            refine x_iald S hE (hg) 0 rfl (by decide) (by decide) dL_knocks_135 ?_
            refine x_top (y := (nI n)) (h0) ?_
            refine lv_istore S.1 S.2.1 dL_knocks_136 hl (by decide) rfl (fun ls hl => ?_)
            have hl : lv_has ls 10 [(9, .int (nI n)), (8, .int (-4)), (7, .int (nI 1)), (6, .int (-4)), (0, .ref B), (1, .ref a), (2, .ref b), (3, .int (nI np)), (4, .int (nI nq)), (5, .int (nI nz))] := hl
            refine lv_aload_n S.1 S.2.1 dL_knocks_138 rfl (lv_at hl 6 rfl) ?_
            refine lv_iload S.1 S.2.1 dL_knocks_139 (lv_at hl 0 rfl) ?_
            refine lv_iload_n S.1 S.2.1 dL_knocks_141 rfl (lv_at hl 7 rfl) ?_
            refine lv_iload S.1 S.2.1 dL_knocks_142 (lv_at hl 8 rfl) ?_
            refine lv_iconst (v := (nI 2)) S.1 S.2.1 dL_knocks_144 (by decide) ?_
            refine lv_ishl S.1 S.2.1 dL_knocks_145 ?_
            refine lv_ior S.1 S.2.1 dL_knocks_146 ?_
            refine lv_iload S.1 S.2.1 dL_knocks_147 (lv_at hl 9 rfl) ?_
            refine lv_bipush (v := (nI 9)) S.1 S.2.1 dL_knocks_149 (by decide) ?_
            refine lv_ishl S.1 S.2.1 dL_knocks_151 ?_
            refine lv_ior S.1 S.2.1 dL_knocks_152 ?_
            refine lv_i2l S.1 S.2.1 dL_knocks_153 rfl ?_
            refine x_topl (y := (lN (np + 4 * nq + 512 * nz))) (new_or np hnp nq hnq nz hnz) ?_
            refine x_last S hE hEL hS (Or.inr (Or.inr rfl)) (hc) n rfl (by omega) (by decide) dL_knocks_154 (fun H locs hX hO1 hS => ?_)
            have hO := hO.tr hO1 (fun q z => Or.inr (Or.inr z))
            have hg := va_at.kept hg (hO1.2 a hab)
            have hc := hX
            have hB := hB.fr (fun q z => hO1.2 q (a_B hbB z))
            refine lv_aload_n S.1 S.2.1 dL_knocks_155 rfl (lv_at hl 5 rfl) ?_
            refine lv_iconst (v := (nI 0)) S.1 S.2.1 dL_knocks_156 (by decide) ?_
            refine lv_dup2_11 S.1 S.2.1 dL_knocks_157 rfl rfl ?_
            refine x_iald S hE (hg) 0 rfl (by decide) (by decide) dL_knocks_158 ?_
            refine x_top (y := (nI n)) (h0) ?_
            refine lv_iconst (v := (nI 1)) S.1 S.2.1 dL_knocks_159 (by decide) ?_
            refine lv_iadd S.1 S.2.1 dL_knocks_160 ?_
            refine x_top (y := (nI (n + 1))) (nI_add n 1) ?_
            refine x_iast S hE hS (Or.inr (Or.inl rfl)) (hg) 0 rfl (by decide) (by decide) dL_knocks_161 (fun H locs hX hO1 hS => ?_)
            have hO := hO.tr hO1 (fun q z => Or.inr (Or.inl z))
            have hg := hX
            have hc := va_at.kept hc (hO1.2 b (fun z => hab z.symm))
            have hB := hB.fr (fun q z => hO1.2 q (a_B haB z))
            obtain ⟨hg, κ, hc, hU⟩ : LwP E a b (lwNew σ n (nI np) (nI nq) (nI nz)) H := ⟨xi_ext hg (fun j hj => by rw [ne_lo (by omega), upd_if]), _, hc, ne_U hU hnp hnq hnz⟩
            refine lv_iload S.1 S.2.1 dL_knocks_162 (lv_at hl 1 rfl) ?_
            refine lv_if_lt (tgt := 181) S.1 S.2.1 dL_knocks_164 rfl (fun h29 => ?_) (fun h29 => ?_)
            · skip
              refine lv_iload S.1 S.2.1 dL_knocks_181 (lv_at hl 2 rfl) ?_
              refine lv_if_ne (tgt := 191) S.1 S.2.1 dL_knocks_183 rfl (fun h30 => ?_) (fun h30 => ?_)
              · skip
                refine lv_aload_n S.1 S.2.1 dL_knocks_191 rfl (lv_at hl 5 rfl) ?_
                refine lv_aload_n S.1 S.2.1 dL_knocks_192 rfl (lv_at hl 6 rfl) ?_
                refine lv_iload S.1 S.2.1 dL_knocks_193 (lv_at hl 0 rfl) ?_
                refine lv_iconst (v := (nI 1)) S.1 S.2.1 dL_knocks_195 (by decide) ?_
                refine lv_iload S.1 S.2.1 dL_knocks_196 (lv_at hl 9 rfl) ?_
                refine xk_V (x_runS (As := [.ref a, .ref b, .int (nI n), .int (nI 1), .int (nI nz)]) (rest := []) S hE hS (fun _ h => Or.inr h) (c_L_begins l E a b n 1 nz sv (lwNew σ n (nI np) (nI nq) (nI nz)) _ hEL hab ⟨hg, κ, hc, hU⟩ (by omega) (by decide) (by omega) (by omega) (by rw [ne_lo (by omega), if_neg (by omega)]; exact h5)) kv_L_begins kw16_11 kw16_12 ⟨Nat.le_of_ble_eq_true rfl, Nat.le_of_ble_eq_true rfl⟩ rfl rfl rfl hl.1 rfl (Nat.le_of_ble_eq_true rfl) dL_knocks_198 ⟨Nat.zero_le _, Nat.zero_le _⟩) hS (fun _ h => Or.inr h) (fun H locs hX hO1 hS => ?_)
                have hO := hO.tr hO1 (fun _ h => Or.inr h)
                have hB := hB.fr (fun q z => hO1.2 q (ab_B haB hbB z))
                obtain ⟨hg, κ, hc, hU⟩ := hX
                refine lv_aload_n S.1 S.2.1 dL_knocks_201 rfl (lv_at hl 4 rfl) ?_
                refine lv_iload_n S.1 S.2.1 dL_knocks_202 rfl (lv_at hl 7 rfl) ?_
                refine lv_iload S.1 S.2.1 dL_knocks_203 (lv_at hl 8 rfl) ?_
                refine lv_iload S.1 S.2.1 dL_knocks_205 (lv_at hl 9 rfl) ?_
                refine xk_W (x_runV (As := [.int (nI np), .int (nI nq), .int (nI nz)]) (rest := []) S hE hS (fun _ h => Or.inl h) (c_X7_knock l E B β (nI np) (nI nq) (nI nz) _ hB) kv_X7_knock kw16_17 kw16_18 kw16_19 (x_recv hE (hB.1) (ci := 7) rfl) ⟨Nat.le_of_ble_eq_true rfl, Nat.le_of_ble_eq_true rfl⟩ rfl rfl rfl hl.1 rfl (Nat.le_of_ble_eq_true rfl) dL_knocks_207 ⟨Nat.zero_le _, Nat.zero_le _⟩) hS (fun _ h => Or.inl h) (fun v H locs hX hO1 hS => ?_)
                have hO := hO.tr hO1 (fun _ h => Or.inl h)
                have hg := va_at.kept hg (hO1.2 a haB)
                have hc := va_at.kept hc (hO1.2 b hbB)
                obtain ⟨hv1, hB⟩ := hX
                subst hv1
                have hR := tr_kn3 hT hC hnp hnq hz1 hnz hv1 (Int32.not_le.mp h2)
                refine x_top (y := (nI n)) hR.1 ?_
                refine lv_iload S.1 S.2.1 dL_knocks_210 (lv_at hl 0 rfl) ?_
                refine lv_icmp_ne (tgt := 219) S.1 S.2.1 dL_knocks_212 rfl (fun h31 => ?_) (fun h31 => ?_)
                · exact absurd rfl h31
                · skip
                  refine lv_iconst (v := (nI 1)) S.1 S.2.1 dL_knocks_215 (by decide) ?_
                  refine lv_goto (tgt := 220) S.1 S.2.1 dL_knocks_216 rfl ?_
                  subst hQ
                  refine x_retW S hr hlk (by first | rfl | decide | exact bI_nar _) hS hO ?_ dL_knocks_220
                  exact ⟨rfl, (n + 1), _, _, hB, ⟨hg, κ, hc, hU⟩, hR.2⟩
              · exact absurd h30 (by decide)
            · exact absurd h29 (by decide)
          · exact absurd h28 (by decide)
        · exact absurd h27 (by decide)
    · exact absurd h1 (by decide)
  · rw [hv1] at hl
    have hl : lv_has ls 10 [(6, .int (nI j1)), (0, .ref B), (1, .ref a), (2, .ref b), (3, .int (nI np)), (4, .int (nI nq)), (5, .int (nI nz))] := hl
    have j1b := lwV_lt hv1
    refine lv_iload S.1 S.2.1 dL_knocks_10 (lv_at hl 0 rfl) ?_
    refine lv_if_lt (tgt := 44) S.1 S.2.1 dL_knocks_12 rfl (fun h32 => ?_) (fun h32 => ?_)
    · exact absurd h32 (nI_pos (by omega))
    · skip
      refine lv_aload_n S.1 S.2.1 dL_knocks_15 rfl (lv_at hl 2 rfl) ?_
      refine lv_aload_n S.1 S.2.1 dL_knocks_16 rfl (lv_at hl 3 rfl) ?_
      refine lv_iload S.1 S.2.1 dL_knocks_17 (lv_at hl 0 rfl) ?_
      refine lv_iload S.1 S.2.1 dL_knocks_19 (lv_at hl 6 rfl) ?_
      refine xk_V (x_runS (As := [.ref a, .ref b, .int (nI j1), .int (nI nz)]) (rest := []) S hE hS (fun _ h => Or.inr h) (c_L_anew l E a b j1 nz sv σ _ hEL hab ⟨hg, κ, hc, hU⟩ (by omega) (by omega) (by omega) (h5)) kv_L_anew kw16_8 kw16_9 ⟨Nat.le_of_ble_eq_true rfl, Nat.le_of_ble_eq_true rfl⟩ rfl rfl rfl hl.1 rfl (Nat.le_of_ble_eq_true rfl) dL_knocks_21 ⟨Nat.zero_le _, Nat.zero_le _⟩) hS (fun _ h => Or.inr h) (fun H locs hX hO1 hS => ?_)
      have hO := hO.tr hO1 (fun _ h => Or.inr h)
      have hB := hB.fr (fun q z => hO1.2 q (ab_B haB hbB z))
      obtain ⟨hg, κ, hc, hU⟩ := hX
      refine lv_aload_n S.1 S.2.1 dL_knocks_24 rfl (lv_at hl 1 rfl) ?_
      refine lv_iload_n S.1 S.2.1 dL_knocks_25 rfl (lv_at hl 4 rfl) ?_
      refine lv_iload S.1 S.2.1 dL_knocks_26 (lv_at hl 5 rfl) ?_
      refine lv_iload S.1 S.2.1 dL_knocks_28 (lv_at hl 6 rfl) ?_
      refine xk_W (x_runV (As := [.int (nI np), .int (nI nq), .int (nI nz)]) (rest := []) S hE hS (fun _ h => Or.inl h) (c_X7_knock l E B β (nI np) (nI nq) (nI nz) _ hB) kv_X7_knock kw16_17 kw16_18 kw16_19 (x_recv hE (hB.1) (ci := 7) rfl) ⟨Nat.le_of_ble_eq_true rfl, Nat.le_of_ble_eq_true rfl⟩ rfl rfl rfl hl.1 rfl (Nat.le_of_ble_eq_true rfl) dL_knocks_30 ⟨Nat.zero_le _, Nat.zero_le _⟩) hS (fun _ h => Or.inl h) (fun v H locs hX hO1 hS => ?_)
      have hO := hO.tr hO1 (fun _ h => Or.inl h)
      have hg := va_at.kept hg (hO1.2 a haB)
      have hc := va_at.kept hc (hO1.2 b hbB)
      obtain ⟨hv1, hB⟩ := hX
      subst hv1
      have hR := tr_kn1 hT hC hnp hnq hz1 hnz hv1
      refine x_top (y := (nI j1)) hR.1 ?_
      refine lv_iload S.1 S.2.1 dL_knocks_33 (lv_at hl 0 rfl) ?_
      refine lv_icmp_ne (tgt := 42) S.1 S.2.1 dL_knocks_35 rfl (fun h33 => ?_) (fun h33 => ?_)
      · exact absurd rfl h33
      · skip
        refine lv_iconst (v := (nI 1)) S.1 S.2.1 dL_knocks_38 (by decide) ?_
        refine lv_goto (tgt := 43) S.1 S.2.1 dL_knocks_39 rfl ?_
        subst hQ
        refine x_retW S hr hlk (by first | rfl | decide | exact bI_nar _) hS hO ?_ dL_knocks_43
        exact ⟨rfl, n, _, _, hB, ⟨hg, κ, hc, hU⟩, hR.2⟩
abbrev rm_L_lets : Room := ({ frames := 6, cells := 0, slots := 0, locals := 137 } : Room)
set_option maxRecDepth 100000 in
set_option maxHeartbeats 600000 in
theorem c_L_lets (l : Launch) (E : XE) (B a b C n np nq : Nat) (β : BS) (σ : Nat → Int32) (H : Heap) (hEL : EL E) (hD : LD B a b) (hB : BoxP E B β H) (hL : LwP E a b σ H) (hT : TR C n β σ) (hC : C ≤ 60) (hnp : np < 4) (hnq : nq < 3) : Wr l E yL_lets cL_lets 7 (some .boolean) rm_L_lets [.ref B, .ref a, .ref b, .int (nI np), .int (nI nq)] H (fun q => bk B 118 q ∨ (q = a ∨ q = b)) (fun v H1 => v = nI 1 ∧ TO E B a b (C + 1) H1) := by
  refine met_of (by decide) (Nat.le_of_ble_eq_true rfl) (fun p e s m args below meth c hBD Q hQ ls hl => ?_)
  obtain ⟨S, hr, hlk, hnm, hE, hH⟩ := hBD
  subst hH
  have hl : lv_has ls 7 [(0, .ref B), (1, .ref a), (2, .ref b), (3, .int (nI np)), (4, .int (nI nq))] := hl
  have hO : Out (fun q => bk B 118 q ∨ (q = a ∨ q = b)) s.heap s.heap := Out.rf
  have hS : va_S (fun q => bk B 118 q ∨ (q = a ∨ q = b)) s.heap s.heap [] := va_S.rf
  obtain ⟨hg, κ, hc, hU⟩ := hL
  obtain ⟨hst, h0, hnC, hNB, hUq, hMK, ⟨sv, h5, hsv⟩, h7⟩ := tr_facts hT
  obtain ⟨hab, haB, hbB⟩ := hD
  have hn : n ≤ 64 := by omega
  refine lv_aload_n S.1 S.2.1 dL_lets_0 rfl (lv_at hl 1 rfl) ?_
  refine lv_aload_n S.1 S.2.1 dL_lets_1 rfl (lv_at hl 2 rfl) ?_
  refine lv_iload_n S.1 S.2.1 dL_lets_2 rfl (lv_at hl 3 rfl) ?_
  refine lv_iload S.1 S.2.1 dL_lets_3 (lv_at hl 4 rfl) ?_
  refine xk_R (v := (oi (lwV σ (nI np) (nI nq) n 0))) (x_runS (As := [.ref a, .ref b, .int (nI np), .int (nI nq)]) (rest := []) S hE hS (fun _ h => h.elim) (c_L_voice l E a b n σ (nI np) (nI nq) _ hEL ⟨hg, κ, hc, hU⟩ h0 hn (⟨np, hnp, rfl⟩) (⟨nq, by omega, rfl⟩)) kv_L_voice kw10_22 kw10_23 ⟨Nat.le_of_ble_eq_true rfl, Nat.le_of_ble_eq_true rfl⟩ rfl rfl rfl hl.1 rfl (Nat.le_of_ble_eq_true rfl) dL_lets_5 ⟨Nat.zero_le _, Nat.zero_le _⟩) ?_
  refine lv_istore S.1 S.2.1 dL_lets_8 hl (by decide) rfl (fun ls hl => ?_)
  have hl : lv_has ls 7 [(5, .int (oi (lwV σ (nI np) (nI nq) n 0))), (0, .ref B), (1, .ref a), (2, .ref b), (3, .int (nI np)), (4, .int (nI nq))] := hl
  rcases hv1 : lwV σ (nI np) (nI nq) n 0 with _ | j1
  · rw [hv1] at hl
    have hl : lv_has ls 7 [(5, .int (-4)), (0, .ref B), (1, .ref a), (2, .ref b), (3, .int (nI np)), (4, .int (nI nq))] := hl
    refine lv_iload S.1 S.2.1 dL_lets_10 (lv_at hl 0 rfl) ?_
    refine lv_if_lt (tgt := 89) S.1 S.2.1 dL_lets_12 rfl (fun h1 => ?_) (fun h1 => ?_)
    · skip
      have hw := rl_w hT hnp hnq (Or.inl hv1)
      refine lv_iconst (v := (nI 0)) S.1 S.2.1 dL_lets_89 (by decide) ?_
      refine lv_istore S.1 S.2.1 dL_lets_90 hl (by decide) rfl (fun ls hl => ?_)
      have hl : lv_has ls 7 [(6, .int (nI 0)), (5, .int (-4)), (0, .ref B), (1, .ref a), (2, .ref b), (3, .int (nI np)), (4, .int (nI nq))] := hl
      have hloop92 : ∀ (d : Nat) (i : Nat) (H : Heap) (locs : List Loc) (ls : Array Slot), n - i = d → i ≤ n → rfWt σ (nI np) (nI nq) n 0 = rfWt σ (nI np) (nI nq) (n - i) i → BoxP E B β H → XI E a 9 σ H → XL E b 64 κ H → Out (fun q => bk B 118 q ∨ (q = a ∨ q = b)) s.heap H → va_S (fun q => bk B 118 q ∨ (q = a ∨ q = b)) s.heap H locs → lv_has ls 7 [(6, .int (nI i)), (0, .ref B), (1, .ref a), (2, .ref b), (3, .int (nI np)), (4, .int (nI nq))] → W p l e rm_L_lets s m args below meth c H locs 0 0 Q (F0 m 92 ls []) := by
        intro d
        induction d using Nat.strongRecOn with
        | ind d ih =>
          intro i H locs ls hd hi hv hB hg hc hO hS hl
          refine lv_iload S.1 S.2.1 dL_lets_92 (lv_at hl 0 rfl) ?_
          refine lv_aload_n S.1 S.2.1 dL_lets_94 rfl (lv_at hl 2 rfl) ?_
          refine lv_iconst (v := (nI 0)) S.1 S.2.1 dL_lets_95 (by decide) ?_
          refine x_iald S hE (hg) 0 rfl (by decide) (by decide) dL_lets_96 ?_
          refine x_top (y := (nI n)) (h0) ?_
          refine lv_icmp_ge (tgt := 169) S.1 S.2.1 dL_lets_97 rfl (fun h2 => ?_) (fun h2 => ?_)
          · skip
            refine lv_aload_n S.1 S.2.1 dL_lets_169 rfl (lv_at hl 1 rfl) ?_
            refine lv_iload_n S.1 S.2.1 dL_lets_170 rfl (lv_at hl 4 rfl) ?_
            refine lv_iload S.1 S.2.1 dL_lets_171 (lv_at hl 5 rfl) ?_
            refine xk_W (x_runV (As := [.int (nI np), .int (nI nq)]) (rest := []) S hE hS (fun _ h => Or.inl h) (c_X7_release l E B β (nI np) (nI nq) _ hB) kv_X7_release kw20_3 kw20_4 kw20_5 (x_recv hE (hB.1) (ci := 7) rfl) ⟨Nat.le_of_ble_eq_true rfl, Nat.le_of_ble_eq_true rfl⟩ rfl rfl rfl hl.1 rfl (Nat.le_of_ble_eq_true rfl) dL_lets_173 ⟨Nat.zero_le _, Nat.zero_le _⟩) hS (fun _ h => Or.inl h) (fun v H locs hX hO1 hS => ?_)
            have hO := hO.tr hO1 (fun _ h => Or.inl h)
            have hg := va_at.kept hg (hO1.2 a haB)
            have hc := va_at.kept hc (hO1.2 b hbB)
            obtain ⟨hv1, hB⟩ := hX
            subst hv1
            have hR := tr_rl4 hT hw (hv.trans (by rw [show n - i = 0 from (by have := ge_of_le (by omega) (by omega) h2; omega)]; rfl))
            refine x_top (y := (-2)) hR.1 ?_
            refine lv_bipush (v := (-2)) S.1 S.2.1 dL_lets_176 (by decide) ?_
            refine lv_icmp_ne (tgt := 185) S.1 S.2.1 dL_lets_178 rfl (fun h3 => ?_) (fun h3 => ?_)
            · exact absurd h3 (by decide)
            · skip
              refine lv_iconst (v := (nI 1)) S.1 S.2.1 dL_lets_181 (by decide) ?_
              refine lv_goto (tgt := 186) S.1 S.2.1 dL_lets_182 rfl ?_
              subst hQ
              refine x_retW S hr hlk (by first | rfl | decide | exact bI_nar _) hS hO ?_ dL_lets_186
              exact ⟨rfl, n, _, _, hB, ⟨hg, κ, hc, hU⟩, hR.2⟩
          · skip
            have hlt := lt_of_nle (by omega) (by omega) h2
            refine lv_aload_n S.1 S.2.1 dL_lets_100 rfl (lv_at hl 3 rfl) ?_
            refine lv_iload S.1 S.2.1 dL_lets_101 (lv_at hl 0 rfl) ?_
            refine x_lald S hE hEL (hc) i rfl (by omega) (by decide) dL_lets_103 ?_
            refine xk_R (v := (fld 3 (κ i))) (x_runS (As := [.long (κ i)]) (rest := []) S hE hS (fun _ h => h.elim) (c_L_is l E (κ i) _) kv_L_is kw7_9 kw7_10 ⟨Nat.le_of_ble_eq_true rfl, Nat.le_of_ble_eq_true rfl⟩ rfl rfl rfl hl.1 rfl (Nat.le_of_ble_eq_true rfl) dL_lets_104 ⟨Nat.zero_le _, Nat.zero_le _⟩) ?_
            refine x_top (y := (nf σ i 3)) ((hU i 3 (by omega) (by decide)).symm) ?_
            refine lv_if_ne (tgt := 163) S.1 S.2.1 dL_lets_107 rfl (fun h4 => ?_) (fun h4 => ?_)
            · skip
              refine lv_iinc (k := 0) (v := (nI (i + 1))) S.1 S.2.1 dL_lets_163 hl rfl (iincP i 1) (by decide) rfl (fun ls hl => ?_)
              have hl : lv_has ls 7 [(6, .int (nI (i + 1))), (0, .ref B), (1, .ref a), (2, .ref b), (3, .int (nI np)), (4, .int (nI nq))] := hl
              refine lv_goto (tgt := 92) S.1 S.2.1 dL_lets_166 rfl ?_
              exact ih _ (by omega) (i + 1) _ _ ls rfl (by omega) (by rw [hv, wt_s hlt, if_neg (fun z => h4 z.1)]) (hB) (hg) (hc) (hO) (hS) (lv_sub hl [0, 1, 2, 3, 4, 5] rfl)
            · skip
              refine lv_aload_n S.1 S.2.1 dL_lets_110 rfl (lv_at hl 3 rfl) ?_
              refine lv_iload S.1 S.2.1 dL_lets_111 (lv_at hl 0 rfl) ?_
              refine x_lald S hE hEL (hc) i rfl (by omega) (by decide) dL_lets_113 ?_
              refine lv_iconst (v := (nI 0)) S.1 S.2.1 dL_lets_114 (by decide) ?_
              refine lv_bipush (v := (nI 9)) S.1 S.2.1 dL_lets_115 (by decide) ?_
              refine xk_R (v := (lwG (κ i) (nI 0) (nI 9))) (x_runS (As := [.long (κ i), .int (nI 0), .int (nI 9)]) (rest := []) S hE hS (fun _ h => h.elim) (c_L_get l E (κ i) (nI 0) (nI 9) _) kv_L_get kw7_12 kw7_13 ⟨Nat.le_of_ble_eq_true rfl, Nat.le_of_ble_eq_true rfl⟩ rfl rfl rfl hl.1 rfl (Nat.le_of_ble_eq_true rfl) dL_lets_117 ⟨Nat.zero_le _, Nat.zero_le _⟩) ?_
              refine x_top (y := (nI (fvN (κ i) 0 9))) (lwG_eq _ (by decide) (by decide)) ?_
              refine lv_iload_n S.1 S.2.1 dL_lets_120 rfl (lv_at hl 4 rfl) ?_
              refine lv_iconst (v := (nI 4)) S.1 S.2.1 dL_lets_121 (by decide) ?_
              refine lv_iload S.1 S.2.1 dL_lets_122 (lv_at hl 5 rfl) ?_
              refine lv_imul S.1 S.2.1 dL_lets_124 ?_
              refine x_top (y := (nI (4 * nq))) (pk_mul 4 nq) ?_
              refine lv_iadd S.1 S.2.1 dL_lets_125 ?_
              refine x_top (y := (nI (np + (4 * nq)))) (nI_add np (4 * nq)) ?_
              refine lv_icmp_ne (tgt := 163) S.1 S.2.1 dL_lets_126 rfl (fun h5 => ?_) (fun h5 => ?_)
              · skip
                have e09 : ¬ (nf σ i 0 = nI np ∧ nf σ i 1 = nI nq) := fun z => h5 ((fld_09e hnp (by omega)).mpr ⟨(hU i 0 (by omega) (by decide)).symm.trans z.1, (hU i 1 (by omega) (by decide)).symm.trans z.2⟩)
                refine lv_iinc (k := 0) (v := (nI (i + 1))) S.1 S.2.1 dL_lets_163 hl rfl (iincP i 1) (by decide) rfl (fun ls hl => ?_)
                have hl : lv_has ls 7 [(6, .int (nI (i + 1))), (0, .ref B), (1, .ref a), (2, .ref b), (3, .int (nI np)), (4, .int (nI nq))] := hl
                refine lv_goto (tgt := 92) S.1 S.2.1 dL_lets_166 rfl ?_
                exact ih _ (by omega) (i + 1) _ _ ls rfl (by omega) (by rw [hv, wt_s hlt, if_neg (fun z => e09 z.2)]) (hB) (hg) (hc) (hO) (hS) (lv_sub hl [0, 1, 2, 3, 4, 5] rfl)
              · skip
                have e09 := (fld_09e hnp (by omega)).mp h5
                have e09 : nf σ i 0 = nI np ∧ nf σ i 1 = nI nq := ⟨(hU i 0 (by omega) (by decide)).trans e09.1, (hU i 1 (by omega) (by decide)).trans e09.2⟩
                refine lv_aload_n S.1 S.2.1 dL_lets_129 rfl (lv_at hl 3 rfl) ?_
                refine lv_iload S.1 S.2.1 dL_lets_130 (lv_at hl 0 rfl) ?_
                refine lv_aload_n S.1 S.2.1 dL_lets_132 rfl (lv_at hl 3 rfl) ?_
                refine lv_iload S.1 S.2.1 dL_lets_133 (lv_at hl 0 rfl) ?_
                refine x_lald S hE hEL (hc) i rfl (by omega) (by decide) dL_lets_135 ?_
                refine lv_bipush (v := (nI 16)) S.1 S.2.1 dL_lets_136 (by decide) ?_
                refine lv_iconst (v := (nI 3)) S.1 S.2.1 dL_lets_138 (by decide) ?_
                refine lv_bipush (v := (nI 6)) S.1 S.2.1 dL_lets_139 (by decide) ?_
                refine xk_L (v := (lwP (κ i) (nI 16) (nI 3) (nI 6))) (x_runS (As := [.long (κ i), .int (nI 16), .int (nI 3), .int (nI 6)]) (rest := [.int (nI i), .ref b]) S hE hS (fun _ h => h.elim) (c_L_put l E (κ i) (nI 16) (nI 3) (nI 6) _) kv_L_put kw16_14 kw16_15 ⟨Nat.le_of_ble_eq_true rfl, Nat.le_of_ble_eq_true rfl⟩ rfl rfl rfl hl.1 rfl (Nat.le_of_ble_eq_true rfl) dL_lets_141 ⟨Nat.zero_le _, Nat.zero_le _⟩) ?_
                refine x_topl (y := (fput 3 6 (κ i))) (rfl) ?_
                refine x_last S hE hEL hS (Or.inr (Or.inr rfl)) (hc) i rfl (by omega) (by decide) dL_lets_144 (fun H locs hX hO1 hS => ?_)
                have hO := hO.tr hO1 (fun q z => Or.inr (Or.inr z))
                have hg := va_at.kept hg (hO1.2 a hab)
                have hB := hB.fr (fun q z => hO1.2 q (a_B hbB z))
                have hg : XI E a 9 (nset σ i 3 (nI 6)) H := xi_ext hg (fun j hj => (nset_lo (by omega)).symm)
                obtain ⟨κ, hc, hU⟩ : LcP E b (nset σ i 3 (nI 6)) H := ⟨_, hX, n6_U hU (by omega) (by decide) (by decide)⟩
                refine lv_aload_n S.1 S.2.1 dL_lets_145 rfl (lv_at hl 1 rfl) ?_
                refine lv_iload_n S.1 S.2.1 dL_lets_146 rfl (lv_at hl 4 rfl) ?_
                refine lv_iload S.1 S.2.1 dL_lets_147 (lv_at hl 5 rfl) ?_
                refine xk_W (x_runV (As := [.int (nI np), .int (nI nq)]) (rest := []) S hE hS (fun _ h => Or.inl h) (c_X7_release l E B β (nI np) (nI nq) _ hB) kv_X7_release kw20_3 kw20_4 kw20_5 (x_recv hE (hB.1) (ci := 7) rfl) ⟨Nat.le_of_ble_eq_true rfl, Nat.le_of_ble_eq_true rfl⟩ rfl rfl rfl hl.1 rfl (Nat.le_of_ble_eq_true rfl) dL_lets_149 ⟨Nat.zero_le _, Nat.zero_le _⟩) hS (fun _ h => Or.inl h) (fun v H locs hX hO1 hS => ?_)
                have hO := hO.tr hO1 (fun _ h => Or.inl h)
                have hg := va_at.kept hg (hO1.2 a haB)
                have hc := va_at.kept hc (hO1.2 b hbB)
                obtain ⟨hv1, hB⟩ := hX
                subst hv1
                have hR := tr_rl3 hT hC hw (hv.trans (by rw [wt_s hlt, if_pos ⟨h4, e09⟩]))
                refine x_top (y := (nI i)) hR.1 ?_
                refine lv_iload S.1 S.2.1 dL_lets_152 (lv_at hl 0 rfl) ?_
                refine lv_icmp_ne (tgt := 161) S.1 S.2.1 dL_lets_154 rfl (fun h6 => ?_) (fun h6 => ?_)
                · exact absurd rfl h6
                · skip
                  refine lv_iconst (v := (nI 1)) S.1 S.2.1 dL_lets_157 (by decide) ?_
                  refine lv_goto (tgt := 162) S.1 S.2.1 dL_lets_158 rfl ?_
                  subst hQ
                  refine x_retW S hr hlk (by first | rfl | decide | exact bI_nar _) hS hO ?_ dL_lets_162
                  exact ⟨rfl, n, _, _, hB, ⟨hg, κ, hc, hU⟩, hR.2⟩
      exact hloop92 _ 0 _ _ ls rfl (Nat.zero_le _) (rfl) (hB) (hg) (hc) (hO) (hS) (lv_sub hl [0, 2, 3, 4, 5, 6] rfl)
    · exact absurd h1 (by decide)
  · rw [hv1] at hl
    have hl : lv_has ls 7 [(5, .int (nI j1)), (0, .ref B), (1, .ref a), (2, .ref b), (3, .int (nI np)), (4, .int (nI nq))] := hl
    have j1b := lwV_lt hv1
    refine lv_iload S.1 S.2.1 dL_lets_10 (lv_at hl 0 rfl) ?_
    refine lv_if_lt (tgt := 89) S.1 S.2.1 dL_lets_12 rfl (fun h7 => ?_) (fun h7 => ?_)
    · exact absurd h7 (nI_pos (by omega))
    · skip
      refine lv_aload_n S.1 S.2.1 dL_lets_15 rfl (lv_at hl 3 rfl) ?_
      refine lv_iload S.1 S.2.1 dL_lets_16 (lv_at hl 0 rfl) ?_
      refine x_lald S hE hEL (hc) j1 rfl (by omega) (by decide) dL_lets_18 ?_
      refine xk_R (v := (fld 3 (κ j1))) (x_runS (As := [.long (κ j1)]) (rest := []) S hE hS (fun _ h => h.elim) (c_L_is l E (κ j1) _) kv_L_is kw7_9 kw7_10 ⟨Nat.le_of_ble_eq_true rfl, Nat.le_of_ble_eq_true rfl⟩ rfl rfl rfl hl.1 rfl (Nat.le_of_ble_eq_true rfl) dL_lets_19 ⟨Nat.zero_le _, Nat.zero_le _⟩) ?_
      refine x_top (y := (nf σ j1 3)) ((hU j1 3 (by omega) (by decide)).symm) ?_
      refine lv_iconst (v := (nI 4)) S.1 S.2.1 dL_lets_22 (by decide) ?_
      refine lv_icmp_ge (tgt := 89) S.1 S.2.1 dL_lets_23 rfl (fun h8 => ?_) (fun h8 => ?_)
      · skip
        have hw := rl_w hT hnp hnq (Or.inr ⟨j1, hv1, Or.inl (fun z => z (ge4 (lwV_pl hv1) h8))⟩)
        refine lv_iconst (v := (nI 0)) S.1 S.2.1 dL_lets_89 (by decide) ?_
        refine lv_istore S.1 S.2.1 dL_lets_90 hl (by decide) rfl (fun ls hl => ?_)
        have hl : lv_has ls 7 [(6, .int (nI 0)), (5, .int (nI j1)), (0, .ref B), (1, .ref a), (2, .ref b), (3, .int (nI np)), (4, .int (nI nq))] := hl
        have hloop92 : ∀ (d : Nat) (i : Nat) (H : Heap) (locs : List Loc) (ls : Array Slot), n - i = d → i ≤ n → rfWt σ (nI np) (nI nq) n 0 = rfWt σ (nI np) (nI nq) (n - i) i → BoxP E B β H → XI E a 9 σ H → XL E b 64 κ H → Out (fun q => bk B 118 q ∨ (q = a ∨ q = b)) s.heap H → va_S (fun q => bk B 118 q ∨ (q = a ∨ q = b)) s.heap H locs → lv_has ls 7 [(6, .int (nI i)), (0, .ref B), (1, .ref a), (2, .ref b), (3, .int (nI np)), (4, .int (nI nq))] → W p l e rm_L_lets s m args below meth c H locs 0 0 Q (F0 m 92 ls []) := by
          intro d
          induction d using Nat.strongRecOn with
          | ind d ih =>
            intro i H locs ls hd hi hv hB hg hc hO hS hl
            refine lv_iload S.1 S.2.1 dL_lets_92 (lv_at hl 0 rfl) ?_
            refine lv_aload_n S.1 S.2.1 dL_lets_94 rfl (lv_at hl 2 rfl) ?_
            refine lv_iconst (v := (nI 0)) S.1 S.2.1 dL_lets_95 (by decide) ?_
            refine x_iald S hE (hg) 0 rfl (by decide) (by decide) dL_lets_96 ?_
            refine x_top (y := (nI n)) (h0) ?_
            refine lv_icmp_ge (tgt := 169) S.1 S.2.1 dL_lets_97 rfl (fun h9 => ?_) (fun h9 => ?_)
            · skip
              refine lv_aload_n S.1 S.2.1 dL_lets_169 rfl (lv_at hl 1 rfl) ?_
              refine lv_iload_n S.1 S.2.1 dL_lets_170 rfl (lv_at hl 4 rfl) ?_
              refine lv_iload S.1 S.2.1 dL_lets_171 (lv_at hl 5 rfl) ?_
              refine xk_W (x_runV (As := [.int (nI np), .int (nI nq)]) (rest := []) S hE hS (fun _ h => Or.inl h) (c_X7_release l E B β (nI np) (nI nq) _ hB) kv_X7_release kw20_3 kw20_4 kw20_5 (x_recv hE (hB.1) (ci := 7) rfl) ⟨Nat.le_of_ble_eq_true rfl, Nat.le_of_ble_eq_true rfl⟩ rfl rfl rfl hl.1 rfl (Nat.le_of_ble_eq_true rfl) dL_lets_173 ⟨Nat.zero_le _, Nat.zero_le _⟩) hS (fun _ h => Or.inl h) (fun v H locs hX hO1 hS => ?_)
              have hO := hO.tr hO1 (fun _ h => Or.inl h)
              have hg := va_at.kept hg (hO1.2 a haB)
              have hc := va_at.kept hc (hO1.2 b hbB)
              obtain ⟨hv1, hB⟩ := hX
              subst hv1
              have hR := tr_rl4 hT hw (hv.trans (by rw [show n - i = 0 from (by have := ge_of_le (by omega) (by omega) h9; omega)]; rfl))
              refine x_top (y := (-2)) hR.1 ?_
              refine lv_bipush (v := (-2)) S.1 S.2.1 dL_lets_176 (by decide) ?_
              refine lv_icmp_ne (tgt := 185) S.1 S.2.1 dL_lets_178 rfl (fun h10 => ?_) (fun h10 => ?_)
              · exact absurd h10 (by decide)
              · skip
                refine lv_iconst (v := (nI 1)) S.1 S.2.1 dL_lets_181 (by decide) ?_
                refine lv_goto (tgt := 186) S.1 S.2.1 dL_lets_182 rfl ?_
                subst hQ
                refine x_retW S hr hlk (by first | rfl | decide | exact bI_nar _) hS hO ?_ dL_lets_186
                exact ⟨rfl, n, _, _, hB, ⟨hg, κ, hc, hU⟩, hR.2⟩
            · skip
              have hlt := lt_of_nle (by omega) (by omega) h9
              refine lv_aload_n S.1 S.2.1 dL_lets_100 rfl (lv_at hl 3 rfl) ?_
              refine lv_iload S.1 S.2.1 dL_lets_101 (lv_at hl 0 rfl) ?_
              refine x_lald S hE hEL (hc) i rfl (by omega) (by decide) dL_lets_103 ?_
              refine xk_R (v := (fld 3 (κ i))) (x_runS (As := [.long (κ i)]) (rest := []) S hE hS (fun _ h => h.elim) (c_L_is l E (κ i) _) kv_L_is kw7_9 kw7_10 ⟨Nat.le_of_ble_eq_true rfl, Nat.le_of_ble_eq_true rfl⟩ rfl rfl rfl hl.1 rfl (Nat.le_of_ble_eq_true rfl) dL_lets_104 ⟨Nat.zero_le _, Nat.zero_le _⟩) ?_
              refine x_top (y := (nf σ i 3)) ((hU i 3 (by omega) (by decide)).symm) ?_
              refine lv_if_ne (tgt := 163) S.1 S.2.1 dL_lets_107 rfl (fun h11 => ?_) (fun h11 => ?_)
              · skip
                refine lv_iinc (k := 0) (v := (nI (i + 1))) S.1 S.2.1 dL_lets_163 hl rfl (iincP i 1) (by decide) rfl (fun ls hl => ?_)
                have hl : lv_has ls 7 [(6, .int (nI (i + 1))), (0, .ref B), (1, .ref a), (2, .ref b), (3, .int (nI np)), (4, .int (nI nq))] := hl
                refine lv_goto (tgt := 92) S.1 S.2.1 dL_lets_166 rfl ?_
                exact ih _ (by omega) (i + 1) _ _ ls rfl (by omega) (by rw [hv, wt_s hlt, if_neg (fun z => h11 z.1)]) (hB) (hg) (hc) (hO) (hS) (lv_sub hl [0, 1, 2, 3, 4, 5] rfl)
              · skip
                refine lv_aload_n S.1 S.2.1 dL_lets_110 rfl (lv_at hl 3 rfl) ?_
                refine lv_iload S.1 S.2.1 dL_lets_111 (lv_at hl 0 rfl) ?_
                refine x_lald S hE hEL (hc) i rfl (by omega) (by decide) dL_lets_113 ?_
                refine lv_iconst (v := (nI 0)) S.1 S.2.1 dL_lets_114 (by decide) ?_
                refine lv_bipush (v := (nI 9)) S.1 S.2.1 dL_lets_115 (by decide) ?_
                refine xk_R (v := (lwG (κ i) (nI 0) (nI 9))) (x_runS (As := [.long (κ i), .int (nI 0), .int (nI 9)]) (rest := []) S hE hS (fun _ h => h.elim) (c_L_get l E (κ i) (nI 0) (nI 9) _) kv_L_get kw7_12 kw7_13 ⟨Nat.le_of_ble_eq_true rfl, Nat.le_of_ble_eq_true rfl⟩ rfl rfl rfl hl.1 rfl (Nat.le_of_ble_eq_true rfl) dL_lets_117 ⟨Nat.zero_le _, Nat.zero_le _⟩) ?_
                refine x_top (y := (nI (fvN (κ i) 0 9))) (lwG_eq _ (by decide) (by decide)) ?_
                refine lv_iload_n S.1 S.2.1 dL_lets_120 rfl (lv_at hl 4 rfl) ?_
                refine lv_iconst (v := (nI 4)) S.1 S.2.1 dL_lets_121 (by decide) ?_
                refine lv_iload S.1 S.2.1 dL_lets_122 (lv_at hl 5 rfl) ?_
                refine lv_imul S.1 S.2.1 dL_lets_124 ?_
                refine x_top (y := (nI (4 * nq))) (pk_mul 4 nq) ?_
                refine lv_iadd S.1 S.2.1 dL_lets_125 ?_
                refine x_top (y := (nI (np + (4 * nq)))) (nI_add np (4 * nq)) ?_
                refine lv_icmp_ne (tgt := 163) S.1 S.2.1 dL_lets_126 rfl (fun h12 => ?_) (fun h12 => ?_)
                · skip
                  have e09 : ¬ (nf σ i 0 = nI np ∧ nf σ i 1 = nI nq) := fun z => h12 ((fld_09e hnp (by omega)).mpr ⟨(hU i 0 (by omega) (by decide)).symm.trans z.1, (hU i 1 (by omega) (by decide)).symm.trans z.2⟩)
                  refine lv_iinc (k := 0) (v := (nI (i + 1))) S.1 S.2.1 dL_lets_163 hl rfl (iincP i 1) (by decide) rfl (fun ls hl => ?_)
                  have hl : lv_has ls 7 [(6, .int (nI (i + 1))), (0, .ref B), (1, .ref a), (2, .ref b), (3, .int (nI np)), (4, .int (nI nq))] := hl
                  refine lv_goto (tgt := 92) S.1 S.2.1 dL_lets_166 rfl ?_
                  exact ih _ (by omega) (i + 1) _ _ ls rfl (by omega) (by rw [hv, wt_s hlt, if_neg (fun z => e09 z.2)]) (hB) (hg) (hc) (hO) (hS) (lv_sub hl [0, 1, 2, 3, 4, 5] rfl)
                · skip
                  have e09 := (fld_09e hnp (by omega)).mp h12
                  have e09 : nf σ i 0 = nI np ∧ nf σ i 1 = nI nq := ⟨(hU i 0 (by omega) (by decide)).trans e09.1, (hU i 1 (by omega) (by decide)).trans e09.2⟩
                  refine lv_aload_n S.1 S.2.1 dL_lets_129 rfl (lv_at hl 3 rfl) ?_
                  refine lv_iload S.1 S.2.1 dL_lets_130 (lv_at hl 0 rfl) ?_
                  refine lv_aload_n S.1 S.2.1 dL_lets_132 rfl (lv_at hl 3 rfl) ?_
                  refine lv_iload S.1 S.2.1 dL_lets_133 (lv_at hl 0 rfl) ?_
                  refine x_lald S hE hEL (hc) i rfl (by omega) (by decide) dL_lets_135 ?_
                  refine lv_bipush (v := (nI 16)) S.1 S.2.1 dL_lets_136 (by decide) ?_
                  refine lv_iconst (v := (nI 3)) S.1 S.2.1 dL_lets_138 (by decide) ?_
                  refine lv_bipush (v := (nI 6)) S.1 S.2.1 dL_lets_139 (by decide) ?_
                  refine xk_L (v := (lwP (κ i) (nI 16) (nI 3) (nI 6))) (x_runS (As := [.long (κ i), .int (nI 16), .int (nI 3), .int (nI 6)]) (rest := [.int (nI i), .ref b]) S hE hS (fun _ h => h.elim) (c_L_put l E (κ i) (nI 16) (nI 3) (nI 6) _) kv_L_put kw16_14 kw16_15 ⟨Nat.le_of_ble_eq_true rfl, Nat.le_of_ble_eq_true rfl⟩ rfl rfl rfl hl.1 rfl (Nat.le_of_ble_eq_true rfl) dL_lets_141 ⟨Nat.zero_le _, Nat.zero_le _⟩) ?_
                  refine x_topl (y := (fput 3 6 (κ i))) (rfl) ?_
                  refine x_last S hE hEL hS (Or.inr (Or.inr rfl)) (hc) i rfl (by omega) (by decide) dL_lets_144 (fun H locs hX hO1 hS => ?_)
                  have hO := hO.tr hO1 (fun q z => Or.inr (Or.inr z))
                  have hg := va_at.kept hg (hO1.2 a hab)
                  have hB := hB.fr (fun q z => hO1.2 q (a_B hbB z))
                  have hg : XI E a 9 (nset σ i 3 (nI 6)) H := xi_ext hg (fun j hj => (nset_lo (by omega)).symm)
                  obtain ⟨κ, hc, hU⟩ : LcP E b (nset σ i 3 (nI 6)) H := ⟨_, hX, n6_U hU (by omega) (by decide) (by decide)⟩
                  refine lv_aload_n S.1 S.2.1 dL_lets_145 rfl (lv_at hl 1 rfl) ?_
                  refine lv_iload_n S.1 S.2.1 dL_lets_146 rfl (lv_at hl 4 rfl) ?_
                  refine lv_iload S.1 S.2.1 dL_lets_147 (lv_at hl 5 rfl) ?_
                  refine xk_W (x_runV (As := [.int (nI np), .int (nI nq)]) (rest := []) S hE hS (fun _ h => Or.inl h) (c_X7_release l E B β (nI np) (nI nq) _ hB) kv_X7_release kw20_3 kw20_4 kw20_5 (x_recv hE (hB.1) (ci := 7) rfl) ⟨Nat.le_of_ble_eq_true rfl, Nat.le_of_ble_eq_true rfl⟩ rfl rfl rfl hl.1 rfl (Nat.le_of_ble_eq_true rfl) dL_lets_149 ⟨Nat.zero_le _, Nat.zero_le _⟩) hS (fun _ h => Or.inl h) (fun v H locs hX hO1 hS => ?_)
                  have hO := hO.tr hO1 (fun _ h => Or.inl h)
                  have hg := va_at.kept hg (hO1.2 a haB)
                  have hc := va_at.kept hc (hO1.2 b hbB)
                  obtain ⟨hv1, hB⟩ := hX
                  subst hv1
                  have hR := tr_rl3 hT hC hw (hv.trans (by rw [wt_s hlt, if_pos ⟨h11, e09⟩]))
                  refine x_top (y := (nI i)) hR.1 ?_
                  refine lv_iload S.1 S.2.1 dL_lets_152 (lv_at hl 0 rfl) ?_
                  refine lv_icmp_ne (tgt := 161) S.1 S.2.1 dL_lets_154 rfl (fun h13 => ?_) (fun h13 => ?_)
                  · exact absurd rfl h13
                  · skip
                    refine lv_iconst (v := (nI 1)) S.1 S.2.1 dL_lets_157 (by decide) ?_
                    refine lv_goto (tgt := 162) S.1 S.2.1 dL_lets_158 rfl ?_
                    subst hQ
                    refine x_retW S hr hlk (by first | rfl | decide | exact bI_nar _) hS hO ?_ dL_lets_162
                    exact ⟨rfl, n, _, _, hB, ⟨hg, κ, hc, hU⟩, hR.2⟩
        exact hloop92 _ 0 _ _ ls rfl (Nat.zero_le _) (rfl) (hB) (hg) (hc) (hO) (hS) (lv_sub hl [0, 2, 3, 4, 5, 6] rfl)
      · skip
        refine lv_aload_n S.1 S.2.1 dL_lets_26 rfl (lv_at hl 3 rfl) ?_
        refine lv_iload S.1 S.2.1 dL_lets_27 (lv_at hl 0 rfl) ?_
        refine x_lald S hE hEL (hc) j1 rfl (by omega) (by decide) dL_lets_29 ?_
        refine lv_bipush (v := (nI 41)) S.1 S.2.1 dL_lets_30 (by decide) ?_
        refine lv_iconst (v := (nI 1)) S.1 S.2.1 dL_lets_32 (by decide) ?_
        refine xk_R (v := (lwG (κ j1) (nI 41) (nI 1))) (x_runS (As := [.long (κ j1), .int (nI 41), .int (nI 1)]) (rest := []) S hE hS (fun _ h => h.elim) (c_L_get l E (κ j1) (nI 41) (nI 1) _) kv_L_get kw7_12 kw7_13 ⟨Nat.le_of_ble_eq_true rfl, Nat.le_of_ble_eq_true rfl⟩ rfl rfl rfl hl.1 rfl (Nat.le_of_ble_eq_true rfl) dL_lets_33 ⟨Nat.zero_le _, Nat.zero_le _⟩) ?_
        refine x_top (y := (nf σ j1 6)) ((lwG_eq _ (by decide) (by decide)).trans ((hU j1 6 (by omega) (by decide)).symm)) ?_
        refine lv_if_ne (tgt := 89) S.1 S.2.1 dL_lets_36 rfl (fun h14 => ?_) (fun h14 => ?_)
        · skip
          have hw := rl_w hT hnp hnq (Or.inr ⟨j1, hv1, Or.inr h14⟩)
          refine lv_iconst (v := (nI 0)) S.1 S.2.1 dL_lets_89 (by decide) ?_
          refine lv_istore S.1 S.2.1 dL_lets_90 hl (by decide) rfl (fun ls hl => ?_)
          have hl : lv_has ls 7 [(6, .int (nI 0)), (5, .int (nI j1)), (0, .ref B), (1, .ref a), (2, .ref b), (3, .int (nI np)), (4, .int (nI nq))] := hl
          have hloop92 : ∀ (d : Nat) (i : Nat) (H : Heap) (locs : List Loc) (ls : Array Slot), n - i = d → i ≤ n → rfWt σ (nI np) (nI nq) n 0 = rfWt σ (nI np) (nI nq) (n - i) i → BoxP E B β H → XI E a 9 σ H → XL E b 64 κ H → Out (fun q => bk B 118 q ∨ (q = a ∨ q = b)) s.heap H → va_S (fun q => bk B 118 q ∨ (q = a ∨ q = b)) s.heap H locs → lv_has ls 7 [(6, .int (nI i)), (0, .ref B), (1, .ref a), (2, .ref b), (3, .int (nI np)), (4, .int (nI nq))] → W p l e rm_L_lets s m args below meth c H locs 0 0 Q (F0 m 92 ls []) := by
            intro d
            induction d using Nat.strongRecOn with
            | ind d ih =>
              intro i H locs ls hd hi hv hB hg hc hO hS hl
              refine lv_iload S.1 S.2.1 dL_lets_92 (lv_at hl 0 rfl) ?_
              refine lv_aload_n S.1 S.2.1 dL_lets_94 rfl (lv_at hl 2 rfl) ?_
              refine lv_iconst (v := (nI 0)) S.1 S.2.1 dL_lets_95 (by decide) ?_
              refine x_iald S hE (hg) 0 rfl (by decide) (by decide) dL_lets_96 ?_
              refine x_top (y := (nI n)) (h0) ?_
              refine lv_icmp_ge (tgt := 169) S.1 S.2.1 dL_lets_97 rfl (fun h15 => ?_) (fun h15 => ?_)
              · skip
                refine lv_aload_n S.1 S.2.1 dL_lets_169 rfl (lv_at hl 1 rfl) ?_
                refine lv_iload_n S.1 S.2.1 dL_lets_170 rfl (lv_at hl 4 rfl) ?_
                refine lv_iload S.1 S.2.1 dL_lets_171 (lv_at hl 5 rfl) ?_
                refine xk_W (x_runV (As := [.int (nI np), .int (nI nq)]) (rest := []) S hE hS (fun _ h => Or.inl h) (c_X7_release l E B β (nI np) (nI nq) _ hB) kv_X7_release kw20_3 kw20_4 kw20_5 (x_recv hE (hB.1) (ci := 7) rfl) ⟨Nat.le_of_ble_eq_true rfl, Nat.le_of_ble_eq_true rfl⟩ rfl rfl rfl hl.1 rfl (Nat.le_of_ble_eq_true rfl) dL_lets_173 ⟨Nat.zero_le _, Nat.zero_le _⟩) hS (fun _ h => Or.inl h) (fun v H locs hX hO1 hS => ?_)
                have hO := hO.tr hO1 (fun _ h => Or.inl h)
                have hg := va_at.kept hg (hO1.2 a haB)
                have hc := va_at.kept hc (hO1.2 b hbB)
                obtain ⟨hv1, hB⟩ := hX
                subst hv1
                have hR := tr_rl4 hT hw (hv.trans (by rw [show n - i = 0 from (by have := ge_of_le (by omega) (by omega) h15; omega)]; rfl))
                refine x_top (y := (-2)) hR.1 ?_
                refine lv_bipush (v := (-2)) S.1 S.2.1 dL_lets_176 (by decide) ?_
                refine lv_icmp_ne (tgt := 185) S.1 S.2.1 dL_lets_178 rfl (fun h16 => ?_) (fun h16 => ?_)
                · exact absurd h16 (by decide)
                · skip
                  refine lv_iconst (v := (nI 1)) S.1 S.2.1 dL_lets_181 (by decide) ?_
                  refine lv_goto (tgt := 186) S.1 S.2.1 dL_lets_182 rfl ?_
                  subst hQ
                  refine x_retW S hr hlk (by first | rfl | decide | exact bI_nar _) hS hO ?_ dL_lets_186
                  exact ⟨rfl, n, _, _, hB, ⟨hg, κ, hc, hU⟩, hR.2⟩
              · skip
                have hlt := lt_of_nle (by omega) (by omega) h15
                refine lv_aload_n S.1 S.2.1 dL_lets_100 rfl (lv_at hl 3 rfl) ?_
                refine lv_iload S.1 S.2.1 dL_lets_101 (lv_at hl 0 rfl) ?_
                refine x_lald S hE hEL (hc) i rfl (by omega) (by decide) dL_lets_103 ?_
                refine xk_R (v := (fld 3 (κ i))) (x_runS (As := [.long (κ i)]) (rest := []) S hE hS (fun _ h => h.elim) (c_L_is l E (κ i) _) kv_L_is kw7_9 kw7_10 ⟨Nat.le_of_ble_eq_true rfl, Nat.le_of_ble_eq_true rfl⟩ rfl rfl rfl hl.1 rfl (Nat.le_of_ble_eq_true rfl) dL_lets_104 ⟨Nat.zero_le _, Nat.zero_le _⟩) ?_
                refine x_top (y := (nf σ i 3)) ((hU i 3 (by omega) (by decide)).symm) ?_
                refine lv_if_ne (tgt := 163) S.1 S.2.1 dL_lets_107 rfl (fun h17 => ?_) (fun h17 => ?_)
                · skip
                  refine lv_iinc (k := 0) (v := (nI (i + 1))) S.1 S.2.1 dL_lets_163 hl rfl (iincP i 1) (by decide) rfl (fun ls hl => ?_)
                  have hl : lv_has ls 7 [(6, .int (nI (i + 1))), (0, .ref B), (1, .ref a), (2, .ref b), (3, .int (nI np)), (4, .int (nI nq))] := hl
                  refine lv_goto (tgt := 92) S.1 S.2.1 dL_lets_166 rfl ?_
                  exact ih _ (by omega) (i + 1) _ _ ls rfl (by omega) (by rw [hv, wt_s hlt, if_neg (fun z => h17 z.1)]) (hB) (hg) (hc) (hO) (hS) (lv_sub hl [0, 1, 2, 3, 4, 5] rfl)
                · skip
                  refine lv_aload_n S.1 S.2.1 dL_lets_110 rfl (lv_at hl 3 rfl) ?_
                  refine lv_iload S.1 S.2.1 dL_lets_111 (lv_at hl 0 rfl) ?_
                  refine x_lald S hE hEL (hc) i rfl (by omega) (by decide) dL_lets_113 ?_
                  refine lv_iconst (v := (nI 0)) S.1 S.2.1 dL_lets_114 (by decide) ?_
                  refine lv_bipush (v := (nI 9)) S.1 S.2.1 dL_lets_115 (by decide) ?_
                  refine xk_R (v := (lwG (κ i) (nI 0) (nI 9))) (x_runS (As := [.long (κ i), .int (nI 0), .int (nI 9)]) (rest := []) S hE hS (fun _ h => h.elim) (c_L_get l E (κ i) (nI 0) (nI 9) _) kv_L_get kw7_12 kw7_13 ⟨Nat.le_of_ble_eq_true rfl, Nat.le_of_ble_eq_true rfl⟩ rfl rfl rfl hl.1 rfl (Nat.le_of_ble_eq_true rfl) dL_lets_117 ⟨Nat.zero_le _, Nat.zero_le _⟩) ?_
                  refine x_top (y := (nI (fvN (κ i) 0 9))) (lwG_eq _ (by decide) (by decide)) ?_
                  refine lv_iload_n S.1 S.2.1 dL_lets_120 rfl (lv_at hl 4 rfl) ?_
                  refine lv_iconst (v := (nI 4)) S.1 S.2.1 dL_lets_121 (by decide) ?_
                  refine lv_iload S.1 S.2.1 dL_lets_122 (lv_at hl 5 rfl) ?_
                  refine lv_imul S.1 S.2.1 dL_lets_124 ?_
                  refine x_top (y := (nI (4 * nq))) (pk_mul 4 nq) ?_
                  refine lv_iadd S.1 S.2.1 dL_lets_125 ?_
                  refine x_top (y := (nI (np + (4 * nq)))) (nI_add np (4 * nq)) ?_
                  refine lv_icmp_ne (tgt := 163) S.1 S.2.1 dL_lets_126 rfl (fun h18 => ?_) (fun h18 => ?_)
                  · skip
                    have e09 : ¬ (nf σ i 0 = nI np ∧ nf σ i 1 = nI nq) := fun z => h18 ((fld_09e hnp (by omega)).mpr ⟨(hU i 0 (by omega) (by decide)).symm.trans z.1, (hU i 1 (by omega) (by decide)).symm.trans z.2⟩)
                    refine lv_iinc (k := 0) (v := (nI (i + 1))) S.1 S.2.1 dL_lets_163 hl rfl (iincP i 1) (by decide) rfl (fun ls hl => ?_)
                    have hl : lv_has ls 7 [(6, .int (nI (i + 1))), (0, .ref B), (1, .ref a), (2, .ref b), (3, .int (nI np)), (4, .int (nI nq))] := hl
                    refine lv_goto (tgt := 92) S.1 S.2.1 dL_lets_166 rfl ?_
                    exact ih _ (by omega) (i + 1) _ _ ls rfl (by omega) (by rw [hv, wt_s hlt, if_neg (fun z => e09 z.2)]) (hB) (hg) (hc) (hO) (hS) (lv_sub hl [0, 1, 2, 3, 4, 5] rfl)
                  · skip
                    have e09 := (fld_09e hnp (by omega)).mp h18
                    have e09 : nf σ i 0 = nI np ∧ nf σ i 1 = nI nq := ⟨(hU i 0 (by omega) (by decide)).trans e09.1, (hU i 1 (by omega) (by decide)).trans e09.2⟩
                    refine lv_aload_n S.1 S.2.1 dL_lets_129 rfl (lv_at hl 3 rfl) ?_
                    refine lv_iload S.1 S.2.1 dL_lets_130 (lv_at hl 0 rfl) ?_
                    refine lv_aload_n S.1 S.2.1 dL_lets_132 rfl (lv_at hl 3 rfl) ?_
                    refine lv_iload S.1 S.2.1 dL_lets_133 (lv_at hl 0 rfl) ?_
                    refine x_lald S hE hEL (hc) i rfl (by omega) (by decide) dL_lets_135 ?_
                    refine lv_bipush (v := (nI 16)) S.1 S.2.1 dL_lets_136 (by decide) ?_
                    refine lv_iconst (v := (nI 3)) S.1 S.2.1 dL_lets_138 (by decide) ?_
                    refine lv_bipush (v := (nI 6)) S.1 S.2.1 dL_lets_139 (by decide) ?_
                    refine xk_L (v := (lwP (κ i) (nI 16) (nI 3) (nI 6))) (x_runS (As := [.long (κ i), .int (nI 16), .int (nI 3), .int (nI 6)]) (rest := [.int (nI i), .ref b]) S hE hS (fun _ h => h.elim) (c_L_put l E (κ i) (nI 16) (nI 3) (nI 6) _) kv_L_put kw16_14 kw16_15 ⟨Nat.le_of_ble_eq_true rfl, Nat.le_of_ble_eq_true rfl⟩ rfl rfl rfl hl.1 rfl (Nat.le_of_ble_eq_true rfl) dL_lets_141 ⟨Nat.zero_le _, Nat.zero_le _⟩) ?_
                    refine x_topl (y := (fput 3 6 (κ i))) (rfl) ?_
                    refine x_last S hE hEL hS (Or.inr (Or.inr rfl)) (hc) i rfl (by omega) (by decide) dL_lets_144 (fun H locs hX hO1 hS => ?_)
                    have hO := hO.tr hO1 (fun q z => Or.inr (Or.inr z))
                    have hg := va_at.kept hg (hO1.2 a hab)
                    have hB := hB.fr (fun q z => hO1.2 q (a_B hbB z))
                    have hg : XI E a 9 (nset σ i 3 (nI 6)) H := xi_ext hg (fun j hj => (nset_lo (by omega)).symm)
                    obtain ⟨κ, hc, hU⟩ : LcP E b (nset σ i 3 (nI 6)) H := ⟨_, hX, n6_U hU (by omega) (by decide) (by decide)⟩
                    refine lv_aload_n S.1 S.2.1 dL_lets_145 rfl (lv_at hl 1 rfl) ?_
                    refine lv_iload_n S.1 S.2.1 dL_lets_146 rfl (lv_at hl 4 rfl) ?_
                    refine lv_iload S.1 S.2.1 dL_lets_147 (lv_at hl 5 rfl) ?_
                    refine xk_W (x_runV (As := [.int (nI np), .int (nI nq)]) (rest := []) S hE hS (fun _ h => Or.inl h) (c_X7_release l E B β (nI np) (nI nq) _ hB) kv_X7_release kw20_3 kw20_4 kw20_5 (x_recv hE (hB.1) (ci := 7) rfl) ⟨Nat.le_of_ble_eq_true rfl, Nat.le_of_ble_eq_true rfl⟩ rfl rfl rfl hl.1 rfl (Nat.le_of_ble_eq_true rfl) dL_lets_149 ⟨Nat.zero_le _, Nat.zero_le _⟩) hS (fun _ h => Or.inl h) (fun v H locs hX hO1 hS => ?_)
                    have hO := hO.tr hO1 (fun _ h => Or.inl h)
                    have hg := va_at.kept hg (hO1.2 a haB)
                    have hc := va_at.kept hc (hO1.2 b hbB)
                    obtain ⟨hv1, hB⟩ := hX
                    subst hv1
                    have hR := tr_rl3 hT hC hw (hv.trans (by rw [wt_s hlt, if_pos ⟨h17, e09⟩]))
                    refine x_top (y := (nI i)) hR.1 ?_
                    refine lv_iload S.1 S.2.1 dL_lets_152 (lv_at hl 0 rfl) ?_
                    refine lv_icmp_ne (tgt := 161) S.1 S.2.1 dL_lets_154 rfl (fun h19 => ?_) (fun h19 => ?_)
                    · exact absurd rfl h19
                    · skip
                      refine lv_iconst (v := (nI 1)) S.1 S.2.1 dL_lets_157 (by decide) ?_
                      refine lv_goto (tgt := 162) S.1 S.2.1 dL_lets_158 rfl ?_
                      subst hQ
                      refine x_retW S hr hlk (by first | rfl | decide | exact bI_nar _) hS hO ?_ dL_lets_162
                      exact ⟨rfl, n, _, _, hB, ⟨hg, κ, hc, hU⟩, hR.2⟩
          exact hloop92 _ 0 _ _ ls rfl (Nat.zero_le _) (rfl) (hB) (hg) (hc) (hO) (hS) (lv_sub hl [0, 2, 3, 4, 5, 6] rfl)
        · skip
          refine lv_aload_n S.1 S.2.1 dL_lets_39 rfl (lv_at hl 2 rfl) ?_
          refine lv_iconst (v := (nI 2)) S.1 S.2.1 dL_lets_40 (by decide) ?_
          refine x_iald S hE (hg) 2 rfl (by decide) (by decide) dL_lets_41 ?_
          refine lv_iconst (v := (nI 1)) S.1 S.2.1 dL_lets_42 (by decide) ?_
          refine lv_icmp_ne (tgt := 64) S.1 S.2.1 dL_lets_43 rfl (fun h20 => ?_) (fun h20 => ?_)
          · skip
            refine lv_aload_n S.1 S.2.1 dL_lets_64 rfl (lv_at hl 3 rfl) ?_
            refine lv_iload S.1 S.2.1 dL_lets_65 (lv_at hl 0 rfl) ?_
            refine lv_iconst (v := (nI 4)) S.1 S.2.1 dL_lets_67 (by decide) ?_
            refine xk_V (x_runS (As := [.ref b, .int (nI j1), .int (nI 4)]) (rest := []) S hE hS (fun _ h => Or.inr (Or.inr h)) (c_L_fades l E b j1 4 σ _ hEL ⟨κ, hc, hU⟩ (by omega) (by decide)) kv_L_fades kw19_21 kw19_22 ⟨Nat.le_of_ble_eq_true rfl, Nat.le_of_ble_eq_true rfl⟩ rfl rfl rfl hl.1 rfl (Nat.le_of_ble_eq_true rfl) dL_lets_68 ⟨Nat.zero_le _, Nat.zero_le _⟩) hS (fun _ h => Or.inr (Or.inr h)) (fun H locs hX hO1 hS => ?_)
            have hO := hO.tr hO1 (fun q z => Or.inr (Or.inr z))
            have hB := hB.fr (fun q z => hO1.2 q (a_B hbB z))
            have hg := va_at.kept hg (hO1.2 a hab)
            have hg : XI E a 9 (lwFd σ j1 (nI 4)) H := xi_ext hg (fun i hi => (fe_lo (by omega)).symm)
            obtain ⟨κ, hc, hU⟩ := hX
            refine lv_aload_n S.1 S.2.1 dL_lets_71 rfl (lv_at hl 1 rfl) ?_
            refine lv_iload_n S.1 S.2.1 dL_lets_72 rfl (lv_at hl 4 rfl) ?_
            refine lv_iload S.1 S.2.1 dL_lets_73 (lv_at hl 5 rfl) ?_
            refine xk_W (x_runV (As := [.int (nI np), .int (nI nq)]) (rest := []) S hE hS (fun _ h => Or.inl h) (c_X7_release l E B β (nI np) (nI nq) _ hB) kv_X7_release kw20_3 kw20_4 kw20_5 (x_recv hE (hB.1) (ci := 7) rfl) ⟨Nat.le_of_ble_eq_true rfl, Nat.le_of_ble_eq_true rfl⟩ rfl rfl rfl hl.1 rfl (Nat.le_of_ble_eq_true rfl) dL_lets_75 ⟨Nat.zero_le _, Nat.zero_le _⟩) hS (fun _ h => Or.inl h) (fun v H locs hX hO1 hS => ?_)
            have hO := hO.tr hO1 (fun _ h => Or.inl h)
            have hg := va_at.kept hg (hO1.2 a haB)
            have hc := va_at.kept hc (hO1.2 b hbB)
            obtain ⟨hv1, hB⟩ := hX
            subst hv1
            have hR := tr_rl2 hT hC hnp hnq hv1 (fun z => h8 (by rw [z]; exact Int32.le_refl _)) h14 h20
            refine x_top (y := (nI j1)) hR.1 ?_
            refine lv_iload S.1 S.2.1 dL_lets_78 (lv_at hl 0 rfl) ?_
            refine lv_icmp_ne (tgt := 87) S.1 S.2.1 dL_lets_80 rfl (fun h21 => ?_) (fun h21 => ?_)
            · exact absurd rfl h21
            · skip
              refine lv_iconst (v := (nI 1)) S.1 S.2.1 dL_lets_83 (by decide) ?_
              refine lv_goto (tgt := 88) S.1 S.2.1 dL_lets_84 rfl ?_
              subst hQ
              refine x_retW S hr hlk (by first | rfl | decide | exact bI_nar _) hS hO ?_ dL_lets_88
              exact ⟨rfl, n, _, _, hB, ⟨hg, κ, hc, hU⟩, hR.2⟩
          · skip
            refine lv_aload_n S.1 S.2.1 dL_lets_46 rfl (lv_at hl 3 rfl) ?_
            refine lv_iload S.1 S.2.1 dL_lets_47 (lv_at hl 0 rfl) ?_
            refine lv_aload_n S.1 S.2.1 dL_lets_49 rfl (lv_at hl 3 rfl) ?_
            refine lv_iload S.1 S.2.1 dL_lets_50 (lv_at hl 0 rfl) ?_
            refine x_lald S hE hEL (hc) j1 rfl (by omega) (by decide) dL_lets_52 ?_
            refine lv_bipush (v := (nI 41)) S.1 S.2.1 dL_lets_53 (by decide) ?_
            refine lv_iconst (v := (nI 1)) S.1 S.2.1 dL_lets_55 (by decide) ?_
            refine lv_iconst (v := (nI 1)) S.1 S.2.1 dL_lets_56 (by decide) ?_
            refine xk_L (v := (lwP (κ j1) (nI 41) (nI 1) (nI 1))) (x_runS (As := [.long (κ j1), .int (nI 41), .int (nI 1), .int (nI 1)]) (rest := [.int (nI j1), .ref b]) S hE hS (fun _ h => h.elim) (c_L_put l E (κ j1) (nI 41) (nI 1) (nI 1) _) kv_L_put kw16_14 kw16_15 ⟨Nat.le_of_ble_eq_true rfl, Nat.le_of_ble_eq_true rfl⟩ rfl rfl rfl hl.1 rfl (Nat.le_of_ble_eq_true rfl) dL_lets_57 ⟨Nat.zero_le _, Nat.zero_le _⟩) ?_
            refine x_topl (y := (fput 6 1 (κ j1))) (rfl) ?_
            refine x_last S hE hEL hS (Or.inr (Or.inr rfl)) (hc) j1 rfl (by omega) (by decide) dL_lets_60 (fun H locs hX hO1 hS => ?_)
            have hO := hO.tr hO1 (fun q z => Or.inr (Or.inr z))
            have hg := va_at.kept hg (hO1.2 a hab)
            have hB := hB.fr (fun q z => hO1.2 q (a_B hbB z))
            have hg : XI E a 9 (nset σ j1 6 (nI 1)) H := xi_ext hg (fun j hj => (nset_lo (by omega)).symm)
            obtain ⟨κ, hc, hU⟩ : LcP E b (nset σ j1 6 (nI 1)) H := ⟨_, hX, n6_U hU (by omega) (by decide) (by decide)⟩
            refine lv_goto (tgt := 71) S.1 S.2.1 dL_lets_61 rfl ?_
            refine lv_aload_n S.1 S.2.1 dL_lets_71 rfl (lv_at hl 1 rfl) ?_
            refine lv_iload_n S.1 S.2.1 dL_lets_72 rfl (lv_at hl 4 rfl) ?_
            refine lv_iload S.1 S.2.1 dL_lets_73 (lv_at hl 5 rfl) ?_
            refine xk_W (x_runV (As := [.int (nI np), .int (nI nq)]) (rest := []) S hE hS (fun _ h => Or.inl h) (c_X7_release l E B β (nI np) (nI nq) _ hB) kv_X7_release kw20_3 kw20_4 kw20_5 (x_recv hE (hB.1) (ci := 7) rfl) ⟨Nat.le_of_ble_eq_true rfl, Nat.le_of_ble_eq_true rfl⟩ rfl rfl rfl hl.1 rfl (Nat.le_of_ble_eq_true rfl) dL_lets_75 ⟨Nat.zero_le _, Nat.zero_le _⟩) hS (fun _ h => Or.inl h) (fun v H locs hX hO1 hS => ?_)
            have hO := hO.tr hO1 (fun _ h => Or.inl h)
            have hg := va_at.kept hg (hO1.2 a haB)
            have hc := va_at.kept hc (hO1.2 b hbB)
            obtain ⟨hv1, hB⟩ := hX
            subst hv1
            have hR := tr_rl1 hT hC hnp hnq hv1 (fun z => h8 (by rw [z]; exact Int32.le_refl _)) h14 h20
            refine x_top (y := (nI j1)) hR.1 ?_
            refine lv_iload S.1 S.2.1 dL_lets_78 (lv_at hl 0 rfl) ?_
            refine lv_icmp_ne (tgt := 87) S.1 S.2.1 dL_lets_80 rfl (fun h22 => ?_) (fun h22 => ?_)
            · exact absurd rfl h22
            · skip
              refine lv_iconst (v := (nI 1)) S.1 S.2.1 dL_lets_83 (by decide) ?_
              refine lv_goto (tgt := 88) S.1 S.2.1 dL_lets_84 rfl ?_
              subst hQ
              refine x_retW S hr hlk (by first | rfl | decide | exact bI_nar _) hS hO ?_ dL_lets_88
              exact ⟨rfl, n, _, _, hB, ⟨hg, κ, hc, hU⟩, hR.2⟩
abbrev rm_L_acts : Room := ({ frames := 8, cells := 0, slots := 0, locals := 188 } : Room)
set_option maxRecDepth 100000 in
set_option maxHeartbeats 600000 in
theorem c_L_acts (l : Launch) (E : XE) (B a b C n : Nat) (zz : Int32) (β : BS) (σ : Nat → Int32) (H : Heap) (hEL : EL E) (hD : LD B a b) (hB : BoxP E B β H) (hL : LwP E a b σ H) (hT : TR C n β σ) (hC : C ≤ 60) : Wr l E yL_acts cL_acts 10 (some .boolean) rm_L_acts [.ref B, .ref a, .ref b, .int zz] H (fun q => bk B 118 q ∨ (q = a ∨ q = b)) (fun v H1 => v = nI 1 ∧ TO E B a b (C + 1) H1) := by
  refine met_of (by decide) (Nat.le_of_ble_eq_true rfl) (fun p e s m args below meth c hBD Q hQ ls hl => ?_)
  obtain ⟨S, hr, hlk, hnm, hE, hH⟩ := hBD
  subst hH
  have hl : lv_has ls 10 [(0, .ref B), (1, .ref a), (2, .ref b), (3, .int zz)] := hl
  have hO : Out (fun q => bk B 118 q ∨ (q = a ∨ q = b)) s.heap s.heap := Out.rf
  have hS : va_S (fun q => bk B 118 q ∨ (q = a ∨ q = b)) s.heap s.heap [] := va_S.rf
  obtain ⟨hg, κ, hc, hU⟩ := hL
  obtain ⟨hst, h0, hnC, hNB, hUq, hMK, ⟨sv, h5, hsv⟩, h7⟩ := tr_facts hT
  obtain ⟨hab, haB, hbB⟩ := hD
  have hn : n ≤ 64 := by omega
  refine lv_iload_n S.1 S.2.1 dL_acts_0 rfl (lv_at hl 3 rfl) ?_
  refine lv_iconst (v := (nI 5)) S.1 S.2.1 dL_acts_1 (by decide) ?_
  refine lv_ishr S.1 S.2.1 dL_acts_2 ?_
  refine lv_ldc (v := 10000000) S.1 S.2.1 S.2.2.2.1 (S.2.2.2.2 _ kw16_4) dL_acts_3 ?_
  refine x_top (y := (nI 10000000)) (by decide) ?_
  refine xk_R (v := (lowF (zz >>> ((nI 5) &&& 31)) (nI 10000000))) (x_runS (As := [.int (zz >>> ((nI 5) &&& 31)), .int (nI 10000000)]) (rest := []) S hE hS (fun _ h => h.elim) (c_L_low l E (zz >>> ((nI 5) &&& 31)) (nI 10000000) _ (by decide)) kv_L_low kw15_22 kw15_23 ⟨Nat.le_of_ble_eq_true rfl, Nat.le_of_ble_eq_true rfl⟩ rfl rfl rfl hl.1 rfl (Nat.le_of_ble_eq_true rfl) dL_acts_5 ⟨Nat.zero_le _, Nat.zero_le _⟩) ?_
  obtain ⟨nv, hnv, env⟩ := low_ex (zz >>> ((nI 5) &&& 31)) 10000000 (by decide) (by decide)
  refine x_top (y := (nI nv)) env ?_
  refine lv_istore S.1 S.2.1 dL_acts_8 hl (by decide) rfl (fun ls hl => ?_)
  have hl : lv_has ls 10 [(4, .int (nI nv)), (0, .ref B), (1, .ref a), (2, .ref b), (3, .int zz)] := hl
  refine lv_iload_n S.1 S.2.1 dL_acts_10 rfl (lv_at hl 4 rfl) ?_
  refine lv_bipush (v := (nI 20)) S.1 S.2.1 dL_acts_11 (by decide) ?_
  refine xk_R (v := (lowF zz (nI 20))) (x_runS (As := [.int zz, .int (nI 20)]) (rest := []) S hE hS (fun _ h => h.elim) (c_L_low l E zz (nI 20) _ (by decide)) kv_L_low kw15_22 kw15_23 ⟨Nat.le_of_ble_eq_true rfl, Nat.le_of_ble_eq_true rfl⟩ rfl rfl rfl hl.1 rfl (Nat.le_of_ble_eq_true rfl) dL_acts_13 ⟨Nat.zero_le _, Nat.zero_le _⟩) ?_
  obtain ⟨nw, hnw, enw⟩ := low_ex zz 20 (by decide) (by decide)
  refine x_top (y := (nI nw)) enw ?_
  refine lv_istore S.1 S.2.1 dL_acts_16 hl (by decide) rfl (fun ls hl => ?_)
  have hl : lv_has ls 10 [(5, .int (nI nw)), (4, .int (nI nv)), (0, .ref B), (1, .ref a), (2, .ref b), (3, .int zz)] := hl
  refine lv_iload S.1 S.2.1 dL_acts_18 (lv_at hl 1 rfl) ?_
  refine lv_iconst (v := (nI 4)) S.1 S.2.1 dL_acts_20 (by decide) ?_
  refine lv_irem S.1 S.2.1 dL_acts_21 (by decide) ?_
  refine x_top (y := (nI (nv % 4))) (rem_nI (by omega) (by decide) (by decide)) ?_
  refine lv_istore S.1 S.2.1 dL_acts_22 hl (by decide) rfl (fun ls hl => ?_)
  have hl : lv_has ls 10 [(6, .int (nI (nv % 4))), (5, .int (nI nw)), (4, .int (nI nv)), (0, .ref B), (1, .ref a), (2, .ref b), (3, .int zz)] := hl
  refine lv_iload S.1 S.2.1 dL_acts_24 (lv_at hl 2 rfl) ?_
  refine lv_iconst (v := (nI 4)) S.1 S.2.1 dL_acts_26 (by decide) ?_
  refine lv_idiv S.1 S.2.1 dL_acts_27 (by decide) ?_
  refine x_top (y := (nI (nv / 4))) (pk_div (by omega) (by decide) (by decide)) ?_
  refine lv_iconst (v := (nI 3)) S.1 S.2.1 dL_acts_28 (by decide) ?_
  refine lv_irem S.1 S.2.1 dL_acts_29 (by decide) ?_
  refine x_top (y := (nI ((nv / 4) % 3))) (rem_nI (by omega) (by decide) (by decide)) ?_
  refine lv_istore S.1 S.2.1 dL_acts_30 hl (by decide) rfl (fun ls hl => ?_)
  have hl : lv_has ls 10 [(7, .int (nI ((nv / 4) % 3))), (6, .int (nI (nv % 4))), (5, .int (nI nw)), (4, .int (nI nv)), (0, .ref B), (1, .ref a), (2, .ref b), (3, .int zz)] := hl
  refine lv_iload S.1 S.2.1 dL_acts_32 (lv_at hl 2 rfl) ?_
  refine lv_bipush (v := (nI 8)) S.1 S.2.1 dL_acts_34 (by decide) ?_
  refine lv_icmp_ge (tgt := 60) S.1 S.2.1 dL_acts_36 rfl (fun h1 => ?_) (fun h1 => ?_)
  · skip
    refine lv_iload S.1 S.2.1 dL_acts_60 (lv_at hl 2 rfl) ?_
    refine lv_bipush (v := (nI 12)) S.1 S.2.1 dL_acts_62 (by decide) ?_
    refine lv_icmp_ge (tgt := 78) S.1 S.2.1 dL_acts_64 rfl (fun h2 => ?_) (fun h2 => ?_)
    · skip
      refine lv_iload S.1 S.2.1 dL_acts_78 (lv_at hl 2 rfl) ?_
      refine lv_bipush (v := (nI 12)) S.1 S.2.1 dL_acts_80 (by decide) ?_
      refine lv_icmp_ne (tgt := 151) S.1 S.2.1 dL_acts_82 rfl (fun h3 => ?_) (fun h3 => ?_)
      · skip
        refine lv_iload S.1 S.2.1 dL_acts_151 (lv_at hl 2 rfl) ?_
        refine lv_bipush (v := (nI 13)) S.1 S.2.1 dL_acts_153 (by decide) ?_
        refine lv_icmp_ne (tgt := 247) S.1 S.2.1 dL_acts_155 rfl (fun h4 => ?_) (fun h4 => ?_)
        · skip
          refine lv_iconst (v := (nI 1)) S.1 S.2.1 dL_acts_247 (by decide) ?_
          refine lv_iload S.1 S.2.1 dL_acts_248 (lv_at hl 3 rfl) ?_
          refine lv_iload S.1 S.2.1 dL_acts_250 (lv_at hl 3 rfl) ?_
          refine lv_bipush (v := (nI 7)) S.1 S.2.1 dL_acts_252 (by decide) ?_
          refine lv_irem S.1 S.2.1 dL_acts_254 (by decide) ?_
          refine x_top (y := (nI (nv % 7))) (rem_nI (by omega) (by decide) (by decide)) ?_
          refine lv_if_ne (tgt := 263) S.1 S.2.1 dL_acts_255 rfl (fun h5 => ?_) (fun h5 => ?_)
          · skip
            refine lv_iconst (v := (nI 4)) S.1 S.2.1 dL_acts_263 (by decide) ?_
            refine lv_irem S.1 S.2.1 dL_acts_264 (by decide) ?_
            refine x_top (y := (nI (nv % 4))) (rem_nI (by omega) (by decide) (by decide)) ?_
            refine lv_iadd S.1 S.2.1 dL_acts_265 ?_
            refine x_top (y := (nI (1 + (nv % 4)))) (nI_add 1 (nv % 4)) ?_
            refine lv_istore S.1 S.2.1 dL_acts_266 hl (by decide) rfl (fun ls hl => ?_)
            have hl : lv_has ls 10 [(8, .int (nI (1 + (nv % 4)))), (7, .int (nI ((nv / 4) % 3))), (6, .int (nI (nv % 4))), (5, .int (nI nw)), (4, .int (nI nv)), (0, .ref B), (1, .ref a), (2, .ref b), (3, .int zz)] := hl
            refine lv_iconst (v := (nI 0)) S.1 S.2.1 dL_acts_268 (by decide) ?_
            refine lv_istore S.1 S.2.1 dL_acts_269 hl (by decide) rfl (fun ls hl => ?_)
            have hl : lv_has ls 10 [(9, .int (nI 0)), (8, .int (nI (1 + (nv % 4)))), (7, .int (nI ((nv / 4) % 3))), (6, .int (nI (nv % 4))), (5, .int (nI nw)), (4, .int (nI nv)), (0, .ref B), (1, .ref a), (2, .ref b), (3, .int zz)] := hl
            have hloop271 : ∀ (d : Nat) (i : Nat) (H : Heap) (locs : List Loc) (ls : Array Slot), ((1 + (nv % 4))) - i = d → i ≤ (1 + (nv % 4)) → BoxP E B β H → LwP E a b (rfIt σ n i) H → Out (fun q => bk B 118 q ∨ (q = a ∨ q = b)) s.heap H → va_S (fun q => bk B 118 q ∨ (q = a ∨ q = b)) s.heap H locs → lv_has ls 10 [(9, .int (nI i)), (8, .int (nI (1 + (nv % 4)))), (0, .ref B), (1, .ref a), (2, .ref b)] → W p l e rm_L_acts s m args below meth c H locs 0 0 Q (F0 m 271 ls []) := by
              intro d
              induction d using Nat.strongRecOn with
              | ind d ih =>
                intro i H locs ls hd hi hB hL hO hS hl
                obtain ⟨hg, κ, hc, hU⟩ := hL
                refine lv_iload S.1 S.2.1 dL_acts_271 (lv_at hl 0 rfl) ?_
                refine lv_iload S.1 S.2.1 dL_acts_273 (lv_at hl 1 rfl) ?_
                refine lv_icmp_ge (tgt := 289) S.1 S.2.1 dL_acts_275 rfl (fun h6 => ?_) (fun h6 => ?_)
                · skip
                  have ei : i = (1 + (nv % 4)) := by have := ge_of_le (by omega) (by omega) h6; omega
                  subst ei
                  refine lv_aload_n S.1 S.2.1 dL_acts_289 rfl (lv_at hl 2 rfl) ?_
                  refine lv_iload S.1 S.2.1 dL_acts_290 (lv_at hl 1 rfl) ?_
                  refine xk_W (x_runV (As := [.int (nI (1 + (nv % 4)))]) (rest := []) S hE hS (fun _ h => Or.inl h) (c_X7_tick l E B β (nI (1 + (nv % 4))) _ hB) kv_X7_tick kw21_21 kw21_22 kw21_23 (x_recv hE (hB.1) (ci := 7) rfl) ⟨Nat.le_of_ble_eq_true rfl, Nat.le_of_ble_eq_true rfl⟩ rfl rfl rfl hl.1 rfl (Nat.le_of_ble_eq_true rfl) dL_acts_292 ⟨Nat.zero_le _, Nat.zero_le _⟩) hS (fun _ h => Or.inl h) (fun v H locs hX hO1 hS => ?_)
                  have hO := hO.tr hO1 (fun _ h => Or.inl h)
                  have hg := va_at.kept hg (hO1.2 a haB)
                  have hc := va_at.kept hc (hO1.2 b hbB)
                  obtain ⟨hv1, hB⟩ := hX
                  subst hv1
                  have hR := tr_tk (t := (1 + (nv % 4))) hT hC (by omega) (by omega)
                  refine lv_aload_n S.1 S.2.1 dL_acts_295 rfl (lv_at hl 3 rfl) ?_
                  refine lv_aload_n S.1 S.2.1 dL_acts_296 rfl (lv_at hl 4 rfl) ?_
                  refine xk_R (v := (rfSum (rfIt σ n (1 + (nv % 4))) n)) (x_runS (As := [.ref a, .ref b]) (rest := [.int (bxTick β.1 (nI (1 + (nv % 4)))).1]) S hE hS (fun _ h => h.elim) (c_L_sum l E a b n (rfIt σ n (1 + (nv % 4))) _ hEL ⟨hg, κ, hc, hU⟩ ((rfIt_0 (by omega) (by omega) _).trans h0) hn) kv_L_sum kw7_6 kw7_7 ⟨Nat.le_of_ble_eq_true rfl, Nat.le_of_ble_eq_true rfl⟩ rfl rfl rfl hl.1 rfl (Nat.le_of_ble_eq_true rfl) dL_acts_297 ⟨Nat.zero_le _, Nat.zero_le _⟩) ?_
                  refine lv_icmp_ne (tgt := 307) S.1 S.2.1 dL_acts_300 rfl (fun h7 => ?_) (fun h7 => ?_)
                  · exact absurd hR.1 h7
                  · skip
                    refine lv_iconst (v := (nI 1)) S.1 S.2.1 dL_acts_303 (by decide) ?_
                    refine lv_goto (tgt := 308) S.1 S.2.1 dL_acts_304 rfl ?_
                    subst hQ
                    refine x_retW S hr hlk (by first | rfl | decide | exact bI_nar _) hS hO ?_ dL_acts_308
                    exact ⟨rfl, n, _, _, hB, ⟨hg, κ, hc, hU⟩, hR.2⟩
                · skip
                  have hlt := lt_of_nle (by omega) (by omega) h6
                  refine lv_aload_n S.1 S.2.1 dL_acts_278 rfl (lv_at hl 3 rfl) ?_
                  refine lv_aload_n S.1 S.2.1 dL_acts_279 rfl (lv_at hl 4 rfl) ?_
                  refine xk_V (x_runS (As := [.ref a, .ref b]) (rest := []) S hE hS (fun _ h => Or.inr h) (c_L_tick l E a b n (rfIt σ n i) _ hEL hab ⟨hg, κ, hc, hU⟩ ((rfIt_0 (by omega) (by omega) i).trans h0) hn (st_nb (st_it hst (by omega) i)) (st_uq (st_it hst (by omega) i)) (by obtain ⟨S5, e5, h5⟩ := st_S (st_it hst (by omega) i); exact ⟨S5, e5, by omega⟩)) kv_L_tick kw21_12 kw21_13 ⟨Nat.le_of_ble_eq_true rfl, Nat.le_of_ble_eq_true rfl⟩ rfl rfl rfl hl.1 rfl (Nat.le_of_ble_eq_true rfl) dL_acts_280 ⟨Nat.zero_le _, Nat.zero_le _⟩) hS (fun _ h => Or.inr h) (fun H locs hX hO1 hS => ?_)
                  have hO := hO.tr hO1 (fun _ h => Or.inr h)
                  have hB := hB.fr (fun q z => hO1.2 q (ab_B haB hbB z))
                  have hL : LwP E a b (rfIt σ n (i + 1)) H := hX
                  refine lv_iinc (k := 0) (v := (nI (i + 1))) S.1 S.2.1 dL_acts_283 hl rfl (iincP i 1) (by decide) rfl (fun ls hl => ?_)
                  have hl : lv_has ls 10 [(9, .int (nI (i + 1))), (8, .int (nI (1 + (nv % 4)))), (0, .ref B), (1, .ref a), (2, .ref b)] := hl
                  refine lv_goto (tgt := 271) S.1 S.2.1 dL_acts_286 rfl ?_
                  exact ih _ (by omega) (i + 1) _ _ ls rfl (by omega) (hB) (hL) (hO) (hS) (lv_sub hl [0, 1, 2, 3, 4] rfl)
            exact hloop271 _ 0 _ _ ls rfl (Nat.zero_le _) (hB) (⟨hg, κ, hc, hU⟩) (hO) (hS) (lv_sub hl [0, 1, 6, 7, 8] rfl)
          · skip
            refine lv_bipush (v := (nI 20)) S.1 S.2.1 dL_acts_258 (by decide) ?_
            refine lv_goto (tgt := 264) S.1 S.2.1 dL_acts_260 rfl ?_
            refine lv_irem S.1 S.2.1 dL_acts_264 (by decide) ?_
            refine x_top (y := (nI (nv % 20))) (rem_nI (by omega) (by decide) (by decide)) ?_
            refine lv_iadd S.1 S.2.1 dL_acts_265 ?_
            refine x_top (y := (nI (1 + (nv % 20)))) (nI_add 1 (nv % 20)) ?_
            refine lv_istore S.1 S.2.1 dL_acts_266 hl (by decide) rfl (fun ls hl => ?_)
            have hl : lv_has ls 10 [(8, .int (nI (1 + (nv % 20)))), (7, .int (nI ((nv / 4) % 3))), (6, .int (nI (nv % 4))), (5, .int (nI nw)), (4, .int (nI nv)), (0, .ref B), (1, .ref a), (2, .ref b), (3, .int zz)] := hl
            refine lv_iconst (v := (nI 0)) S.1 S.2.1 dL_acts_268 (by decide) ?_
            refine lv_istore S.1 S.2.1 dL_acts_269 hl (by decide) rfl (fun ls hl => ?_)
            have hl : lv_has ls 10 [(9, .int (nI 0)), (8, .int (nI (1 + (nv % 20)))), (7, .int (nI ((nv / 4) % 3))), (6, .int (nI (nv % 4))), (5, .int (nI nw)), (4, .int (nI nv)), (0, .ref B), (1, .ref a), (2, .ref b), (3, .int zz)] := hl
            have hloop271 : ∀ (d : Nat) (i : Nat) (H : Heap) (locs : List Loc) (ls : Array Slot), ((1 + (nv % 20))) - i = d → i ≤ (1 + (nv % 20)) → BoxP E B β H → LwP E a b (rfIt σ n i) H → Out (fun q => bk B 118 q ∨ (q = a ∨ q = b)) s.heap H → va_S (fun q => bk B 118 q ∨ (q = a ∨ q = b)) s.heap H locs → lv_has ls 10 [(9, .int (nI i)), (8, .int (nI (1 + (nv % 20)))), (0, .ref B), (1, .ref a), (2, .ref b)] → W p l e rm_L_acts s m args below meth c H locs 0 0 Q (F0 m 271 ls []) := by
              intro d
              induction d using Nat.strongRecOn with
              | ind d ih =>
                intro i H locs ls hd hi hB hL hO hS hl
                obtain ⟨hg, κ, hc, hU⟩ := hL
                refine lv_iload S.1 S.2.1 dL_acts_271 (lv_at hl 0 rfl) ?_
                refine lv_iload S.1 S.2.1 dL_acts_273 (lv_at hl 1 rfl) ?_
                refine lv_icmp_ge (tgt := 289) S.1 S.2.1 dL_acts_275 rfl (fun h8 => ?_) (fun h8 => ?_)
                · skip
                  have ei : i = (1 + (nv % 20)) := by have := ge_of_le (by omega) (by omega) h8; omega
                  subst ei
                  refine lv_aload_n S.1 S.2.1 dL_acts_289 rfl (lv_at hl 2 rfl) ?_
                  refine lv_iload S.1 S.2.1 dL_acts_290 (lv_at hl 1 rfl) ?_
                  refine xk_W (x_runV (As := [.int (nI (1 + (nv % 20)))]) (rest := []) S hE hS (fun _ h => Or.inl h) (c_X7_tick l E B β (nI (1 + (nv % 20))) _ hB) kv_X7_tick kw21_21 kw21_22 kw21_23 (x_recv hE (hB.1) (ci := 7) rfl) ⟨Nat.le_of_ble_eq_true rfl, Nat.le_of_ble_eq_true rfl⟩ rfl rfl rfl hl.1 rfl (Nat.le_of_ble_eq_true rfl) dL_acts_292 ⟨Nat.zero_le _, Nat.zero_le _⟩) hS (fun _ h => Or.inl h) (fun v H locs hX hO1 hS => ?_)
                  have hO := hO.tr hO1 (fun _ h => Or.inl h)
                  have hg := va_at.kept hg (hO1.2 a haB)
                  have hc := va_at.kept hc (hO1.2 b hbB)
                  obtain ⟨hv1, hB⟩ := hX
                  subst hv1
                  have hR := tr_tk (t := (1 + (nv % 20))) hT hC (by omega) (by omega)
                  refine lv_aload_n S.1 S.2.1 dL_acts_295 rfl (lv_at hl 3 rfl) ?_
                  refine lv_aload_n S.1 S.2.1 dL_acts_296 rfl (lv_at hl 4 rfl) ?_
                  refine xk_R (v := (rfSum (rfIt σ n (1 + (nv % 20))) n)) (x_runS (As := [.ref a, .ref b]) (rest := [.int (bxTick β.1 (nI (1 + (nv % 20)))).1]) S hE hS (fun _ h => h.elim) (c_L_sum l E a b n (rfIt σ n (1 + (nv % 20))) _ hEL ⟨hg, κ, hc, hU⟩ ((rfIt_0 (by omega) (by omega) _).trans h0) hn) kv_L_sum kw7_6 kw7_7 ⟨Nat.le_of_ble_eq_true rfl, Nat.le_of_ble_eq_true rfl⟩ rfl rfl rfl hl.1 rfl (Nat.le_of_ble_eq_true rfl) dL_acts_297 ⟨Nat.zero_le _, Nat.zero_le _⟩) ?_
                  refine lv_icmp_ne (tgt := 307) S.1 S.2.1 dL_acts_300 rfl (fun h9 => ?_) (fun h9 => ?_)
                  · exact absurd hR.1 h9
                  · skip
                    refine lv_iconst (v := (nI 1)) S.1 S.2.1 dL_acts_303 (by decide) ?_
                    refine lv_goto (tgt := 308) S.1 S.2.1 dL_acts_304 rfl ?_
                    subst hQ
                    refine x_retW S hr hlk (by first | rfl | decide | exact bI_nar _) hS hO ?_ dL_acts_308
                    exact ⟨rfl, n, _, _, hB, ⟨hg, κ, hc, hU⟩, hR.2⟩
                · skip
                  have hlt := lt_of_nle (by omega) (by omega) h8
                  refine lv_aload_n S.1 S.2.1 dL_acts_278 rfl (lv_at hl 3 rfl) ?_
                  refine lv_aload_n S.1 S.2.1 dL_acts_279 rfl (lv_at hl 4 rfl) ?_
                  refine xk_V (x_runS (As := [.ref a, .ref b]) (rest := []) S hE hS (fun _ h => Or.inr h) (c_L_tick l E a b n (rfIt σ n i) _ hEL hab ⟨hg, κ, hc, hU⟩ ((rfIt_0 (by omega) (by omega) i).trans h0) hn (st_nb (st_it hst (by omega) i)) (st_uq (st_it hst (by omega) i)) (by obtain ⟨S5, e5, h5⟩ := st_S (st_it hst (by omega) i); exact ⟨S5, e5, by omega⟩)) kv_L_tick kw21_12 kw21_13 ⟨Nat.le_of_ble_eq_true rfl, Nat.le_of_ble_eq_true rfl⟩ rfl rfl rfl hl.1 rfl (Nat.le_of_ble_eq_true rfl) dL_acts_280 ⟨Nat.zero_le _, Nat.zero_le _⟩) hS (fun _ h => Or.inr h) (fun H locs hX hO1 hS => ?_)
                  have hO := hO.tr hO1 (fun _ h => Or.inr h)
                  have hB := hB.fr (fun q z => hO1.2 q (ab_B haB hbB z))
                  have hL : LwP E a b (rfIt σ n (i + 1)) H := hX
                  refine lv_iinc (k := 0) (v := (nI (i + 1))) S.1 S.2.1 dL_acts_283 hl rfl (iincP i 1) (by decide) rfl (fun ls hl => ?_)
                  have hl : lv_has ls 10 [(9, .int (nI (i + 1))), (8, .int (nI (1 + (nv % 20)))), (0, .ref B), (1, .ref a), (2, .ref b)] := hl
                  refine lv_goto (tgt := 271) S.1 S.2.1 dL_acts_286 rfl ?_
                  exact ih _ (by omega) (i + 1) _ _ ls rfl (by omega) (hB) (hL) (hO) (hS) (lv_sub hl [0, 1, 2, 3, 4] rfl)
            exact hloop271 _ 0 _ _ ls rfl (Nat.zero_le _) (hB) (⟨hg, κ, hc, hU⟩) (hO) (hS) (lv_sub hl [0, 1, 6, 7, 8] rfl)
        · skip
          refine lv_iload S.1 S.2.1 dL_acts_158 (lv_at hl 3 rfl) ?_
          refine lv_iconst (v := (nI 3)) S.1 S.2.1 dL_acts_160 (by decide) ?_
          refine lv_irem S.1 S.2.1 dL_acts_161 (by decide) ?_
          refine x_top (y := (nI (nv % 3))) (rem_nI (by omega) (by decide) (by decide)) ?_
          refine lv_istore S.1 S.2.1 dL_acts_162 hl (by decide) rfl (fun ls hl => ?_)
          have hl : lv_has ls 10 [(8, .int (nI (nv % 3))), (7, .int (nI ((nv / 4) % 3))), (6, .int (nI (nv % 4))), (5, .int (nI nw)), (4, .int (nI nv)), (0, .ref B), (1, .ref a), (2, .ref b), (3, .int zz)] := hl
          refine lv_aload_n S.1 S.2.1 dL_acts_164 rfl (lv_at hl 6 rfl) ?_
          refine lv_bipush (v := (nI 6)) S.1 S.2.1 dL_acts_165 (by decide) ?_
          refine lv_iload S.1 S.2.1 dL_acts_167 (lv_at hl 0 rfl) ?_
          refine lv_iadd S.1 S.2.1 dL_acts_169 ?_
          refine x_top (y := (nI (6 + (nv % 3)))) (nI_add 6 (nv % 3)) ?_
          refine x_iald S hE (hg) (6 + (nv % 3)) rfl (by omega) (by decide) dL_acts_170 ?_
          refine lv_istore S.1 S.2.1 dL_acts_171 hl (by decide) rfl (fun ls hl => ?_)
          have hl : lv_has ls 10 [(9, .int (σ (6 + (nv % 3)))), (8, .int (nI (nv % 3))), (7, .int (nI ((nv / 4) % 3))), (6, .int (nI (nv % 4))), (5, .int (nI nw)), (4, .int (nI nv)), (0, .ref B), (1, .ref a), (2, .ref b), (3, .int zz)] := hl
          refine lv_aload_n S.1 S.2.1 dL_acts_173 rfl (lv_at hl 7 rfl) ?_
          refine lv_bipush (v := (nI 6)) S.1 S.2.1 dL_acts_174 (by decide) ?_
          refine lv_iload S.1 S.2.1 dL_acts_176 (lv_at hl 1 rfl) ?_
          refine lv_iadd S.1 S.2.1 dL_acts_178 ?_
          refine x_top (y := (nI (6 + (nv % 3)))) (nI_add 6 (nv % 3)) ?_
          refine lv_iload S.1 S.2.1 dL_acts_179 (lv_at hl 1 rfl) ?_
          refine lv_if_ne (tgt := 196) S.1 S.2.1 dL_acts_181 rfl (fun h10 => ?_) (fun h10 => ?_)
          · skip
            refine lv_iload S.1 S.2.1 dL_acts_196 (lv_at hl 1 rfl) ?_
            refine lv_iconst (v := (nI 1)) S.1 S.2.1 dL_acts_198 (by decide) ?_
            refine lv_icmp_ne (tgt := 211) S.1 S.2.1 dL_acts_199 rfl (fun h11 => ?_) (fun h11 => ?_)
            · skip
              refine lv_bipush (v := (nI 100)) S.1 S.2.1 dL_acts_211 (by decide) ?_
              refine lv_iload S.1 S.2.1 dL_acts_213 (lv_at hl 5 rfl) ?_
              refine lv_iconst (v := (nI 3)) S.1 S.2.1 dL_acts_215 (by decide) ?_
              refine lv_idiv S.1 S.2.1 dL_acts_216 (by decide) ?_
              refine x_top (y := (nI (nv / 3))) (pk_div (by omega) (by decide) (by decide)) ?_
              refine lv_sipush (v := (nI 2500)) S.1 S.2.1 dL_acts_217 (by decide) ?_
              refine lv_irem S.1 S.2.1 dL_acts_220 (by decide) ?_
              refine x_top (y := (nI ((nv / 3) % 2500))) (rem_nI (by omega) (by decide) (by decide)) ?_
              refine lv_iadd S.1 S.2.1 dL_acts_221 ?_
              refine x_top (y := (nI (100 + ((nv / 3) % 2500)))) (nI_add 100 ((nv / 3) % 2500)) ?_
              refine x_iast S hE hS (Or.inr (Or.inl rfl)) (hg) (6 + (nv % 3)) rfl (by omega) (by decide) dL_acts_222 (fun H locs hX hO1 hS => ?_)
              have hO := hO.tr hO1 (fun q z => Or.inr (Or.inl z))
              have hg := hX
              have hc := va_at.kept hc (hO1.2 b (fun z => hab z.symm))
              have hB := hB.fr (fun q z => hO1.2 q (a_B haB z))
              have hU := fun k w (hk : k < 64) (hw : w < 8) => (nf_lo (σ := σ) (v := (nI (100 + ((nv / 3) % 2500)))) (k := k) (w := w) (show (6 + (nv % 3)) < 70 by omega)).trans (hU k w hk hw)
              refine lv_aload_n S.1 S.2.1 dL_acts_223 rfl (lv_at hl 6 rfl) ?_
              refine lv_iload S.1 S.2.1 dL_acts_224 (lv_at hl 1 rfl) ?_
              refine lv_aload_n S.1 S.2.1 dL_acts_226 rfl (lv_at hl 7 rfl) ?_
              refine lv_bipush (v := (nI 6)) S.1 S.2.1 dL_acts_227 (by decide) ?_
              refine lv_iload S.1 S.2.1 dL_acts_229 (lv_at hl 1 rfl) ?_
              refine lv_iadd S.1 S.2.1 dL_acts_231 ?_
              refine x_top (y := (nI (6 + (nv % 3)))) (nI_add 6 (nv % 3)) ?_
              refine x_iald S hE (hg) (6 + (nv % 3)) rfl (by omega) (by decide) dL_acts_232 ?_
              refine x_top (y := (nI (100 + ((nv / 3) % 2500)))) (upd_if.trans (if_pos rfl)) ?_
              refine xk_W (x_runV (As := [.int (nI (nv % 3)), .int (nI (100 + ((nv / 3) % 2500)))]) (rest := []) S hE hS (fun _ h => Or.inl h) (c_X7_set l E B β (nI (nv % 3)) (nI (100 + ((nv / 3) % 2500))) _ hB) kv_X7_set kw21_6 kw21_7 kw21_8 (x_recv hE (hB.1) (ci := 7) rfl) ⟨Nat.le_of_ble_eq_true rfl, Nat.le_of_ble_eq_true rfl⟩ rfl rfl rfl hl.1 rfl (Nat.le_of_ble_eq_true rfl) dL_acts_233 ⟨Nat.zero_le _, Nat.zero_le _⟩) hS (fun _ h => Or.inl h) (fun v H locs hX hO1 hS => ?_)
              have hO := hO.tr hO1 (fun _ h => Or.inl h)
              have hg := va_at.kept hg (hO1.2 a haB)
              have hc := va_at.kept hc (hO1.2 b hbB)
              obtain ⟨hv1, hB⟩ := hX
              subst hv1
              have hR := tr_set (w := nv % 3) (v := (100 + ((nv / 3) % 2500))) hT hC (Or.inr (Or.inr ⟨by have a1 : ¬ nv % 3 = 0 := fun z => h10 ((nI_eq (a := nv % 3) (b := 0) (by omega) (by omega)).mpr z); have a2 : ¬ nv % 3 = 1 := fun z => h11 ((nI_eq (a := nv % 3) (b := 1) (by omega) (by omega)).mpr z); omega, by omega, by omega⟩))
              refine x_top (y := (σ (6 + (nv % 3)))) hR.1 ?_
              refine lv_iload S.1 S.2.1 dL_acts_236 (lv_at hl 0 rfl) ?_
              refine lv_icmp_ne (tgt := 245) S.1 S.2.1 dL_acts_238 rfl (fun h12 => ?_) (fun h12 => ?_)
              · exact absurd rfl h12
              · skip
                refine lv_iconst (v := (nI 1)) S.1 S.2.1 dL_acts_241 (by decide) ?_
                refine lv_goto (tgt := 246) S.1 S.2.1 dL_acts_242 rfl ?_
                subst hQ
                refine x_retW S hr hlk (by first | rfl | decide | exact bI_nar _) hS hO ?_ dL_acts_246
                exact ⟨rfl, n, _, _, hB, ⟨hg, κ, hc, hU⟩, hR.2⟩
            · skip
              refine lv_iload S.1 S.2.1 dL_acts_202 (lv_at hl 5 rfl) ?_
              refine lv_iconst (v := (nI 3)) S.1 S.2.1 dL_acts_204 (by decide) ?_
              refine lv_idiv S.1 S.2.1 dL_acts_205 (by decide) ?_
              refine x_top (y := (nI (nv / 3))) (pk_div (by omega) (by decide) (by decide)) ?_
              refine lv_iconst (v := (nI 3)) S.1 S.2.1 dL_acts_206 (by decide) ?_
              refine lv_irem S.1 S.2.1 dL_acts_207 (by decide) ?_
              refine x_top (y := (nI ((nv / 3) % 3))) (rem_nI (by omega) (by decide) (by decide)) ?_
              refine lv_goto (tgt := 222) S.1 S.2.1 dL_acts_208 rfl ?_
              refine x_iast S hE hS (Or.inr (Or.inl rfl)) (hg) (6 + (nv % 3)) rfl (by omega) (by decide) dL_acts_222 (fun H locs hX hO1 hS => ?_)
              have hO := hO.tr hO1 (fun q z => Or.inr (Or.inl z))
              have hg := hX
              have hc := va_at.kept hc (hO1.2 b (fun z => hab z.symm))
              have hB := hB.fr (fun q z => hO1.2 q (a_B haB z))
              have hU := fun k w (hk : k < 64) (hw : w < 8) => (nf_lo (σ := σ) (v := (nI ((nv / 3) % 3))) (k := k) (w := w) (show (6 + (nv % 3)) < 70 by omega)).trans (hU k w hk hw)
              refine lv_aload_n S.1 S.2.1 dL_acts_223 rfl (lv_at hl 6 rfl) ?_
              refine lv_iload S.1 S.2.1 dL_acts_224 (lv_at hl 1 rfl) ?_
              refine lv_aload_n S.1 S.2.1 dL_acts_226 rfl (lv_at hl 7 rfl) ?_
              refine lv_bipush (v := (nI 6)) S.1 S.2.1 dL_acts_227 (by decide) ?_
              refine lv_iload S.1 S.2.1 dL_acts_229 (lv_at hl 1 rfl) ?_
              refine lv_iadd S.1 S.2.1 dL_acts_231 ?_
              refine x_top (y := (nI (6 + (nv % 3)))) (nI_add 6 (nv % 3)) ?_
              refine x_iald S hE (hg) (6 + (nv % 3)) rfl (by omega) (by decide) dL_acts_232 ?_
              refine x_top (y := (nI ((nv / 3) % 3))) (upd_if.trans (if_pos rfl)) ?_
              refine xk_W (x_runV (As := [.int (nI (nv % 3)), .int (nI ((nv / 3) % 3))]) (rest := []) S hE hS (fun _ h => Or.inl h) (c_X7_set l E B β (nI (nv % 3)) (nI ((nv / 3) % 3)) _ hB) kv_X7_set kw21_6 kw21_7 kw21_8 (x_recv hE (hB.1) (ci := 7) rfl) ⟨Nat.le_of_ble_eq_true rfl, Nat.le_of_ble_eq_true rfl⟩ rfl rfl rfl hl.1 rfl (Nat.le_of_ble_eq_true rfl) dL_acts_233 ⟨Nat.zero_le _, Nat.zero_le _⟩) hS (fun _ h => Or.inl h) (fun v H locs hX hO1 hS => ?_)
              have hO := hO.tr hO1 (fun _ h => Or.inl h)
              have hg := va_at.kept hg (hO1.2 a haB)
              have hc := va_at.kept hc (hO1.2 b hbB)
              obtain ⟨hv1, hB⟩ := hX
              subst hv1
              have hR := tr_set (w := nv % 3) (v := ((nv / 3) % 3)) hT hC (Or.inr (Or.inl ⟨(nI_eq (a := nv % 3) (b := 1) (by omega) (by omega)).mp h11, by omega⟩))
              refine x_top (y := (σ (6 + (nv % 3)))) hR.1 ?_
              refine lv_iload S.1 S.2.1 dL_acts_236 (lv_at hl 0 rfl) ?_
              refine lv_icmp_ne (tgt := 245) S.1 S.2.1 dL_acts_238 rfl (fun h13 => ?_) (fun h13 => ?_)
              · exact absurd rfl h13
              · skip
                refine lv_iconst (v := (nI 1)) S.1 S.2.1 dL_acts_241 (by decide) ?_
                refine lv_goto (tgt := 246) S.1 S.2.1 dL_acts_242 rfl ?_
                subst hQ
                refine x_retW S hr hlk (by first | rfl | decide | exact bI_nar _) hS hO ?_ dL_acts_246
                exact ⟨rfl, n, _, _, hB, ⟨hg, κ, hc, hU⟩, hR.2⟩
          · skip
            refine lv_iconst (v := (nI 1)) S.1 S.2.1 dL_acts_184 (by decide) ?_
            refine lv_iload S.1 S.2.1 dL_acts_185 (lv_at hl 5 rfl) ?_
            refine lv_iconst (v := (nI 3)) S.1 S.2.1 dL_acts_187 (by decide) ?_
            refine lv_idiv S.1 S.2.1 dL_acts_188 (by decide) ?_
            refine x_top (y := (nI (nv / 3))) (pk_div (by omega) (by decide) (by decide)) ?_
            refine lv_bipush (v := (nI 8)) S.1 S.2.1 dL_acts_189 (by decide) ?_
            refine lv_irem S.1 S.2.1 dL_acts_191 (by decide) ?_
            refine x_top (y := (nI ((nv / 3) % 8))) (rem_nI (by omega) (by decide) (by decide)) ?_
            refine lv_iadd S.1 S.2.1 dL_acts_192 ?_
            refine x_top (y := (nI (1 + ((nv / 3) % 8)))) (nI_add 1 ((nv / 3) % 8)) ?_
            refine lv_goto (tgt := 222) S.1 S.2.1 dL_acts_193 rfl ?_
            refine x_iast S hE hS (Or.inr (Or.inl rfl)) (hg) (6 + (nv % 3)) rfl (by omega) (by decide) dL_acts_222 (fun H locs hX hO1 hS => ?_)
            have hO := hO.tr hO1 (fun q z => Or.inr (Or.inl z))
            have hg := hX
            have hc := va_at.kept hc (hO1.2 b (fun z => hab z.symm))
            have hB := hB.fr (fun q z => hO1.2 q (a_B haB z))
            have hU := fun k w (hk : k < 64) (hw : w < 8) => (nf_lo (σ := σ) (v := (nI (1 + ((nv / 3) % 8)))) (k := k) (w := w) (show (6 + (nv % 3)) < 70 by omega)).trans (hU k w hk hw)
            refine lv_aload_n S.1 S.2.1 dL_acts_223 rfl (lv_at hl 6 rfl) ?_
            refine lv_iload S.1 S.2.1 dL_acts_224 (lv_at hl 1 rfl) ?_
            refine lv_aload_n S.1 S.2.1 dL_acts_226 rfl (lv_at hl 7 rfl) ?_
            refine lv_bipush (v := (nI 6)) S.1 S.2.1 dL_acts_227 (by decide) ?_
            refine lv_iload S.1 S.2.1 dL_acts_229 (lv_at hl 1 rfl) ?_
            refine lv_iadd S.1 S.2.1 dL_acts_231 ?_
            refine x_top (y := (nI (6 + (nv % 3)))) (nI_add 6 (nv % 3)) ?_
            refine x_iald S hE (hg) (6 + (nv % 3)) rfl (by omega) (by decide) dL_acts_232 ?_
            refine x_top (y := (nI (1 + ((nv / 3) % 8)))) (upd_if.trans (if_pos rfl)) ?_
            refine xk_W (x_runV (As := [.int (nI (nv % 3)), .int (nI (1 + ((nv / 3) % 8)))]) (rest := []) S hE hS (fun _ h => Or.inl h) (c_X7_set l E B β (nI (nv % 3)) (nI (1 + ((nv / 3) % 8))) _ hB) kv_X7_set kw21_6 kw21_7 kw21_8 (x_recv hE (hB.1) (ci := 7) rfl) ⟨Nat.le_of_ble_eq_true rfl, Nat.le_of_ble_eq_true rfl⟩ rfl rfl rfl hl.1 rfl (Nat.le_of_ble_eq_true rfl) dL_acts_233 ⟨Nat.zero_le _, Nat.zero_le _⟩) hS (fun _ h => Or.inl h) (fun v H locs hX hO1 hS => ?_)
            have hO := hO.tr hO1 (fun _ h => Or.inl h)
            have hg := va_at.kept hg (hO1.2 a haB)
            have hc := va_at.kept hc (hO1.2 b hbB)
            obtain ⟨hv1, hB⟩ := hX
            subst hv1
            have hR := tr_set (w := nv % 3) (v := (1 + ((nv / 3) % 8))) hT hC (Or.inl ⟨(nI_eq (a := nv % 3) (b := 0) (by omega) (by omega)).mp h10, by omega, by omega⟩)
            refine x_top (y := (σ (6 + (nv % 3)))) hR.1 ?_
            refine lv_iload S.1 S.2.1 dL_acts_236 (lv_at hl 0 rfl) ?_
            refine lv_icmp_ne (tgt := 245) S.1 S.2.1 dL_acts_238 rfl (fun h14 => ?_) (fun h14 => ?_)
            · exact absurd rfl h14
            · skip
              refine lv_iconst (v := (nI 1)) S.1 S.2.1 dL_acts_241 (by decide) ?_
              refine lv_goto (tgt := 246) S.1 S.2.1 dL_acts_242 rfl ?_
              subst hQ
              refine x_retW S hr hlk (by first | rfl | decide | exact bI_nar _) hS hO ?_ dL_acts_246
              exact ⟨rfl, n, _, _, hB, ⟨hg, κ, hc, hU⟩, hR.2⟩
      · skip
        refine lv_iload S.1 S.2.1 dL_acts_85 (lv_at hl 3 rfl) ?_
        refine lv_iconst (v := (nI 2)) S.1 S.2.1 dL_acts_87 (by decide) ?_
        refine lv_irem S.1 S.2.1 dL_acts_88 (by decide) ?_
        refine x_top (y := (nI (nv % 2))) (rem_nI (by omega) (by decide) (by decide)) ?_
        refine lv_istore S.1 S.2.1 dL_acts_89 hl (by decide) rfl (fun ls hl => ?_)
        have hl : lv_has ls 10 [(8, .int (nI (nv % 2))), (7, .int (nI ((nv / 4) % 3))), (6, .int (nI (nv % 4))), (5, .int (nI nw)), (4, .int (nI nv)), (0, .ref B), (1, .ref a), (2, .ref b), (3, .int zz)] := hl
        refine lv_aload_n S.1 S.2.1 dL_acts_91 rfl (lv_at hl 6 rfl) ?_
        refine lv_iconst (v := (nI 2)) S.1 S.2.1 dL_acts_92 (by decide) ?_
        refine x_iald S hE (hg) 2 rfl (by decide) (by decide) dL_acts_93 ?_
        refine lv_iload S.1 S.2.1 dL_acts_94 (lv_at hl 0 rfl) ?_
        refine lv_icmp_ne (tgt := 116) S.1 S.2.1 dL_acts_96 rfl (fun h15 => ?_) (fun h15 => ?_)
        · skip
          refine lv_aload_n S.1 S.2.1 dL_acts_116 rfl (lv_at hl 6 rfl) ?_
          refine lv_iconst (v := (nI 2)) S.1 S.2.1 dL_acts_117 (by decide) ?_
          refine lv_iload S.1 S.2.1 dL_acts_118 (lv_at hl 0 rfl) ?_
          refine x_iast S hE hS (Or.inr (Or.inl rfl)) (hg) 2 rfl (by decide) (by decide) dL_acts_120 (fun H locs hX hO1 hS => ?_)
          have hO := hO.tr hO1 (fun q z => Or.inr (Or.inl z))
          have hg := hX
          have hc := va_at.kept hc (hO1.2 b (fun z => hab z.symm))
          have hB := hB.fr (fun q z => hO1.2 q (a_B haB z))
          have hU := fun k w (hk : k < 64) (hw : w < 8) => (nf_lo (σ := σ) (v := (nI (nv % 2))) (k := k) (w := w) (show 2 < 70 by omega)).trans (hU k w hk hw)
          refine lv_aload_n S.1 S.2.1 dL_acts_121 rfl (lv_at hl 5 rfl) ?_
          refine lv_iload S.1 S.2.1 dL_acts_122 (lv_at hl 0 rfl) ?_
          refine xk_W (x_runV (As := [.int (nI (nv % 2))]) (rest := []) S hE hS (fun _ h => Or.inl h) (c_X7_pedal l E B β (nI (nv % 2)) _ hB) kv_X7_pedal kw20_20 kw20_21 kw20_22 (x_recv hE (hB.1) (ci := 7) rfl) ⟨Nat.le_of_ble_eq_true rfl, Nat.le_of_ble_eq_true rfl⟩ rfl rfl rfl hl.1 rfl (Nat.le_of_ble_eq_true rfl) dL_acts_124 ⟨Nat.zero_le _, Nat.zero_le _⟩) hS (fun _ h => Or.inl h) (fun v H locs hX hO1 hS => ?_)
          have hO := hO.tr hO1 (fun _ h => Or.inl h)
          have hg := va_at.kept hg (hO1.2 a haB)
          have hc := va_at.kept hc (hO1.2 b hbB)
          obtain ⟨hv1, hB⟩ := hX
          subst hv1
          refine lv_iload S.1 S.2.1 dL_acts_127 (lv_at hl 0 rfl) ?_
          refine lv_iconst (v := (nI 1)) S.1 S.2.1 dL_acts_129 (by decide) ?_
          refine lv_icmp_ne (tgt := 137) S.1 S.2.1 dL_acts_130 rfl (fun h16 => ?_) (fun h16 => ?_)
          · skip
            refine lv_aload_n S.1 S.2.1 dL_acts_137 rfl (lv_at hl 6 rfl) ?_
            refine lv_aload_n S.1 S.2.1 dL_acts_138 rfl (lv_at hl 7 rfl) ?_
            refine xk_W (x_runS (As := [.ref a, .ref b]) (rest := [.int (bxPed β.1 (nI (nv % 2))).1]) S hE hS (fun _ h => Or.inr h) (c_L_lifts l E a b n (upd σ 2 (nI (nv % 2))) _ hEL hab ⟨hg, κ, hc, hU⟩ (upd_if.trans ((if_neg (by omega)).trans h0)) hn (mk_lo (by omega) hMK)) kv_L_lifts kw21_3 kw21_4 ⟨Nat.le_of_ble_eq_true rfl, Nat.le_of_ble_eq_true rfl⟩ rfl rfl rfl hl.1 rfl (Nat.le_of_ble_eq_true rfl) dL_acts_139 ⟨Nat.zero_le _, Nat.zero_le _⟩) hS (fun _ h => Or.inr h) (fun v1 H locs hX hO1 hS => ?_)
            have hO := hO.tr hO1 (fun _ h => Or.inr h)
            have hB := hB.fr (fun q z => hO1.2 q (ab_B haB hbB z))
            obtain ⟨hv1, hg, κ, hc, hU⟩ := hX
            subst hv1
            have hR := tr_pd2 (d := nv % 2) (by omega) hT hC h15 h16
            refine lv_icmp_ne (tgt := 149) S.1 S.2.1 dL_acts_142 rfl (fun h17 => ?_) (fun h17 => ?_)
            · exact absurd hR.1 h17
            · skip
              refine lv_iconst (v := (nI 1)) S.1 S.2.1 dL_acts_145 (by decide) ?_
              refine lv_goto (tgt := 150) S.1 S.2.1 dL_acts_146 rfl ?_
              subst hQ
              refine x_retW S hr hlk (by first | rfl | decide | exact bI_nar _) hS hO ?_ dL_acts_150
              exact ⟨rfl, n, _, _, hB, ⟨hg, κ, hc, hU⟩, hR.2⟩
          · skip
            refine lv_iconst (v := (nI 0)) S.1 S.2.1 dL_acts_133 (by decide) ?_
            refine lv_goto (tgt := 142) S.1 S.2.1 dL_acts_134 rfl ?_
            have hR := tr_pd1 (d := nv % 2) (by omega) hT hC h15 h16
            refine lv_icmp_ne (tgt := 149) S.1 S.2.1 dL_acts_142 rfl (fun h18 => ?_) (fun h18 => ?_)
            · exact absurd hR.1 h18
            · skip
              refine lv_iconst (v := (nI 1)) S.1 S.2.1 dL_acts_145 (by decide) ?_
              refine lv_goto (tgt := 150) S.1 S.2.1 dL_acts_146 rfl ?_
              subst hQ
              refine x_retW S hr hlk (by first | rfl | decide | exact bI_nar _) hS hO ?_ dL_acts_150
              exact ⟨rfl, n, _, _, hB, ⟨hg, κ, hc, hU⟩, hR.2⟩
        · skip
          refine lv_aload_n S.1 S.2.1 dL_acts_99 rfl (lv_at hl 5 rfl) ?_
          refine lv_iload S.1 S.2.1 dL_acts_100 (lv_at hl 0 rfl) ?_
          refine xk_W (x_runV (As := [.int (nI (nv % 2))]) (rest := []) S hE hS (fun _ h => Or.inl h) (c_X7_pedal l E B β (nI (nv % 2)) _ hB) kv_X7_pedal kw20_20 kw20_21 kw20_22 (x_recv hE (hB.1) (ci := 7) rfl) ⟨Nat.le_of_ble_eq_true rfl, Nat.le_of_ble_eq_true rfl⟩ rfl rfl rfl hl.1 rfl (Nat.le_of_ble_eq_true rfl) dL_acts_102 ⟨Nat.zero_le _, Nat.zero_le _⟩) hS (fun _ h => Or.inl h) (fun v H locs hX hO1 hS => ?_)
          have hO := hO.tr hO1 (fun _ h => Or.inl h)
          have hg := va_at.kept hg (hO1.2 a haB)
          have hc := va_at.kept hc (hO1.2 b hbB)
          obtain ⟨hv1, hB⟩ := hX
          subst hv1
          have hR := tr_pd0 (d := nv % 2) (by omega) hT h15
          refine x_top (y := (-2)) hR.1 ?_
          refine lv_bipush (v := (-2)) S.1 S.2.1 dL_acts_105 (by decide) ?_
          refine lv_icmp_ne (tgt := 114) S.1 S.2.1 dL_acts_107 rfl (fun h19 => ?_) (fun h19 => ?_)
          · exact absurd h19 (by decide)
          · skip
            refine lv_iconst (v := (nI 1)) S.1 S.2.1 dL_acts_110 (by decide) ?_
            refine lv_goto (tgt := 115) S.1 S.2.1 dL_acts_111 rfl ?_
            subst hQ
            refine x_retW S hr hlk (by first | rfl | decide | exact bI_nar _) hS hO ?_ dL_acts_115
            exact ⟨rfl, n, _, _, hB, ⟨hg, κ, hc, hU⟩, hR.2⟩
    · skip
      refine lv_aload_n S.1 S.2.1 dL_acts_67 rfl (lv_at hl 4 rfl) ?_
      refine lv_aload_n S.1 S.2.1 dL_acts_68 rfl (lv_at hl 5 rfl) ?_
      refine lv_aload_n S.1 S.2.1 dL_acts_69 rfl (lv_at hl 6 rfl) ?_
      refine lv_iload S.1 S.2.1 dL_acts_70 (lv_at hl 1 rfl) ?_
      refine lv_iload S.1 S.2.1 dL_acts_72 (lv_at hl 0 rfl) ?_
      refine xk_W (x_runS (As := [.ref B, .ref a, .ref b, .int (nI (nv % 4)), .int (nI ((nv / 4) % 3))]) (rest := []) S hE hS (fun _ h => h) (c_L_lets l E B a b C n ((nv % 4)) (((nv / 4) % 3)) β σ _ hEL ⟨hab, haB, hbB⟩ hB ⟨hg, κ, hc, hU⟩ hT hC (by omega) (by omega)) kv_L_lets kw20_0 kw20_1 ⟨Nat.le_of_ble_eq_true rfl, Nat.le_of_ble_eq_true rfl⟩ rfl rfl rfl hl.1 rfl (Nat.le_of_ble_eq_true rfl) dL_acts_74 ⟨Nat.zero_le _, Nat.zero_le _⟩) hS (fun _ h => h) (fun v H locs hX hO1 hS => ?_)
      have hO := hO.tr hO1 (fun _ h => h)
      obtain ⟨hv1, hR⟩ := hX
      subst hv1
      subst hQ
      refine x_retW S hr hlk (by first | rfl | decide | exact bI_nar _) hS hO ?_ dL_acts_77
      exact ⟨rfl, hR⟩
  · skip
    refine lv_aload_n S.1 S.2.1 dL_acts_39 rfl (lv_at hl 4 rfl) ?_
    refine lv_aload_n S.1 S.2.1 dL_acts_40 rfl (lv_at hl 5 rfl) ?_
    refine lv_aload_n S.1 S.2.1 dL_acts_41 rfl (lv_at hl 6 rfl) ?_
    refine lv_iload S.1 S.2.1 dL_acts_42 (lv_at hl 1 rfl) ?_
    refine lv_iload S.1 S.2.1 dL_acts_44 (lv_at hl 0 rfl) ?_
    refine lv_iconst (v := (nI 1)) S.1 S.2.1 dL_acts_46 (by decide) ?_
    refine lv_iload S.1 S.2.1 dL_acts_47 (lv_at hl 3 rfl) ?_
    refine lv_bipush (v := (nI 12)) S.1 S.2.1 dL_acts_49 (by decide) ?_
    refine lv_idiv S.1 S.2.1 dL_acts_51 (by decide) ?_
    refine x_top (y := (nI (nv / 12))) (pk_div (by omega) (by decide) (by decide)) ?_
    refine lv_bipush (v := (nI 127)) S.1 S.2.1 dL_acts_52 (by decide) ?_
    refine lv_irem S.1 S.2.1 dL_acts_54 (by decide) ?_
    refine x_top (y := (nI ((nv / 12) % 127))) (rem_nI (by omega) (by decide) (by decide)) ?_
    refine lv_iadd S.1 S.2.1 dL_acts_55 ?_
    refine x_top (y := (nI (1 + ((nv / 12) % 127)))) (nI_add 1 ((nv / 12) % 127)) ?_
    refine xk_W (x_runS (As := [.ref B, .ref a, .ref b, .int (nI (nv % 4)), .int (nI ((nv / 4) % 3)), .int (nI (1 + ((nv / 12) % 127)))]) (rest := []) S hE hS (fun _ h => h) (c_L_knocks l E B a b C n ((nv % 4)) (((nv / 4) % 3)) ((1 + ((nv / 12) % 127))) β σ _ hEL ⟨hab, haB, hbB⟩ hB ⟨hg, κ, hc, hU⟩ hT hC (by omega) (by omega) (by omega) (by omega)) kv_L_knocks kw16_5 kw16_6 ⟨Nat.le_of_ble_eq_true rfl, Nat.le_of_ble_eq_true rfl⟩ rfl rfl rfl hl.1 rfl (Nat.le_of_ble_eq_true rfl) dL_acts_56 ⟨Nat.zero_le _, Nat.zero_le _⟩) hS (fun _ h => h) (fun v H locs hX hO1 hS => ?_)
    have hO := hO.tr hO1 (fun _ h => h)
    obtain ⟨hv1, hR⟩ := hX
    subst hv1
    subst hQ
    refine x_retW S hr hlk (by first | rfl | decide | exact bI_nar _) hS hO ?_ dL_acts_59
    exact ⟨rfl, hR⟩
