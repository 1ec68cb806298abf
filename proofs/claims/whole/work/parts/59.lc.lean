/-! 59.lc: the law's cases, by program -/
set_option maxRecDepth 100000 in
set_option maxHeartbeats 1000000 in
theorem lc_knock {p : Program} {l : Launch} {e : Env} {s : State} {m : MethodId} {below : List Frame} {meth : Method} {c : Code} {Q : State → Prop} {b L i : Nat} {xs : Nat → Int32} {E : XE} {H : Heap} {locs : List Loc} {ls : Array Slot} {β : BS} {σ : Nat → Int32} {η : Nat → Nat → Int32} {np : Nat} {tx : Nat → Int32} {ty : Nat}
    (S : CallFix p m c cL_law 4 s #[Value.ref b] GW RL) (hEA : EA E (fun q => s.heap.size ≤ q) s) (hX : va_X b L xs s s.heap) (hbl : b < s.heap.size) (hi : i + 3 < L) (hL : L ≤ 2048) (hP : BoxP E s.heap.size β H) (hM : RfP E (s.heap.size + 118) (σ, (η, np), (tx, ty)) H) (hJ : JR i β (σ, (η, np), (tx, ty))) (hS : va_S (fun q => s.heap.size ≤ q) s.heap H locs)
    (hl : lv_has ls 4 [(3, .int (nI i)), (2, .ref (s.heap.size + 118)), (1, .ref s.heap.size), (0, .ref b)])
    (kk : ∀ (β' : BS) (μ' : RS) (H' : Heap) (locs' : List Loc), BoxP E s.heap.size β' H' → RfP E (s.heap.size + 118) μ' H' → JR (i + 1) β' μ' → va_S (fun q => s.heap.size ≤ q) s.heap H' locs' → W p l e room_1 s m #[Value.ref b] below meth c H' locs' 600000 7302250 Q (F0 m 615 ls [])) :
    W p l e room_1 s m #[Value.ref b] below meth c H locs 600000 7302250 Q (F0 m 132 ls []) := by
  have hE := hEA.1
  have hbA : ¬ (fun q => s.heap.size ≤ q) b := Nat.not_le.mpr hbl
  obtain ⟨n, hst, ⟨PP, QQ, DD, hs, hD⟩, hf, hn, hn2, hnp, hb, hty, u0, hm2, hm, hlen, hsg, hrd, hW⟩ := jr_facts hJ
  have hC : i + 1 < 2 ^ 30 := by omega
  have hC0 : i < 2 ^ 30 := by omega
  refine lv_aload_n S.1 S.2.1 dL_law_132 rfl (lv_at hl 2 rfl) ?_
  refine lv_aload_n S.1 S.2.1 dL_law_133 rfl (lv_at hl 3 rfl) ?_
  refine lv_iload_n S.1 S.2.1 dL_law_134 rfl (lv_at hl 0 rfl) ?_
  refine lv_iconst (v := nI 1) S.1 S.2.1 dL_law_135 (by decide) ?_
  refine lv_iadd S.1 S.2.1 dL_law_136 ?_
  refine x_top (nI_add i 1) ?_
  refine va_sld S.1 S.2.1 hX hbl hbA hS (vp_in_nI (by omega) (by omega)) dL_law_137 ?_
  refine lv_aload_n S.1 S.2.1 dL_law_138 rfl (lv_at hl 3 rfl) ?_
  refine lv_iload_n S.1 S.2.1 dL_law_139 rfl (lv_at hl 0 rfl) ?_
  refine lv_iconst (v := nI 2) S.1 S.2.1 dL_law_140 (by decide) ?_
  refine lv_iadd S.1 S.2.1 dL_law_141 ?_
  refine x_top (nI_add i 2) ?_
  refine va_sld S.1 S.2.1 hX hbl hbA hS (vp_in_nI (by omega) (by omega)) dL_law_142 ?_
  refine lv_aload_n S.1 S.2.1 dL_law_143 rfl (lv_at hl 3 rfl) ?_
  refine lv_iload_n S.1 S.2.1 dL_law_144 rfl (lv_at hl 0 rfl) ?_
  refine lv_iconst (v := nI 3) S.1 S.2.1 dL_law_145 (by decide) ?_
  refine lv_iadd S.1 S.2.1 dL_law_146 ?_
  refine x_top (nI_add i 3) ?_
  refine va_sld S.1 S.2.1 hX hbl hbA hS (vp_in_nI (by omega) (by omega)) dL_law_147 ?_
  refine xk_W (x_runV (As := [.int (xs (nI (i + 1)).toNatClampNeg), .int (xs (nI (i + 2)).toNatClampNeg), .int (xs (nI (i + 3)).toNatClampNeg)]) (rest := []) S hE hS (fun q h => jx_A h) (c_X7_knock l E s.heap.size β _ _ _ _ hP) kv_X7_knock kw7_13 kw7_14 kw7_15 (x_recv hE hP.1 (ci := 7) rfl) ⟨Nat.le_of_ble_eq_true rfl, Nat.le_of_ble_eq_true rfl⟩ rfl rfl rfl hl.1 rfl (Nat.le_of_ble_eq_true rfl) dL_law_148 ⟨Nat.le_of_ble_eq_true rfl, Nat.le_of_ble_eq_true rfl⟩) hS (fun q h => jx_A h) (fun v7 H locs hX7 hO7 hS => ?_)
  obtain ⟨hv7, hP⟩ := hX7
  have hM := jx_M hM hO7
  refine lv_aload_n S.1 S.2.1 dL_law_151 rfl (lv_at hl 1 rfl) ?_
  refine lv_aload_n S.1 S.2.1 dL_law_152 rfl (lv_at hl 3 rfl) ?_
  refine lv_iload_n S.1 S.2.1 dL_law_153 rfl (lv_at hl 0 rfl) ?_
  refine lv_iconst (v := nI 1) S.1 S.2.1 dL_law_154 (by decide) ?_
  refine lv_iadd S.1 S.2.1 dL_law_155 ?_
  refine x_top (nI_add i 1) ?_
  refine va_sld S.1 S.2.1 hX hbl hbA hS (vp_in_nI (by omega) (by omega)) dL_law_156 ?_
  refine lv_aload_n S.1 S.2.1 dL_law_157 rfl (lv_at hl 3 rfl) ?_
  refine lv_iload_n S.1 S.2.1 dL_law_158 rfl (lv_at hl 0 rfl) ?_
  refine lv_iconst (v := nI 2) S.1 S.2.1 dL_law_159 (by decide) ?_
  refine lv_iadd S.1 S.2.1 dL_law_160 ?_
  refine x_top (nI_add i 2) ?_
  refine va_sld S.1 S.2.1 hX hbl hbA hS (vp_in_nI (by omega) (by omega)) dL_law_161 ?_
  refine lv_aload_n S.1 S.2.1 dL_law_162 rfl (lv_at hl 3 rfl) ?_
  refine lv_iload_n S.1 S.2.1 dL_law_163 rfl (lv_at hl 0 rfl) ?_
  refine lv_iconst (v := nI 3) S.1 S.2.1 dL_law_164 (by decide) ?_
  refine lv_iadd S.1 S.2.1 dL_law_165 ?_
  refine x_top (nI_add i 3) ?_
  refine va_sld S.1 S.2.1 hX hbl hbA hS (vp_in_nI (by omega) (by omega)) dL_law_166 ?_
  obtain ⟨re, ho8, hs8, hrr⟩ := id hM
  refine xk_W (x_runV (As := [.int (xs (nI (i + 1)).toNatClampNeg), .int (xs (nI (i + 2)).toNatClampNeg), .int (xs (nI (i + 3)).toNatClampNeg)]) (rest := [.int v7]) S hE hS (fun q h => jx_A2 h) (c_X8_knock l E (s.heap.size + 118) n σ η np tx ty _ _ _ _ hM hn hn2 hnp) kv_X8_knock kw12_7 kw12_8 kw12_9 (x_recv hE ho8 (ci := 8) rfl) ⟨Nat.le_of_ble_eq_true rfl, Nat.le_of_ble_eq_true rfl⟩ rfl rfl rfl hl.1 rfl (Nat.le_of_ble_eq_true rfl) dL_law_167 ⟨Nat.le_of_ble_eq_true rfl, Nat.le_of_ble_eq_true rfl⟩) hS (fun q h => jx_A2 h) (fun v8 H locs hX8 hO8 hS => ?_)
  have hP := jx_B hP hO8
  obtain ⟨hv8, hM⟩ := hX8
  obtain ⟨he, hJ2⟩ := jr_ch hJ (Nat.le_succ i) (k_knock hs hD hf hC _ _ _)
  have hJ2 := jr_C hJ2 (Nat.le_refl (i + 1))
  have he : v7 = v8 := by rw [hv7, hv8]; exact he
  refine lv_icmp_eq (tgt := 615) S.1 S.2.1 dL_law_170 (by decide) (fun _ => ?_) (fun cc => absurd he cc)
  exact kk _ _ _ _ hP hM hJ2 hS
set_option maxRecDepth 100000 in
set_option maxHeartbeats 1000000 in
theorem lc_release {p : Program} {l : Launch} {e : Env} {s : State} {m : MethodId} {below : List Frame} {meth : Method} {c : Code} {Q : State → Prop} {b L i : Nat} {xs : Nat → Int32} {E : XE} {H : Heap} {locs : List Loc} {ls : Array Slot} {β : BS} {σ : Nat → Int32} {η : Nat → Nat → Int32} {np : Nat} {tx : Nat → Int32} {ty : Nat}
    (S : CallFix p m c cL_law 4 s #[Value.ref b] GW RL) (hEA : EA E (fun q => s.heap.size ≤ q) s) (hX : va_X b L xs s s.heap) (hbl : b < s.heap.size) (hi : i + 3 < L) (hL : L ≤ 2048) (hP : BoxP E s.heap.size β H) (hM : RfP E (s.heap.size + 118) (σ, (η, np), (tx, ty)) H) (hJ : JR i β (σ, (η, np), (tx, ty))) (hS : va_S (fun q => s.heap.size ≤ q) s.heap H locs)
    (hl : lv_has ls 4 [(3, .int (nI i)), (2, .ref (s.heap.size + 118)), (1, .ref s.heap.size), (0, .ref b)])
    (kk : ∀ (β' : BS) (μ' : RS) (H' : Heap) (locs' : List Loc), BoxP E s.heap.size β' H' → RfP E (s.heap.size + 118) μ' H' → JR (i + 1) β' μ' → va_S (fun q => s.heap.size ≤ q) s.heap H' locs' → W p l e room_1 s m #[Value.ref b] below meth c H' locs' 600000 7302250 Q (F0 m 615 ls [])) :
    W p l e room_1 s m #[Value.ref b] below meth c H locs 600000 7302250 Q (F0 m 175 ls []) := by
  have hE := hEA.1
  have hbA : ¬ (fun q => s.heap.size ≤ q) b := Nat.not_le.mpr hbl
  obtain ⟨n, hst, ⟨PP, QQ, DD, hs, hD⟩, hf, hn, hn2, hnp, hb, hty, u0, hm2, hm, hlen, hsg, hrd, hW⟩ := jr_facts hJ
  have hC : i + 1 < 2 ^ 30 := by omega
  have hC0 : i < 2 ^ 30 := by omega
  refine lv_aload_n S.1 S.2.1 dL_law_175 rfl (lv_at hl 2 rfl) ?_
  refine lv_aload_n S.1 S.2.1 dL_law_176 rfl (lv_at hl 3 rfl) ?_
  refine lv_iload_n S.1 S.2.1 dL_law_177 rfl (lv_at hl 0 rfl) ?_
  refine lv_iconst (v := nI 1) S.1 S.2.1 dL_law_178 (by decide) ?_
  refine lv_iadd S.1 S.2.1 dL_law_179 ?_
  refine x_top (nI_add i 1) ?_
  refine va_sld S.1 S.2.1 hX hbl hbA hS (vp_in_nI (by omega) (by omega)) dL_law_180 ?_
  refine lv_aload_n S.1 S.2.1 dL_law_181 rfl (lv_at hl 3 rfl) ?_
  refine lv_iload_n S.1 S.2.1 dL_law_182 rfl (lv_at hl 0 rfl) ?_
  refine lv_iconst (v := nI 2) S.1 S.2.1 dL_law_183 (by decide) ?_
  refine lv_iadd S.1 S.2.1 dL_law_184 ?_
  refine x_top (nI_add i 2) ?_
  refine va_sld S.1 S.2.1 hX hbl hbA hS (vp_in_nI (by omega) (by omega)) dL_law_185 ?_
  refine xk_W (x_runV (As := [.int (xs (nI (i + 1)).toNatClampNeg), .int (xs (nI (i + 2)).toNatClampNeg)]) (rest := []) S hE hS (fun q h => jx_A h) (c_X7_release l E s.heap.size β _ _ _ hP) kv_X7_release kw14_11 kw14_12 kw14_13 (x_recv hE hP.1 (ci := 7) rfl) ⟨Nat.le_of_ble_eq_true rfl, Nat.le_of_ble_eq_true rfl⟩ rfl rfl rfl hl.1 rfl (Nat.le_of_ble_eq_true rfl) dL_law_186 ⟨Nat.le_of_ble_eq_true rfl, Nat.le_of_ble_eq_true rfl⟩) hS (fun q h => jx_A h) (fun v7 H locs hX7 hO7 hS => ?_)
  obtain ⟨hv7, hP⟩ := hX7
  have hM := jx_M hM hO7
  refine lv_aload_n S.1 S.2.1 dL_law_189 rfl (lv_at hl 1 rfl) ?_
  refine lv_aload_n S.1 S.2.1 dL_law_190 rfl (lv_at hl 3 rfl) ?_
  refine lv_iload_n S.1 S.2.1 dL_law_191 rfl (lv_at hl 0 rfl) ?_
  refine lv_iconst (v := nI 1) S.1 S.2.1 dL_law_192 (by decide) ?_
  refine lv_iadd S.1 S.2.1 dL_law_193 ?_
  refine x_top (nI_add i 1) ?_
  refine va_sld S.1 S.2.1 hX hbl hbA hS (vp_in_nI (by omega) (by omega)) dL_law_194 ?_
  refine lv_aload_n S.1 S.2.1 dL_law_195 rfl (lv_at hl 3 rfl) ?_
  refine lv_iload_n S.1 S.2.1 dL_law_196 rfl (lv_at hl 0 rfl) ?_
  refine lv_iconst (v := nI 2) S.1 S.2.1 dL_law_197 (by decide) ?_
  refine lv_iadd S.1 S.2.1 dL_law_198 ?_
  refine x_top (nI_add i 2) ?_
  refine va_sld S.1 S.2.1 hX hbl hbA hS (vp_in_nI (by omega) (by omega)) dL_law_199 ?_
  obtain ⟨re, ho8, hs8, hrr⟩ := id hM
  refine xk_W (x_runV (As := [.int (xs (nI (i + 1)).toNatClampNeg), .int (xs (nI (i + 2)).toNatClampNeg)]) (rest := [.int v7]) S hE hS (fun q h => jx_A2 h) (c_X8_release l E (s.heap.size + 118) n σ η np tx ty _ _ _ hM hn hn2 hnp) kv_X8_release kw15_4 kw15_5 kw15_6 (x_recv hE ho8 (ci := 8) rfl) ⟨Nat.le_of_ble_eq_true rfl, Nat.le_of_ble_eq_true rfl⟩ rfl rfl rfl hl.1 rfl (Nat.le_of_ble_eq_true rfl) dL_law_200 ⟨Nat.le_of_ble_eq_true rfl, Nat.le_of_ble_eq_true rfl⟩) hS (fun q h => jx_A2 h) (fun v8 H locs hX8 hO8 hS => ?_)
  have hP := jx_B hP hO8
  obtain ⟨hv8, hM⟩ := hX8
  obtain ⟨he, hJ2⟩ := jr_ch hJ (Nat.le_refl i) (k_rel hs hD hf _ _)
  have hJ2 := jr_C hJ2 (Nat.le_succ i)
  have he : v7 = v8 := by rw [hv7, hv8]; exact he
  refine lv_icmp_eq (tgt := 615) S.1 S.2.1 dL_law_203 (by decide) (fun _ => ?_) (fun cc => absurd he cc)
  exact kk _ _ _ _ hP hM hJ2 hS
set_option maxRecDepth 100000 in
set_option maxHeartbeats 1000000 in
theorem lc_pedal {p : Program} {l : Launch} {e : Env} {s : State} {m : MethodId} {below : List Frame} {meth : Method} {c : Code} {Q : State → Prop} {b L i : Nat} {xs : Nat → Int32} {E : XE} {H : Heap} {locs : List Loc} {ls : Array Slot} {β : BS} {σ : Nat → Int32} {η : Nat → Nat → Int32} {np : Nat} {tx : Nat → Int32} {ty : Nat}
    (S : CallFix p m c cL_law 4 s #[Value.ref b] GW RL) (hEA : EA E (fun q => s.heap.size ≤ q) s) (hX : va_X b L xs s s.heap) (hbl : b < s.heap.size) (hi : i + 3 < L) (hL : L ≤ 2048) (hP : BoxP E s.heap.size β H) (hM : RfP E (s.heap.size + 118) (σ, (η, np), (tx, ty)) H) (hJ : JR i β (σ, (η, np), (tx, ty))) (hS : va_S (fun q => s.heap.size ≤ q) s.heap H locs)
    (hl : lv_has ls 4 [(3, .int (nI i)), (2, .ref (s.heap.size + 118)), (1, .ref s.heap.size), (0, .ref b)])
    (kk : ∀ (β' : BS) (μ' : RS) (H' : Heap) (locs' : List Loc), BoxP E s.heap.size β' H' → RfP E (s.heap.size + 118) μ' H' → JR (i + 1) β' μ' → va_S (fun q => s.heap.size ≤ q) s.heap H' locs' → W p l e room_1 s m #[Value.ref b] below meth c H' locs' 600000 7302250 Q (F0 m 615 ls [])) :
    W p l e room_1 s m #[Value.ref b] below meth c H locs 600000 7302250 Q (F0 m 208 ls []) := by
  have hE := hEA.1
  have hbA : ¬ (fun q => s.heap.size ≤ q) b := Nat.not_le.mpr hbl
  obtain ⟨n, hst, ⟨PP, QQ, DD, hs, hD⟩, hf, hn, hn2, hnp, hb, hty, u0, hm2, hm, hlen, hsg, hrd, hW⟩ := jr_facts hJ
  have hC : i + 1 < 2 ^ 30 := by omega
  have hC0 : i < 2 ^ 30 := by omega
  refine lv_aload_n S.1 S.2.1 dL_law_208 rfl (lv_at hl 2 rfl) ?_
  refine lv_aload_n S.1 S.2.1 dL_law_209 rfl (lv_at hl 3 rfl) ?_
  refine lv_iload_n S.1 S.2.1 dL_law_210 rfl (lv_at hl 0 rfl) ?_
  refine lv_iconst (v := nI 1) S.1 S.2.1 dL_law_211 (by decide) ?_
  refine lv_iadd S.1 S.2.1 dL_law_212 ?_
  refine x_top (nI_add i 1) ?_
  refine va_sld S.1 S.2.1 hX hbl hbA hS (vp_in_nI (by omega) (by omega)) dL_law_213 ?_
  refine xk_W (x_runV (As := [.int (xs (nI (i + 1)).toNatClampNeg)]) (rest := []) S hE hS (fun q h => jx_A h) (c_X7_pedal l E s.heap.size β _ _ hP) kv_X7_pedal kw15_12 kw15_13 kw15_14 (x_recv hE hP.1 (ci := 7) rfl) ⟨Nat.le_of_ble_eq_true rfl, Nat.le_of_ble_eq_true rfl⟩ rfl rfl rfl hl.1 rfl (Nat.le_of_ble_eq_true rfl) dL_law_214 ⟨Nat.le_of_ble_eq_true rfl, Nat.le_of_ble_eq_true rfl⟩) hS (fun q h => jx_A h) (fun v7 H locs hX7 hO7 hS => ?_)
  obtain ⟨hv7, hP⟩ := hX7
  have hM := jx_M hM hO7
  refine lv_aload_n S.1 S.2.1 dL_law_217 rfl (lv_at hl 1 rfl) ?_
  refine lv_aload_n S.1 S.2.1 dL_law_218 rfl (lv_at hl 3 rfl) ?_
  refine lv_iload_n S.1 S.2.1 dL_law_219 rfl (lv_at hl 0 rfl) ?_
  refine lv_iconst (v := nI 1) S.1 S.2.1 dL_law_220 (by decide) ?_
  refine lv_iadd S.1 S.2.1 dL_law_221 ?_
  refine x_top (nI_add i 1) ?_
  refine va_sld S.1 S.2.1 hX hbl hbA hS (vp_in_nI (by omega) (by omega)) dL_law_222 ?_
  obtain ⟨re, ho8, hs8, hrr⟩ := id hM
  refine xk_W (x_runV (As := [.int (xs (nI (i + 1)).toNatClampNeg)]) (rest := [.int v7]) S hE hS (fun q h => jx_A2 h) (c_X8_pedal l E (s.heap.size + 118) n σ η np tx ty _ _ hM hn hn2 hnp) kv_X8_pedal kw15_19 kw15_20 kw15_21 (x_recv hE ho8 (ci := 8) rfl) ⟨Nat.le_of_ble_eq_true rfl, Nat.le_of_ble_eq_true rfl⟩ rfl rfl rfl hl.1 rfl (Nat.le_of_ble_eq_true rfl) dL_law_223 ⟨Nat.le_of_ble_eq_true rfl, Nat.le_of_ble_eq_true rfl⟩) hS (fun q h => jx_A2 h) (fun v8 H locs hX8 hO8 hS => ?_)
  have hP := jx_B hP hO8
  obtain ⟨hv8, hM⟩ := hX8
  obtain ⟨he, hJ2⟩ := jr_ch hJ (Nat.le_refl i) (k_ped hs hD hf _)
  have hJ2 := jr_C hJ2 (Nat.le_succ i)
  have he : v7 = v8 := by rw [hv7, hv8]; exact he
  refine lv_icmp_eq (tgt := 615) S.1 S.2.1 dL_law_226 (by decide) (fun _ => ?_) (fun cc => absurd he cc)
  exact kk _ _ _ _ hP hM hJ2 hS
set_option maxRecDepth 100000 in
set_option maxHeartbeats 1000000 in
theorem lc_tick {p : Program} {l : Launch} {e : Env} {s : State} {m : MethodId} {below : List Frame} {meth : Method} {c : Code} {Q : State → Prop} {b L i : Nat} {xs : Nat → Int32} {E : XE} {H : Heap} {locs : List Loc} {ls : Array Slot} {β : BS} {σ : Nat → Int32} {η : Nat → Nat → Int32} {np : Nat} {tx : Nat → Int32} {ty : Nat}
    (S : CallFix p m c cL_law 4 s #[Value.ref b] GW RL) (hEA : EA E (fun q => s.heap.size ≤ q) s) (hX : va_X b L xs s s.heap) (hbl : b < s.heap.size) (hi : i + 3 < L) (hL : L ≤ 2048) (hP : BoxP E s.heap.size β H) (hM : RfP E (s.heap.size + 118) (σ, (η, np), (tx, ty)) H) (hJ : JR i β (σ, (η, np), (tx, ty))) (hS : va_S (fun q => s.heap.size ≤ q) s.heap H locs)
    (hl : lv_has ls 4 [(3, .int (nI i)), (2, .ref (s.heap.size + 118)), (1, .ref s.heap.size), (0, .ref b)])
    (kk : ∀ (β' : BS) (μ' : RS) (H' : Heap) (locs' : List Loc), BoxP E s.heap.size β' H' → RfP E (s.heap.size + 118) μ' H' → JR (i + 1) β' μ' → va_S (fun q => s.heap.size ≤ q) s.heap H' locs' → W p l e room_1 s m #[Value.ref b] below meth c H' locs' 600000 7302250 Q (F0 m 615 ls [])) :
    W p l e room_1 s m #[Value.ref b] below meth c H locs 600000 7302250 Q (F0 m 231 ls []) := by
  have hE := hEA.1
  have hbA : ¬ (fun q => s.heap.size ≤ q) b := Nat.not_le.mpr hbl
  obtain ⟨n, hst, ⟨PP, QQ, DD, hs, hD⟩, hf, hn, hn2, hnp, hb, hty, u0, hm2, hm, hlen, hsg, hrd, hW⟩ := jr_facts hJ
  have hC : i + 1 < 2 ^ 30 := by omega
  have hC0 : i < 2 ^ 30 := by omega
  refine lv_aload_n S.1 S.2.1 dL_law_231 rfl (lv_at hl 2 rfl) ?_
  refine lv_aload_n S.1 S.2.1 dL_law_232 rfl (lv_at hl 3 rfl) ?_
  refine lv_iload_n S.1 S.2.1 dL_law_233 rfl (lv_at hl 0 rfl) ?_
  refine lv_iconst (v := nI 1) S.1 S.2.1 dL_law_234 (by decide) ?_
  refine lv_iadd S.1 S.2.1 dL_law_235 ?_
  refine x_top (nI_add i 1) ?_
  refine va_sld S.1 S.2.1 hX hbl hbA hS (vp_in_nI (by omega) (by omega)) dL_law_236 ?_
  refine xk_W (x_runV (As := [.int (xs (nI (i + 1)).toNatClampNeg)]) (rest := []) S hE hS (fun q h => jx_A h) (c_X7_tick l E s.heap.size β _ _ hP) kv_X7_tick kw16_3 kw16_4 kw16_5 (x_recv hE hP.1 (ci := 7) rfl) ⟨Nat.le_of_ble_eq_true rfl, Nat.le_of_ble_eq_true rfl⟩ rfl rfl rfl hl.1 rfl (Nat.le_of_ble_eq_true rfl) dL_law_237 ⟨Nat.le_of_ble_eq_true rfl, Nat.le_of_ble_eq_true rfl⟩) hS (fun q h => jx_A h) (fun v7 H locs hX7 hO7 hS => ?_)
  obtain ⟨hv7, hP⟩ := hX7
  have hM := jx_M hM hO7
  refine lv_aload_n S.1 S.2.1 dL_law_240 rfl (lv_at hl 1 rfl) ?_
  refine lv_aload_n S.1 S.2.1 dL_law_241 rfl (lv_at hl 3 rfl) ?_
  refine lv_iload_n S.1 S.2.1 dL_law_242 rfl (lv_at hl 0 rfl) ?_
  refine lv_iconst (v := nI 1) S.1 S.2.1 dL_law_243 (by decide) ?_
  refine lv_iadd S.1 S.2.1 dL_law_244 ?_
  refine x_top (nI_add i 1) ?_
  refine va_sld S.1 S.2.1 hX hbl hbA hS (vp_in_nI (by omega) (by omega)) dL_law_245 ?_
  obtain ⟨re, ho8, hs8, hrr⟩ := id hM
  refine xk_W (x_runV (As := [.int (xs (nI (i + 1)).toNatClampNeg)]) (rest := [.int v7]) S hE hS (fun q h => jx_A2 h) (c_X8_tick l E (s.heap.size + 118) n σ η np tx ty _ _ hM hn hn2 hnp) kv_X8_tick kw18_6 kw18_7 kw18_8 (x_recv hE ho8 (ci := 8) rfl) ⟨Nat.le_of_ble_eq_true rfl, Nat.le_of_ble_eq_true rfl⟩ rfl rfl rfl hl.1 rfl (Nat.le_of_ble_eq_true rfl) dL_law_246 ⟨Nat.le_of_ble_eq_true rfl, Nat.le_of_ble_eq_true rfl⟩) hS (fun q h => jx_A2 h) (fun v8 H locs hX8 hO8 hS => ?_)
  have hP := jx_B hP hO8
  obtain ⟨hv8, hM⟩ := hX8
  obtain ⟨he, hJ2⟩ := jr_ch hJ (Nat.le_refl i) (k_tick hst hC0 _)
  have hJ2 := jr_C hJ2 (Nat.le_succ i)
  have he : v7 = v8 := by rw [hv7, hv8]; exact he
  refine lv_icmp_eq (tgt := 615) S.1 S.2.1 dL_law_249 (by decide) (fun _ => ?_) (fun cc => absurd he cc)
  exact kk _ _ _ _ hP hM hJ2 hS
set_option maxRecDepth 100000 in
set_option maxHeartbeats 1000000 in
theorem lc_set {p : Program} {l : Launch} {e : Env} {s : State} {m : MethodId} {below : List Frame} {meth : Method} {c : Code} {Q : State → Prop} {b L i : Nat} {xs : Nat → Int32} {E : XE} {H : Heap} {locs : List Loc} {ls : Array Slot} {β : BS} {σ : Nat → Int32} {η : Nat → Nat → Int32} {np : Nat} {tx : Nat → Int32} {ty : Nat}
    (S : CallFix p m c cL_law 4 s #[Value.ref b] GW RL) (hEA : EA E (fun q => s.heap.size ≤ q) s) (hX : va_X b L xs s s.heap) (hbl : b < s.heap.size) (hi : i + 3 < L) (hL : L ≤ 2048) (hP : BoxP E s.heap.size β H) (hM : RfP E (s.heap.size + 118) (σ, (η, np), (tx, ty)) H) (hJ : JR i β (σ, (η, np), (tx, ty))) (hS : va_S (fun q => s.heap.size ≤ q) s.heap H locs)
    (hl : lv_has ls 4 [(3, .int (nI i)), (2, .ref (s.heap.size + 118)), (1, .ref s.heap.size), (0, .ref b)])
    (kk : ∀ (β' : BS) (μ' : RS) (H' : Heap) (locs' : List Loc), BoxP E s.heap.size β' H' → RfP E (s.heap.size + 118) μ' H' → JR (i + 1) β' μ' → va_S (fun q => s.heap.size ≤ q) s.heap H' locs' → W p l e room_1 s m #[Value.ref b] below meth c H' locs' 600000 7302250 Q (F0 m 615 ls [])) :
    W p l e room_1 s m #[Value.ref b] below meth c H locs 600000 7302250 Q (F0 m 254 ls []) := by
  have hE := hEA.1
  have hbA : ¬ (fun q => s.heap.size ≤ q) b := Nat.not_le.mpr hbl
  obtain ⟨n, hst, ⟨PP, QQ, DD, hs, hD⟩, hf, hn, hn2, hnp, hb, hty, u0, hm2, hm, hlen, hsg, hrd, hW⟩ := jr_facts hJ
  have hC : i + 1 < 2 ^ 30 := by omega
  have hC0 : i < 2 ^ 30 := by omega
  refine lv_aload_n S.1 S.2.1 dL_law_254 rfl (lv_at hl 2 rfl) ?_
  refine lv_aload_n S.1 S.2.1 dL_law_255 rfl (lv_at hl 3 rfl) ?_
  refine lv_iload_n S.1 S.2.1 dL_law_256 rfl (lv_at hl 0 rfl) ?_
  refine lv_iconst (v := nI 1) S.1 S.2.1 dL_law_257 (by decide) ?_
  refine lv_iadd S.1 S.2.1 dL_law_258 ?_
  refine x_top (nI_add i 1) ?_
  refine va_sld S.1 S.2.1 hX hbl hbA hS (vp_in_nI (by omega) (by omega)) dL_law_259 ?_
  refine lv_aload_n S.1 S.2.1 dL_law_260 rfl (lv_at hl 3 rfl) ?_
  refine lv_iload_n S.1 S.2.1 dL_law_261 rfl (lv_at hl 0 rfl) ?_
  refine lv_iconst (v := nI 2) S.1 S.2.1 dL_law_262 (by decide) ?_
  refine lv_iadd S.1 S.2.1 dL_law_263 ?_
  refine x_top (nI_add i 2) ?_
  refine va_sld S.1 S.2.1 hX hbl hbA hS (vp_in_nI (by omega) (by omega)) dL_law_264 ?_
  refine xk_W (x_runV (As := [.int (xs (nI (i + 1)).toNatClampNeg), .int (xs (nI (i + 2)).toNatClampNeg)]) (rest := []) S hE hS (fun q h => jx_A h) (c_X7_set l E s.heap.size β _ _ _ hP) kv_X7_set kw19_23 kw20_0 kw20_1 (x_recv hE hP.1 (ci := 7) rfl) ⟨Nat.le_of_ble_eq_true rfl, Nat.le_of_ble_eq_true rfl⟩ rfl rfl rfl hl.1 rfl (Nat.le_of_ble_eq_true rfl) dL_law_265 ⟨Nat.le_of_ble_eq_true rfl, Nat.le_of_ble_eq_true rfl⟩) hS (fun q h => jx_A h) (fun v7 H locs hX7 hO7 hS => ?_)
  obtain ⟨hv7, hP⟩ := hX7
  have hM := jx_M hM hO7
  refine lv_aload_n S.1 S.2.1 dL_law_268 rfl (lv_at hl 1 rfl) ?_
  refine lv_aload_n S.1 S.2.1 dL_law_269 rfl (lv_at hl 3 rfl) ?_
  refine lv_iload_n S.1 S.2.1 dL_law_270 rfl (lv_at hl 0 rfl) ?_
  refine lv_iconst (v := nI 1) S.1 S.2.1 dL_law_271 (by decide) ?_
  refine lv_iadd S.1 S.2.1 dL_law_272 ?_
  refine x_top (nI_add i 1) ?_
  refine va_sld S.1 S.2.1 hX hbl hbA hS (vp_in_nI (by omega) (by omega)) dL_law_273 ?_
  refine lv_aload_n S.1 S.2.1 dL_law_274 rfl (lv_at hl 3 rfl) ?_
  refine lv_iload_n S.1 S.2.1 dL_law_275 rfl (lv_at hl 0 rfl) ?_
  refine lv_iconst (v := nI 2) S.1 S.2.1 dL_law_276 (by decide) ?_
  refine lv_iadd S.1 S.2.1 dL_law_277 ?_
  refine x_top (nI_add i 2) ?_
  refine va_sld S.1 S.2.1 hX hbl hbA hS (vp_in_nI (by omega) (by omega)) dL_law_278 ?_
  obtain ⟨re, ho8, hs8, hrr⟩ := id hM
  refine xk_W (x_runV (As := [.int (xs (nI (i + 1)).toNatClampNeg), .int (xs (nI (i + 2)).toNatClampNeg)]) (rest := [.int v7]) S hE hS (fun q h => jx_A2 h) (c_X8_set l E (s.heap.size + 118) n σ η np tx ty _ _ _ hM hn hn2 hnp) kv_X8_set kw20_7 kw20_8 kw20_9 (x_recv hE ho8 (ci := 8) rfl) ⟨Nat.le_of_ble_eq_true rfl, Nat.le_of_ble_eq_true rfl⟩ rfl rfl rfl hl.1 rfl (Nat.le_of_ble_eq_true rfl) dL_law_279 ⟨Nat.le_of_ble_eq_true rfl, Nat.le_of_ble_eq_true rfl⟩) hS (fun q h => jx_A2 h) (fun v8 H locs hX8 hO8 hS => ?_)
  have hP := jx_B hP hO8
  obtain ⟨hv8, hM⟩ := hX8
  obtain ⟨he, hJ2⟩ := jr_ch hJ (Nat.le_refl i) (k_set hs hD hf _ _)
  have hJ2 := jr_C hJ2 (Nat.le_succ i)
  have he : v7 = v8 := by rw [hv7, hv8]; exact he
  refine lv_icmp_eq (tgt := 615) S.1 S.2.1 dL_law_282 (by decide) (fun _ => ?_) (fun cc => absurd he cc)
  exact kk _ _ _ _ hP hM hJ2 hS
set_option maxRecDepth 100000 in
set_option maxHeartbeats 1000000 in
theorem lc_noteOf {p : Program} {l : Launch} {e : Env} {s : State} {m : MethodId} {below : List Frame} {meth : Method} {c : Code} {Q : State → Prop} {b L i : Nat} {xs : Nat → Int32} {E : XE} {H : Heap} {locs : List Loc} {ls : Array Slot} {β : BS} {σ : Nat → Int32} {η : Nat → Nat → Int32} {np : Nat} {tx : Nat → Int32} {ty : Nat}
    (S : CallFix p m c cL_law 4 s #[Value.ref b] GW RL) (hEA : EA E (fun q => s.heap.size ≤ q) s) (hX : va_X b L xs s s.heap) (hbl : b < s.heap.size) (hi : i + 3 < L) (hL : L ≤ 2048) (hP : BoxP E s.heap.size β H) (hM : RfP E (s.heap.size + 118) (σ, (η, np), (tx, ty)) H) (hJ : JR i β (σ, (η, np), (tx, ty))) (hS : va_S (fun q => s.heap.size ≤ q) s.heap H locs)
    (hl : lv_has ls 4 [(3, .int (nI i)), (2, .ref (s.heap.size + 118)), (1, .ref s.heap.size), (0, .ref b)])
    (kk : ∀ (β' : BS) (μ' : RS) (H' : Heap) (locs' : List Loc), BoxP E s.heap.size β' H' → RfP E (s.heap.size + 118) μ' H' → JR (i + 1) β' μ' → va_S (fun q => s.heap.size ≤ q) s.heap H' locs' → W p l e room_1 s m #[Value.ref b] below meth c H' locs' 600000 7302250 Q (F0 m 615 ls [])) :
    W p l e room_1 s m #[Value.ref b] below meth c H locs 600000 7302250 Q (F0 m 287 ls []) := by
  have hE := hEA.1
  have hbA : ¬ (fun q => s.heap.size ≤ q) b := Nat.not_le.mpr hbl
  obtain ⟨n, hst, ⟨PP, QQ, DD, hs, hD⟩, hf, hn, hn2, hnp, hb, hty, u0, hm2, hm, hlen, hsg, hrd, hW⟩ := jr_facts hJ
  have hC : i + 1 < 2 ^ 30 := by omega
  have hC0 : i < 2 ^ 30 := by omega
  refine lv_aload_n S.1 S.2.1 dL_law_287 rfl (lv_at hl 2 rfl) ?_
  refine lv_aload_n S.1 S.2.1 dL_law_288 rfl (lv_at hl 3 rfl) ?_
  refine lv_iload_n S.1 S.2.1 dL_law_289 rfl (lv_at hl 0 rfl) ?_
  refine lv_iconst (v := nI 1) S.1 S.2.1 dL_law_290 (by decide) ?_
  refine lv_iadd S.1 S.2.1 dL_law_291 ?_
  refine x_top (nI_add i 1) ?_
  refine va_sld S.1 S.2.1 hX hbl hbA hS (vp_in_nI (by omega) (by omega)) dL_law_292 ?_
  refine lv_aload_n S.1 S.2.1 dL_law_293 rfl (lv_at hl 3 rfl) ?_
  refine lv_iload_n S.1 S.2.1 dL_law_294 rfl (lv_at hl 0 rfl) ?_
  refine lv_iconst (v := nI 2) S.1 S.2.1 dL_law_295 (by decide) ?_
  refine lv_iadd S.1 S.2.1 dL_law_296 ?_
  refine x_top (nI_add i 2) ?_
  refine va_sld S.1 S.2.1 hX hbl hbA hS (vp_in_nI (by omega) (by omega)) dL_law_297 ?_
  refine xk_R (x_runV (As := [.int (xs (nI (i + 1)).toNatClampNeg), .int (xs (nI (i + 2)).toNatClampNeg)]) (rest := []) S hE hS (fun q h => h.elim) (c_X7_noteOf l E s.heap.size β _ _ _ hP) kv_X7_noteOf kw20_11 kw20_12 kw20_13 (x_recv hE hP.1 (ci := 7) rfl) ⟨Nat.le_of_ble_eq_true rfl, Nat.le_of_ble_eq_true rfl⟩ rfl rfl rfl hl.1 rfl (Nat.le_of_ble_eq_true rfl) dL_law_298 ⟨Nat.le_of_ble_eq_true rfl, Nat.le_of_ble_eq_true rfl⟩) ?_
  refine lv_aload_n S.1 S.2.1 dL_law_301 rfl (lv_at hl 1 rfl) ?_
  refine lv_aload_n S.1 S.2.1 dL_law_302 rfl (lv_at hl 3 rfl) ?_
  refine lv_iload_n S.1 S.2.1 dL_law_303 rfl (lv_at hl 0 rfl) ?_
  refine lv_iconst (v := nI 1) S.1 S.2.1 dL_law_304 (by decide) ?_
  refine lv_iadd S.1 S.2.1 dL_law_305 ?_
  refine x_top (nI_add i 1) ?_
  refine va_sld S.1 S.2.1 hX hbl hbA hS (vp_in_nI (by omega) (by omega)) dL_law_306 ?_
  refine lv_aload_n S.1 S.2.1 dL_law_307 rfl (lv_at hl 3 rfl) ?_
  refine lv_iload_n S.1 S.2.1 dL_law_308 rfl (lv_at hl 0 rfl) ?_
  refine lv_iconst (v := nI 2) S.1 S.2.1 dL_law_309 (by decide) ?_
  refine lv_iadd S.1 S.2.1 dL_law_310 ?_
  refine x_top (nI_add i 2) ?_
  refine va_sld S.1 S.2.1 hX hbl hbA hS (vp_in_nI (by omega) (by omega)) dL_law_311 ?_
  obtain ⟨re, ho8, hs8, hrr⟩ := id hM
  refine xk_R (x_runV (As := [.int (xs (nI (i + 1)).toNatClampNeg), .int (xs (nI (i + 2)).toNatClampNeg)]) (rest := [.int _]) S hE hS (fun q h => h.elim) (c_X8_noteOf l E (s.heap.size + 118) (nI np) (nI ty) re σ _ _ n _ ho8 hs8 hn hn2 hb) kv_X8_noteOf kw21_0 kw21_1 kw21_2 (x_recv hE ho8 (ci := 8) rfl) ⟨Nat.le_of_ble_eq_true rfl, Nat.le_of_ble_eq_true rfl⟩ rfl rfl rfl hl.1 rfl (Nat.le_of_ble_eq_true rfl) dL_law_312 ⟨Nat.le_of_ble_eq_true rfl, Nat.le_of_ble_eq_true rfl⟩) ?_
  have hJ2 := jr_C hJ (Nat.le_succ i)
  have he := q_note hs (xs (nI (i + 1)).toNatClampNeg) (xs (nI (i + 2)).toNatClampNeg)
  refine lv_icmp_eq (tgt := 615) S.1 S.2.1 dL_law_315 (by decide) (fun _ => ?_) (fun cc => absurd he cc)
  exact kk _ _ _ _ hP hM hJ2 hS
set_option maxRecDepth 100000 in
set_option maxHeartbeats 1000000 in
theorem lc_voiceAt {p : Program} {l : Launch} {e : Env} {s : State} {m : MethodId} {below : List Frame} {meth : Method} {c : Code} {Q : State → Prop} {b L i : Nat} {xs : Nat → Int32} {E : XE} {H : Heap} {locs : List Loc} {ls : Array Slot} {β : BS} {σ : Nat → Int32} {η : Nat → Nat → Int32} {np : Nat} {tx : Nat → Int32} {ty : Nat}
    (S : CallFix p m c cL_law 4 s #[Value.ref b] GW RL) (hEA : EA E (fun q => s.heap.size ≤ q) s) (hX : va_X b L xs s s.heap) (hbl : b < s.heap.size) (hi : i + 3 < L) (hL : L ≤ 2048) (hP : BoxP E s.heap.size β H) (hM : RfP E (s.heap.size + 118) (σ, (η, np), (tx, ty)) H) (hJ : JR i β (σ, (η, np), (tx, ty))) (hS : va_S (fun q => s.heap.size ≤ q) s.heap H locs)
    (hl : lv_has ls 4 [(3, .int (nI i)), (2, .ref (s.heap.size + 118)), (1, .ref s.heap.size), (0, .ref b)])
    (kk : ∀ (β' : BS) (μ' : RS) (H' : Heap) (locs' : List Loc), BoxP E s.heap.size β' H' → RfP E (s.heap.size + 118) μ' H' → JR (i + 1) β' μ' → va_S (fun q => s.heap.size ≤ q) s.heap H' locs' → W p l e room_1 s m #[Value.ref b] below meth c H' locs' 600000 7302250 Q (F0 m 615 ls [])) :
    W p l e room_1 s m #[Value.ref b] below meth c H locs 600000 7302250 Q (F0 m 320 ls []) := by
  have hE := hEA.1
  have hbA : ¬ (fun q => s.heap.size ≤ q) b := Nat.not_le.mpr hbl
  obtain ⟨n, hst, ⟨PP, QQ, DD, hs, hD⟩, hf, hn, hn2, hnp, hb, hty, u0, hm2, hm, hlen, hsg, hrd, hW⟩ := jr_facts hJ
  have hC : i + 1 < 2 ^ 30 := by omega
  have hC0 : i < 2 ^ 30 := by omega
  refine lv_aload_n S.1 S.2.1 dL_law_320 rfl (lv_at hl 2 rfl) ?_
  refine lv_aload_n S.1 S.2.1 dL_law_321 rfl (lv_at hl 3 rfl) ?_
  refine lv_iload_n S.1 S.2.1 dL_law_322 rfl (lv_at hl 0 rfl) ?_
  refine lv_iconst (v := nI 1) S.1 S.2.1 dL_law_323 (by decide) ?_
  refine lv_iadd S.1 S.2.1 dL_law_324 ?_
  refine x_top (nI_add i 1) ?_
  refine va_sld S.1 S.2.1 hX hbl hbA hS (vp_in_nI (by omega) (by omega)) dL_law_325 ?_
  refine xk_R (x_runV (As := [.int (xs (nI (i + 1)).toNatClampNeg)]) (rest := []) S hE hS (fun q h => h.elim) (c_X7_voiceAt l E s.heap.size β _ _ hP) kv_X7_voiceAt kw21_16 kw21_17 kw21_18 (x_recv hE hP.1 (ci := 7) rfl) ⟨Nat.le_of_ble_eq_true rfl, Nat.le_of_ble_eq_true rfl⟩ rfl rfl rfl hl.1 rfl (Nat.le_of_ble_eq_true rfl) dL_law_326 ⟨Nat.le_of_ble_eq_true rfl, Nat.le_of_ble_eq_true rfl⟩) ?_
  refine lv_aload_n S.1 S.2.1 dL_law_329 rfl (lv_at hl 1 rfl) ?_
  refine lv_aload_n S.1 S.2.1 dL_law_330 rfl (lv_at hl 3 rfl) ?_
  refine lv_iload_n S.1 S.2.1 dL_law_331 rfl (lv_at hl 0 rfl) ?_
  refine lv_iconst (v := nI 1) S.1 S.2.1 dL_law_332 (by decide) ?_
  refine lv_iadd S.1 S.2.1 dL_law_333 ?_
  refine x_top (nI_add i 1) ?_
  refine va_sld S.1 S.2.1 hX hbl hbA hS (vp_in_nI (by omega) (by omega)) dL_law_334 ?_
  obtain ⟨re, ho8, hs8, hrr⟩ := id hM
  refine xk_R (x_runV (As := [.int (xs (nI (i + 1)).toNatClampNeg)]) (rest := [.int _]) S hE hS (fun q h => h.elim) (c_X8_voiceAt l E (s.heap.size + 118) (nI np) (nI ty) re σ _ n _ ho8 hs8 hn hn2) kv_X8_voiceAt kw21_20 kw21_21 kw21_22 (x_recv hE ho8 (ci := 8) rfl) ⟨Nat.le_of_ble_eq_true rfl, Nat.le_of_ble_eq_true rfl⟩ rfl rfl rfl hl.1 rfl (Nat.le_of_ble_eq_true rfl) dL_law_335 ⟨Nat.le_of_ble_eq_true rfl, Nat.le_of_ble_eq_true rfl⟩) ?_
  have hJ2 := jr_C hJ (Nat.le_succ i)
  have he := sm_va hs (xs (nI (i + 1)).toNatClampNeg)
  refine lv_icmp_eq (tgt := 615) S.1 S.2.1 dL_law_338 (by decide) (fun _ => ?_) (fun cc => absurd he cc)
  exact kk _ _ _ _ hP hM hJ2 hS
set_option maxRecDepth 100000 in
set_option maxHeartbeats 1000000 in
theorem lc_find {p : Program} {l : Launch} {e : Env} {s : State} {m : MethodId} {below : List Frame} {meth : Method} {c : Code} {Q : State → Prop} {b L i : Nat} {xs : Nat → Int32} {E : XE} {H : Heap} {locs : List Loc} {ls : Array Slot} {β : BS} {σ : Nat → Int32} {η : Nat → Nat → Int32} {np : Nat} {tx : Nat → Int32} {ty : Nat}
    (S : CallFix p m c cL_law 4 s #[Value.ref b] GW RL) (hEA : EA E (fun q => s.heap.size ≤ q) s) (hX : va_X b L xs s s.heap) (hbl : b < s.heap.size) (hi : i + 3 < L) (hL : L ≤ 2048) (hP : BoxP E s.heap.size β H) (hM : RfP E (s.heap.size + 118) (σ, (η, np), (tx, ty)) H) (hJ : JR i β (σ, (η, np), (tx, ty))) (hS : va_S (fun q => s.heap.size ≤ q) s.heap H locs)
    (hl : lv_has ls 4 [(3, .int (nI i)), (2, .ref (s.heap.size + 118)), (1, .ref s.heap.size), (0, .ref b)])
    (kk : ∀ (β' : BS) (μ' : RS) (H' : Heap) (locs' : List Loc), BoxP E s.heap.size β' H' → RfP E (s.heap.size + 118) μ' H' → JR (i + 1) β' μ' → va_S (fun q => s.heap.size ≤ q) s.heap H' locs' → W p l e room_1 s m #[Value.ref b] below meth c H' locs' 600000 7302250 Q (F0 m 615 ls [])) :
    W p l e room_1 s m #[Value.ref b] below meth c H locs 600000 7302250 Q (F0 m 343 ls []) := by
  have hE := hEA.1
  have hbA : ¬ (fun q => s.heap.size ≤ q) b := Nat.not_le.mpr hbl
  obtain ⟨n, hst, ⟨PP, QQ, DD, hs, hD⟩, hf, hn, hn2, hnp, hb, hty, u0, hm2, hm, hlen, hsg, hrd, hW⟩ := jr_facts hJ
  have hC : i + 1 < 2 ^ 30 := by omega
  have hC0 : i < 2 ^ 30 := by omega
  refine lv_aload_n S.1 S.2.1 dL_law_343 rfl (lv_at hl 2 rfl) ?_
  refine lv_aload_n S.1 S.2.1 dL_law_344 rfl (lv_at hl 3 rfl) ?_
  refine lv_iload_n S.1 S.2.1 dL_law_345 rfl (lv_at hl 0 rfl) ?_
  refine lv_iconst (v := nI 1) S.1 S.2.1 dL_law_346 (by decide) ?_
  refine lv_iadd S.1 S.2.1 dL_law_347 ?_
  refine x_top (nI_add i 1) ?_
  refine va_sld S.1 S.2.1 hX hbl hbA hS (vp_in_nI (by omega) (by omega)) dL_law_348 ?_
  refine lv_aload_n S.1 S.2.1 dL_law_349 rfl (lv_at hl 3 rfl) ?_
  refine lv_iload_n S.1 S.2.1 dL_law_350 rfl (lv_at hl 0 rfl) ?_
  refine lv_iconst (v := nI 2) S.1 S.2.1 dL_law_351 (by decide) ?_
  refine lv_iadd S.1 S.2.1 dL_law_352 ?_
  refine x_top (nI_add i 2) ?_
  refine va_sld S.1 S.2.1 hX hbl hbA hS (vp_in_nI (by omega) (by omega)) dL_law_353 ?_
  refine xk_R (x_runV (As := [.int (xs (nI (i + 1)).toNatClampNeg), .int (xs (nI (i + 2)).toNatClampNeg)]) (rest := []) S hE hS (fun q h => h.elim) (c_X7_find l E s.heap.size β _ _ _ hP) kv_X7_find kw22_0 kw22_1 kw22_2 (x_recv hE hP.1 (ci := 7) rfl) ⟨Nat.le_of_ble_eq_true rfl, Nat.le_of_ble_eq_true rfl⟩ rfl rfl rfl hl.1 rfl (Nat.le_of_ble_eq_true rfl) dL_law_354 ⟨Nat.le_of_ble_eq_true rfl, Nat.le_of_ble_eq_true rfl⟩) ?_
  refine lv_aload_n S.1 S.2.1 dL_law_357 rfl (lv_at hl 1 rfl) ?_
  refine lv_aload_n S.1 S.2.1 dL_law_358 rfl (lv_at hl 3 rfl) ?_
  refine lv_iload_n S.1 S.2.1 dL_law_359 rfl (lv_at hl 0 rfl) ?_
  refine lv_iconst (v := nI 1) S.1 S.2.1 dL_law_360 (by decide) ?_
  refine lv_iadd S.1 S.2.1 dL_law_361 ?_
  refine x_top (nI_add i 1) ?_
  refine va_sld S.1 S.2.1 hX hbl hbA hS (vp_in_nI (by omega) (by omega)) dL_law_362 ?_
  refine lv_aload_n S.1 S.2.1 dL_law_363 rfl (lv_at hl 3 rfl) ?_
  refine lv_iload_n S.1 S.2.1 dL_law_364 rfl (lv_at hl 0 rfl) ?_
  refine lv_iconst (v := nI 2) S.1 S.2.1 dL_law_365 (by decide) ?_
  refine lv_iadd S.1 S.2.1 dL_law_366 ?_
  refine x_top (nI_add i 2) ?_
  refine va_sld S.1 S.2.1 hX hbl hbA hS (vp_in_nI (by omega) (by omega)) dL_law_367 ?_
  obtain ⟨re, ho8, hs8, hrr⟩ := id hM
  refine xk_R (x_runV (As := [.int (xs (nI (i + 1)).toNatClampNeg), .int (xs (nI (i + 2)).toNatClampNeg)]) (rest := [.int _]) S hE hS (fun q h => h.elim) (c_X8_find l E (s.heap.size + 118) (nI np) (nI ty) re σ _ _ n _ ho8 hs8 hn hn2) kv_X8_find kw22_4 kw22_5 kw22_6 (x_recv hE ho8 (ci := 8) rfl) ⟨Nat.le_of_ble_eq_true rfl, Nat.le_of_ble_eq_true rfl⟩ rfl rfl rfl hl.1 rfl (Nat.le_of_ble_eq_true rfl) dL_law_368 ⟨Nat.le_of_ble_eq_true rfl, Nat.le_of_ble_eq_true rfl⟩) ?_
  have hJ2 := jr_C hJ (Nat.le_succ i)
  have he := q_find hs (xs (nI (i + 1)).toNatClampNeg) (xs (nI (i + 2)).toNatClampNeg)
  refine lv_icmp_eq (tgt := 615) S.1 S.2.1 dL_law_371 (by decide) (fun _ => ?_) (fun cc => absurd he cc)
  exact kk _ _ _ _ hP hM hJ2 hS
set_option maxRecDepth 100000 in
set_option maxHeartbeats 1000000 in
theorem lc_partOf {p : Program} {l : Launch} {e : Env} {s : State} {m : MethodId} {below : List Frame} {meth : Method} {c : Code} {Q : State → Prop} {b L i : Nat} {xs : Nat → Int32} {E : XE} {H : Heap} {locs : List Loc} {ls : Array Slot} {β : BS} {σ : Nat → Int32} {η : Nat → Nat → Int32} {np : Nat} {tx : Nat → Int32} {ty : Nat}
    (S : CallFix p m c cL_law 4 s #[Value.ref b] GW RL) (hEA : EA E (fun q => s.heap.size ≤ q) s) (hX : va_X b L xs s s.heap) (hbl : b < s.heap.size) (hi : i + 3 < L) (hL : L ≤ 2048) (hP : BoxP E s.heap.size β H) (hM : RfP E (s.heap.size + 118) (σ, (η, np), (tx, ty)) H) (hJ : JR i β (σ, (η, np), (tx, ty))) (hS : va_S (fun q => s.heap.size ≤ q) s.heap H locs)
    (hl : lv_has ls 4 [(3, .int (nI i)), (2, .ref (s.heap.size + 118)), (1, .ref s.heap.size), (0, .ref b)])
    (kk : ∀ (β' : BS) (μ' : RS) (H' : Heap) (locs' : List Loc), BoxP E s.heap.size β' H' → RfP E (s.heap.size + 118) μ' H' → JR (i + 1) β' μ' → va_S (fun q => s.heap.size ≤ q) s.heap H' locs' → W p l e room_1 s m #[Value.ref b] below meth c H' locs' 600000 7302250 Q (F0 m 615 ls [])) :
    W p l e room_1 s m #[Value.ref b] below meth c H locs 600000 7302250 Q (F0 m 376 ls []) := by
  have hE := hEA.1
  have hbA : ¬ (fun q => s.heap.size ≤ q) b := Nat.not_le.mpr hbl
  obtain ⟨n, hst, ⟨PP, QQ, DD, hs, hD⟩, hf, hn, hn2, hnp, hb, hty, u0, hm2, hm, hlen, hsg, hrd, hW⟩ := jr_facts hJ
  have hC : i + 1 < 2 ^ 30 := by omega
  have hC0 : i < 2 ^ 30 := by omega
  refine lv_aload_n S.1 S.2.1 dL_law_376 rfl (lv_at hl 2 rfl) ?_
  refine lv_aload_n S.1 S.2.1 dL_law_377 rfl (lv_at hl 3 rfl) ?_
  refine lv_iload_n S.1 S.2.1 dL_law_378 rfl (lv_at hl 0 rfl) ?_
  refine lv_iconst (v := nI 1) S.1 S.2.1 dL_law_379 (by decide) ?_
  refine lv_iadd S.1 S.2.1 dL_law_380 ?_
  refine x_top (nI_add i 1) ?_
  refine va_sld S.1 S.2.1 hX hbl hbA hS (vp_in_nI (by omega) (by omega)) dL_law_381 ?_
  refine lv_aload_n S.1 S.2.1 dL_law_382 rfl (lv_at hl 3 rfl) ?_
  refine lv_iload_n S.1 S.2.1 dL_law_383 rfl (lv_at hl 0 rfl) ?_
  refine lv_iconst (v := nI 2) S.1 S.2.1 dL_law_384 (by decide) ?_
  refine lv_iadd S.1 S.2.1 dL_law_385 ?_
  refine x_top (nI_add i 2) ?_
  refine va_sld S.1 S.2.1 hX hbl hbA hS (vp_in_nI (by omega) (by omega)) dL_law_386 ?_
  refine xk_R (x_runV (As := [.int (xs (nI (i + 1)).toNatClampNeg), .int (xs (nI (i + 2)).toNatClampNeg)]) (rest := []) S hE hS (fun q h => h.elim) (c_X7_partOf l E s.heap.size β _ _ _ hP) kv_X7_partOf kw22_8 kw22_9 kw22_10 (x_recv hE hP.1 (ci := 7) rfl) ⟨Nat.le_of_ble_eq_true rfl, Nat.le_of_ble_eq_true rfl⟩ rfl rfl rfl hl.1 rfl (Nat.le_of_ble_eq_true rfl) dL_law_387 ⟨Nat.le_of_ble_eq_true rfl, Nat.le_of_ble_eq_true rfl⟩) ?_
  refine lv_aload_n S.1 S.2.1 dL_law_390 rfl (lv_at hl 1 rfl) ?_
  refine lv_aload_n S.1 S.2.1 dL_law_391 rfl (lv_at hl 3 rfl) ?_
  refine lv_iload_n S.1 S.2.1 dL_law_392 rfl (lv_at hl 0 rfl) ?_
  refine lv_iconst (v := nI 1) S.1 S.2.1 dL_law_393 (by decide) ?_
  refine lv_iadd S.1 S.2.1 dL_law_394 ?_
  refine x_top (nI_add i 1) ?_
  refine va_sld S.1 S.2.1 hX hbl hbA hS (vp_in_nI (by omega) (by omega)) dL_law_395 ?_
  refine lv_aload_n S.1 S.2.1 dL_law_396 rfl (lv_at hl 3 rfl) ?_
  refine lv_iload_n S.1 S.2.1 dL_law_397 rfl (lv_at hl 0 rfl) ?_
  refine lv_iconst (v := nI 2) S.1 S.2.1 dL_law_398 (by decide) ?_
  refine lv_iadd S.1 S.2.1 dL_law_399 ?_
  refine x_top (nI_add i 2) ?_
  refine va_sld S.1 S.2.1 hX hbl hbA hS (vp_in_nI (by omega) (by omega)) dL_law_400 ?_
  obtain ⟨re, ho8, hs8, hrr⟩ := id hM
  refine xk_R (x_runV (As := [.int (xs (nI (i + 1)).toNatClampNeg), .int (xs (nI (i + 2)).toNatClampNeg)]) (rest := [.int _]) S hE hS (fun q h => h.elim) (c_X8_partOf l E (s.heap.size + 118) (nI np) (nI ty) re σ _ _ n _ ho8 hs8 hn hn2 hb) kv_X8_partOf kw23_0 kw23_1 kw23_2 (x_recv hE ho8 (ci := 8) rfl) ⟨Nat.le_of_ble_eq_true rfl, Nat.le_of_ble_eq_true rfl⟩ rfl rfl rfl hl.1 rfl (Nat.le_of_ble_eq_true rfl) dL_law_401 ⟨Nat.le_of_ble_eq_true rfl, Nat.le_of_ble_eq_true rfl⟩) ?_
  have hJ2 := jr_C hJ (Nat.le_succ i)
  have he := q_part hs (xs (nI (i + 1)).toNatClampNeg) (xs (nI (i + 2)).toNatClampNeg)
  refine lv_icmp_eq (tgt := 615) S.1 S.2.1 dL_law_404 (by decide) (fun _ => ?_) (fun cc => absurd he cc)
  exact kk _ _ _ _ hP hM hJ2 hS
set_option maxRecDepth 100000 in
set_option maxHeartbeats 1000000 in
theorem lc_count {p : Program} {l : Launch} {e : Env} {s : State} {m : MethodId} {below : List Frame} {meth : Method} {c : Code} {Q : State → Prop} {b L i : Nat} {xs : Nat → Int32} {E : XE} {H : Heap} {locs : List Loc} {ls : Array Slot} {β : BS} {σ : Nat → Int32} {η : Nat → Nat → Int32} {np : Nat} {tx : Nat → Int32} {ty : Nat}
    (S : CallFix p m c cL_law 4 s #[Value.ref b] GW RL) (hEA : EA E (fun q => s.heap.size ≤ q) s) (hX : va_X b L xs s s.heap) (hbl : b < s.heap.size) (hi : i + 3 < L) (hL : L ≤ 2048) (hP : BoxP E s.heap.size β H) (hM : RfP E (s.heap.size + 118) (σ, (η, np), (tx, ty)) H) (hJ : JR i β (σ, (η, np), (tx, ty))) (hS : va_S (fun q => s.heap.size ≤ q) s.heap H locs)
    (hl : lv_has ls 4 [(3, .int (nI i)), (2, .ref (s.heap.size + 118)), (1, .ref s.heap.size), (0, .ref b)])
    (kk : ∀ (β' : BS) (μ' : RS) (H' : Heap) (locs' : List Loc), BoxP E s.heap.size β' H' → RfP E (s.heap.size + 118) μ' H' → JR (i + 1) β' μ' → va_S (fun q => s.heap.size ≤ q) s.heap H' locs' → W p l e room_1 s m #[Value.ref b] below meth c H' locs' 600000 7302250 Q (F0 m 615 ls [])) :
    W p l e room_1 s m #[Value.ref b] below meth c H locs 600000 7302250 Q (F0 m 409 ls []) := by
  have hE := hEA.1
  have hbA : ¬ (fun q => s.heap.size ≤ q) b := Nat.not_le.mpr hbl
  obtain ⟨n, hst, ⟨PP, QQ, DD, hs, hD⟩, hf, hn, hn2, hnp, hb, hty, u0, hm2, hm, hlen, hsg, hrd, hW⟩ := jr_facts hJ
  have hC : i + 1 < 2 ^ 30 := by omega
  have hC0 : i < 2 ^ 30 := by omega
  refine lv_aload_n S.1 S.2.1 dL_law_409 rfl (lv_at hl 2 rfl) ?_
  refine lv_aload_n S.1 S.2.1 dL_law_410 rfl (lv_at hl 3 rfl) ?_
  refine lv_iload_n S.1 S.2.1 dL_law_411 rfl (lv_at hl 0 rfl) ?_
  refine lv_iconst (v := nI 1) S.1 S.2.1 dL_law_412 (by decide) ?_
  refine lv_iadd S.1 S.2.1 dL_law_413 ?_
  refine x_top (nI_add i 1) ?_
  refine va_sld S.1 S.2.1 hX hbl hbA hS (vp_in_nI (by omega) (by omega)) dL_law_414 ?_
  refine xk_R (x_runV (As := [.int (xs (nI (i + 1)).toNatClampNeg)]) (rest := []) S hE hS (fun q h => h.elim) (c_X7_count l E s.heap.size β _ _ hP) kv_X7_count kw23_8 kw23_9 kw23_10 (x_recv hE hP.1 (ci := 7) rfl) ⟨Nat.le_of_ble_eq_true rfl, Nat.le_of_ble_eq_true rfl⟩ rfl rfl rfl hl.1 rfl (Nat.le_of_ble_eq_true rfl) dL_law_415 ⟨Nat.le_of_ble_eq_true rfl, Nat.le_of_ble_eq_true rfl⟩) ?_
  refine lv_aload_n S.1 S.2.1 dL_law_418 rfl (lv_at hl 1 rfl) ?_
  refine lv_aload_n S.1 S.2.1 dL_law_419 rfl (lv_at hl 3 rfl) ?_
  refine lv_iload_n S.1 S.2.1 dL_law_420 rfl (lv_at hl 0 rfl) ?_
  refine lv_iconst (v := nI 1) S.1 S.2.1 dL_law_421 (by decide) ?_
  refine lv_iadd S.1 S.2.1 dL_law_422 ?_
  refine x_top (nI_add i 1) ?_
  refine va_sld S.1 S.2.1 hX hbl hbA hS (vp_in_nI (by omega) (by omega)) dL_law_423 ?_
  obtain ⟨re, ho8, hs8, hrr⟩ := id hM
  refine xk_R (x_runV (As := [.int (xs (nI (i + 1)).toNatClampNeg)]) (rest := [.int _]) S hE hS (fun q h => h.elim) (c_X8_count l E (s.heap.size + 118) (nI np) (nI ty) re σ _ n _ ho8 hs8 hn hn2 hb) kv_X8_count kw23_16 kw23_17 kw23_18 (x_recv hE ho8 (ci := 8) rfl) ⟨Nat.le_of_ble_eq_true rfl, Nat.le_of_ble_eq_true rfl⟩ rfl rfl rfl hl.1 rfl (Nat.le_of_ble_eq_true rfl) dL_law_424 ⟨Nat.le_of_ble_eq_true rfl, Nat.le_of_ble_eq_true rfl⟩) ?_
  have hJ2 := jr_C hJ (Nat.le_succ i)
  have he := q_count hs hJ.2.1 hJ.2.2.2.2.1 (xs (nI (i + 1)).toNatClampNeg)
  refine lv_icmp_eq (tgt := 615) S.1 S.2.1 dL_law_427 (by decide) (fun _ => ?_) (fun cc => absurd he cc)
  exact kk _ _ _ _ hP hM hJ2 hS
set_option maxRecDepth 100000 in
set_option maxHeartbeats 1000000 in
theorem lc_next {p : Program} {l : Launch} {e : Env} {s : State} {m : MethodId} {below : List Frame} {meth : Method} {c : Code} {Q : State → Prop} {b L i : Nat} {xs : Nat → Int32} {E : XE} {H : Heap} {locs : List Loc} {ls : Array Slot} {β : BS} {σ : Nat → Int32} {η : Nat → Nat → Int32} {np : Nat} {tx : Nat → Int32} {ty : Nat}
    (S : CallFix p m c cL_law 4 s #[Value.ref b] GW RL) (hEA : EA E (fun q => s.heap.size ≤ q) s) (hX : va_X b L xs s s.heap) (hbl : b < s.heap.size) (hi : i + 3 < L) (hL : L ≤ 2048) (hP : BoxP E s.heap.size β H) (hM : RfP E (s.heap.size + 118) (σ, (η, np), (tx, ty)) H) (hJ : JR i β (σ, (η, np), (tx, ty))) (hS : va_S (fun q => s.heap.size ≤ q) s.heap H locs)
    (hl : lv_has ls 4 [(3, .int (nI i)), (2, .ref (s.heap.size + 118)), (1, .ref s.heap.size), (0, .ref b)])
    (kk : ∀ (β' : BS) (μ' : RS) (H' : Heap) (locs' : List Loc), BoxP E s.heap.size β' H' → RfP E (s.heap.size + 118) μ' H' → JR (i + 1) β' μ' → va_S (fun q => s.heap.size ≤ q) s.heap H' locs' → W p l e room_1 s m #[Value.ref b] below meth c H' locs' 600000 7302250 Q (F0 m 615 ls [])) :
    W p l e room_1 s m #[Value.ref b] below meth c H locs 600000 7302250 Q (F0 m 432 ls []) := by
  have hE := hEA.1
  have hbA : ¬ (fun q => s.heap.size ≤ q) b := Nat.not_le.mpr hbl
  obtain ⟨n, hst, ⟨PP, QQ, DD, hs, hD⟩, hf, hn, hn2, hnp, hb, hty, u0, hm2, hm, hlen, hsg, hrd, hW⟩ := jr_facts hJ
  have hC : i + 1 < 2 ^ 30 := by omega
  have hC0 : i < 2 ^ 30 := by omega
  refine lv_aload_n S.1 S.2.1 dL_law_432 rfl (lv_at hl 2 rfl) ?_
  refine xk_R (x_runV (As := []) (rest := []) S hE hS (fun q h => h.elim) (c_X7_next l E s.heap.size β _ hP) kv_X7_next kw24_5 kw24_6 kw24_7 (x_recv hE hP.1 (ci := 7) rfl) ⟨Nat.le_of_ble_eq_true rfl, Nat.le_of_ble_eq_true rfl⟩ rfl rfl rfl hl.1 rfl (Nat.le_of_ble_eq_true rfl) dL_law_433 ⟨Nat.le_of_ble_eq_true rfl, Nat.le_of_ble_eq_true rfl⟩) ?_
  refine lv_aload_n S.1 S.2.1 dL_law_436 rfl (lv_at hl 1 rfl) ?_
  obtain ⟨re, ho8, hs8, hrr⟩ := id hM
  refine xk_R (x_runV (As := []) (rest := [.int _]) S hE hS (fun q h => h.elim) (c_X8_next l E (s.heap.size + 118) (nI np) (nI ty) re σ n _ ho8 hs8 hn hn2) kv_X8_next kw24_9 kw24_10 kw24_11 (x_recv hE ho8 (ci := 8) rfl) ⟨Nat.le_of_ble_eq_true rfl, Nat.le_of_ble_eq_true rfl⟩ rfl rfl rfl hl.1 rfl (Nat.le_of_ble_eq_true rfl) dL_law_437 ⟨Nat.le_of_ble_eq_true rfl, Nat.le_of_ble_eq_true rfl⟩) ?_
  have hJ2 := jr_C hJ (Nat.le_succ i)
  have he := q_next hs hC0
  refine lv_icmp_eq (tgt := 615) S.1 S.2.1 dL_law_440 (by decide) (fun _ => ?_) (fun cc => absurd he cc)
  exact kk _ _ _ _ hP hM hJ2 hS
set_option maxRecDepth 100000 in
set_option maxHeartbeats 1000000 in
theorem lc_peak {p : Program} {l : Launch} {e : Env} {s : State} {m : MethodId} {below : List Frame} {meth : Method} {c : Code} {Q : State → Prop} {b L i : Nat} {xs : Nat → Int32} {E : XE} {H : Heap} {locs : List Loc} {ls : Array Slot} {β : BS} {σ : Nat → Int32} {η : Nat → Nat → Int32} {np : Nat} {tx : Nat → Int32} {ty : Nat}
    (S : CallFix p m c cL_law 4 s #[Value.ref b] GW RL) (hEA : EA E (fun q => s.heap.size ≤ q) s) (hX : va_X b L xs s s.heap) (hbl : b < s.heap.size) (hi : i + 3 < L) (hL : L ≤ 2048) (hP : BoxP E s.heap.size β H) (hM : RfP E (s.heap.size + 118) (σ, (η, np), (tx, ty)) H) (hJ : JR i β (σ, (η, np), (tx, ty))) (hS : va_S (fun q => s.heap.size ≤ q) s.heap H locs)
    (hl : lv_has ls 4 [(3, .int (nI i)), (2, .ref (s.heap.size + 118)), (1, .ref s.heap.size), (0, .ref b)])
    (kk : ∀ (β' : BS) (μ' : RS) (H' : Heap) (locs' : List Loc), BoxP E s.heap.size β' H' → RfP E (s.heap.size + 118) μ' H' → JR (i + 1) β' μ' → va_S (fun q => s.heap.size ≤ q) s.heap H' locs' → W p l e room_1 s m #[Value.ref b] below meth c H' locs' 600000 7302250 Q (F0 m 615 ls [])) :
    W p l e room_1 s m #[Value.ref b] below meth c H locs 600000 7302250 Q (F0 m 445 ls []) := by
  have hE := hEA.1
  have hbA : ¬ (fun q => s.heap.size ≤ q) b := Nat.not_le.mpr hbl
  obtain ⟨n, hst, ⟨PP, QQ, DD, hs, hD⟩, hf, hn, hn2, hnp, hb, hty, u0, hm2, hm, hlen, hsg, hrd, hW⟩ := jr_facts hJ
  have hC : i + 1 < 2 ^ 30 := by omega
  have hC0 : i < 2 ^ 30 := by omega
  refine lv_aload_n S.1 S.2.1 dL_law_445 rfl (lv_at hl 2 rfl) ?_
  refine lv_aload_n S.1 S.2.1 dL_law_446 rfl (lv_at hl 3 rfl) ?_
  refine lv_iload_n S.1 S.2.1 dL_law_447 rfl (lv_at hl 0 rfl) ?_
  refine lv_iconst (v := nI 1) S.1 S.2.1 dL_law_448 (by decide) ?_
  refine lv_iadd S.1 S.2.1 dL_law_449 ?_
  refine x_top (nI_add i 1) ?_
  refine va_sld S.1 S.2.1 hX hbl hbA hS (vp_in_nI (by omega) (by omega)) dL_law_450 ?_
  refine xk_W (x_runV (As := [.int (xs (nI (i + 1)).toNatClampNeg)]) (rest := []) S hE hS (fun q h => jx_A h) (c_X7_peak l E s.heap.size β _ _ hP) kv_X7_peak kw24_13 kw24_14 kw24_15 (x_recv hE hP.1 (ci := 7) rfl) ⟨Nat.le_of_ble_eq_true rfl, Nat.le_of_ble_eq_true rfl⟩ rfl rfl rfl hl.1 rfl (Nat.le_of_ble_eq_true rfl) dL_law_451 ⟨Nat.le_of_ble_eq_true rfl, Nat.le_of_ble_eq_true rfl⟩) hS (fun q h => jx_A h) (fun v7 H locs hX7 hO7 hS => ?_)
  obtain ⟨hv7, hP⟩ := hX7
  have hM := jx_M hM hO7
  refine lv_aload_n S.1 S.2.1 dL_law_454 rfl (lv_at hl 1 rfl) ?_
  refine lv_aload_n S.1 S.2.1 dL_law_455 rfl (lv_at hl 3 rfl) ?_
  refine lv_iload_n S.1 S.2.1 dL_law_456 rfl (lv_at hl 0 rfl) ?_
  refine lv_iconst (v := nI 1) S.1 S.2.1 dL_law_457 (by decide) ?_
  refine lv_iadd S.1 S.2.1 dL_law_458 ?_
  refine x_top (nI_add i 1) ?_
  refine va_sld S.1 S.2.1 hX hbl hbA hS (vp_in_nI (by omega) (by omega)) dL_law_459 ?_
  obtain ⟨re, ho8, hs8, hrr⟩ := id hM
  refine xk_W (x_runV (As := [.int (xs (nI (i + 1)).toNatClampNeg)]) (rest := [.int v7]) S hE hS (fun q h => jx_A2 h) (c_X8_peak l E (s.heap.size + 118) n σ η np tx ty _ _ hM hn hn2 hnp) kv_X8_peak kw24_18 kw24_19 kw24_20 (x_recv hE ho8 (ci := 8) rfl) ⟨Nat.le_of_ble_eq_true rfl, Nat.le_of_ble_eq_true rfl⟩ rfl rfl rfl hl.1 rfl (Nat.le_of_ble_eq_true rfl) dL_law_460 ⟨Nat.le_of_ble_eq_true rfl, Nat.le_of_ble_eq_true rfl⟩) hS (fun q h => jx_A2 h) (fun v8 H locs hX8 hO8 hS => ?_)
  have hP := jx_B hP hO8
  obtain ⟨hv8, hM⟩ := hX8
  have hJ2 := jr_C hJ (Nat.le_succ i)
  obtain ⟨χa, hv7⟩ := hv7
  have he : v7 = v8 := by rw [hv7, hv8]; exact q_peak hst hC0 χa _
  refine lv_icmp_eq (tgt := 615) S.1 S.2.1 dL_law_463 (by decide) (fun _ => ?_) (fun cc => absurd he cc)
  exact kk _ _ _ _ hP hM hJ2 hS
set_option maxRecDepth 100000 in
set_option maxHeartbeats 1000000 in
theorem lc_silence {p : Program} {l : Launch} {e : Env} {s : State} {m : MethodId} {below : List Frame} {meth : Method} {c : Code} {Q : State → Prop} {b L i : Nat} {xs : Nat → Int32} {E : XE} {H : Heap} {locs : List Loc} {ls : Array Slot} {β : BS} {σ : Nat → Int32} {η : Nat → Nat → Int32} {np : Nat} {tx : Nat → Int32} {ty : Nat}
    (S : CallFix p m c cL_law 4 s #[Value.ref b] GW RL) (hEA : EA E (fun q => s.heap.size ≤ q) s) (hX : va_X b L xs s s.heap) (hbl : b < s.heap.size) (hi : i + 3 < L) (hL : L ≤ 2048) (hP : BoxP E s.heap.size β H) (hM : RfP E (s.heap.size + 118) (σ, (η, np), (tx, ty)) H) (hJ : JR i β (σ, (η, np), (tx, ty))) (hS : va_S (fun q => s.heap.size ≤ q) s.heap H locs)
    (hl : lv_has ls 4 [(3, .int (nI i)), (2, .ref (s.heap.size + 118)), (1, .ref s.heap.size), (0, .ref b)])
    (kk : ∀ (β' : BS) (μ' : RS) (H' : Heap) (locs' : List Loc), BoxP E s.heap.size β' H' → RfP E (s.heap.size + 118) μ' H' → JR (i + 1) β' μ' → va_S (fun q => s.heap.size ≤ q) s.heap H' locs' → W p l e room_1 s m #[Value.ref b] below meth c H' locs' 600000 7302250 Q (F0 m 615 ls [])) :
    W p l e room_1 s m #[Value.ref b] below meth c H locs 600000 7302250 Q (F0 m 468 ls []) := by
  have hE := hEA.1
  have hbA : ¬ (fun q => s.heap.size ≤ q) b := Nat.not_le.mpr hbl
  obtain ⟨n, hst, ⟨PP, QQ, DD, hs, hD⟩, hf, hn, hn2, hnp, hb, hty, u0, hm2, hm, hlen, hsg, hrd, hW⟩ := jr_facts hJ
  have hC : i + 1 < 2 ^ 30 := by omega
  have hC0 : i < 2 ^ 30 := by omega
  obtain ⟨T, hF, hT1, hT2, hT3⟩ := q_sil hst hC0
  refine lv_aload_n S.1 S.2.1 dL_law_468 rfl (lv_at hl 2 rfl) ?_
  refine xk_W (x_runV (As := []) (rest := []) S hE hS (fun q h => jx_A h) (c_X7_silence l E s.heap.size β _ hP) kv_X7_silence kw25_2 kw25_3 kw25_4 (x_recv hE hP.1 (ci := 7) rfl) ⟨Nat.le_of_ble_eq_true rfl, Nat.le_of_ble_eq_true rfl⟩ rfl rfl rfl hl.1 rfl (Nat.le_of_ble_eq_true rfl) dL_law_469 ⟨Nat.le_of_ble_eq_true rfl, Nat.le_of_ble_eq_true rfl⟩) hS (fun q h => jx_A h) (fun v7 H locs hX7 hO7 hS => ?_)
  obtain ⟨hv7, hP⟩ := hX7
  have hM := jx_M hM hO7
  refine lv_aload_n S.1 S.2.1 dL_law_472 rfl (lv_at hl 1 rfl) ?_
  obtain ⟨re, ho8, hs8, hrr⟩ := id hM
  refine xk_W (x_runV (As := []) (rest := [.int v7]) S hE hS (fun q h => jx_A2 h) (c_X8_silence l E (s.heap.size + 118) n σ η np tx ty _ hM hn hn2 hnp T hF hT1 hT2) kv_X8_silence kw25_10 kw25_11 kw25_12 (x_recv hE ho8 (ci := 8) rfl) ⟨Nat.le_of_ble_eq_true rfl, Nat.le_of_ble_eq_true rfl⟩ rfl rfl rfl hl.1 rfl (Nat.le_of_ble_eq_true rfl) dL_law_473 ⟨Nat.le_of_ble_eq_true rfl, Nat.le_of_ble_eq_true rfl⟩) hS (fun q h => jx_A2 h) (fun v8 H locs hX8 hO8 hS => ?_)
  have hP := jx_B hP hO8
  obtain ⟨hv8, hM⟩ := hX8
  have hJ2 := jr_C hJ (Nat.le_succ i)
  obtain ⟨χa, hv7⟩ := hv7
  have he : v7 = v8 := by rw [hv7, hv8]; exact hT3 χa
  refine lv_icmp_eq (tgt := 615) S.1 S.2.1 dL_law_476 (by decide) (fun _ => ?_) (fun cc => absurd he cc)
  exact kk _ _ _ _ hP hM hJ2 hS
set_option maxRecDepth 100000 in
set_option maxHeartbeats 1000000 in
theorem lc_freeIn {p : Program} {l : Launch} {e : Env} {s : State} {m : MethodId} {below : List Frame} {meth : Method} {c : Code} {Q : State → Prop} {b L i : Nat} {xs : Nat → Int32} {E : XE} {H : Heap} {locs : List Loc} {ls : Array Slot} {β : BS} {σ : Nat → Int32} {η : Nat → Nat → Int32} {np : Nat} {tx : Nat → Int32} {ty : Nat}
    (S : CallFix p m c cL_law 4 s #[Value.ref b] GW RL) (hEA : EA E (fun q => s.heap.size ≤ q) s) (hX : va_X b L xs s s.heap) (hbl : b < s.heap.size) (hi : i + 3 < L) (hL : L ≤ 2048) (hP : BoxP E s.heap.size β H) (hM : RfP E (s.heap.size + 118) (σ, (η, np), (tx, ty)) H) (hJ : JR i β (σ, (η, np), (tx, ty))) (hS : va_S (fun q => s.heap.size ≤ q) s.heap H locs)
    (hl : lv_has ls 4 [(3, .int (nI i)), (2, .ref (s.heap.size + 118)), (1, .ref s.heap.size), (0, .ref b)])
    (kk : ∀ (β' : BS) (μ' : RS) (H' : Heap) (locs' : List Loc), BoxP E s.heap.size β' H' → RfP E (s.heap.size + 118) μ' H' → JR (i + 1) β' μ' → va_S (fun q => s.heap.size ≤ q) s.heap H' locs' → W p l e room_1 s m #[Value.ref b] below meth c H' locs' 600000 7302250 Q (F0 m 615 ls [])) :
    W p l e room_1 s m #[Value.ref b] below meth c H locs 600000 7302250 Q (F0 m 481 ls []) := by
  have hE := hEA.1
  have hbA : ¬ (fun q => s.heap.size ≤ q) b := Nat.not_le.mpr hbl
  obtain ⟨n, hst, ⟨PP, QQ, DD, hs, hD⟩, hf, hn, hn2, hnp, hb, hty, u0, hm2, hm, hlen, hsg, hrd, hW⟩ := jr_facts hJ
  have hC : i + 1 < 2 ^ 30 := by omega
  have hC0 : i < 2 ^ 30 := by omega
  obtain ⟨T, hT1, hT2, hT3, hT4⟩ := q_free hst hC0
  refine lv_aload_n S.1 S.2.1 dL_law_481 rfl (lv_at hl 2 rfl) ?_
  refine xk_W (x_runV (As := []) (rest := []) S hE hS (fun q h => jx_A h) (c_X7_freeIn l E s.heap.size β _ hP) kv_X7_freeIn kw25_14 kw25_15 kw25_16 (x_recv hE hP.1 (ci := 7) rfl) ⟨Nat.le_of_ble_eq_true rfl, Nat.le_of_ble_eq_true rfl⟩ rfl rfl rfl hl.1 rfl (Nat.le_of_ble_eq_true rfl) dL_law_482 ⟨Nat.le_of_ble_eq_true rfl, Nat.le_of_ble_eq_true rfl⟩) hS (fun q h => jx_A h) (fun v7 H locs hX7 hO7 hS => ?_)
  obtain ⟨hv7, hP⟩ := hX7
  have hM := jx_M hM hO7
  refine lv_aload_n S.1 S.2.1 dL_law_485 rfl (lv_at hl 1 rfl) ?_
  obtain ⟨re, ho8, hs8, hrr⟩ := id hM
  refine xk_W (x_runV (As := []) (rest := [.int v7]) S hE hS (fun q h => jx_A2 h) (c_X8_freeIn l E (s.heap.size + 118) n σ η np tx ty _ hM hn hn2 hnp T hT1 hT2 hT3) kv_X8_freeIn kw25_18 kw25_19 kw25_20 (x_recv hE ho8 (ci := 8) rfl) ⟨Nat.le_of_ble_eq_true rfl, Nat.le_of_ble_eq_true rfl⟩ rfl rfl rfl hl.1 rfl (Nat.le_of_ble_eq_true rfl) dL_law_486 ⟨Nat.le_of_ble_eq_true rfl, Nat.le_of_ble_eq_true rfl⟩) hS (fun q h => jx_A2 h) (fun v8 H locs hX8 hO8 hS => ?_)
  have hP := jx_B hP hO8
  obtain ⟨hv8, hM⟩ := hX8
  have hJ2 := jr_C hJ (Nat.le_succ i)
  obtain ⟨χa, hv7⟩ := hv7
  have he : v7 = v8 := by rw [hv7, hv8]; exact hT4 χa
  refine lv_icmp_eq (tgt := 615) S.1 S.2.1 dL_law_489 (by decide) (fun _ => ?_) (fun cc => absurd he cc)
  exact kk _ _ _ _ hP hM hJ2 hS
set_option maxRecDepth 100000 in
set_option maxHeartbeats 1000000 in
theorem lc_undo {p : Program} {l : Launch} {e : Env} {s : State} {m : MethodId} {below : List Frame} {meth : Method} {c : Code} {Q : State → Prop} {b L i : Nat} {xs : Nat → Int32} {E : XE} {H : Heap} {locs : List Loc} {ls : Array Slot} {β : BS} {σ : Nat → Int32} {η : Nat → Nat → Int32} {np : Nat} {tx : Nat → Int32} {ty : Nat}
    (S : CallFix p m c cL_law 4 s #[Value.ref b] GW RL) (hEA : EA E (fun q => s.heap.size ≤ q) s) (hX : va_X b L xs s s.heap) (hbl : b < s.heap.size) (hi : i + 3 < L) (hL : L ≤ 2048) (hP : BoxP E s.heap.size β H) (hM : RfP E (s.heap.size + 118) (σ, (η, np), (tx, ty)) H) (hJ : JR i β (σ, (η, np), (tx, ty))) (hS : va_S (fun q => s.heap.size ≤ q) s.heap H locs)
    (hl : lv_has ls 4 [(3, .int (nI i)), (2, .ref (s.heap.size + 118)), (1, .ref s.heap.size), (0, .ref b)])
    (kk : ∀ (β' : BS) (μ' : RS) (H' : Heap) (locs' : List Loc), BoxP E s.heap.size β' H' → RfP E (s.heap.size + 118) μ' H' → JR (i + 1) β' μ' → va_S (fun q => s.heap.size ≤ q) s.heap H' locs' → W p l e room_1 s m #[Value.ref b] below meth c H' locs' 600000 7302250 Q (F0 m 615 ls [])) :
    W p l e room_1 s m #[Value.ref b] below meth c H locs 600000 7302250 Q (F0 m 494 ls []) := by
  have hE := hEA.1
  have hbA : ¬ (fun q => s.heap.size ≤ q) b := Nat.not_le.mpr hbl
  obtain ⟨n, hst, ⟨PP, QQ, DD, hs, hD⟩, hf, hn, hn2, hnp, hb, hty, u0, hm2, hm, hlen, hsg, hrd, hW⟩ := jr_facts hJ
  have hC : i + 1 < 2 ^ 30 := by omega
  have hC0 : i < 2 ^ 30 := by omega
  refine lv_aload_n S.1 S.2.1 dL_law_494 rfl (lv_at hl 2 rfl) ?_
  refine xk_W (x_runV (As := []) (rest := []) S hE hS (fun q h => jx_A h) (c_X7_undo l E s.heap.size β _ hP) kv_X7_undo kw25_22 kw25_23 kw26_0 (x_recv hE hP.1 (ci := 7) rfl) ⟨Nat.le_of_ble_eq_true rfl, Nat.le_of_ble_eq_true rfl⟩ rfl rfl rfl hl.1 rfl (Nat.le_of_ble_eq_true rfl) dL_law_495 ⟨Nat.le_of_ble_eq_true rfl, Nat.le_of_ble_eq_true rfl⟩) hS (fun q h => jx_A h) (fun v7 H locs hX7 hO7 hS => ?_)
  obtain ⟨hv7, hP⟩ := hX7
  have hM := jx_M hM hO7
  refine lv_aload_n S.1 S.2.1 dL_law_498 rfl (lv_at hl 1 rfl) ?_
  obtain ⟨re, ho8, hs8, hrr⟩ := id hM
  refine xk_W (x_runV (As := []) (rest := [.int v7]) S hE hS (fun q h => jx_A2 h) (c_X8_undo l E (s.heap.size + 118) n σ η np tx ty _ hM hn hn2 hnp) kv_X8_undo kw26_5 kw26_6 kw26_7 (x_recv hE ho8 (ci := 8) rfl) ⟨Nat.le_of_ble_eq_true rfl, Nat.le_of_ble_eq_true rfl⟩ rfl rfl rfl hl.1 rfl (Nat.le_of_ble_eq_true rfl) dL_law_499 ⟨Nat.le_of_ble_eq_true rfl, Nat.le_of_ble_eq_true rfl⟩) hS (fun q h => jx_A2 h) (fun v8 H locs hX8 hO8 hS => ?_)
  have hP := jx_B hP hO8
  have hu := jr_undo hJ
  by_cases cu : np = 0
  · rw [if_pos cu] at hX8
    refine lv_icmp_eq (tgt := 615) S.1 S.2.1 dL_law_502 (by decide) (fun _ => ?_) (fun cc => absurd (by rw [hv7, hX8.1]; exact (hu.1 cu).1) cc)
    exact kk _ _ _ _ hP hX8.2 (jr_C (hu.1 cu).2 (Nat.le_succ i)) hS
  · rw [if_neg cu] at hX8
    refine lv_icmp_eq (tgt := 615) S.1 S.2.1 dL_law_502 (by decide) (fun _ => ?_) (fun cc => absurd (by rw [hv7, hX8.1]; exact (hu.2 cu).1) cc)
    exact kk _ _ _ _ hP hX8.2 (jr_C (hu.2 cu).2 (Nat.le_succ i)) hS
set_option maxRecDepth 100000 in
set_option maxHeartbeats 1000000 in
theorem lc_type {p : Program} {l : Launch} {e : Env} {s : State} {m : MethodId} {below : List Frame} {meth : Method} {c : Code} {Q : State → Prop} {b L i : Nat} {xs : Nat → Int32} {E : XE} {H : Heap} {locs : List Loc} {ls : Array Slot} {β : BS} {σ : Nat → Int32} {η : Nat → Nat → Int32} {np : Nat} {tx : Nat → Int32} {ty : Nat}
    (S : CallFix p m c cL_law 4 s #[Value.ref b] GW RL) (hEA : EA E (fun q => s.heap.size ≤ q) s) (hX : va_X b L xs s s.heap) (hbl : b < s.heap.size) (hi : i + 3 < L) (hL : L ≤ 2048) (hP : BoxP E s.heap.size β H) (hM : RfP E (s.heap.size + 118) (σ, (η, np), (tx, ty)) H) (hJ : JR i β (σ, (η, np), (tx, ty))) (hS : va_S (fun q => s.heap.size ≤ q) s.heap H locs)
    (hl : lv_has ls 4 [(3, .int (nI i)), (2, .ref (s.heap.size + 118)), (1, .ref s.heap.size), (0, .ref b)])
    (kk : ∀ (β' : BS) (μ' : RS) (H' : Heap) (locs' : List Loc), BoxP E s.heap.size β' H' → RfP E (s.heap.size + 118) μ' H' → JR (i + 1) β' μ' → va_S (fun q => s.heap.size ≤ q) s.heap H' locs' → W p l e room_1 s m #[Value.ref b] below meth c H' locs' 600000 7302250 Q (F0 m 615 ls [])) :
    W p l e room_1 s m #[Value.ref b] below meth c H locs 600000 7302250 Q (F0 m 507 ls []) := by
  have hE := hEA.1
  have hbA : ¬ (fun q => s.heap.size ≤ q) b := Nat.not_le.mpr hbl
  obtain ⟨n, hst, ⟨PP, QQ, DD, hs, hD⟩, hf, hn, hn2, hnp, hb, hty, u0, hm2, hm, hlen, hsg, hrd, hW⟩ := jr_facts hJ
  have hC : i + 1 < 2 ^ 30 := by omega
  have hC0 : i < 2 ^ 30 := by omega
  refine lv_aload_n S.1 S.2.1 dL_law_507 rfl (lv_at hl 2 rfl) ?_
  refine lv_aload_n S.1 S.2.1 dL_law_508 rfl (lv_at hl 3 rfl) ?_
  refine lv_iload_n S.1 S.2.1 dL_law_509 rfl (lv_at hl 0 rfl) ?_
  refine lv_iconst (v := nI 1) S.1 S.2.1 dL_law_510 (by decide) ?_
  refine lv_iadd S.1 S.2.1 dL_law_511 ?_
  refine x_top (nI_add i 1) ?_
  refine va_sld S.1 S.2.1 hX hbl hbA hS (vp_in_nI (by omega) (by omega)) dL_law_512 ?_
  refine xk_W (x_runV (As := [.int (xs (nI (i + 1)).toNatClampNeg)]) (rest := []) S hE hS (fun q h => jx_A h) (c_X7_type l E s.heap.size β _ _ hP) kv_X7_type kw26_9 kw26_10 kw26_11 (x_recv hE hP.1 (ci := 7) rfl) ⟨Nat.le_of_ble_eq_true rfl, Nat.le_of_ble_eq_true rfl⟩ rfl rfl rfl hl.1 rfl (Nat.le_of_ble_eq_true rfl) dL_law_513 ⟨Nat.le_of_ble_eq_true rfl, Nat.le_of_ble_eq_true rfl⟩) hS (fun q h => jx_A h) (fun v7 H locs hX7 hO7 hS => ?_)
  obtain ⟨hv7, hP⟩ := hX7
  have hM := jx_M hM hO7
  refine lv_aload_n S.1 S.2.1 dL_law_516 rfl (lv_at hl 1 rfl) ?_
  refine lv_aload_n S.1 S.2.1 dL_law_517 rfl (lv_at hl 3 rfl) ?_
  refine lv_iload_n S.1 S.2.1 dL_law_518 rfl (lv_at hl 0 rfl) ?_
  refine lv_iconst (v := nI 1) S.1 S.2.1 dL_law_519 (by decide) ?_
  refine lv_iadd S.1 S.2.1 dL_law_520 ?_
  refine x_top (nI_add i 1) ?_
  refine va_sld S.1 S.2.1 hX hbl hbA hS (vp_in_nI (by omega) (by omega)) dL_law_521 ?_
  obtain ⟨re, ho8, hs8, hrr⟩ := id hM
  refine xk_W (x_runV (As := [.int (xs (nI (i + 1)).toNatClampNeg)]) (rest := [.int v7]) S hE hS (fun q h => jx_A2 h) (c_X8_type l E (s.heap.size + 118) n σ η np tx ty _ _ hM hn hn2 hnp hty) kv_X8_type kw26_16 kw26_17 kw26_18 (x_recv hE ho8 (ci := 8) rfl) ⟨Nat.le_of_ble_eq_true rfl, Nat.le_of_ble_eq_true rfl⟩ rfl rfl rfl hl.1 rfl (Nat.le_of_ble_eq_true rfl) dL_law_522 ⟨Nat.le_of_ble_eq_true rfl, Nat.le_of_ble_eq_true rfl⟩) hS (fun q h => jx_A2 h) (fun v8 H locs hX8 hO8 hS => ?_)
  have hP := jx_B hP hO8
  obtain ⟨hv8, hM⟩ := hX8
  obtain ⟨he, hJ2⟩ := jr_type hJ _
  have hJ2 := jr_C hJ2 (Nat.le_succ i)
  have he : v7 = v8 := by rw [hv7, hv8]; exact he
  refine lv_icmp_eq (tgt := 615) S.1 S.2.1 dL_law_525 (by decide) (fun _ => ?_) (fun cc => absurd he cc)
  exact kk _ _ _ _ hP hM hJ2 hS
set_option maxRecDepth 100000 in
set_option maxHeartbeats 1000000 in
theorem lc_clearText {p : Program} {l : Launch} {e : Env} {s : State} {m : MethodId} {below : List Frame} {meth : Method} {c : Code} {Q : State → Prop} {b L i : Nat} {xs : Nat → Int32} {E : XE} {H : Heap} {locs : List Loc} {ls : Array Slot} {β : BS} {σ : Nat → Int32} {η : Nat → Nat → Int32} {np : Nat} {tx : Nat → Int32} {ty : Nat}
    (S : CallFix p m c cL_law 4 s #[Value.ref b] GW RL) (hEA : EA E (fun q => s.heap.size ≤ q) s) (hX : va_X b L xs s s.heap) (hbl : b < s.heap.size) (hi : i + 3 < L) (hL : L ≤ 2048) (hP : BoxP E s.heap.size β H) (hM : RfP E (s.heap.size + 118) (σ, (η, np), (tx, ty)) H) (hJ : JR i β (σ, (η, np), (tx, ty))) (hS : va_S (fun q => s.heap.size ≤ q) s.heap H locs)
    (hl : lv_has ls 4 [(3, .int (nI i)), (2, .ref (s.heap.size + 118)), (1, .ref s.heap.size), (0, .ref b)])
    (kk : ∀ (β' : BS) (μ' : RS) (H' : Heap) (locs' : List Loc), BoxP E s.heap.size β' H' → RfP E (s.heap.size + 118) μ' H' → JR (i + 1) β' μ' → va_S (fun q => s.heap.size ≤ q) s.heap H' locs' → W p l e room_1 s m #[Value.ref b] below meth c H' locs' 600000 7302250 Q (F0 m 615 ls [])) :
    W p l e room_1 s m #[Value.ref b] below meth c H locs 600000 7302250 Q (F0 m 530 ls []) := by
  have hE := hEA.1
  have hbA : ¬ (fun q => s.heap.size ≤ q) b := Nat.not_le.mpr hbl
  obtain ⟨n, hst, ⟨PP, QQ, DD, hs, hD⟩, hf, hn, hn2, hnp, hb, hty, u0, hm2, hm, hlen, hsg, hrd, hW⟩ := jr_facts hJ
  have hC : i + 1 < 2 ^ 30 := by omega
  have hC0 : i < 2 ^ 30 := by omega
  refine lv_aload_n S.1 S.2.1 dL_law_530 rfl (lv_at hl 2 rfl) ?_
  refine xk_W (x_runV (As := []) (rest := []) S hE hS (fun q h => jx_A h) (c_X7_clearText l E s.heap.size β _ hP) kv_X7_clearText kw26_20 kw26_21 kw26_22 (x_recv hE hP.1 (ci := 7) rfl) ⟨Nat.le_of_ble_eq_true rfl, Nat.le_of_ble_eq_true rfl⟩ rfl rfl rfl hl.1 rfl (Nat.le_of_ble_eq_true rfl) dL_law_531 ⟨Nat.le_of_ble_eq_true rfl, Nat.le_of_ble_eq_true rfl⟩) hS (fun q h => jx_A h) (fun v7 H locs hX7 hO7 hS => ?_)
  obtain ⟨hv7, hP⟩ := hX7
  have hM := jx_M hM hO7
  refine lv_aload_n S.1 S.2.1 dL_law_534 rfl (lv_at hl 1 rfl) ?_
  obtain ⟨re, ho8, hs8, hrr⟩ := id hM
  refine xk_W (x_runV (As := []) (rest := [.int v7]) S hE hS (fun q h => jx_A2 h) (c_X8_clearText l E (s.heap.size + 118) n σ η np tx ty _ hM hn hn2 hnp) kv_X8_clearText kw27_0 kw27_1 kw27_2 (x_recv hE ho8 (ci := 8) rfl) ⟨Nat.le_of_ble_eq_true rfl, Nat.le_of_ble_eq_true rfl⟩ rfl rfl rfl hl.1 rfl (Nat.le_of_ble_eq_true rfl) dL_law_535 ⟨Nat.le_of_ble_eq_true rfl, Nat.le_of_ble_eq_true rfl⟩) hS (fun q h => jx_A2 h) (fun v8 H locs hX8 hO8 hS => ?_)
  have hP := jx_B hP hO8
  obtain ⟨hv8, hM⟩ := hX8
  obtain ⟨he, hJ2⟩ := jr_clear hJ
  have hJ2 := jr_C hJ2 (Nat.le_succ i)
  have he : v7 = v8 := by rw [hv7, hv8]; exact he
  refine lv_icmp_eq (tgt := 615) S.1 S.2.1 dL_law_538 (by decide) (fun _ => ?_) (fun cc => absurd he cc)
  exact kk _ _ _ _ hP hM hJ2 hS
set_option maxRecDepth 100000 in
set_option maxHeartbeats 1000000 in
theorem lc_fault {p : Program} {l : Launch} {e : Env} {s : State} {m : MethodId} {below : List Frame} {meth : Method} {c : Code} {Q : State → Prop} {b L i : Nat} {xs : Nat → Int32} {E : XE} {H : Heap} {locs : List Loc} {ls : Array Slot} {β : BS} {σ : Nat → Int32} {η : Nat → Nat → Int32} {np : Nat} {tx : Nat → Int32} {ty : Nat}
    (S : CallFix p m c cL_law 4 s #[Value.ref b] GW RL) (hEA : EA E (fun q => s.heap.size ≤ q) s) (hX : va_X b L xs s s.heap) (hbl : b < s.heap.size) (hi : i + 3 < L) (hL : L ≤ 2048) (hP : BoxP E s.heap.size β H) (hM : RfP E (s.heap.size + 118) (σ, (η, np), (tx, ty)) H) (hJ : JR i β (σ, (η, np), (tx, ty))) (hS : va_S (fun q => s.heap.size ≤ q) s.heap H locs)
    (hl : lv_has ls 4 [(3, .int (nI i)), (2, .ref (s.heap.size + 118)), (1, .ref s.heap.size), (0, .ref b)])
    (kk : ∀ (β' : BS) (μ' : RS) (H' : Heap) (locs' : List Loc), BoxP E s.heap.size β' H' → RfP E (s.heap.size + 118) μ' H' → JR (i + 1) β' μ' → va_S (fun q => s.heap.size ≤ q) s.heap H' locs' → W p l e room_1 s m #[Value.ref b] below meth c H' locs' 600000 7302250 Q (F0 m 615 ls [])) :
    W p l e room_1 s m #[Value.ref b] below meth c H locs 600000 7302250 Q (F0 m 543 ls []) := by
  have hE := hEA.1
  have hbA : ¬ (fun q => s.heap.size ≤ q) b := Nat.not_le.mpr hbl
  obtain ⟨n, hst, ⟨PP, QQ, DD, hs, hD⟩, hf, hn, hn2, hnp, hb, hty, u0, hm2, hm, hlen, hsg, hrd, hW⟩ := jr_facts hJ
  have hC : i + 1 < 2 ^ 30 := by omega
  have hC0 : i < 2 ^ 30 := by omega
  refine lv_aload_n S.1 S.2.1 dL_law_543 rfl (lv_at hl 2 rfl) ?_
  refine lv_aload_n S.1 S.2.1 dL_law_544 rfl (lv_at hl 3 rfl) ?_
  refine lv_iload_n S.1 S.2.1 dL_law_545 rfl (lv_at hl 0 rfl) ?_
  refine lv_iconst (v := nI 1) S.1 S.2.1 dL_law_546 (by decide) ?_
  refine lv_iadd S.1 S.2.1 dL_law_547 ?_
  refine x_top (nI_add i 1) ?_
  refine va_sld S.1 S.2.1 hX hbl hbA hS (vp_in_nI (by omega) (by omega)) dL_law_548 ?_
  refine xk_W (x_runV (As := [.int (xs (nI (i + 1)).toNatClampNeg)]) (rest := []) S hE hS (fun q h => jx_A h) (c_X7_fault l E s.heap.size β _ _ hP) kv_X7_fault kw27_4 kw27_5 kw27_6 (x_recv hE hP.1 (ci := 7) rfl) ⟨Nat.le_of_ble_eq_true rfl, Nat.le_of_ble_eq_true rfl⟩ rfl rfl rfl hl.1 rfl (Nat.le_of_ble_eq_true rfl) dL_law_549 ⟨Nat.le_of_ble_eq_true rfl, Nat.le_of_ble_eq_true rfl⟩) hS (fun q h => jx_A h) (fun v7 H locs hX7 hO7 hS => ?_)
  obtain ⟨hv7, hP⟩ := hX7
  have hM := jx_M hM hO7
  refine lv_aload_n S.1 S.2.1 dL_law_552 rfl (lv_at hl 1 rfl) ?_
  refine lv_aload_n S.1 S.2.1 dL_law_553 rfl (lv_at hl 3 rfl) ?_
  refine lv_iload_n S.1 S.2.1 dL_law_554 rfl (lv_at hl 0 rfl) ?_
  refine lv_iconst (v := nI 1) S.1 S.2.1 dL_law_555 (by decide) ?_
  refine lv_iadd S.1 S.2.1 dL_law_556 ?_
  refine x_top (nI_add i 1) ?_
  refine va_sld S.1 S.2.1 hX hbl hbA hS (vp_in_nI (by omega) (by omega)) dL_law_557 ?_
  obtain ⟨re, ho8, hs8, hrr⟩ := id hM
  refine xk_W (x_runV (As := [.int (xs (nI (i + 1)).toNatClampNeg)]) (rest := [.int v7]) S hE hS (fun q h => jx_A2 h) (c_X8_fault l E (s.heap.size + 118) n σ η np tx ty _ _ hM hn hn2 hnp hty) kv_X8_fault kw31_1 kw31_2 kw31_3 (x_recv hE ho8 (ci := 8) rfl) ⟨Nat.le_of_ble_eq_true rfl, Nat.le_of_ble_eq_true rfl⟩ rfl rfl rfl hl.1 rfl (Nat.le_of_ble_eq_true rfl) dL_law_558 ⟨Nat.le_of_ble_eq_true rfl, Nat.le_of_ble_eq_true rfl⟩) hS (fun q h => jx_A2 h) (fun v8 H locs hX8 hO8 hS => ?_)
  have hP := jx_B hP hO8
  obtain ⟨hv8, hM⟩ := hX8
  have hJ2 := jr_C hJ (Nat.le_succ i)
  have he : v7 = v8 := by rw [hv7, hv8]; exact q_fault hJ.2.2.2 _
  refine lv_icmp_eq (tgt := 615) S.1 S.2.1 dL_law_561 (by decide) (fun _ => ?_) (fun cc => absurd he cc)
  exact kk _ _ _ _ hP hM hJ2 hS
set_option maxRecDepth 100000 in
set_option maxHeartbeats 1000000 in
theorem lc_adopt {p : Program} {l : Launch} {e : Env} {s : State} {m : MethodId} {below : List Frame} {meth : Method} {c : Code} {Q : State → Prop} {b L i : Nat} {xs : Nat → Int32} {E : XE} {H : Heap} {locs : List Loc} {ls : Array Slot} {β : BS} {σ : Nat → Int32} {η : Nat → Nat → Int32} {np : Nat} {tx : Nat → Int32} {ty : Nat}
    (S : CallFix p m c cL_law 4 s #[Value.ref b] GW RL) (hEA : EA E (fun q => s.heap.size ≤ q) s) (hX : va_X b L xs s s.heap) (hbl : b < s.heap.size) (hi : i + 3 < L) (hL : L ≤ 2048) (hP : BoxP E s.heap.size β H) (hM : RfP E (s.heap.size + 118) (σ, (η, np), (tx, ty)) H) (hJ : JR i β (σ, (η, np), (tx, ty))) (hS : va_S (fun q => s.heap.size ≤ q) s.heap H locs)
    (hl : lv_has ls 4 [(3, .int (nI i)), (2, .ref (s.heap.size + 118)), (1, .ref s.heap.size), (0, .ref b)])
    (kk : ∀ (β' : BS) (μ' : RS) (H' : Heap) (locs' : List Loc), BoxP E s.heap.size β' H' → RfP E (s.heap.size + 118) μ' H' → JR (i + 1) β' μ' → va_S (fun q => s.heap.size ≤ q) s.heap H' locs' → W p l e room_1 s m #[Value.ref b] below meth c H' locs' 600000 7302250 Q (F0 m 615 ls [])) :
    W p l e room_1 s m #[Value.ref b] below meth c H locs 600000 7302250 Q (F0 m 566 ls []) := by
  have hE := hEA.1
  have hbA : ¬ (fun q => s.heap.size ≤ q) b := Nat.not_le.mpr hbl
  obtain ⟨n, hst, ⟨PP, QQ, DD, hs, hD⟩, hf, hn, hn2, hnp, hb, hty, u0, hm2, hm, hlen, hsg, hrd, hW⟩ := jr_facts hJ
  have hC : i + 1 < 2 ^ 30 := by omega
  have hC0 : i < 2 ^ 30 := by omega
  refine lv_aload_n S.1 S.2.1 dL_law_566 rfl (lv_at hl 2 rfl) ?_
  refine xk_W (x_runV (As := []) (rest := []) S hE hS (fun q h => jx_A h) (c_X7_adopt l E s.heap.size β _ hP) kv_X7_adopt kw31_13 kw31_14 kw31_15 (x_recv hE hP.1 (ci := 7) rfl) ⟨Nat.le_of_ble_eq_true rfl, Nat.le_of_ble_eq_true rfl⟩ rfl rfl rfl hl.1 rfl (Nat.le_of_ble_eq_true rfl) dL_law_567 ⟨Nat.le_of_ble_eq_true rfl, Nat.le_of_ble_eq_true rfl⟩) hS (fun q h => jx_A h) (fun v7 H locs hX7 hO7 hS => ?_)
  obtain ⟨hv7, hP⟩ := hX7
  have hM := jx_M hM hO7
  refine lv_aload_n S.1 S.2.1 dL_law_570 rfl (lv_at hl 1 rfl) ?_
  obtain ⟨re, ho8, hs8, hrr⟩ := id hM
  refine xk_W (x_runV (As := []) (rest := [.int v7]) S hE hS (fun q h => jx_A2 h) (c_X8_adopt l E (s.heap.size + 118) n σ η np tx ty _ hM hn hn2 hnp hty) kv_X8_adopt kw31_21 kw31_22 kw31_23 (x_recv hE ho8 (ci := 8) rfl) ⟨Nat.le_of_ble_eq_true rfl, Nat.le_of_ble_eq_true rfl⟩ rfl rfl rfl hl.1 rfl (Nat.le_of_ble_eq_true rfl) dL_law_571 ⟨Nat.le_of_ble_eq_true rfl, Nat.le_of_ble_eq_true rfl⟩) hS (fun q h => jx_A2 h) (fun v8 H locs hX8 hO8 hS => ?_)
  have hP := jx_B hP hO8
  obtain ⟨hv8, hM⟩ := hX8
  obtain ⟨he, hJ2⟩ := jr_ch hJ (Nat.le_refl i) (k_adopt hst hJ.2.2.2)
  have hJ2 := jr_C hJ2 (Nat.le_succ i)
  have he : v7 = v8 := by rw [hv7, hv8]; exact he
  refine lv_icmp_eq (tgt := 615) S.1 S.2.1 dL_law_574 (by decide) (fun _ => ?_) (fun cc => absurd he cc)
  exact kk _ _ _ _ hP hM hJ2 hS
set_option maxRecDepth 100000 in
set_option maxHeartbeats 1000000 in
theorem lc_mix {p : Program} {l : Launch} {e : Env} {s : State} {m : MethodId} {below : List Frame} {meth : Method} {c : Code} {Q : State → Prop} {b L i : Nat} {xs : Nat → Int32} {E : XE} {H : Heap} {locs : List Loc} {ls : Array Slot} {β : BS} {σ : Nat → Int32} {η : Nat → Nat → Int32} {np : Nat} {tx : Nat → Int32} {ty : Nat}
    (S : CallFix p m c cL_law 4 s #[Value.ref b] GW RL) (hEA : EA E (fun q => s.heap.size ≤ q) s) (hX : va_X b L xs s s.heap) (hbl : b < s.heap.size) (hi : i + 3 < L) (hL : L ≤ 2048) (hP : BoxP E s.heap.size β H) (hM : RfP E (s.heap.size + 118) (σ, (η, np), (tx, ty)) H) (hJ : JR i β (σ, (η, np), (tx, ty))) (hS : va_S (fun q => s.heap.size ≤ q) s.heap H locs)
    (hl : lv_has ls 4 [(3, .int (nI i)), (2, .ref (s.heap.size + 118)), (1, .ref s.heap.size), (0, .ref b)])
    (kk : ∀ (β' : BS) (μ' : RS) (H' : Heap) (locs' : List Loc), BoxP E s.heap.size β' H' → RfP E (s.heap.size + 118) μ' H' → JR (i + 1) β' μ' → va_S (fun q => s.heap.size ≤ q) s.heap H' locs' → W p l e room_1 s m #[Value.ref b] below meth c H' locs' 600000 7302250 Q (F0 m 615 ls [])) :
    W p l e room_1 s m #[Value.ref b] below meth c H locs 600000 7302250 Q (F0 m 579 ls []) := by
  have hE := hEA.1
  have hbA : ¬ (fun q => s.heap.size ≤ q) b := Nat.not_le.mpr hbl
  obtain ⟨n, hst, ⟨PP, QQ, DD, hs, hD⟩, hf, hn, hn2, hnp, hb, hty, u0, hm2, hm, hlen, hsg, hrd, hW⟩ := jr_facts hJ
  have hC : i + 1 < 2 ^ 30 := by omega
  have hC0 : i < 2 ^ 30 := by omega
  refine lv_aload_n S.1 S.2.1 dL_law_579 rfl (lv_at hl 2 rfl) ?_
  refine xk_W (x_runV (As := []) (rest := []) S hE hS (fun q h => jx_A h) (c_X7_mix l E s.heap.size β _ hP) kv_X7_mix kw32_1 kw32_2 kw32_3 (x_recv hE hP.1 (ci := 7) rfl) ⟨Nat.le_of_ble_eq_true rfl, Nat.le_of_ble_eq_true rfl⟩ rfl rfl rfl hl.1 rfl (Nat.le_of_ble_eq_true rfl) dL_law_580 ⟨Nat.le_of_ble_eq_true rfl, Nat.le_of_ble_eq_true rfl⟩) hS (fun q h => jx_A h) (fun v7 H locs hX7 hO7 hS => ?_)
  obtain ⟨hv7, hP⟩ := hX7
  have hM := jx_M hM hO7
  refine lv_aload_n S.1 S.2.1 dL_law_583 rfl (lv_at hl 1 rfl) ?_
  obtain ⟨re, ho8, hs8, hrr⟩ := id hM
  refine xk_W (x_runV (As := []) (rest := [.int v7]) S hE hS (fun q h => jx_A2 h) (c_X8_mix l E (s.heap.size + 118) n σ η np tx ty _ hM hn hn2 hnp hb u0 hm hm2 hW) kv_X8_mix kw32_23 kw33_0 kw33_1 (x_recv hE ho8 (ci := 8) rfl) ⟨Nat.le_of_ble_eq_true rfl, Nat.le_of_ble_eq_true rfl⟩ rfl rfl rfl hl.1 rfl (Nat.le_of_ble_eq_true rfl) dL_law_584 ⟨Nat.le_of_ble_eq_true rfl, Nat.le_of_ble_eq_true rfl⟩) hS (fun q h => jx_A2 h) (fun v8 H locs hX8 hO8 hS => ?_)
  have hP := jx_B hP hO8
  obtain ⟨hv8, hM⟩ := hX8
  have hJ2 := jr_C hJ (Nat.le_succ i)
  obtain ⟨zz, sh, hv7⟩ := hv7
  have he : v7 = v8 := by rw [hv7]; exact q_mix hs hm2 hlen hsg hrd hv8
  refine lv_icmp_eq (tgt := 615) S.1 S.2.1 dL_law_587 (by decide) (fun _ => ?_) (fun cc => absurd he cc)
  exact kk _ _ _ _ hP hM hJ2 hS
set_option maxRecDepth 100000 in
set_option maxHeartbeats 1000000 in
theorem lc_alone {p : Program} {l : Launch} {e : Env} {s : State} {m : MethodId} {below : List Frame} {meth : Method} {c : Code} {Q : State → Prop} {b L i : Nat} {xs : Nat → Int32} {E : XE} {H : Heap} {locs : List Loc} {ls : Array Slot} {β : BS} {σ : Nat → Int32} {η : Nat → Nat → Int32} {np : Nat} {tx : Nat → Int32} {ty : Nat}
    (S : CallFix p m c cL_law 4 s #[Value.ref b] GW RL) (hEA : EA E (fun q => s.heap.size ≤ q) s) (hX : va_X b L xs s s.heap) (hbl : b < s.heap.size) (hi : i + 3 < L) (hL : L ≤ 2048) (hP : BoxP E s.heap.size β H) (hM : RfP E (s.heap.size + 118) (σ, (η, np), (tx, ty)) H) (hJ : JR i β (σ, (η, np), (tx, ty))) (hS : va_S (fun q => s.heap.size ≤ q) s.heap H locs)
    (hl : lv_has ls 4 [(3, .int (nI i)), (2, .ref (s.heap.size + 118)), (1, .ref s.heap.size), (0, .ref b)])
    (kk : ∀ (β' : BS) (μ' : RS) (H' : Heap) (locs' : List Loc), BoxP E s.heap.size β' H' → RfP E (s.heap.size + 118) μ' H' → JR (i + 1) β' μ' → va_S (fun q => s.heap.size ≤ q) s.heap H' locs' → W p l e room_1 s m #[Value.ref b] below meth c H' locs' 600000 7302250 Q (F0 m 615 ls [])) :
    W p l e room_1 s m #[Value.ref b] below meth c H locs 600000 7302250 Q (F0 m 592 ls []) := by
  have hE := hEA.1
  have hbA : ¬ (fun q => s.heap.size ≤ q) b := Nat.not_le.mpr hbl
  obtain ⟨n, hst, ⟨PP, QQ, DD, hs, hD⟩, hf, hn, hn2, hnp, hb, hty, u0, hm2, hm, hlen, hsg, hrd, hW⟩ := jr_facts hJ
  have hC : i + 1 < 2 ^ 30 := by omega
  have hC0 : i < 2 ^ 30 := by omega
  refine lv_aload_n S.1 S.2.1 dL_law_592 rfl (lv_at hl 2 rfl) ?_
  refine lv_aload_n S.1 S.2.1 dL_law_593 rfl (lv_at hl 3 rfl) ?_
  refine lv_iload_n S.1 S.2.1 dL_law_594 rfl (lv_at hl 0 rfl) ?_
  refine lv_iconst (v := nI 1) S.1 S.2.1 dL_law_595 (by decide) ?_
  refine lv_iadd S.1 S.2.1 dL_law_596 ?_
  refine x_top (nI_add i 1) ?_
  refine va_sld S.1 S.2.1 hX hbl hbA hS (vp_in_nI (by omega) (by omega)) dL_law_597 ?_
  refine xk_W (x_runV (As := [.int (xs (nI (i + 1)).toNatClampNeg)]) (rest := []) S hE hS (fun q h => jx_A h) (c_X7_alone l E s.heap.size β _ _ hP) kv_X7_alone kw33_14 kw33_15 kw33_16 (x_recv hE hP.1 (ci := 7) rfl) ⟨Nat.le_of_ble_eq_true rfl, Nat.le_of_ble_eq_true rfl⟩ rfl rfl rfl hl.1 rfl (Nat.le_of_ble_eq_true rfl) dL_law_598 ⟨Nat.le_of_ble_eq_true rfl, Nat.le_of_ble_eq_true rfl⟩) hS (fun q h => jx_A h) (fun v7 H locs hX7 hO7 hS => ?_)
  obtain ⟨hv7, hP⟩ := hX7
  have hM := jx_M hM hO7
  refine lv_aload_n S.1 S.2.1 dL_law_601 rfl (lv_at hl 1 rfl) ?_
  refine lv_aload_n S.1 S.2.1 dL_law_602 rfl (lv_at hl 3 rfl) ?_
  refine lv_iload_n S.1 S.2.1 dL_law_603 rfl (lv_at hl 0 rfl) ?_
  refine lv_iconst (v := nI 1) S.1 S.2.1 dL_law_604 (by decide) ?_
  refine lv_iadd S.1 S.2.1 dL_law_605 ?_
  refine x_top (nI_add i 1) ?_
  refine va_sld S.1 S.2.1 hX hbl hbA hS (vp_in_nI (by omega) (by omega)) dL_law_606 ?_
  obtain ⟨re, ho8, hs8, hrr⟩ := id hM
  refine xk_W (x_runV (As := [.int (xs (nI (i + 1)).toNatClampNeg)]) (rest := [.int v7]) S hE hS (fun q h => jx_A2 h) (c_X8_alone l E (s.heap.size + 118) n σ η np tx ty _ _ hM hn hn2 hnp hb u0 hm hm2 hW) kv_X8_alone kw33_22 kw33_23 kw34_0 (x_recv hE ho8 (ci := 8) rfl) ⟨Nat.le_of_ble_eq_true rfl, Nat.le_of_ble_eq_true rfl⟩ rfl rfl rfl hl.1 rfl (Nat.le_of_ble_eq_true rfl) dL_law_607 ⟨Nat.le_of_ble_eq_true rfl, Nat.le_of_ble_eq_true rfl⟩) hS (fun q h => jx_A2 h) (fun v8 H locs hX8 hO8 hS => ?_)
  have hP := jx_B hP hO8
  obtain ⟨hv8, hM⟩ := hX8
  have hJ2 := jr_C hJ (Nat.le_succ i)
  obtain ⟨mm, hmm, hv7⟩ := hv7
  obtain ⟨aa, haa, hv8⟩ := hv8
  have he : v7 = v8 := by rw [hv7, hv8]; exact q_alone (fun k hk => q_made hs hm2 hlen hsg hrd hk (hmm k hk) (haa k hk)) _
  refine lv_icmp_eq (tgt := 615) S.1 S.2.1 dL_law_610 (by decide) (fun _ => ?_) (fun cc => absurd he cc)
  exact kk _ _ _ _ hP hM hJ2 hS
