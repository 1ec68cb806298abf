/-! 33.pd: the answers of the calls that read -/
theorem i_lt4 (p : Int32) : p < nI 4 ↔ p ≤ nI 3 := by
  rw [Int32.lt_iff_toInt_lt, Int32.le_iff_toInt_le, nI_toInt (by omega), nI_toInt (by omega)]; omega
theorem i_lt1 (p : Int32) : p < nI 1 ↔ ¬ nI 1 ≤ p := (Int32.not_le).symm
theorem xp_iff (p : Int32) : xPart p ↔ (nI 0 ≤ p ∧ p ≤ nI 3) := by unfold xPart; rw [i_lt4, nI_0]
section
variable {F : Prop} {C n : Nat} {χ : CS} {σ : Nat → Int32} {P Q D : List Nat}
theorem q_note (h : Sm True C n χ σ P Q D) (x w : Int32) : bxNote χ x w = rfNoteOf σ n x w := by
  unfold bxNote rfNoteOf
  rw [h.1.2.2.1]
  by_cases c0 : x < 0
  · rw [if_pos c0, if_neg (fun z => absurd z.1 (Int32.not_le.mpr c0))]
  by_cases c1 : x < nI n
  · rw [if_neg c0, if_pos c1, if_pos (show 0 ≤ x ∧ x < nI n from ⟨Int32.not_lt.mp c0, c1⟩)]
    have hn := sm_n h
    obtain ⟨k, hk, rfl⟩ := i_natL (by omega) (Int32.not_lt.mp c0) c1
    rw [nI_clamp (by omega)]
    have g : ∀ w, w < 7 → ¬ w = 5 → ntG χ.1 w (nI k) = nf σ k w := fun w h1 h2 => by
      rw [ntG_nI (by omega)]; exact (h.2.1 k hk).1.1 (Or.inl trivial) w h1 h2
    have hv : ntSings χ.1 (nI k) ↔ rfVo σ k := by
      obtain ⟨p, s, x, v, m, -, -, -, hx, -, -, -, -, e, -⟩ := (h.2.1 k hk).2
      unfold ntSings
      rw [g 3 (by omega) (by omega), ph_vo hx e, ph_eq 0 hx (by omega) e, ph_eq 6 hx (by omega) e]; omega
    unfold rfNo
    by_cases w0 : w = nI 0
    · rw [if_pos w0, if_pos w0, g 0 (by omega) (by omega)]
    rw [if_neg w0, if_neg w0]
    by_cases w1 : w = nI 1
    · rw [if_pos w1, if_pos w1, g 1 (by omega) (by omega)]
    rw [if_neg w1, if_neg w1]
    by_cases w2 : w = nI 2
    · rw [if_pos w2, if_pos w2, g 2 (by omega) (by omega)]
    rw [if_neg w2, if_neg w2]
    by_cases w3 : w = nI 3
    · rw [if_pos w3, if_pos w3, g 3 (by omega) (by omega)]
    rw [if_neg w3, if_neg w3]
    by_cases w4 : w = nI 4
    · rw [if_pos w4, if_pos w4]
      by_cases c : rfVo σ k
      · rw [if_pos c, if_pos (hv.mpr c), g 4 (by omega) (by omega)]
      · rw [if_neg c, if_neg (fun z => c (hv.mp z))]
    rw [if_neg w4, if_neg w4]
    by_cases w5 : w = nI 5
    · rw [if_pos w5, if_pos w5]
      by_cases c : rfVo σ k
      · rw [if_pos c, if_pos (hv.mpr c), sm_hrd h ((sm_vo h).mpr ⟨hk, c⟩)]
      · rw [if_neg c, if_neg (fun z => c (hv.mp z))]
    rw [if_neg w5, if_neg w5]
    by_cases w6 : w = nI 6
    · rw [if_pos w6, if_pos w6, g 6 (by omega) (by omega)]
    rw [if_neg w6, if_neg w6]
    by_cases w7 : w = nI 7
    · rw [if_pos w7, if_pos w7, sm_door h hk]
    rw [if_neg w7, if_neg w7]
  · rw [if_neg c0, if_neg c1, if_neg (fun z => c1 z.2)]
theorem q_next (h : Sm F C n χ σ P Q D) (hC : C < 2 ^ 30) : xorNF (chHome χ) = oi (rfNx σ n) := by
  rcases sm_next h hC with ⟨e, e2⟩ | ⟨j, hj, e, e2⟩
  · rw [e, e2]; rfl
  · rw [e, e2, xor_nI (by have := sm_P2 h j hj; omega)]; rfl
theorem q_find (h : Sm F C n χ σ P Q D) (p q : Int32) : bxFind χ p q = rfFind σ n p q := by
  unfold bxFind rfFind
  have hx := xp_iff p
  by_cases c1 : xPart p
  · by_cases c2 : xPitch q
    · rw [if_pos c1, if_pos c2, if_pos ⟨hx.mp c1, by rw [nI_0]; exact c2⟩]
      rcases sm_voice h p q with ⟨e, e2, -⟩ | ⟨j, hj, e, e2, -⟩
      · rw [e, e2]; rfl
      · rw [e, e2, xor_nI (by have := sm_P2 h j hj; omega)]; rfl
    · rw [if_pos c1, if_neg c2, if_neg (fun z => c2 (by have := z.2; rw [nI_0] at this; exact this))]
  · rw [if_neg c1, if_neg (fun z => c1 (hx.mpr z.1))]
theorem hm_gen {p : Int32} {L : List Nat} {T : Nat → Nat → Int32} (hg : ∀ k, k ∈ L → ntG T 0 (nI k) = nf σ k 0) : hmOf T p (L.map nI) = zs (fun k => if nf σ k 0 = p then nI 1 else nI 0) L := by
  rw [hm_zs]; exact zs_congr (fun k hk => by rw [hg k hk])
theorem po_list {p w : Int32} {L : List Nat} (hw : ¬ w = nI 2) (hnd : L.Nodup) (hm : ∀ k, k ∈ L ↔ k < n ∧ rfIts σ w k) : rfPo σ p w n = zs (fun k => if nf σ k 0 = p then nI 1 else nI 0) L := by
  rw [po_zs, ← zs_perm (rg_perm (p := rfIts σ w) hnd hm)]
  exact zs_congr (fun k hk => by rw [if_neg hw])
theorem q_part (h : Sm F C n χ σ P Q D) (p w : Int32) : bxPartOf χ p w = rfPartOf σ n p w := by
  unfold bxPartOf rfPartOf
  have hx := xp_iff p
  by_cases c1 : xPart p
  · rw [if_pos c1]
    by_cases w0 : w = nI 0
    · subst w0
      rw [if_pos rfl, if_pos ⟨hx.mp c1, by decide⟩, if_neg (by decide), h.2.2.2.1, hm_gen (fun k hk => sm_gP h hk 0 (by omega) (by omega)), po_list (by decide) (sm_Pnd h) (fun k => (sm_P h).trans ⟨fun z => ⟨z.1, Or.inl ⟨nI_0, z.2⟩⟩, fun z => ⟨z.1, ?_⟩⟩)]
      rcases z.2 with q | q | q | q
      · exact q.2
      · exact absurd q.1 (by decide)
      · exact absurd q.1 (by decide)
      · exact absurd nI_0 q.1
    rw [if_neg w0]
    by_cases w1 : w = nI 1
    · subst w1
      rw [if_pos rfl, if_pos ⟨hx.mp c1, by decide⟩, if_neg (by decide), h.2.2.2.2.1, hm_gen (fun k hk => sm_gQ h hk 0 (by omega) (by omega)), po_list (by decide) (sm_Qnd h) (fun k => (sm_Q h).trans ⟨fun z => ⟨z.1, Or.inr (Or.inl ⟨rfl, z.2⟩)⟩, fun z => ⟨z.1, ?_⟩⟩)]
      rcases z.2 with q | q | q | q
      · exact absurd q.1 (by decide)
      · exact q.2
      · exact absurd q.1 (by decide)
      · exact absurd rfl q.2.1
    rw [if_neg w1]
    by_cases w2 : w = nI 2
    · subst w2
      rw [if_pos rfl, if_pos ⟨hx.mp c1, by decide⟩, if_neg (by decide), sm_lv h, ← zs_app, po_zs, ← zs_perm (rg_perm (p := rfIts σ (nI 2)) (sm_PQnd h) (fun k => (sm_vo h).trans ⟨fun z => ⟨z.1, Or.inr (Or.inr (Or.inl ⟨rfl, z.2⟩))⟩, fun z => ⟨z.1, ?_⟩⟩))]
      · exact zs_congr (fun k hk => by rw [if_pos rfl])
      rcases z.2 with q | q | q | q
      · exact absurd q.1 (by decide)
      · exact absurd q.1 (by decide)
      · exact q.2
      · exact absurd rfl q.2.2.1
    rw [if_neg w2]
    by_cases w3 : w = nI 3
    · subst w3
      rw [if_pos rfl, if_pos ⟨hx.mp c1, by decide⟩, if_pos rfl, sm_hrp h]
    rw [if_neg w3]
    by_cases w4 : w = nI 4
    · subst w4
      rw [if_pos rfl, if_pos ⟨hx.mp c1, by decide⟩, if_neg (by decide), h.2.2.2.2.2, hm_gen (fun k hk => sm_gD h hk 0 (by omega) (by omega)), po_list (by decide) (sm_Dnd h) (fun k => (sm_D h).trans ⟨fun z => ⟨z.1, Or.inr (Or.inr (Or.inr ⟨by decide, by decide, by decide, by rw [← nI_0]; exact z.2⟩))⟩, fun z => ⟨z.1, ?_⟩⟩)]
      rcases z.2 with q | q | q | q
      · exact absurd q.1 (by decide)
      · exact absurd q.1 (by decide)
      · exact absurd q.1 (by decide)
      · rw [nI_0]; exact q.2.2.2
    rw [if_neg w4, if_neg (fun z => ?_)]
    obtain ⟨b, hb, rfl⟩ := i_nat (by omega) z.2.1 z.2.2
    have : b = 0 ∨ b = 1 ∨ b = 2 ∨ b = 3 ∨ b = 4 := by omega
    rcases this with rfl | rfl | rfl | rfl | rfl
    · exact w0 rfl
    · exact w1 rfl
    · exact w2 rfl
    · exact w3 rfl
    · exact w4 rfl
  · rw [if_neg c1, if_neg (fun z => c1 (hx.mpr z.1))]
theorem q_count {β : BS} {np ty : Nat} (h : Sm True C n β.1 σ P Q D) (hsz : β.2.2.1 = np) (hty : β.2.2.2.length = ty) (w : Int32) : bxCount β w = rfCount σ n (nI np) (nI ty) w := by
  obtain ⟨a, -, -, -, e1, e2⟩ := sm_free h
  unfold bxCount rfCount
  rw [h.1.2.2.1, h.2.2.2.1, h.2.2.2.2.1, h.2.2.2.2.2, List.length_map, List.length_map, List.length_map, sm_plc h, e1, e2, sm_q5 h, sm_d0 h, h.1.2.2.2.1 1 (by omega) (by omega) (Or.inr (by omega)), sm_sum h, sm_hra h, h.1.2.2.2.1 2 (by omega) (by omega) (Or.inl trivial), h.1.2.2.2.1 3 (by omega) (by omega) (Or.inr (by omega)), h.1.2.2.2.1 4 (by omega) (by omega) (Or.inr (by omega)), hsz, hty, sm_set h 0 (by omega), sm_set h 1 (by omega), sm_set h 2 (by omega)]
end
