/-! 57.lb: all that stands outside, at the law's entry -/
theorem lw_ev {t : Term} {args : Array Value} {s : State} {z : Int32} (h : (Cond.eq t (.int z)).before args s = true) : t.eval args s none [] s = some (.int z) := by
  have hz : (Term.int z).eval args s none [] s = some (.int z) := rfl
  cases hv : t.eval args s none [] s with
  | none => simp [Cond.before, Cond.holds, Cond.value, hv] at h
  | some w =>
    simp only [Cond.before, Cond.holds, Cond.value, hv, hz] at h
    cases w <;> simp_all
theorem lw_arr {s : State} {args : Array Value} {ty : FieldType} (h : (Cond.arrayClass ty).before args s = true) : ∃ cA : ClassId, ArrOfT s cA ty ∧ s.vm.findClass ("[" ++ ty.toString) = some cA := by
  obtain ⟨cA, kA, comp, h1, h2, h3⟩ := Cond.arrayClass_spec h
  exact ⟨cA, fun n z => ⟨fun k h => (by cases h), kA, h2, comp, h3⟩, h1⟩
theorem lw_arq {s : State} {args : Array Value} {C : String} (h : (Cond.arrayOver (.object C)).before args s = true) : ∃ cA : ClassId, ArrOfT s cA (.object C) ∧ va_RA s cA (.object C) := by
  obtain ⟨comp, cA, kA, h1, h2, h3, h4, h5⟩ := Cond.arrayOver_spec h
  exact ⟨cA, fun n z => ⟨fun k h => (by cases h), kA, h3, comp, h4⟩, kA, comp, h3, h4, h1, h5⟩
set_option maxRecDepth 100000 in
theorem lw_on : ∀ w ∈ NWL, w.onTables = true := fun w hw => List.all_eq_true.mp (show NWL.all (fun w => w.onTables) = true by decide +kernel) w hw
def lw_G (c : Nat → ClassId) (i : Nat → Nat → Nat) : va_G := (c, i)
theorem lw_kn {s : State} {args : Array Value} (hg : ∀ w ∈ GW, w.before args s = true) : ∀ k : Nat, ∃ (c : ClassId) (iS : Nat → Nat), ∀ q : vw_C, vwCl[k]? = some q → u_Kn s q.1 q.2.1 q.2.2 c iS := by
  intro k
  have one {C : String} {T : u_T} {N : Nat} (hq : vwCl[k]? = some (C, T, N)) (hin : ∀ w ∈ u_ws C T N, w ∈ GW) (hi : Cond.instantiable C N ∈ GW) : ∃ (c : ClassId) (iS : Nat → Nat), ∀ q : vw_C, vwCl[k]? = some q → u_Kn s q.1 q.2.1 q.2.2 c iS := by
    obtain ⟨c, iS, h⟩ := u_known hg hin (hg _ hi)
    refine ⟨c, iS, fun q h2 => ?_⟩
    rw [hq] at h2
    cases h2
    exact h
  match k with
  | 0 => exact one rfl inlX0 kw1_13
  | 1 => exact one rfl inlX1 kw1_22
  | 2 => exact one rfl inlX2 kw1_18
  | 3 => exact one rfl inlX3 kw2_18
  | 4 => exact one rfl inlX4 kw2_6
  | 5 => exact one rfl inlX5 kw2_14
  | 6 => exact one rfl inlX6 kw2_2
  | 7 => exact one rfl inlX7 kw1_1
  | k + 8 => exact ⟨0, fun _ => 0, fun q h => by simp [vwCl] at h⟩
set_option maxHeartbeats 1000000 in
/-- all that stands outside, at the law's entry -/
theorem lw_ea {p : Program} {s : State} {m : MethodId} {meth : Method} {c : Code} {b L : Nat} {xs : Nat → Int32} (C0 : lw_At p s m meth c b L xs) : ∃ E : XE, EL E ∧ E.2.2.1[0]? = some (E.2.1 2, .object "ChoirBox$Choir") ∧ EA E (fun q => s.heap.size ≤ q) s := by
  obtain ⟨hx, hb, hr, hml, hown, hts, hX, hbl, hlocks, hgv⟩ := C0
  have hg : ∀ w ∈ GW, w.before #[Value.ref b] s = true := fun w h => hts w (wsL_law_in w h)
  have hs : ∀ w ∈ lw_fl, w.before #[Value.ref b] s = true := flat_of_before _ hgv
  have hA : ∀ a : Nat, a < s.heap.size → ¬ (fun q => s.heap.size ≤ q) a := fun a h => Nat.not_le.mpr h
  have hk := lw_kn hg
  obtain ⟨cI, aI, nI'⟩ := lw_arr (hg _ kw1_3)
  obtain ⟨cC, aC, nC⟩ := lw_arr (hg _ kw3_23)
  obtain ⟨cL, aL, nL'⟩ := lw_arr (hg _ kw1_4)
  have hao : (Cond.arrayOver (.object "ChoirBox$Choir")).before #[Value.ref b] s = true := hts _ (lw_tb (i := 219) (by decide +kernel))
  obtain ⟨cQ, aQ, nQ⟩ := lw_arq hao
  have hini : (Cond.initialized "ChoirBox").before #[Value.ref b] s = true := hg _ kw1_2
  have h7 : ∀ k : Nat, ∃ t : Nat, k < 7 → va_Z "ChoirBox" (st_nm k) "[I" (.ref t) (fun q => s.heap.size ≤ q) s s.heap ∧ va_T .int t (st_len k) (fun j => .int (st_val k j)) (fun q => s.heap.size ≤ q) s s.heap := by
    intro k
    by_cases hk7 : k < 7
    · have hN : st_len k < 2 ^ 31 := by unfold st_len; split <;> decide
      obtain ⟨t, ht, hT⟩ := va_Tof (tm := .static "ChoirBox" (st_nm k) "[I") (ty := .int) (f := fun j => .int (st_val k j)) hN (hs _ (lw_marr k hk7)) (lw_ev (hs _ (lw_mlen k hk7))) (fun j hj => lw_ev (hs _ (lw_mel k hk7 j hj))) hA
      exact ⟨t, fun _ => ⟨va_Zref (hts _ (lw_tb (lw_lays k hk7))) hini ht hA, hT⟩⟩
    · exact ⟨0, fun h => absurd h hk7⟩
  obtain ⟨adK, adV, hS, hSe⟩ := vk_Sof (N := 3) (tm := lw_tm) (len := sc_len) (byt := sc_byt) (args := #[Value.ref b]) (s := s) (A := fun q => s.heap.size ≤ q) (by decide) (fun i hi => hs _ (lw_sex i hi)) (fun i hi => hs _ (lw_sco i hi)) (fun i hi => hs _ (lw_sar i hi)) (fun i hi => hs _ (lw_sle i hi)) (fun i hi j hj => hs _ (lw_sel i hi j hj))
    (fun i j hi hj hne => (lw_sne i hi j hj hne).imp (hs _) (hs _)) hA
  refine ⟨((fun k => Classical.choose (hk k), fun k => Classical.choose (Classical.choose_spec (hk k))), (fun k => if k = 0 then cI else if k = 1 then cC else if k = 2 then cQ else cL), [(cQ, .object "ChoirBox$Choir"), (cL, .long)], fun k => if k < 7 then Classical.choose (h7 k) else if k < 20 then adK (k - 10) else adV (k - 20)), rfl, rfl, ⟨⟨⟨?_, ?_⟩, ?_⟩, ?_, ?_, ?_, ?_, ?_⟩, va_AO.of hao⟩
  · intro k q hq
    exact Classical.choose_spec (Classical.choose_spec (hk k)) q hq
  · intro k q hq
    match k, hq with
    | 0, hq => cases hq; exact ⟨aI, nI'⟩
    | 1, hq => cases hq; exact ⟨aC, nC⟩
    | 2, hq => cases hq; exact ⟨aQ, nQ⟩
    | 3, hq => cases hq; exact ⟨aL, nL'⟩
    | k + 4, hq => simp [xtys] at hq
  · intro w hw
    exact va_Nw.of (lw_on w hw) (hts w (lw_nwl w hw))
  · intro k hk3
    have e : (10 + k) - 10 = k := by omega
    show vk_R _ _ _ (if 10 + k < 7 then _ else if 10 + k < 20 then adK (10 + k - 10) else _) s
    rw [if_neg (by omega), if_pos (by omega), e]
    exact vk_R.of (hts _ (lw_tb (lw_strs k hk3))) (hSe k hk3)
  · intro k hk7
    show va_Z _ _ _ (.ref (if k < 7 then _ else _)) _ _ _ ∧ va_T .int (if k < 7 then _ else _) _ _ _ _ _
    rw [if_pos hk7]
    exact Classical.choose_spec (h7 k) hk7
  · have e1 : (fun k : Nat => if 10 + k < 7 then Classical.choose (h7 (10 + k)) else if 10 + k < 20 then adK (10 + k - 10) else adV (10 + k - 20)) = fun k => if k < 10 then adK k else adV (10 + k - 20) := by
      funext k
      rw [if_neg (by omega), show 10 + k - 10 = k by omega]
      by_cases h : k < 10
      · rw [if_pos h, if_pos (by omega)]
      · rw [if_neg h, if_neg (by omega)]
    have e2 : (fun k : Nat => if 20 + k < 7 then Classical.choose (h7 (20 + k)) else if 20 + k < 20 then adK (20 + k - 10) else adV (20 + k - 20)) = adV := by
      funext k
      rw [if_neg (by omega), if_neg (by omega), show 20 + k - 20 = k by omega]
    show vk_S 3 sc_len sc_byt (fun k : Nat => if 10 + k < 7 then Classical.choose (h7 (10 + k)) else if 10 + k < 20 then adK (10 + k - 10) else adV (10 + k - 20)) (fun k : Nat => if 20 + k < 7 then Classical.choose (h7 (20 + k)) else if 20 + k < 20 then adK (20 + k - 10) else adV (20 + k - 20)) _ s s.heap
    rw [e1, e2]
    refine ⟨fun i hi => ?_, fun i j hi hj h => hS.2 i j hi hj ?_⟩
    · show va_O _ (if i < 10 then adK i else _) _ _ _ ∧ va_OF _ _ _ _ (if i < 10 then adK i else _) _ _ _ ∧ va_OF _ _ _ _ (if i < 10 then adK i else _) _ _ _ ∧ _
      rw [if_pos (by omega)]
      exact hS.1 i hi
    · have h' : (if i < 10 then adK i else adV (10 + i - 20)) = (if j < 10 then adK j else adV (10 + j - 20)) := h
      rw [if_pos (by omega), if_pos (by omega)] at h'
      exact h'
  · exact va_Zof (hts _ (lw_tb (i := 110) (by decide +kernel))) (hts _ (lw_tb (i := 7) (by decide +kernel))) (lw_ev (hs _ lw_mcs)) hA
  · exact va_Zqof (hts _ (lw_tb (i := 129) (by decide +kernel))) (hts _ (lw_tb (i := 9) (by decide +kernel))) (hs _ lw_msi) hA
