/-! 24.refe: walks, by program -/
def rfPB (c : Int32) : Int32 := if c = nI 115 then nI 0 else if c = nI 97 then nI 1 else if c = nI 116 then nI 2 else if c = nI 98 then nI 3 else (-4)
def rfFz (z o c : Int32) : RZ :=
  if z = 0 then (if c = nI 40 then (if o = nI 6 then (z, o, nI 2) else (nI 0, o + nI 1, nI 0)) else if 0 ≤ rfPB c then (nI 1, o + nI 0, nI 0) else (z, o, nI 1)) else
  if z = nI 2 then (if nI 48 ≤ c ∧ c ≤ nI 57 then (nI 3, o, nI 0) else (z, o, nI 1)) else
  if c = nI 41 ∧ 0 < o then (nI 1, o + Int32.ofInt (-1), nI 0) else
  if c = nI 42 ∧ z = nI 1 then (nI 2, o, nI 0) else
  if c = nI 43 ∨ c = nI 94 then (nI 0, o, nI 0) else (z, o, nI 1)
abbrev rfFe (z o : Int32) : Prop := z = 0 ∨ z = nI 2 ∨ 0 < o
def rfFa (tx : Nat → Int32) : Nat → Nat → Int32 → Int32 → Int32 × Int32
  | 0, k, z, o => (if rfFe z o then nI k else (-4), nI 3)
  | f + 1, k, z, o => if (rfFz z o (tx k)).2.2 = 0 then rfFa tx f (k + 1) (rfFz z o (tx k)).1 (rfFz z o (tx k)).2.1 else (nI k, (rfFz z o (tx k)).2.2)
theorem rfFa_t {tx : Nat → Int32} {ty k : Nat} {z o z2 o2 : Int32} {r : Int32 × Int32} (hlt : k < ty) (hq : rfFz z o (tx k) = (z2, o2, nI 0)) (hv : rfFa tx (ty - k) k z o = r) : rfFa tx (ty - (k + 1)) (k + 1) z2 o2 = r := by
  rw [show ty - k = (ty - (k + 1)) + 1 from by omega, rfFa, hq, if_pos (show (nI 0 : Int32) = 0 from by decide)] at hv; exact hv
theorem rfFa_f {tx : Nat → Int32} {ty k : Nat} {z o z2 o2 b : Int32} {r : Int32 × Int32} (hlt : k < ty) (hb : ¬ b = 0) (hq : rfFz z o (tx k) = (z2, o2, b)) (hv : rfFa tx (ty - k) k z o = r) : r = (nI k, b) := by
  rw [show ty - k = (ty - (k + 1)) + 1 from by omega, rfFa, hq, if_neg hb] at hv; exact hv.symm
theorem rfFa_e {tx : Nat → Int32} {ty k : Nat} {z o : Int32} {r : Int32 × Int32} (hge : k = ty) (hv : rfFa tx (ty - k) k z o = r) : r = (if rfFe z o then nI ty else (-4), nI 3) := by
  subst hge; rw [Nat.sub_self, rfFa] at hv; exact hv.symm
abbrev rfFt (tx : Nat → Int32) (ty : Nat) : Int32 × Int32 := rfFa tx ty 0 (nI 0) (nI 0)
def rfFV (tx : Nat → Int32) (ty : Nat) (wa : Int32) : Int32 := if nI 0 ≤ wa ∧ wa ≤ nI 1 then (if (rfFt tx ty).1 = (-4) then (rfFt tx ty).1 else if wa = 0 then (rfFt tx ty).1 else (rfFt tx ty).2) else (-1)
def rfAdN (tx : Nat → Int32) (ty : Nat) : Nat → Int32
  | 0 => nI 0
  | k + 1 => rfAdN tx ty k + (if k < ty ∧ ¬ rfPB (tx k) < 0 then nI 1 else nI 0)
def rfAdA (σ : Nat → Int32) (tx : Nat → Int32) (ty i : Nat) : Nat → Int32 := fun j => if 10 ≤ j ∧ j < 10 + i then (if j - 10 < ty then tx (j - 10) else nI 0) else upd σ 9 (nI ty) j
theorem rfAdA_0 {σ tx : Nat → Int32} {ty j : Nat} : upd σ 9 (nI ty) j = rfAdA σ tx ty 0 j := by
  rw [rfAdA, if_neg (by omega)]
theorem rfAdA_s {r σ tx : Nat → Int32} {ty i : Nat} {x : Int32} (hr : ∀ j, r j = rfAdA σ tx ty i j) (hx : x = if i < ty then tx i else nI 0) : ∀ j, upd r (10 + i) x j = rfAdA σ tx ty (i + 1) j := by
  intro j
  by_cases c : j = 10 + i
  · subst c; rw [pk_us, rfAdA, if_pos (by omega), hx, show 10 + i - 10 = i from by omega]
  · rw [pk_un c, hr j]
    unfold rfAdA
    by_cases d : 10 ≤ j ∧ j < 10 + i
    · rw [if_pos d, if_pos (show 10 ≤ j ∧ j < 10 + (i + 1) from by omega)]
    · rw [if_neg d, if_neg (show ¬ (10 ≤ j ∧ j < 10 + (i + 1)) from by omega)]
def rfAdo (σ : Nat → Int32) (tx : Nat → Int32) (ty : Nat) : KR := if (rfFt tx ty).1 = (-4) then (rfAdA σ tx ty 60, rfAdN tx ty 60, true) else (σ, (-2), false)
def rfCut (v : Int32) : Int32 := if v ≤ nI 1000000 then v else nI 1000000
def rfJo (s g v : Int32) : Int32 := if g = nI 43 then rfCut (s + v) else if g = nI 94 then (if s ≤ v then v else s) else v
theorem idecQ {a : Nat} (h : 0 < a) : nI a + Int32.ofInt (-1) = nI (a - 1) := by
  obtain ⟨b, rfl⟩ : ∃ b, a = b + 1 := ⟨a - 1, by omega⟩
  exact idecP b
def rfDp (σ : Nat → Int32) : Nat → Nat
  | 0 => 0
  | i + 1 => if σ (10 + i) = nI 40 then rfDp σ i + 1 else if σ (10 + i) = nI 41 then rfDp σ i - 1 else rfDp σ i
abbrev RM : Type := Int32 × (Nat → Int32) × (Nat → Int32)
def rfMkS (pr : Nat → Int32) (d : Nat) (c : Int32) (r : RM) : RM :=
  if c = nI 40 then (r.1, upd r.2.1 (d + 1) (nI 0), upd r.2.2 (d + 1) (nI 0)) else
  if c = nI 43 ∨ c = nI 94 then (r.1, upd r.2.1 d (rfJo (r.2.1 d) (r.2.2 d) r.1), upd r.2.2 d c) else
  if c = nI 41 then (rfJo (r.2.1 d) (r.2.2 d) r.1, r.2.1, r.2.2) else
  if c = nI 42 then r else
  if nI 48 ≤ c ∧ c ≤ nI 57 then (rfCut (r.1 * (c - nI 48)), r.2.1, r.2.2) else (pr (rfPB c).toNatClampNeg, r.2.1, r.2.2)
def rfMkN (σ pr f6 f7 : Nat → Int32) : Nat → RM
  | 0 => (nI 0, upd f6 0 (nI 0), upd f7 0 (nI 0))
  | i + 1 => rfMkS pr (rfDp σ i) (σ (10 + i)) (rfMkN σ pr f6 f7 i)
def rfMakes (σ pr f6 f7 : Nat → Int32) (m : Nat) : Int32 := rfJo ((rfMkN σ pr f6 f7 m).2.1 0) ((rfMkN σ pr f6 f7 m).2.2 0) (rfMkN σ pr f6 f7 m).1
abbrev rfOk (d : Nat) (c : Int32) : Prop := (c = nI 40 → d < 6) ∧ (c = nI 41 → 0 < d) ∧ (¬ c = nI 40 → ¬ (c = nI 43 ∨ c = nI 94) → ¬ c = nI 41 → ¬ c = nI 42 → ¬ (nI 48 ≤ c ∧ c ≤ nI 57) → ∃ j, j < 4 ∧ rfPB c = nI j)
def MadeR (σ g : Nat → Int32) (m : Nat) (v : Int32) : Prop := ∃ pr f6 f7 : Nat → Int32, (∀ j, j < 4 → pr j = g j) ∧ v = rfMakes σ pr f6 f7 m
def rfSl4 (r : AZ) (k : Nat) (v : Int32) : AZ := (r.1 + (if v ≤ 0 then nI 0 else nI 1), if v ≤ r.2.1 then r.2.1 else v, if v ≤ r.2.1 then r.2.2 else nI k)
def rfAl (m : Nat → Int32) : Nat → AZ
  | 0 => (nI 0, nI 0, (-4))
  | k + 1 => rfSl4 (rfAl m k) k (m k)
def rfAlone (m : Nat → Int32) (w : Int32) : Int32 := if nI 0 ≤ w ∧ w ≤ nI 1 then (if w = 0 then (rfAl m 4).1 else (rfAl m 4).2.2) else (-1)
theorem rfAl_up {m : Nat → Int32} {k : Nat} {v : Int32} : ∀ j, j ≤ k → rfAl (upd m k v) j = rfAl m j := by
  intro j
  induction j with
  | zero => intro _; rfl
  | succ j ih => intro h; rw [rfAl, rfAl, ih (by omega), pk_un (by omega)]
theorem rl_1 {m : Nat → Int32} {k : Nat} {v : Int32} : (rfAl (upd m k v) (k + 1)).1 = (rfAl m k).1 + (if v ≤ 0 then nI 0 else nI 1) := by
  rw [rfAl, rfAl_up k (Nat.le_refl _), pk_us]; rfl
theorem rl_2 {m : Nat → Int32} {k : Nat} {v : Int32} : (rfAl (upd m k v) (k + 1)).2.1 = if v ≤ (rfAl m k).2.1 then (rfAl m k).2.1 else v := by
  rw [rfAl, rfAl_up k (Nat.le_refl _), pk_us]; rfl
theorem rl_3 {m : Nat → Int32} {k : Nat} {v : Int32} : (rfAl (upd m k v) (k + 1)).2.2 = if v ≤ (rfAl m k).2.1 then (rfAl m k).2.2 else nI k := by
  rw [rfAl, rfAl_up k (Nat.le_refl _), pk_us]; rfl
abbrev rm_X8_partBy : Room := ({ frames := 0, cells := 0, slots := 0, locals := 0 } : Room)
set_option maxRecDepth 100000 in
set_option maxHeartbeats 600000 in
theorem c_X8_partBy (l : Launch) (E : XE) (ca : Int32) (H : Heap) : Rd l E yX8_partBy cX8_partBy 1 (some .int) rm_X8_partBy [.int ca] H (rfPB ca) := by
  refine met_of (by decide) (Nat.le_of_ble_eq_true rfl) (fun p e s m args below meth c hBD Q hQ ls hl => ?_)
  obtain ⟨S, hr, hlk, hnm, hE, hH⟩ := hBD
  subst hH
  have hl : lv_has ls 1 [(0, .int ca)] := hl
  have hS : va_S (fun _ => False) s.heap s.heap [] := va_S.rf
  refine lv_iload_n S.1 S.2.1 dX8_partBy_0 rfl (lv_at hl 0 rfl) ?_
  refine lv_bipush (v := (nI 115)) S.1 S.2.1 dX8_partBy_1 (by decide) ?_
  refine lv_icmp_ne (tgt := 10) S.1 S.2.1 dX8_partBy_3 rfl (fun h1 => ?_) (fun h1 => ?_)
  · skip
    refine lv_iload_n S.1 S.2.1 dX8_partBy_10 rfl (lv_at hl 0 rfl) ?_
    refine lv_bipush (v := (nI 97)) S.1 S.2.1 dX8_partBy_11 (by decide) ?_
    refine lv_icmp_ne (tgt := 20) S.1 S.2.1 dX8_partBy_13 rfl (fun h2 => ?_) (fun h2 => ?_)
    · skip
      refine lv_iload_n S.1 S.2.1 dX8_partBy_20 rfl (lv_at hl 0 rfl) ?_
      refine lv_bipush (v := (nI 116)) S.1 S.2.1 dX8_partBy_21 (by decide) ?_
      refine lv_icmp_ne (tgt := 30) S.1 S.2.1 dX8_partBy_23 rfl (fun h3 => ?_) (fun h3 => ?_)
      · skip
        refine lv_iload_n S.1 S.2.1 dX8_partBy_30 rfl (lv_at hl 0 rfl) ?_
        refine lv_bipush (v := (nI 98)) S.1 S.2.1 dX8_partBy_31 (by decide) ?_
        refine lv_icmp_ne (tgt := 40) S.1 S.2.1 dX8_partBy_33 rfl (fun h4 => ?_) (fun h4 => ?_)
        · skip
          refine lv_bipush (v := (-4)) S.1 S.2.1 dX8_partBy_40 (by decide) ?_
          subst hQ
          exact x_retR S hr hlk (rfl) (by rw [rfPB]; first | rw [if_pos h1] | rw [if_neg h1, if_pos h2] | rw [if_neg h1, if_neg h2, if_pos h3] | rw [if_neg h1, if_neg h2, if_neg h3, if_pos h4] | rw [if_neg h1, if_neg h2, if_neg h3, if_neg h4]) dX8_partBy_42
        · skip
          refine lv_iconst (v := (nI 3)) S.1 S.2.1 dX8_partBy_36 (by decide) ?_
          refine lv_goto (tgt := 42) S.1 S.2.1 dX8_partBy_37 rfl ?_
          subst hQ
          exact x_retR S hr hlk (rfl) (by rw [rfPB]; first | rw [if_pos h1] | rw [if_neg h1, if_pos h2] | rw [if_neg h1, if_neg h2, if_pos h3] | rw [if_neg h1, if_neg h2, if_neg h3, if_pos h4] | rw [if_neg h1, if_neg h2, if_neg h3, if_neg h4]) dX8_partBy_42
      · skip
        refine lv_iconst (v := (nI 2)) S.1 S.2.1 dX8_partBy_26 (by decide) ?_
        refine lv_goto (tgt := 42) S.1 S.2.1 dX8_partBy_27 rfl ?_
        subst hQ
        exact x_retR S hr hlk (rfl) (by rw [rfPB]; first | rw [if_pos h1] | rw [if_neg h1, if_pos h2] | rw [if_neg h1, if_neg h2, if_pos h3] | rw [if_neg h1, if_neg h2, if_neg h3, if_pos h4] | rw [if_neg h1, if_neg h2, if_neg h3, if_neg h4]) dX8_partBy_42
    · skip
      refine lv_iconst (v := (nI 1)) S.1 S.2.1 dX8_partBy_16 (by decide) ?_
      refine lv_goto (tgt := 42) S.1 S.2.1 dX8_partBy_17 rfl ?_
      subst hQ
      exact x_retR S hr hlk (rfl) (by rw [rfPB]; first | rw [if_pos h1] | rw [if_neg h1, if_pos h2] | rw [if_neg h1, if_neg h2, if_pos h3] | rw [if_neg h1, if_neg h2, if_neg h3, if_pos h4] | rw [if_neg h1, if_neg h2, if_neg h3, if_neg h4]) dX8_partBy_42
  · skip
    refine lv_iconst (v := (nI 0)) S.1 S.2.1 dX8_partBy_6 (by decide) ?_
    refine lv_goto (tgt := 42) S.1 S.2.1 dX8_partBy_7 rfl ?_
    subst hQ
    exact x_retR S hr hlk (rfl) (by rw [rfPB]; first | rw [if_pos h1] | rw [if_neg h1, if_pos h2] | rw [if_neg h1, if_neg h2, if_pos h3] | rw [if_neg h1, if_neg h2, if_neg h3, if_pos h4] | rw [if_neg h1, if_neg h2, if_neg h3, if_neg h4]) dX8_partBy_42
abbrev rm_X8_faultAt : Room := ({ frames := 1, cells := 0, slots := 0, locals := 22 } : Room)
set_option maxRecDepth 100000 in
set_option maxHeartbeats 600000 in
theorem c_X8_faultAt (l : Launch) (E : XE) (M : Nat) (ps re : Int32) (tx : Nat → Int32) (ty : Nat) (H : Heap) (ho : RfO E M ps (nI ty) re H) (ht : XI E (M + 4) 60 tx H) (hty : ty ≤ 60) : Wr l E yX8_faultAt cX8_faultAt 5 (some .int) rm_X8_faultAt [.ref M] H (fun q => q = M) (fun v H1 => v = (rfFt tx ty).1 ∧ RfO E M ps (nI ty) (rfFt tx ty).2 H1) := by
  refine met_of (by decide) (Nat.le_of_ble_eq_true rfl) (fun p e s m args below meth c hBD Q hQ ls hl => ?_)
  obtain ⟨S, hr, hlk, hnm, hE, hH⟩ := hBD
  subst hH
  have hl : lv_has ls 5 [(0, .ref M)] := hl
  have hO : Out (fun q => q = M) s.heap s.heap := Out.rf
  have hS : va_S (fun q => q = M) s.heap s.heap [] := va_S.rf
  refine lv_iconst (v := (nI 0)) S.1 S.2.1 dX8_faultAt_0 (by decide) ?_
  refine lv_istore_n S.1 S.2.1 dX8_faultAt_1 rfl hl (by decide) rfl (fun ls hl => ?_)
  have hl : lv_has ls 5 [(1, .int (nI 0)), (0, .ref M)] := hl
  refine lv_iconst (v := (nI 0)) S.1 S.2.1 dX8_faultAt_2 (by decide) ?_
  refine lv_istore_n S.1 S.2.1 dX8_faultAt_3 rfl hl (by decide) rfl (fun ls hl => ?_)
  have hl : lv_has ls 5 [(2, .int (nI 0)), (1, .int (nI 0)), (0, .ref M)] := hl
  refine lv_iconst (v := (nI 0)) S.1 S.2.1 dX8_faultAt_4 (by decide) ?_
  refine lv_istore_n S.1 S.2.1 dX8_faultAt_5 rfl hl (by decide) rfl (fun ls hl => ?_)
  have hl : lv_has ls 5 [(3, .int (nI 0)), (2, .int (nI 0)), (1, .int (nI 0)), (0, .ref M)] := hl
  have hloop6 : ∀ (d : Nat) (k : Nat) (z1 o1 r1 : Int32) (H : Heap) (locs : List Loc) (ls : Array Slot), ty - k = d → k ≤ ty → rfFa tx (ty - k) k z1 o1 = rfFt tx ty → RfO E M ps (nI ty) r1 H → XI E (M + 4) 60 tx H → Out (fun q => q = M) s.heap H → va_S (fun q => q = M) s.heap H locs → lv_has ls 5 [(3, .int (nI k)), (2, .int z1), (1, .int o1), (0, .ref M)] → W p l e rm_X8_faultAt s m args below meth c H locs 0 0 Q (F0 m 6 ls []) := by
    intro d
    induction d using Nat.strongRecOn with
    | ind d ih =>
      intro k z1 o1 r1 H locs ls hd hi hv ho ht hO hS hl
      refine lv_iload_n S.1 S.2.1 dX8_faultAt_6 rfl (lv_at hl 0 rfl) ?_
      refine lv_aload_n S.1 S.2.1 dX8_faultAt_7 rfl (lv_at hl 3 rfl) ?_
      refine x_get S hE (ho) (C := RX8) (T := TX8) (N := 10) rfl inlX8 5 (by decide) (v := .int (nI ty)) rfl kw23_20 rfl dX8_faultAt_8 ?_
      refine lv_icmp_ge (tgt := 183) S.1 S.2.1 dX8_faultAt_11 rfl (fun h1 => ?_) (fun h1 => ?_)
      · have hge : k = ty := (by have := ge_of_le (by omega) (by omega) h1; omega)
        refine lv_aload_n S.1 S.2.1 dX8_faultAt_183 rfl (lv_at hl 3 rfl) ?_
        refine lv_iconst (v := (nI 3)) S.1 S.2.1 dX8_faultAt_184 (by decide) ?_
        refine x_put S hE hS (rfl) (ho) (C := RX8) (T := TX8) (N := 10) rfl inlX8 tyX8 tyX8_ok nmX8 6 (by decide) (Nat.le_of_ble_eq_true rfl) kw31_5 rfl rfl (v := .int (nI 3)) rfl rfl dX8_faultAt_185 (fun H locs hX hO1 hS => ?_)
        have hO := hO.tr hO1 (fun q h => h)
        have ht := va_at.kept ht (hO1.2 (M + 4) (fun z => by have z : M + 4 = M := z; omega))
        have ho := hX
        refine lv_iload_n S.1 S.2.1 dX8_faultAt_188 rfl (lv_at hl 1 rfl) ?_
        refine lv_if_eq (tgt := 201) S.1 S.2.1 dX8_faultAt_189 rfl (fun h2 => ?_) (fun h2 => ?_)
        · skip
          refine lv_aload_n S.1 S.2.1 dX8_faultAt_201 rfl (lv_at hl 3 rfl) ?_
          refine x_get S hE (ho) (C := RX8) (T := TX8) (N := 10) rfl inlX8 5 (by decide) (v := .int (nI ty)) rfl kw23_20 rfl dX8_faultAt_202 ?_
          refine lv_goto (tgt := 210) S.1 S.2.1 dX8_faultAt_205 rfl ?_
          subst hQ
          refine x_retW S hr hlk (rfl) hS hO ?_ dX8_faultAt_210
          exact (show rfFt tx ty = (nI ty, nI 3) from (rfFa_e hge hv).trans (by rw [if_pos (Or.inl h2)])) ▸ ⟨rfl, ho⟩
        · skip
          refine lv_iload_n S.1 S.2.1 dX8_faultAt_192 rfl (lv_at hl 1 rfl) ?_
          refine lv_iconst (v := (nI 2)) S.1 S.2.1 dX8_faultAt_193 (by decide) ?_
          refine lv_icmp_eq (tgt := 201) S.1 S.2.1 dX8_faultAt_194 rfl (fun h3 => ?_) (fun h3 => ?_)
          · skip
            refine lv_aload_n S.1 S.2.1 dX8_faultAt_201 rfl (lv_at hl 3 rfl) ?_
            refine x_get S hE (ho) (C := RX8) (T := TX8) (N := 10) rfl inlX8 5 (by decide) (v := .int (nI ty)) rfl kw23_20 rfl dX8_faultAt_202 ?_
            refine lv_goto (tgt := 210) S.1 S.2.1 dX8_faultAt_205 rfl ?_
            subst hQ
            refine x_retW S hr hlk (rfl) hS hO ?_ dX8_faultAt_210
            exact (show rfFt tx ty = (nI ty, nI 3) from (rfFa_e hge hv).trans (by rw [if_pos (Or.inr (Or.inl h3))])) ▸ ⟨rfl, ho⟩
          · skip
            refine lv_iload_n S.1 S.2.1 dX8_faultAt_197 rfl (lv_at hl 2 rfl) ?_
            refine lv_if_le (tgt := 208) S.1 S.2.1 dX8_faultAt_198 rfl (fun h4 => ?_) (fun h4 => ?_)
            · skip
              refine lv_bipush (v := (-4)) S.1 S.2.1 dX8_faultAt_208 (by decide) ?_
              subst hQ
              refine x_retW S hr hlk (rfl) hS hO ?_ dX8_faultAt_210
              exact (show rfFt tx ty = ((-4), nI 3) from (rfFa_e hge hv).trans (by rw [if_neg (fun z => z.elim h2 (fun z => z.elim h3 (Int32.not_lt.mpr h4)))])) ▸ ⟨rfl, ho⟩
            · skip
              refine lv_aload_n S.1 S.2.1 dX8_faultAt_201 rfl (lv_at hl 3 rfl) ?_
              refine x_get S hE (ho) (C := RX8) (T := TX8) (N := 10) rfl inlX8 5 (by decide) (v := .int (nI ty)) rfl kw23_20 rfl dX8_faultAt_202 ?_
              refine lv_goto (tgt := 210) S.1 S.2.1 dX8_faultAt_205 rfl ?_
              subst hQ
              refine x_retW S hr hlk (rfl) hS hO ?_ dX8_faultAt_210
              exact (show rfFt tx ty = (nI ty, nI 3) from (rfFa_e hge hv).trans (by rw [if_pos (Or.inr (Or.inr (i_nle h4)))])) ▸ ⟨rfl, ho⟩
      · have hlt : k < ty := lt_of_nle (by omega) (by omega) h1
        refine lv_aload_n S.1 S.2.1 dX8_faultAt_14 rfl (lv_at hl 3 rfl) ?_
        refine x_get S hE (ho) (C := RX8) (T := TX8) (N := 10) rfl inlX8 4 (by decide) (v := .ref (M + 4)) rfl kw7_9 rfl dX8_faultAt_15 ?_
        refine lv_iload_n S.1 S.2.1 dX8_faultAt_18 rfl (lv_at hl 0 rfl) ?_
        refine x_iald S hE (ht) k rfl (by omega) (by decide) dX8_faultAt_19 ?_
        refine lv_istore S.1 S.2.1 dX8_faultAt_20 hl (by decide) rfl (fun ls hl => ?_)
        have hl : lv_has ls 5 [(4, .int (tx k)), (3, .int (nI k)), (2, .int z1), (1, .int o1), (0, .ref M)] := hl
        refine lv_aload_n S.1 S.2.1 dX8_faultAt_22 rfl (lv_at hl 4 rfl) ?_
        refine lv_iconst (v := (nI 1)) S.1 S.2.1 dX8_faultAt_23 (by decide) ?_
        refine x_put S hE hS (rfl) (ho) (C := RX8) (T := TX8) (N := 10) rfl inlX8 tyX8 tyX8_ok nmX8 6 (by decide) (Nat.le_of_ble_eq_true rfl) kw31_5 rfl rfl (v := .int (nI 1)) rfl rfl dX8_faultAt_24 (fun H locs hX hO1 hS => ?_)
        have hO := hO.tr hO1 (fun q h => h)
        have ht := va_at.kept ht (hO1.2 (M + 4) (fun z => by have z : M + 4 = M := z; omega))
        have ho := hX
        refine lv_iload_n S.1 S.2.1 dX8_faultAt_27 rfl (lv_at hl 2 rfl) ?_
        refine lv_if_ne (tgt := 99) S.1 S.2.1 dX8_faultAt_28 rfl (fun h5 => ?_) (fun h5 => ?_)
        · skip
          refine lv_iload_n S.1 S.2.1 dX8_faultAt_99 rfl (lv_at hl 2 rfl) ?_
          refine lv_iconst (v := (nI 2)) S.1 S.2.1 dX8_faultAt_100 (by decide) ?_
          refine lv_icmp_ne (tgt := 123) S.1 S.2.1 dX8_faultAt_101 rfl (fun h6 => ?_) (fun h6 => ?_)
          · skip
            refine lv_iload S.1 S.2.1 dX8_faultAt_123 (lv_at hl 0 rfl) ?_
            refine lv_bipush (v := (nI 41)) S.1 S.2.1 dX8_faultAt_125 (by decide) ?_
            refine lv_icmp_ne (tgt := 142) S.1 S.2.1 dX8_faultAt_127 rfl (fun h7 => ?_) (fun h7 => ?_)
            · skip
              refine lv_iload S.1 S.2.1 dX8_faultAt_142 (lv_at hl 0 rfl) ?_
              refine lv_bipush (v := (nI 42)) S.1 S.2.1 dX8_faultAt_144 (by decide) ?_
              refine lv_icmp_ne (tgt := 159) S.1 S.2.1 dX8_faultAt_146 rfl (fun h8 => ?_) (fun h8 => ?_)
              · skip
                refine lv_iload S.1 S.2.1 dX8_faultAt_159 (lv_at hl 0 rfl) ?_
                refine lv_bipush (v := (nI 43)) S.1 S.2.1 dX8_faultAt_161 (by decide) ?_
                refine lv_icmp_eq (tgt := 175) S.1 S.2.1 dX8_faultAt_163 rfl (fun h9 => ?_) (fun h9 => ?_)
                · skip
                  refine lv_iconst (v := (nI 0)) S.1 S.2.1 dX8_faultAt_175 (by decide) ?_
                  refine lv_istore_n S.1 S.2.1 dX8_faultAt_176 rfl hl (by decide) rfl (fun ls hl => ?_)
                  have hl : lv_has ls 5 [(2, .int (nI 0)), (4, .int (tx k)), (3, .int (nI k)), (1, .int o1), (0, .ref M)] := hl
                  refine lv_iinc (k := 2) (v := (nI (k + 1))) S.1 S.2.1 dX8_faultAt_177 hl rfl (iincP k 1) (by decide) rfl (fun ls hl => ?_)
                  have hl : lv_has ls 5 [(3, .int (nI (k + 1))), (2, .int (nI 0)), (4, .int (tx k)), (1, .int o1), (0, .ref M)] := hl
                  refine lv_goto (tgt := 6) S.1 S.2.1 dX8_faultAt_180 rfl ?_
                  have hq : rfFz z1 o1 (tx k) = ((nI 0), o1, nI 0) := by rw [rfFz, if_neg h5, if_neg h6, if_neg (fun z => h7 z.1), if_neg (fun z => h8 z.1), if_pos (Or.inl h9)]
                  exact ih _ (by omega) (k + 1) (nI 0) o1 (nI 1) _ _ ls rfl (by omega) (rfFa_t hlt hq hv) (ho) (ht) (hO) (hS) (lv_sub hl [0, 1, 3, 4] rfl)
                · skip
                  refine lv_iload S.1 S.2.1 dX8_faultAt_166 (lv_at hl 0 rfl) ?_
                  refine lv_bipush (v := (nI 94)) S.1 S.2.1 dX8_faultAt_168 (by decide) ?_
                  refine lv_icmp_eq (tgt := 175) S.1 S.2.1 dX8_faultAt_170 rfl (fun h10 => ?_) (fun h10 => ?_)
                  · skip
                    refine lv_iconst (v := (nI 0)) S.1 S.2.1 dX8_faultAt_175 (by decide) ?_
                    refine lv_istore_n S.1 S.2.1 dX8_faultAt_176 rfl hl (by decide) rfl (fun ls hl => ?_)
                    have hl : lv_has ls 5 [(2, .int (nI 0)), (4, .int (tx k)), (3, .int (nI k)), (1, .int o1), (0, .ref M)] := hl
                    refine lv_iinc (k := 2) (v := (nI (k + 1))) S.1 S.2.1 dX8_faultAt_177 hl rfl (iincP k 1) (by decide) rfl (fun ls hl => ?_)
                    have hl : lv_has ls 5 [(3, .int (nI (k + 1))), (2, .int (nI 0)), (4, .int (tx k)), (1, .int o1), (0, .ref M)] := hl
                    refine lv_goto (tgt := 6) S.1 S.2.1 dX8_faultAt_180 rfl ?_
                    have hq : rfFz z1 o1 (tx k) = ((nI 0), o1, nI 0) := by rw [rfFz, if_neg h5, if_neg h6, if_neg (fun z => h7 z.1), if_neg (fun z => h8 z.1), if_pos (Or.inr h10)]
                    exact ih _ (by omega) (k + 1) (nI 0) o1 (nI 1) _ _ ls rfl (by omega) (rfFa_t hlt hq hv) (ho) (ht) (hO) (hS) (lv_sub hl [0, 1, 3, 4] rfl)
                  · skip
                    refine lv_iload_n S.1 S.2.1 dX8_faultAt_173 rfl (lv_at hl 1 rfl) ?_
                    subst hQ
                    refine x_retW S hr hlk (rfl) hS hO ?_ dX8_faultAt_174
                    exact (show rfFt tx ty = (nI k, (nI 1)) from rfFa_f hlt (by decide) (show rfFz z1 o1 (tx k) = (z1, o1, (nI 1)) from by rw [rfFz, if_neg h5, if_neg h6, if_neg (fun z => h7 z.1), if_neg (fun z => h8 z.1), if_neg (fun z => z.elim h9 h10)]) hv) ▸ ⟨rfl, ho⟩
              · skip
                refine lv_iload_n S.1 S.2.1 dX8_faultAt_149 rfl (lv_at hl 2 rfl) ?_
                refine lv_iconst (v := (nI 1)) S.1 S.2.1 dX8_faultAt_150 (by decide) ?_
                refine lv_icmp_ne (tgt := 159) S.1 S.2.1 dX8_faultAt_151 rfl (fun h11 => ?_) (fun h11 => ?_)
                · skip
                  refine lv_iload S.1 S.2.1 dX8_faultAt_159 (lv_at hl 0 rfl) ?_
                  refine lv_bipush (v := (nI 43)) S.1 S.2.1 dX8_faultAt_161 (by decide) ?_
                  refine lv_icmp_eq (tgt := 175) S.1 S.2.1 dX8_faultAt_163 rfl (fun h12 => ?_) (fun h12 => ?_)
                  · skip
                    refine lv_iconst (v := (nI 0)) S.1 S.2.1 dX8_faultAt_175 (by decide) ?_
                    refine lv_istore_n S.1 S.2.1 dX8_faultAt_176 rfl hl (by decide) rfl (fun ls hl => ?_)
                    have hl : lv_has ls 5 [(2, .int (nI 0)), (4, .int (tx k)), (3, .int (nI k)), (1, .int o1), (0, .ref M)] := hl
                    refine lv_iinc (k := 2) (v := (nI (k + 1))) S.1 S.2.1 dX8_faultAt_177 hl rfl (iincP k 1) (by decide) rfl (fun ls hl => ?_)
                    have hl : lv_has ls 5 [(3, .int (nI (k + 1))), (2, .int (nI 0)), (4, .int (tx k)), (1, .int o1), (0, .ref M)] := hl
                    refine lv_goto (tgt := 6) S.1 S.2.1 dX8_faultAt_180 rfl ?_
                    have hq : rfFz z1 o1 (tx k) = ((nI 0), o1, nI 0) := by rw [rfFz, if_neg h5, if_neg h6, if_neg (fun z => h7 z.1), if_neg (fun z => h11 z.2), if_pos (Or.inl h12)]
                    exact ih _ (by omega) (k + 1) (nI 0) o1 (nI 1) _ _ ls rfl (by omega) (rfFa_t hlt hq hv) (ho) (ht) (hO) (hS) (lv_sub hl [0, 1, 3, 4] rfl)
                  · skip
                    refine lv_iload S.1 S.2.1 dX8_faultAt_166 (lv_at hl 0 rfl) ?_
                    refine lv_bipush (v := (nI 94)) S.1 S.2.1 dX8_faultAt_168 (by decide) ?_
                    refine lv_icmp_eq (tgt := 175) S.1 S.2.1 dX8_faultAt_170 rfl (fun h13 => ?_) (fun h13 => ?_)
                    · skip
                      refine lv_iconst (v := (nI 0)) S.1 S.2.1 dX8_faultAt_175 (by decide) ?_
                      refine lv_istore_n S.1 S.2.1 dX8_faultAt_176 rfl hl (by decide) rfl (fun ls hl => ?_)
                      have hl : lv_has ls 5 [(2, .int (nI 0)), (4, .int (tx k)), (3, .int (nI k)), (1, .int o1), (0, .ref M)] := hl
                      refine lv_iinc (k := 2) (v := (nI (k + 1))) S.1 S.2.1 dX8_faultAt_177 hl rfl (iincP k 1) (by decide) rfl (fun ls hl => ?_)
                      have hl : lv_has ls 5 [(3, .int (nI (k + 1))), (2, .int (nI 0)), (4, .int (tx k)), (1, .int o1), (0, .ref M)] := hl
                      refine lv_goto (tgt := 6) S.1 S.2.1 dX8_faultAt_180 rfl ?_
                      have hq : rfFz z1 o1 (tx k) = ((nI 0), o1, nI 0) := by rw [rfFz, if_neg h5, if_neg h6, if_neg (fun z => h7 z.1), if_neg (fun z => h11 z.2), if_pos (Or.inr h13)]
                      exact ih _ (by omega) (k + 1) (nI 0) o1 (nI 1) _ _ ls rfl (by omega) (rfFa_t hlt hq hv) (ho) (ht) (hO) (hS) (lv_sub hl [0, 1, 3, 4] rfl)
                    · skip
                      refine lv_iload_n S.1 S.2.1 dX8_faultAt_173 rfl (lv_at hl 1 rfl) ?_
                      subst hQ
                      refine x_retW S hr hlk (rfl) hS hO ?_ dX8_faultAt_174
                      exact (show rfFt tx ty = (nI k, (nI 1)) from rfFa_f hlt (by decide) (show rfFz z1 o1 (tx k) = (z1, o1, (nI 1)) from by rw [rfFz, if_neg h5, if_neg h6, if_neg (fun z => h7 z.1), if_neg (fun z => h11 z.2), if_neg (fun z => z.elim h12 h13)]) hv) ▸ ⟨rfl, ho⟩
                · skip
                  refine lv_iconst (v := (nI 2)) S.1 S.2.1 dX8_faultAt_154 (by decide) ?_
                  refine lv_istore_n S.1 S.2.1 dX8_faultAt_155 rfl hl (by decide) rfl (fun ls hl => ?_)
                  have hl : lv_has ls 5 [(2, .int (nI 2)), (4, .int (tx k)), (3, .int (nI k)), (1, .int o1), (0, .ref M)] := hl
                  refine lv_goto (tgt := 177) S.1 S.2.1 dX8_faultAt_156 rfl ?_
                  refine lv_iinc (k := 2) (v := (nI (k + 1))) S.1 S.2.1 dX8_faultAt_177 hl rfl (iincP k 1) (by decide) rfl (fun ls hl => ?_)
                  have hl : lv_has ls 5 [(3, .int (nI (k + 1))), (2, .int (nI 2)), (4, .int (tx k)), (1, .int o1), (0, .ref M)] := hl
                  refine lv_goto (tgt := 6) S.1 S.2.1 dX8_faultAt_180 rfl ?_
                  have hq : rfFz z1 o1 (tx k) = ((nI 2), o1, nI 0) := by rw [rfFz, if_neg h5, if_neg h6, if_neg (fun z => h7 z.1), if_pos ⟨h8, h11⟩]
                  exact ih _ (by omega) (k + 1) (nI 2) o1 (nI 1) _ _ ls rfl (by omega) (rfFa_t hlt hq hv) (ho) (ht) (hO) (hS) (lv_sub hl [0, 1, 3, 4] rfl)
            · skip
              refine lv_iload_n S.1 S.2.1 dX8_faultAt_130 rfl (lv_at hl 3 rfl) ?_
              refine lv_if_le (tgt := 142) S.1 S.2.1 dX8_faultAt_131 rfl (fun h14 => ?_) (fun h14 => ?_)
              · skip
                refine lv_iload S.1 S.2.1 dX8_faultAt_142 (lv_at hl 0 rfl) ?_
                refine lv_bipush (v := (nI 42)) S.1 S.2.1 dX8_faultAt_144 (by decide) ?_
                refine lv_icmp_ne (tgt := 159) S.1 S.2.1 dX8_faultAt_146 rfl (fun h15 => ?_) (fun h15 => ?_)
                · skip
                  refine lv_iload S.1 S.2.1 dX8_faultAt_159 (lv_at hl 0 rfl) ?_
                  refine lv_bipush (v := (nI 43)) S.1 S.2.1 dX8_faultAt_161 (by decide) ?_
                  refine lv_icmp_eq (tgt := 175) S.1 S.2.1 dX8_faultAt_163 rfl (fun h16 => ?_) (fun h16 => ?_)
                  · skip
                    refine lv_iconst (v := (nI 0)) S.1 S.2.1 dX8_faultAt_175 (by decide) ?_
                    refine lv_istore_n S.1 S.2.1 dX8_faultAt_176 rfl hl (by decide) rfl (fun ls hl => ?_)
                    have hl : lv_has ls 5 [(2, .int (nI 0)), (4, .int (tx k)), (3, .int (nI k)), (1, .int o1), (0, .ref M)] := hl
                    refine lv_iinc (k := 2) (v := (nI (k + 1))) S.1 S.2.1 dX8_faultAt_177 hl rfl (iincP k 1) (by decide) rfl (fun ls hl => ?_)
                    have hl : lv_has ls 5 [(3, .int (nI (k + 1))), (2, .int (nI 0)), (4, .int (tx k)), (1, .int o1), (0, .ref M)] := hl
                    refine lv_goto (tgt := 6) S.1 S.2.1 dX8_faultAt_180 rfl ?_
                    have hq : rfFz z1 o1 (tx k) = ((nI 0), o1, nI 0) := by rw [rfFz, if_neg h5, if_neg h6, if_neg (fun z => Int32.not_lt.mpr h14 z.2), if_neg (fun z => h15 z.1), if_pos (Or.inl h16)]
                    exact ih _ (by omega) (k + 1) (nI 0) o1 (nI 1) _ _ ls rfl (by omega) (rfFa_t hlt hq hv) (ho) (ht) (hO) (hS) (lv_sub hl [0, 1, 3, 4] rfl)
                  · skip
                    refine lv_iload S.1 S.2.1 dX8_faultAt_166 (lv_at hl 0 rfl) ?_
                    refine lv_bipush (v := (nI 94)) S.1 S.2.1 dX8_faultAt_168 (by decide) ?_
                    refine lv_icmp_eq (tgt := 175) S.1 S.2.1 dX8_faultAt_170 rfl (fun h17 => ?_) (fun h17 => ?_)
                    · skip
                      refine lv_iconst (v := (nI 0)) S.1 S.2.1 dX8_faultAt_175 (by decide) ?_
                      refine lv_istore_n S.1 S.2.1 dX8_faultAt_176 rfl hl (by decide) rfl (fun ls hl => ?_)
                      have hl : lv_has ls 5 [(2, .int (nI 0)), (4, .int (tx k)), (3, .int (nI k)), (1, .int o1), (0, .ref M)] := hl
                      refine lv_iinc (k := 2) (v := (nI (k + 1))) S.1 S.2.1 dX8_faultAt_177 hl rfl (iincP k 1) (by decide) rfl (fun ls hl => ?_)
                      have hl : lv_has ls 5 [(3, .int (nI (k + 1))), (2, .int (nI 0)), (4, .int (tx k)), (1, .int o1), (0, .ref M)] := hl
                      refine lv_goto (tgt := 6) S.1 S.2.1 dX8_faultAt_180 rfl ?_
                      have hq : rfFz z1 o1 (tx k) = ((nI 0), o1, nI 0) := by rw [rfFz, if_neg h5, if_neg h6, if_neg (fun z => Int32.not_lt.mpr h14 z.2), if_neg (fun z => h15 z.1), if_pos (Or.inr h17)]
                      exact ih _ (by omega) (k + 1) (nI 0) o1 (nI 1) _ _ ls rfl (by omega) (rfFa_t hlt hq hv) (ho) (ht) (hO) (hS) (lv_sub hl [0, 1, 3, 4] rfl)
                    · skip
                      refine lv_iload_n S.1 S.2.1 dX8_faultAt_173 rfl (lv_at hl 1 rfl) ?_
                      subst hQ
                      refine x_retW S hr hlk (rfl) hS hO ?_ dX8_faultAt_174
                      exact (show rfFt tx ty = (nI k, (nI 1)) from rfFa_f hlt (by decide) (show rfFz z1 o1 (tx k) = (z1, o1, (nI 1)) from by rw [rfFz, if_neg h5, if_neg h6, if_neg (fun z => Int32.not_lt.mpr h14 z.2), if_neg (fun z => h15 z.1), if_neg (fun z => z.elim h16 h17)]) hv) ▸ ⟨rfl, ho⟩
                · skip
                  refine lv_iload_n S.1 S.2.1 dX8_faultAt_149 rfl (lv_at hl 2 rfl) ?_
                  refine lv_iconst (v := (nI 1)) S.1 S.2.1 dX8_faultAt_150 (by decide) ?_
                  refine lv_icmp_ne (tgt := 159) S.1 S.2.1 dX8_faultAt_151 rfl (fun h18 => ?_) (fun h18 => ?_)
                  · skip
                    refine lv_iload S.1 S.2.1 dX8_faultAt_159 (lv_at hl 0 rfl) ?_
                    refine lv_bipush (v := (nI 43)) S.1 S.2.1 dX8_faultAt_161 (by decide) ?_
                    refine lv_icmp_eq (tgt := 175) S.1 S.2.1 dX8_faultAt_163 rfl (fun h19 => ?_) (fun h19 => ?_)
                    · skip
                      refine lv_iconst (v := (nI 0)) S.1 S.2.1 dX8_faultAt_175 (by decide) ?_
                      refine lv_istore_n S.1 S.2.1 dX8_faultAt_176 rfl hl (by decide) rfl (fun ls hl => ?_)
                      have hl : lv_has ls 5 [(2, .int (nI 0)), (4, .int (tx k)), (3, .int (nI k)), (1, .int o1), (0, .ref M)] := hl
                      refine lv_iinc (k := 2) (v := (nI (k + 1))) S.1 S.2.1 dX8_faultAt_177 hl rfl (iincP k 1) (by decide) rfl (fun ls hl => ?_)
                      have hl : lv_has ls 5 [(3, .int (nI (k + 1))), (2, .int (nI 0)), (4, .int (tx k)), (1, .int o1), (0, .ref M)] := hl
                      refine lv_goto (tgt := 6) S.1 S.2.1 dX8_faultAt_180 rfl ?_
                      have hq : rfFz z1 o1 (tx k) = ((nI 0), o1, nI 0) := by rw [rfFz, if_neg h5, if_neg h6, if_neg (fun z => Int32.not_lt.mpr h14 z.2), if_neg (fun z => h18 z.2), if_pos (Or.inl h19)]
                      exact ih _ (by omega) (k + 1) (nI 0) o1 (nI 1) _ _ ls rfl (by omega) (rfFa_t hlt hq hv) (ho) (ht) (hO) (hS) (lv_sub hl [0, 1, 3, 4] rfl)
                    · skip
                      refine lv_iload S.1 S.2.1 dX8_faultAt_166 (lv_at hl 0 rfl) ?_
                      refine lv_bipush (v := (nI 94)) S.1 S.2.1 dX8_faultAt_168 (by decide) ?_
                      refine lv_icmp_eq (tgt := 175) S.1 S.2.1 dX8_faultAt_170 rfl (fun h20 => ?_) (fun h20 => ?_)
                      · skip
                        refine lv_iconst (v := (nI 0)) S.1 S.2.1 dX8_faultAt_175 (by decide) ?_
                        refine lv_istore_n S.1 S.2.1 dX8_faultAt_176 rfl hl (by decide) rfl (fun ls hl => ?_)
                        have hl : lv_has ls 5 [(2, .int (nI 0)), (4, .int (tx k)), (3, .int (nI k)), (1, .int o1), (0, .ref M)] := hl
                        refine lv_iinc (k := 2) (v := (nI (k + 1))) S.1 S.2.1 dX8_faultAt_177 hl rfl (iincP k 1) (by decide) rfl (fun ls hl => ?_)
                        have hl : lv_has ls 5 [(3, .int (nI (k + 1))), (2, .int (nI 0)), (4, .int (tx k)), (1, .int o1), (0, .ref M)] := hl
                        refine lv_goto (tgt := 6) S.1 S.2.1 dX8_faultAt_180 rfl ?_
                        have hq : rfFz z1 o1 (tx k) = ((nI 0), o1, nI 0) := by rw [rfFz, if_neg h5, if_neg h6, if_neg (fun z => Int32.not_lt.mpr h14 z.2), if_neg (fun z => h18 z.2), if_pos (Or.inr h20)]
                        exact ih _ (by omega) (k + 1) (nI 0) o1 (nI 1) _ _ ls rfl (by omega) (rfFa_t hlt hq hv) (ho) (ht) (hO) (hS) (lv_sub hl [0, 1, 3, 4] rfl)
                      · skip
                        refine lv_iload_n S.1 S.2.1 dX8_faultAt_173 rfl (lv_at hl 1 rfl) ?_
                        subst hQ
                        refine x_retW S hr hlk (rfl) hS hO ?_ dX8_faultAt_174
                        exact (show rfFt tx ty = (nI k, (nI 1)) from rfFa_f hlt (by decide) (show rfFz z1 o1 (tx k) = (z1, o1, (nI 1)) from by rw [rfFz, if_neg h5, if_neg h6, if_neg (fun z => Int32.not_lt.mpr h14 z.2), if_neg (fun z => h18 z.2), if_neg (fun z => z.elim h19 h20)]) hv) ▸ ⟨rfl, ho⟩
                  · skip
                    refine lv_iconst (v := (nI 2)) S.1 S.2.1 dX8_faultAt_154 (by decide) ?_
                    refine lv_istore_n S.1 S.2.1 dX8_faultAt_155 rfl hl (by decide) rfl (fun ls hl => ?_)
                    have hl : lv_has ls 5 [(2, .int (nI 2)), (4, .int (tx k)), (3, .int (nI k)), (1, .int o1), (0, .ref M)] := hl
                    refine lv_goto (tgt := 177) S.1 S.2.1 dX8_faultAt_156 rfl ?_
                    refine lv_iinc (k := 2) (v := (nI (k + 1))) S.1 S.2.1 dX8_faultAt_177 hl rfl (iincP k 1) (by decide) rfl (fun ls hl => ?_)
                    have hl : lv_has ls 5 [(3, .int (nI (k + 1))), (2, .int (nI 2)), (4, .int (tx k)), (1, .int o1), (0, .ref M)] := hl
                    refine lv_goto (tgt := 6) S.1 S.2.1 dX8_faultAt_180 rfl ?_
                    have hq : rfFz z1 o1 (tx k) = ((nI 2), o1, nI 0) := by rw [rfFz, if_neg h5, if_neg h6, if_neg (fun z => Int32.not_lt.mpr h14 z.2), if_pos ⟨h15, h18⟩]
                    exact ih _ (by omega) (k + 1) (nI 2) o1 (nI 1) _ _ ls rfl (by omega) (rfFa_t hlt hq hv) (ho) (ht) (hO) (hS) (lv_sub hl [0, 1, 3, 4] rfl)
              · skip
                refine lv_iinc (k := 3) (v := (o1 + Int32.ofInt (-1))) S.1 S.2.1 dX8_faultAt_134 hl rfl (rfl) (by decide) rfl (fun ls hl => ?_)
                have hl : lv_has ls 5 [(1, .int (o1 + Int32.ofInt (-1))), (4, .int (tx k)), (3, .int (nI k)), (2, .int z1), (0, .ref M)] := hl
                refine lv_iconst (v := (nI 1)) S.1 S.2.1 dX8_faultAt_137 (by decide) ?_
                refine lv_istore_n S.1 S.2.1 dX8_faultAt_138 rfl hl (by decide) rfl (fun ls hl => ?_)
                have hl : lv_has ls 5 [(2, .int (nI 1)), (1, .int (o1 + Int32.ofInt (-1))), (4, .int (tx k)), (3, .int (nI k)), (0, .ref M)] := hl
                refine lv_goto (tgt := 177) S.1 S.2.1 dX8_faultAt_139 rfl ?_
                refine lv_iinc (k := 3) (v := (nI (k + 1))) S.1 S.2.1 dX8_faultAt_177 hl rfl (iincP k 1) (by decide) rfl (fun ls hl => ?_)
                have hl : lv_has ls 5 [(3, .int (nI (k + 1))), (2, .int (nI 1)), (1, .int (o1 + Int32.ofInt (-1))), (4, .int (tx k)), (0, .ref M)] := hl
                refine lv_goto (tgt := 6) S.1 S.2.1 dX8_faultAt_180 rfl ?_
                have hq : rfFz z1 o1 (tx k) = ((nI 1), (o1 + Int32.ofInt (-1)), nI 0) := by rw [rfFz, if_neg h5, if_neg h6, if_pos ⟨h7, i_nle h14⟩]
                exact ih _ (by omega) (k + 1) (nI 1) (o1 + Int32.ofInt (-1)) (nI 1) _ _ ls rfl (by omega) (rfFa_t hlt hq hv) (ho) (ht) (hO) (hS) (lv_sub hl [0, 1, 2, 4] rfl)
          · skip
            refine lv_iload S.1 S.2.1 dX8_faultAt_104 (lv_at hl 0 rfl) ?_
            refine lv_bipush (v := (nI 48)) S.1 S.2.1 dX8_faultAt_106 (by decide) ?_
            refine lv_bipush (v := (nI 57)) S.1 S.2.1 dX8_faultAt_108 (by decide) ?_
            refine xk_R (v := (bI ((nI 48) ≤ (tx k) ∧ (tx k) ≤ (nI 57)))) (x_runS (As := [.int (tx k), .int (nI 48), .int (nI 57)]) (rest := []) S hE hS (fun _ h => h.elim) (c_X8_in l E (tx k) (nI 48) (nI 57) _) kv_X8_in kw12_11 kw12_12 ⟨Nat.le_of_ble_eq_true rfl, Nat.le_of_ble_eq_true rfl⟩ rfl rfl rfl hl.1 rfl (Nat.le_of_ble_eq_true rfl) dX8_faultAt_110 ⟨Nat.zero_le _, Nat.zero_le _⟩) ?_
            refine lv_if_ne (tgt := 118) S.1 S.2.1 dX8_faultAt_113 rfl (fun h21 => ?_) (fun h21 => ?_)
            · skip
              have h21 := bI_n0 h21
              refine lv_iconst (v := (nI 3)) S.1 S.2.1 dX8_faultAt_118 (by decide) ?_
              refine lv_istore_n S.1 S.2.1 dX8_faultAt_119 rfl hl (by decide) rfl (fun ls hl => ?_)
              have hl : lv_has ls 5 [(2, .int (nI 3)), (4, .int (tx k)), (3, .int (nI k)), (1, .int o1), (0, .ref M)] := hl
              refine lv_goto (tgt := 177) S.1 S.2.1 dX8_faultAt_120 rfl ?_
              refine lv_iinc (k := 2) (v := (nI (k + 1))) S.1 S.2.1 dX8_faultAt_177 hl rfl (iincP k 1) (by decide) rfl (fun ls hl => ?_)
              have hl : lv_has ls 5 [(3, .int (nI (k + 1))), (2, .int (nI 3)), (4, .int (tx k)), (1, .int o1), (0, .ref M)] := hl
              refine lv_goto (tgt := 6) S.1 S.2.1 dX8_faultAt_180 rfl ?_
              have hq : rfFz z1 o1 (tx k) = ((nI 3), o1, nI 0) := by rw [rfFz, if_neg h5, if_pos h6, if_pos h21]
              exact ih _ (by omega) (k + 1) (nI 3) o1 (nI 1) _ _ ls rfl (by omega) (rfFa_t hlt hq hv) (ho) (ht) (hO) (hS) (lv_sub hl [0, 1, 3, 4] rfl)
            · skip
              have h21 := bI_0 h21
              refine lv_iload_n S.1 S.2.1 dX8_faultAt_116 rfl (lv_at hl 1 rfl) ?_
              subst hQ
              refine x_retW S hr hlk (rfl) hS hO ?_ dX8_faultAt_117
              exact (show rfFt tx ty = (nI k, (nI 1)) from rfFa_f hlt (by decide) (show rfFz z1 o1 (tx k) = (z1, o1, (nI 1)) from by rw [rfFz, if_neg h5, if_pos h6, if_neg h21]) hv) ▸ ⟨rfl, ho⟩
        · skip
          refine lv_iload S.1 S.2.1 dX8_faultAt_31 (lv_at hl 0 rfl) ?_
          refine lv_bipush (v := (nI 40)) S.1 S.2.1 dX8_faultAt_33 (by decide) ?_
          refine lv_icmp_ne (tgt := 51) S.1 S.2.1 dX8_faultAt_35 rfl (fun h22 => ?_) (fun h22 => ?_)
          · skip
            refine lv_iload S.1 S.2.1 dX8_faultAt_51 (lv_at hl 0 rfl) ?_
            refine lv_bipush (v := (nI 40)) S.1 S.2.1 dX8_faultAt_53 (by decide) ?_
            refine lv_icmp_eq (tgt := 68) S.1 S.2.1 dX8_faultAt_55 rfl (fun h23 => ?_) (fun h23 => ?_)
            · exact absurd h23 h22
            · skip
              refine lv_iload S.1 S.2.1 dX8_faultAt_58 (lv_at hl 0 rfl) ?_
              refine xk_R (v := (rfPB (tx k))) (x_runS (As := [.int (tx k)]) (rest := []) S hE hS (fun _ h => h.elim) (c_X8_partBy l E (tx k) _) kv_X8_partBy kw31_10 kw31_11 ⟨Nat.le_of_ble_eq_true rfl, Nat.le_of_ble_eq_true rfl⟩ rfl rfl rfl hl.1 rfl (Nat.le_of_ble_eq_true rfl) dX8_faultAt_60 ⟨Nat.zero_le _, Nat.zero_le _⟩) ?_
              refine lv_if_ge (tgt := 68) S.1 S.2.1 dX8_faultAt_63 rfl (fun h24 => ?_) (fun h24 => ?_)
              · skip
                refine lv_iload_n S.1 S.2.1 dX8_faultAt_68 rfl (lv_at hl 3 rfl) ?_
                refine lv_iload S.1 S.2.1 dX8_faultAt_69 (lv_at hl 0 rfl) ?_
                refine lv_bipush (v := (nI 40)) S.1 S.2.1 dX8_faultAt_71 (by decide) ?_
                refine lv_icmp_ne (tgt := 80) S.1 S.2.1 dX8_faultAt_73 rfl (fun h25 => ?_) (fun h25 => ?_)
                · skip
                  refine lv_iconst (v := (nI 0)) S.1 S.2.1 dX8_faultAt_80 (by decide) ?_
                  refine lv_iadd S.1 S.2.1 dX8_faultAt_81 ?_
                  refine lv_istore_n S.1 S.2.1 dX8_faultAt_82 rfl hl (by decide) rfl (fun ls hl => ?_)
                  have hl : lv_has ls 5 [(1, .int (o1 + (nI 0))), (4, .int (tx k)), (3, .int (nI k)), (2, .int z1), (0, .ref M)] := hl
                  refine lv_iload S.1 S.2.1 dX8_faultAt_83 (lv_at hl 1 rfl) ?_
                  refine lv_bipush (v := (nI 40)) S.1 S.2.1 dX8_faultAt_85 (by decide) ?_
                  refine lv_icmp_ne (tgt := 94) S.1 S.2.1 dX8_faultAt_87 rfl (fun h26 => ?_) (fun h26 => ?_)
                  · skip
                    refine lv_iconst (v := (nI 1)) S.1 S.2.1 dX8_faultAt_94 (by decide) ?_
                    refine lv_istore_n S.1 S.2.1 dX8_faultAt_95 rfl hl (by decide) rfl (fun ls hl => ?_)
                    have hl : lv_has ls 5 [(2, .int (nI 1)), (1, .int (o1 + (nI 0))), (4, .int (tx k)), (3, .int (nI k)), (0, .ref M)] := hl
                    refine lv_goto (tgt := 177) S.1 S.2.1 dX8_faultAt_96 rfl ?_
                    refine lv_iinc (k := 3) (v := (nI (k + 1))) S.1 S.2.1 dX8_faultAt_177 hl rfl (iincP k 1) (by decide) rfl (fun ls hl => ?_)
                    have hl : lv_has ls 5 [(3, .int (nI (k + 1))), (2, .int (nI 1)), (1, .int (o1 + (nI 0))), (4, .int (tx k)), (0, .ref M)] := hl
                    refine lv_goto (tgt := 6) S.1 S.2.1 dX8_faultAt_180 rfl ?_
                    have hq : rfFz z1 o1 (tx k) = ((nI 1), (o1 + (nI 0)), nI 0) := by rw [rfFz, if_pos h5, if_neg h22, if_pos h24]
                    exact ih _ (by omega) (k + 1) (nI 1) (o1 + (nI 0)) (nI 1) _ _ ls rfl (by omega) (rfFa_t hlt hq hv) (ho) (ht) (hO) (hS) (lv_sub hl [0, 1, 2, 4] rfl)
                  · exact absurd h26 h22
                · exact absurd h25 h22
              · skip
                refine lv_iload_n S.1 S.2.1 dX8_faultAt_66 rfl (lv_at hl 1 rfl) ?_
                subst hQ
                refine x_retW S hr hlk (rfl) hS hO ?_ dX8_faultAt_67
                exact (show rfFt tx ty = (nI k, (nI 1)) from rfFa_f hlt (by decide) (show rfFz z1 o1 (tx k) = (z1, o1, (nI 1)) from by rw [rfFz, if_pos h5, if_neg h22, if_neg h24]) hv) ▸ ⟨rfl, ho⟩
          · skip
            refine lv_iload_n S.1 S.2.1 dX8_faultAt_38 rfl (lv_at hl 3 rfl) ?_
            refine lv_bipush (v := (nI 6)) S.1 S.2.1 dX8_faultAt_39 (by decide) ?_
            refine lv_icmp_ne (tgt := 51) S.1 S.2.1 dX8_faultAt_41 rfl (fun h27 => ?_) (fun h27 => ?_)
            · skip
              refine lv_iload S.1 S.2.1 dX8_faultAt_51 (lv_at hl 0 rfl) ?_
              refine lv_bipush (v := (nI 40)) S.1 S.2.1 dX8_faultAt_53 (by decide) ?_
              refine lv_icmp_eq (tgt := 68) S.1 S.2.1 dX8_faultAt_55 rfl (fun h28 => ?_) (fun h28 => ?_)
              · skip
                refine lv_iload_n S.1 S.2.1 dX8_faultAt_68 rfl (lv_at hl 3 rfl) ?_
                refine lv_iload S.1 S.2.1 dX8_faultAt_69 (lv_at hl 0 rfl) ?_
                refine lv_bipush (v := (nI 40)) S.1 S.2.1 dX8_faultAt_71 (by decide) ?_
                refine lv_icmp_ne (tgt := 80) S.1 S.2.1 dX8_faultAt_73 rfl (fun h29 => ?_) (fun h29 => ?_)
                · exact absurd h22 h29
                · skip
                  refine lv_iconst (v := (nI 1)) S.1 S.2.1 dX8_faultAt_76 (by decide) ?_
                  refine lv_goto (tgt := 81) S.1 S.2.1 dX8_faultAt_77 rfl ?_
                  refine lv_iadd S.1 S.2.1 dX8_faultAt_81 ?_
                  refine lv_istore_n S.1 S.2.1 dX8_faultAt_82 rfl hl (by decide) rfl (fun ls hl => ?_)
                  have hl : lv_has ls 5 [(1, .int (o1 + (nI 1))), (4, .int (tx k)), (3, .int (nI k)), (2, .int z1), (0, .ref M)] := hl
                  refine lv_iload S.1 S.2.1 dX8_faultAt_83 (lv_at hl 1 rfl) ?_
                  refine lv_bipush (v := (nI 40)) S.1 S.2.1 dX8_faultAt_85 (by decide) ?_
                  refine lv_icmp_ne (tgt := 94) S.1 S.2.1 dX8_faultAt_87 rfl (fun h30 => ?_) (fun h30 => ?_)
                  · exact absurd h22 h30
                  · skip
                    refine lv_iconst (v := (nI 0)) S.1 S.2.1 dX8_faultAt_90 (by decide) ?_
                    refine lv_goto (tgt := 95) S.1 S.2.1 dX8_faultAt_91 rfl ?_
                    refine lv_istore_n S.1 S.2.1 dX8_faultAt_95 rfl hl (by decide) rfl (fun ls hl => ?_)
                    have hl : lv_has ls 5 [(2, .int (nI 0)), (1, .int (o1 + (nI 1))), (4, .int (tx k)), (3, .int (nI k)), (0, .ref M)] := hl
                    refine lv_goto (tgt := 177) S.1 S.2.1 dX8_faultAt_96 rfl ?_
                    refine lv_iinc (k := 3) (v := (nI (k + 1))) S.1 S.2.1 dX8_faultAt_177 hl rfl (iincP k 1) (by decide) rfl (fun ls hl => ?_)
                    have hl : lv_has ls 5 [(3, .int (nI (k + 1))), (2, .int (nI 0)), (1, .int (o1 + (nI 1))), (4, .int (tx k)), (0, .ref M)] := hl
                    refine lv_goto (tgt := 6) S.1 S.2.1 dX8_faultAt_180 rfl ?_
                    have hq : rfFz z1 o1 (tx k) = ((nI 0), (o1 + (nI 1)), nI 0) := by rw [rfFz, if_pos h5, if_pos h22, if_neg h27]
                    exact ih _ (by omega) (k + 1) (nI 0) (o1 + (nI 1)) (nI 1) _ _ ls rfl (by omega) (rfFa_t hlt hq hv) (ho) (ht) (hO) (hS) (lv_sub hl [0, 1, 2, 4] rfl)
              · exact absurd h22 h28
            · skip
              refine lv_aload_n S.1 S.2.1 dX8_faultAt_44 rfl (lv_at hl 4 rfl) ?_
              refine lv_iconst (v := (nI 2)) S.1 S.2.1 dX8_faultAt_45 (by decide) ?_
              refine x_put S hE hS (rfl) (ho) (C := RX8) (T := TX8) (N := 10) rfl inlX8 tyX8 tyX8_ok nmX8 6 (by decide) (Nat.le_of_ble_eq_true rfl) kw31_5 rfl rfl (v := .int (nI 2)) rfl rfl dX8_faultAt_46 (fun H locs hX hO1 hS => ?_)
              have hO := hO.tr hO1 (fun q h => h)
              have ht := va_at.kept ht (hO1.2 (M + 4) (fun z => by have z : M + 4 = M := z; omega))
              have ho := hX
              refine lv_iload_n S.1 S.2.1 dX8_faultAt_49 rfl (lv_at hl 1 rfl) ?_
              subst hQ
              refine x_retW S hr hlk (rfl) hS hO ?_ dX8_faultAt_50
              exact (show rfFt tx ty = (nI k, (nI 2)) from rfFa_f hlt (by decide) (show rfFz z1 o1 (tx k) = (z1, o1, (nI 2)) from by rw [rfFz, if_pos h5, if_pos h22, if_pos h27]) hv) ▸ ⟨rfl, ho⟩
  exact hloop6 _ 0 (nI 0) (nI 0) re _ _ ls rfl (Nat.zero_le _) (rfl) (ho) (ht) (hO) (hS) (lv_sub hl [0, 1, 2, 3] rfl)
abbrev rm_X8_fault : Room := ({ frames := 2, cells := 0, slots := 0, locals := 46 } : Room)
set_option maxRecDepth 100000 in
set_option maxHeartbeats 600000 in
theorem c_X8_fault (l : Launch) (E : XE) (M n : Nat) (σ : Nat → Int32) (η : Nat → Nat → Int32) (np : Nat) (tx : Nat → Int32) (ty : Nat) (wa : Int32) (H : Heap) (hP : RfP E M (σ, (η, np), (tx, ty)) H) (hn : σ 0 = nI n) (hn2 : n ≤ 200) (hnp : np ≤ 4) (hty : ty ≤ 60) : Wr l E yX8_fault cX8_fault 3 (some .int) rm_X8_fault [.ref M, .int wa] H (bk M 8) (fun v H1 => v = rfFV tx ty wa ∧ RfP E M (σ, (η, np), (tx, ty)) H1) := by
  refine met_of (by decide) (Nat.le_of_ble_eq_true rfl) (fun p e s m args below meth c hBD Q hQ ls hl => ?_)
  obtain ⟨S, hr, hlk, hnm, hE, hH⟩ := hBD
  subst hH
  have hl : lv_has ls 3 [(0, .ref M), (1, .int wa)] := hl
  have hO : Out (bk M 8) s.heap s.heap := Out.rf
  have hS : va_S (bk M 8) s.heap s.heap [] := va_S.rf
  obtain ⟨re, ho, hs, hp, ⟨f3, hd3⟩, ht, ⟨f5, hq5⟩, ⟨f6, hq6⟩, ⟨f7, hq7⟩⟩ := hP
  have ho : RfO E M (nI np) (nI ty) re s.heap := ho
  have hs : XI E (M + 1) 1670 σ s.heap := hs
  have hp : XI E (M + 2) 6680 (rfFl η) s.heap := hp
  have ht : XI E (M + 4) 60 tx s.heap := ht
  refine lv_iload_n S.1 S.2.1 dX8_fault_0 rfl (lv_at hl 1 rfl) ?_
  refine lv_iconst (v := (nI 0)) S.1 S.2.1 dX8_fault_1 (by decide) ?_
  refine lv_iconst (v := (nI 1)) S.1 S.2.1 dX8_fault_2 (by decide) ?_
  refine xk_R (v := (bI ((nI 0) ≤ wa ∧ wa ≤ (nI 1)))) (x_runS (As := [.int wa, .int (nI 0), .int (nI 1)]) (rest := []) S hE hS (fun _ h => h.elim) (c_X8_in l E wa (nI 0) (nI 1) _) kv_X8_in kw12_11 kw12_12 ⟨Nat.le_of_ble_eq_true rfl, Nat.le_of_ble_eq_true rfl⟩ rfl rfl rfl hl.1 rfl (Nat.le_of_ble_eq_true rfl) dX8_fault_3 ⟨Nat.zero_le _, Nat.zero_le _⟩) ?_
  refine lv_if_ne (tgt := 11) S.1 S.2.1 dX8_fault_6 rfl (fun h1 => ?_) (fun h1 => ?_)
  · skip
    have h1 := bI_n0 h1
    refine lv_aload_n S.1 S.2.1 dX8_fault_11 rfl (lv_at hl 0 rfl) ?_
    refine xk_W (x_runV (As := []) (rest := []) S hE hS (fun q h => bkM (k := 0) h (by decide)) (c_X8_faultAt l E M (nI np) re tx ty _ ho ht hty) kv_X8_faultAt kw31_6 kw31_7 kw31_8 (x_recv hE (ho) (ci := 8) rfl) ⟨Nat.le_of_ble_eq_true rfl, Nat.le_of_ble_eq_true rfl⟩ rfl rfl rfl hl.1 rfl (Nat.le_of_ble_eq_true rfl) dX8_fault_12 ⟨Nat.zero_le _, Nat.zero_le _⟩) hS (fun q h => bkM (k := 0) h (by decide)) (fun v0 H locs hX hO1 hS => ?_)
    have hO := hO.tr hO1 (fun q h => bkM (k := 0) h (by decide))
    have hs := va_at.kept hs (hO1.2 (M + 1) (fun z => by have z : M + 1 = M := z; omega))
    have hp := va_at.kept hp (hO1.2 (M + 2) (fun z => by have z : M + 2 = M := z; omega))
    have hd3 := va_at.kept hd3 (hO1.2 (M + 3) (fun z => by have z : M + 3 = M := z; omega))
    have ht := va_at.kept ht (hO1.2 (M + 4) (fun z => by have z : M + 4 = M := z; omega))
    have hq5 := va_at.kept hq5 (hO1.2 (M + 5) (fun z => by have z : M + 5 = M := z; omega))
    have hq6 := va_at.kept hq6 (hO1.2 (M + 6) (fun z => by have z : M + 6 = M := z; omega))
    have hq7 := va_at.kept hq7 (hO1.2 (M + 7) (fun z => by have z : M + 7 = M := z; omega))
    obtain ⟨hv0, ho⟩ := hX
    subst hv0
    refine lv_istore_n S.1 S.2.1 dX8_fault_15 rfl hl (by decide) rfl (fun ls hl => ?_)
    have hl : lv_has ls 3 [(2, .int (rfFt tx ty).1), (0, .ref M), (1, .int wa)] := hl
    refine lv_iload_n S.1 S.2.1 dX8_fault_16 rfl (lv_at hl 0 rfl) ?_
    refine lv_bipush (v := (-4)) S.1 S.2.1 dX8_fault_17 (by decide) ?_
    refine lv_icmp_eq (tgt := 26) S.1 S.2.1 dX8_fault_19 rfl (fun h2 => ?_) (fun h2 => ?_)
    · skip
      refine lv_iload_n S.1 S.2.1 dX8_fault_26 rfl (lv_at hl 0 rfl) ?_
      refine lv_goto (tgt := 34) S.1 S.2.1 dX8_fault_27 rfl ?_
      subst hQ
      refine x_retW S hr hlk (rfl) hS hO ?_ dX8_fault_34
      exact ⟨by rw [rfFV, if_pos h1, if_pos h2], ⟨_, ho, hs, hp, ⟨_, hd3⟩, ht, ⟨_, hq5⟩, ⟨_, hq6⟩, ⟨_, hq7⟩⟩⟩
    · skip
      refine lv_iload_n S.1 S.2.1 dX8_fault_22 rfl (lv_at hl 2 rfl) ?_
      refine lv_if_ne (tgt := 30) S.1 S.2.1 dX8_fault_23 rfl (fun h3 => ?_) (fun h3 => ?_)
      · skip
        refine lv_aload_n S.1 S.2.1 dX8_fault_30 rfl (lv_at hl 1 rfl) ?_
        refine x_get S hE (ho) (C := RX8) (T := TX8) (N := 10) rfl inlX8 6 (by decide) (v := .int (rfFt tx ty).2) rfl kw31_5 rfl dX8_fault_31 ?_
        subst hQ
        refine x_retW S hr hlk (rfl) hS hO ?_ dX8_fault_34
        exact ⟨by rw [rfFV, if_pos h1, if_neg h2, if_neg h3], ⟨_, ho, hs, hp, ⟨_, hd3⟩, ht, ⟨_, hq5⟩, ⟨_, hq6⟩, ⟨_, hq7⟩⟩⟩
      · skip
        refine lv_iload_n S.1 S.2.1 dX8_fault_26 rfl (lv_at hl 0 rfl) ?_
        refine lv_goto (tgt := 34) S.1 S.2.1 dX8_fault_27 rfl ?_
        subst hQ
        refine x_retW S hr hlk (rfl) hS hO ?_ dX8_fault_34
        exact ⟨by rw [rfFV, if_pos h1, if_neg h2, if_pos h3], ⟨_, ho, hs, hp, ⟨_, hd3⟩, ht, ⟨_, hq5⟩, ⟨_, hq6⟩, ⟨_, hq7⟩⟩⟩
  · skip
    have h1 := bI_0 h1
    refine lv_iconst (v := (-1)) S.1 S.2.1 dX8_fault_9 (by decide) ?_
    subst hQ
    refine x_retW S hr hlk (rfl) hS hO ?_ dX8_fault_10
    exact ⟨by rw [rfFV, if_neg h1], ⟨_, ho, hs, hp, ⟨_, hd3⟩, ht, ⟨_, hq5⟩, ⟨_, hq6⟩, ⟨_, hq7⟩⟩⟩
abbrev rm_X8_adopt : Room := ({ frames := 2, cells := 0, slots := 0, locals := 46 } : Room)
set_option maxRecDepth 100000 in
set_option maxHeartbeats 600000 in
theorem c_X8_adopt (l : Launch) (E : XE) (M n : Nat) (σ : Nat → Int32) (η : Nat → Nat → Int32) (np : Nat) (tx : Nat → Int32) (ty : Nat) (H : Heap) (hP : RfP E M (σ, (η, np), (tx, ty)) H) (hn : σ 0 = nI n) (hn2 : n ≤ 200) (hnp : np ≤ 4) (hty : ty ≤ 60) : Wr l E yX8_adopt cX8_adopt 3 (some .int) rm_X8_adopt [.ref M] H (bk M 8) (fun v H1 => v = (rfAdo σ tx ty).2.1 ∧ RfP E M (rfMu σ η np tx ty (rfAdo σ tx ty)) H1) := by
  refine met_of (by decide) (Nat.le_of_ble_eq_true rfl) (fun p e s m args below meth c hBD Q hQ ls hl => ?_)
  obtain ⟨S, hr, hlk, hnm, hE, hH⟩ := hBD
  subst hH
  have hl : lv_has ls 3 [(0, .ref M)] := hl
  have hO : Out (bk M 8) s.heap s.heap := Out.rf
  have hS : va_S (bk M 8) s.heap s.heap [] := va_S.rf
  obtain ⟨re, ho, hs, hp, ⟨f3, hd3⟩, ht, ⟨f5, hq5⟩, ⟨f6, hq6⟩, ⟨f7, hq7⟩⟩ := hP
  have ho : RfO E M (nI np) (nI ty) re s.heap := ho
  have hs : XI E (M + 1) 1670 σ s.heap := hs
  have hp : XI E (M + 2) 6680 (rfFl η) s.heap := hp
  have ht : XI E (M + 4) 60 tx s.heap := ht
  refine lv_aload_n S.1 S.2.1 dX8_adopt_0 rfl (lv_at hl 0 rfl) ?_
  refine xk_W (x_runV (As := []) (rest := []) S hE hS (fun q h => bkM (k := 0) h (by decide)) (c_X8_faultAt l E M (nI np) re tx ty _ ho ht hty) kv_X8_faultAt kw31_6 kw31_7 kw31_8 (x_recv hE (ho) (ci := 8) rfl) ⟨Nat.le_of_ble_eq_true rfl, Nat.le_of_ble_eq_true rfl⟩ rfl rfl rfl hl.1 rfl (Nat.le_of_ble_eq_true rfl) dX8_adopt_1 ⟨Nat.zero_le _, Nat.zero_le _⟩) hS (fun q h => bkM (k := 0) h (by decide)) (fun v0 H locs hX hO1 hS => ?_)
  have hO := hO.tr hO1 (fun q h => bkM (k := 0) h (by decide))
  have hs := va_at.kept hs (hO1.2 (M + 1) (fun z => by have z : M + 1 = M := z; omega))
  have hp := va_at.kept hp (hO1.2 (M + 2) (fun z => by have z : M + 2 = M := z; omega))
  have hd3 := va_at.kept hd3 (hO1.2 (M + 3) (fun z => by have z : M + 3 = M := z; omega))
  have ht := va_at.kept ht (hO1.2 (M + 4) (fun z => by have z : M + 4 = M := z; omega))
  have hq5 := va_at.kept hq5 (hO1.2 (M + 5) (fun z => by have z : M + 5 = M := z; omega))
  have hq6 := va_at.kept hq6 (hO1.2 (M + 6) (fun z => by have z : M + 6 = M := z; omega))
  have hq7 := va_at.kept hq7 (hO1.2 (M + 7) (fun z => by have z : M + 7 = M := z; omega))
  obtain ⟨hv0, ho⟩ := hX
  subst hv0
  refine lv_bipush (v := (-4)) S.1 S.2.1 dX8_adopt_4 (by decide) ?_
  refine lv_icmp_eq (tgt := 12) S.1 S.2.1 dX8_adopt_6 rfl (fun h1 => ?_) (fun h1 => ?_)
  · skip
    refine lv_aload_n S.1 S.2.1 dX8_adopt_12 rfl (lv_at hl 0 rfl) ?_
    refine xk_V (x_runV (As := []) (rest := []) S hE hS (fun q h => h.elim (fun h => bkM (k := 0) h (by decide)) (fun h => bkM (k := 2) h (by decide))) (c_X8_changes l E M (nI ty) (rfFt tx ty).2 np σ η _ ho hs hp hnp) kv_X8_changes kw13_2 kw13_3 kw13_4 (x_recv hE (ho) (ci := 8) rfl) ⟨Nat.le_of_ble_eq_true rfl, Nat.le_of_ble_eq_true rfl⟩ rfl rfl rfl hl.1 rfl (Nat.le_of_ble_eq_true rfl) dX8_adopt_13 ⟨Nat.zero_le _, Nat.zero_le _⟩) hS (fun q h => h.elim (fun h => bkM (k := 0) h (by decide)) (fun h => bkM (k := 2) h (by decide))) (fun H locs hX hO1 hS => ?_)
    have hO := hO.tr hO1 (fun q h => h.elim (fun h => bkM (k := 0) h (by decide)) (fun h => bkM (k := 2) h (by decide)))
    have hs := va_at.kept hs (hO1.2 (M + 1) (fun z => by rcases z with z | z <;> omega))
    have hd3 := va_at.kept hd3 (hO1.2 (M + 3) (fun z => by rcases z with z | z <;> omega))
    have ht := va_at.kept ht (hO1.2 (M + 4) (fun z => by rcases z with z | z <;> omega))
    have hq5 := va_at.kept hq5 (hO1.2 (M + 5) (fun z => by rcases z with z | z <;> omega))
    have hq6 := va_at.kept hq6 (hO1.2 (M + 6) (fun z => by rcases z with z | z <;> omega))
    have hq7 := va_at.kept hq7 (hO1.2 (M + 7) (fun z => by rcases z with z | z <;> omega))
    obtain ⟨ho, hp⟩ := hX
    refine lv_iconst (v := (nI 0)) S.1 S.2.1 dX8_adopt_16 (by decide) ?_
    refine lv_istore_n S.1 S.2.1 dX8_adopt_17 rfl hl (by decide) rfl (fun ls hl => ?_)
    have hl : lv_has ls 3 [(1, .int (nI 0)), (0, .ref M)] := hl
    refine lv_aload_n S.1 S.2.1 dX8_adopt_18 rfl (lv_at hl 1 rfl) ?_
    refine x_get S hE (ho) (C := RX8) (T := TX8) (N := 10) rfl inlX8 0 (by decide) (v := .ref (M + 1)) rfl kw7_6 rfl dX8_adopt_19 ?_
    refine lv_bipush (v := (nI 9)) S.1 S.2.1 dX8_adopt_22 (by decide) ?_
    refine lv_aload_n S.1 S.2.1 dX8_adopt_24 rfl (lv_at hl 1 rfl) ?_
    refine x_get S hE (ho) (C := RX8) (T := TX8) (N := 10) rfl inlX8 5 (by decide) (v := .int (nI ty)) rfl kw23_20 rfl dX8_adopt_25 ?_
    refine x_iast S hE hS (bkM (k := 1) rfl (by decide)) (hs) 9 rfl (by decide) (by decide) dX8_adopt_28 (fun H locs hX hO1 hS => ?_)
    have hO := hO.tr hO1 (fun q h => bkM (k := 1) h (by decide))
    have ho := va_at.kept ho (hO1.2 (M) (fun z => by have z : M = M + 1 := z; omega))
    have hp := va_at.kept hp (hO1.2 (M + 2) (fun z => by have z : M + 2 = M + 1 := z; omega))
    have hd3 := va_at.kept hd3 (hO1.2 (M + 3) (fun z => by have z : M + 3 = M + 1 := z; omega))
    have ht := va_at.kept ht (hO1.2 (M + 4) (fun z => by have z : M + 4 = M + 1 := z; omega))
    have hq5 := va_at.kept hq5 (hO1.2 (M + 5) (fun z => by have z : M + 5 = M + 1 := z; omega))
    have hq6 := va_at.kept hq6 (hO1.2 (M + 6) (fun z => by have z : M + 6 = M + 1 := z; omega))
    have hq7 := va_at.kept hq7 (hO1.2 (M + 7) (fun z => by have z : M + 7 = M + 1 := z; omega))
    have hs : XI E (M + 1) 1670 (upd σ 9 (nI ty)) H := hX
    refine lv_iconst (v := (nI 0)) S.1 S.2.1 dX8_adopt_29 (by decide) ?_
    refine lv_istore_n S.1 S.2.1 dX8_adopt_30 rfl hl (by decide) rfl (fun ls hl => ?_)
    have hl : lv_has ls 3 [(2, .int (nI 0)), (1, .int (nI 0)), (0, .ref M)] := hl
    have hloop31 : ∀ (d : Nat) (i : Nat) (r : Nat → Int32) (H : Heap) (locs : List Loc) (ls : Array Slot), 60 - i = d → i ≤ 60 → (∀ j, r j = rfAdA σ tx ty i j) → RfO E M (nI (hiLen np)) (nI ty) (rfFt tx ty).2 H → XI E (M + 1) 1670 r H → XI E (M + 2) 6680 (rfFl (rfRec η np σ)) H → XI E (M + 3) 1670 f3 H → XI E (M + 4) 60 tx H → XI E (M + 5) 4 f5 H → XI E (M + 6) 7 f6 H → XI E (M + 7) 7 f7 H → Out (bk M 8) s.heap H → va_S (bk M 8) s.heap H locs → lv_has ls 3 [(2, .int (nI i)), (1, .int (rfAdN tx ty i)), (0, .ref M)] → W p l e rm_X8_adopt s m args below meth c H locs 0 0 Q (F0 m 31 ls []) := by
      intro d
      induction d using Nat.strongRecOn with
      | ind d ih =>
        intro i r H locs ls hd hi hrw ho hs hp hd3 ht hq5 hq6 hq7 hO hS hl
        refine lv_iload_n S.1 S.2.1 dX8_adopt_31 rfl (lv_at hl 0 rfl) ?_
        refine lv_bipush (v := (nI 60)) S.1 S.2.1 dX8_adopt_32 (by decide) ?_
        refine lv_icmp_ge (tgt := 98) S.1 S.2.1 dX8_adopt_34 rfl (fun h2 => ?_) (fun h2 => ?_)
        · have hge : i = 60 := (by have := ge_of_le (by omega) (by omega) h2; omega)
          refine lv_iload_n S.1 S.2.1 dX8_adopt_98 rfl (lv_at hl 1 rfl) ?_
          subst hQ
          refine x_retW S hr hlk (rfl) hS hO ?_ dX8_adopt_99
          exact (show rfAdo σ tx ty = (rfAdA σ tx ty 60, rfAdN tx ty 60, true) from if_pos h1) ▸ ⟨by rw [hge], ⟨_, ho, xi_ext hs (fun j _ => by rw [hrw j, hge]; rfl), hp, ⟨_, hd3⟩, ht, ⟨_, hq5⟩, ⟨_, hq6⟩, ⟨_, hq7⟩⟩⟩
        · have hlt : i < 60 := lt_of_nle (by omega) (by omega) h2
          refine lv_aload_n S.1 S.2.1 dX8_adopt_37 rfl (lv_at hl 2 rfl) ?_
          refine x_get S hE (ho) (C := RX8) (T := TX8) (N := 10) rfl inlX8 0 (by decide) (v := .ref (M + 1)) rfl kw7_6 rfl dX8_adopt_38 ?_
          refine lv_bipush (v := (nI 10)) S.1 S.2.1 dX8_adopt_41 (by decide) ?_
          refine lv_iload_n S.1 S.2.1 dX8_adopt_43 rfl (lv_at hl 0 rfl) ?_
          refine lv_iadd S.1 S.2.1 dX8_adopt_44 ?_
          refine x_top (y := (nI (10 + i))) (nI_add 10 i) ?_
          refine lv_iload_n S.1 S.2.1 dX8_adopt_45 rfl (lv_at hl 0 rfl) ?_
          refine lv_aload_n S.1 S.2.1 dX8_adopt_46 rfl (lv_at hl 2 rfl) ?_
          refine x_get S hE (ho) (C := RX8) (T := TX8) (N := 10) rfl inlX8 5 (by decide) (v := .int (nI ty)) rfl kw23_20 rfl dX8_adopt_47 ?_
          refine lv_icmp_ge (tgt := 62) S.1 S.2.1 dX8_adopt_50 rfl (fun h3 => ?_) (fun h3 => ?_)
          · have hl1 : ¬ i < ty := (by have := ge_of_le (by omega) (by omega) h3; omega)
            refine lv_iconst (v := (nI 0)) S.1 S.2.1 dX8_adopt_62 (by decide) ?_
            refine x_iast S hE hS (bkM (k := 1) rfl (by decide)) (hs) (10 + i) rfl (by omega) (by decide) dX8_adopt_63 (fun H locs hX hO1 hS => ?_)
            have hO := hO.tr hO1 (fun q h => bkM (k := 1) h (by decide))
            have ho := va_at.kept ho (hO1.2 (M) (fun z => by have z : M = M + 1 := z; omega))
            have hp := va_at.kept hp (hO1.2 (M + 2) (fun z => by have z : M + 2 = M + 1 := z; omega))
            have hd3 := va_at.kept hd3 (hO1.2 (M + 3) (fun z => by have z : M + 3 = M + 1 := z; omega))
            have ht := va_at.kept ht (hO1.2 (M + 4) (fun z => by have z : M + 4 = M + 1 := z; omega))
            have hq5 := va_at.kept hq5 (hO1.2 (M + 5) (fun z => by have z : M + 5 = M + 1 := z; omega))
            have hq6 := va_at.kept hq6 (hO1.2 (M + 6) (fun z => by have z : M + 6 = M + 1 := z; omega))
            have hq7 := va_at.kept hq7 (hO1.2 (M + 7) (fun z => by have z : M + 7 = M + 1 := z; omega))
            have hs : XI E (M + 1) 1670 (upd r (10 + i) (nI 0)) H := hX
            refine lv_iload_n S.1 S.2.1 dX8_adopt_64 rfl (lv_at hl 1 rfl) ?_
            refine lv_iload_n S.1 S.2.1 dX8_adopt_65 rfl (lv_at hl 0 rfl) ?_
            refine lv_aload_n S.1 S.2.1 dX8_adopt_66 rfl (lv_at hl 2 rfl) ?_
            refine x_get S hE (ho) (C := RX8) (T := TX8) (N := 10) rfl inlX8 5 (by decide) (v := .int (nI ty)) rfl kw23_20 rfl dX8_adopt_67 ?_
            refine lv_icmp_ge (tgt := 89) S.1 S.2.1 dX8_adopt_70 rfl (fun h4 => ?_) (fun h4 => ?_)
            · skip
              refine lv_iconst (v := (nI 0)) S.1 S.2.1 dX8_adopt_89 (by decide) ?_
              refine lv_iadd S.1 S.2.1 dX8_adopt_90 ?_
              refine lv_istore_n S.1 S.2.1 dX8_adopt_91 rfl hl (by decide) rfl (fun ls hl => ?_)
              have hl : lv_has ls 3 [(1, .int ((rfAdN tx ty i) + (nI 0))), (2, .int (nI i)), (0, .ref M)] := hl
              refine lv_iinc (k := 1) (v := (nI (i + 1))) S.1 S.2.1 dX8_adopt_92 hl rfl (iincP i 1) (by decide) rfl (fun ls hl => ?_)
              have hl : lv_has ls 3 [(2, .int (nI (i + 1))), (1, .int ((rfAdN tx ty i) + (nI 0))), (0, .ref M)] := hl
              refine lv_goto (tgt := 31) S.1 S.2.1 dX8_adopt_95 rfl ?_
              have hl : lv_has ls 3 [(2, .int (nI (i + 1))), (1, .int (rfAdN tx ty (i + 1))), (0, .ref M)] := by
                rw [show (rfAdN tx ty (i + 1)) = ((rfAdN tx ty i) + (nI 0)) from by rw [rfAdN, if_neg (fun z => hl1 z.1)]]
                exact lv_sub hl [0, 1, 2] rfl
              exact ih _ (by omega) (i + 1) (upd r (10 + i) (nI 0)) _ _ ls rfl (by omega) (rfAdA_s hrw (by rw [if_neg hl1])) (ho) (hs) (hp) (hd3) (ht) (hq5) (hq6) (hq7) (hO) (hS) (lv_sub hl [0, 1, 2] rfl)
            · exact absurd h3 h4
          · have hl1 : i < ty := lt_of_nle (by omega) (by omega) h3
            refine lv_aload_n S.1 S.2.1 dX8_adopt_53 rfl (lv_at hl 2 rfl) ?_
            refine x_get S hE (ho) (C := RX8) (T := TX8) (N := 10) rfl inlX8 4 (by decide) (v := .ref (M + 4)) rfl kw7_9 rfl dX8_adopt_54 ?_
            refine lv_iload_n S.1 S.2.1 dX8_adopt_57 rfl (lv_at hl 0 rfl) ?_
            refine x_iald S hE (ht) i rfl (by omega) (by decide) dX8_adopt_58 ?_
            refine lv_goto (tgt := 63) S.1 S.2.1 dX8_adopt_59 rfl ?_
            refine x_iast S hE hS (bkM (k := 1) rfl (by decide)) (hs) (10 + i) rfl (by omega) (by decide) dX8_adopt_63 (fun H locs hX hO1 hS => ?_)
            have hO := hO.tr hO1 (fun q h => bkM (k := 1) h (by decide))
            have ho := va_at.kept ho (hO1.2 (M) (fun z => by have z : M = M + 1 := z; omega))
            have hp := va_at.kept hp (hO1.2 (M + 2) (fun z => by have z : M + 2 = M + 1 := z; omega))
            have hd3 := va_at.kept hd3 (hO1.2 (M + 3) (fun z => by have z : M + 3 = M + 1 := z; omega))
            have ht := va_at.kept ht (hO1.2 (M + 4) (fun z => by have z : M + 4 = M + 1 := z; omega))
            have hq5 := va_at.kept hq5 (hO1.2 (M + 5) (fun z => by have z : M + 5 = M + 1 := z; omega))
            have hq6 := va_at.kept hq6 (hO1.2 (M + 6) (fun z => by have z : M + 6 = M + 1 := z; omega))
            have hq7 := va_at.kept hq7 (hO1.2 (M + 7) (fun z => by have z : M + 7 = M + 1 := z; omega))
            have hs : XI E (M + 1) 1670 (upd r (10 + i) (tx i)) H := hX
            refine lv_iload_n S.1 S.2.1 dX8_adopt_64 rfl (lv_at hl 1 rfl) ?_
            refine lv_iload_n S.1 S.2.1 dX8_adopt_65 rfl (lv_at hl 0 rfl) ?_
            refine lv_aload_n S.1 S.2.1 dX8_adopt_66 rfl (lv_at hl 2 rfl) ?_
            refine x_get S hE (ho) (C := RX8) (T := TX8) (N := 10) rfl inlX8 5 (by decide) (v := .int (nI ty)) rfl kw23_20 rfl dX8_adopt_67 ?_
            refine lv_icmp_ge (tgt := 89) S.1 S.2.1 dX8_adopt_70 rfl (fun h5 => ?_) (fun h5 => ?_)
            · exact absurd h5 h3
            · skip
              refine lv_aload_n S.1 S.2.1 dX8_adopt_73 rfl (lv_at hl 2 rfl) ?_
              refine x_get S hE (ho) (C := RX8) (T := TX8) (N := 10) rfl inlX8 4 (by decide) (v := .ref (M + 4)) rfl kw7_9 rfl dX8_adopt_74 ?_
              refine lv_iload_n S.1 S.2.1 dX8_adopt_77 rfl (lv_at hl 0 rfl) ?_
              refine x_iald S hE (ht) i rfl (by omega) (by decide) dX8_adopt_78 ?_
              refine xk_R (v := (rfPB (tx i))) (x_runS (As := [.int (tx i)]) (rest := [.int (rfAdN tx ty i)]) S hE hS (fun _ h => h.elim) (c_X8_partBy l E (tx i) _) kv_X8_partBy kw31_10 kw31_11 ⟨Nat.le_of_ble_eq_true rfl, Nat.le_of_ble_eq_true rfl⟩ rfl rfl rfl hl.1 rfl (Nat.le_of_ble_eq_true rfl) dX8_adopt_79 ⟨Nat.zero_le _, Nat.zero_le _⟩) ?_
              refine lv_if_lt (tgt := 89) S.1 S.2.1 dX8_adopt_82 rfl (fun h6 => ?_) (fun h6 => ?_)
              · skip
                refine lv_iconst (v := (nI 0)) S.1 S.2.1 dX8_adopt_89 (by decide) ?_
                refine lv_iadd S.1 S.2.1 dX8_adopt_90 ?_
                refine lv_istore_n S.1 S.2.1 dX8_adopt_91 rfl hl (by decide) rfl (fun ls hl => ?_)
                have hl : lv_has ls 3 [(1, .int ((rfAdN tx ty i) + (nI 0))), (2, .int (nI i)), (0, .ref M)] := hl
                refine lv_iinc (k := 1) (v := (nI (i + 1))) S.1 S.2.1 dX8_adopt_92 hl rfl (iincP i 1) (by decide) rfl (fun ls hl => ?_)
                have hl : lv_has ls 3 [(2, .int (nI (i + 1))), (1, .int ((rfAdN tx ty i) + (nI 0))), (0, .ref M)] := hl
                refine lv_goto (tgt := 31) S.1 S.2.1 dX8_adopt_95 rfl ?_
                have hl : lv_has ls 3 [(2, .int (nI (i + 1))), (1, .int (rfAdN tx ty (i + 1))), (0, .ref M)] := by
                  rw [show (rfAdN tx ty (i + 1)) = ((rfAdN tx ty i) + (nI 0)) from by rw [rfAdN, if_neg (fun z => z.2 h6)]]
                  exact lv_sub hl [0, 1, 2] rfl
                exact ih _ (by omega) (i + 1) (upd r (10 + i) (tx i)) _ _ ls rfl (by omega) (rfAdA_s hrw (by rw [if_pos hl1])) (ho) (hs) (hp) (hd3) (ht) (hq5) (hq6) (hq7) (hO) (hS) (lv_sub hl [0, 1, 2] rfl)
              · skip
                refine lv_iconst (v := (nI 1)) S.1 S.2.1 dX8_adopt_85 (by decide) ?_
                refine lv_goto (tgt := 90) S.1 S.2.1 dX8_adopt_86 rfl ?_
                refine lv_iadd S.1 S.2.1 dX8_adopt_90 ?_
                refine lv_istore_n S.1 S.2.1 dX8_adopt_91 rfl hl (by decide) rfl (fun ls hl => ?_)
                have hl : lv_has ls 3 [(1, .int ((rfAdN tx ty i) + (nI 1))), (2, .int (nI i)), (0, .ref M)] := hl
                refine lv_iinc (k := 1) (v := (nI (i + 1))) S.1 S.2.1 dX8_adopt_92 hl rfl (iincP i 1) (by decide) rfl (fun ls hl => ?_)
                have hl : lv_has ls 3 [(2, .int (nI (i + 1))), (1, .int ((rfAdN tx ty i) + (nI 1))), (0, .ref M)] := hl
                refine lv_goto (tgt := 31) S.1 S.2.1 dX8_adopt_95 rfl ?_
                have hl : lv_has ls 3 [(2, .int (nI (i + 1))), (1, .int (rfAdN tx ty (i + 1))), (0, .ref M)] := by
                  rw [show (rfAdN tx ty (i + 1)) = ((rfAdN tx ty i) + (nI 1)) from by rw [rfAdN, if_pos ⟨hl1, h6⟩]]
                  exact lv_sub hl [0, 1, 2] rfl
                exact ih _ (by omega) (i + 1) (upd r (10 + i) (tx i)) _ _ ls rfl (by omega) (rfAdA_s hrw (by rw [if_pos hl1])) (ho) (hs) (hp) (hd3) (ht) (hq5) (hq6) (hq7) (hO) (hS) (lv_sub hl [0, 1, 2] rfl)
    exact hloop31 _ 0 (upd σ 9 (nI ty)) _ _ ls rfl (Nat.zero_le _) (fun j => rfAdA_0) (ho) (hs) (hp) (hd3) (ht) (hq5) (hq6) (hq7) (hO) (hS) (lv_sub hl [0, 1, 2] rfl)
  · skip
    refine lv_bipush (v := (-2)) S.1 S.2.1 dX8_adopt_9 (by decide) ?_
    subst hQ
    refine x_retW S hr hlk (rfl) hS hO ?_ dX8_adopt_11
    exact (show rfAdo σ tx ty = (σ, (-2), false) from if_neg h1) ▸ ⟨rfl, ⟨_, ho, hs, hp, ⟨_, hd3⟩, ht, ⟨_, hq5⟩, ⟨_, hq6⟩, ⟨_, hq7⟩⟩⟩
abbrev rm_X8_cut : Room := ({ frames := 0, cells := 0, slots := 0, locals := 0 } : Room)
set_option maxRecDepth 100000 in
set_option maxHeartbeats 600000 in
theorem c_X8_cut (l : Launch) (E : XE) (va : Int32) (H : Heap) : Rd l E yX8_cut cX8_cut 1 (some .int) rm_X8_cut [.int va] H (rfCut va) := by
  refine met_of (by decide) (Nat.le_of_ble_eq_true rfl) (fun p e s m args below meth c hBD Q hQ ls hl => ?_)
  obtain ⟨S, hr, hlk, hnm, hE, hH⟩ := hBD
  subst hH
  have hl : lv_has ls 1 [(0, .int va)] := hl
  have hS : va_S (fun _ => False) s.heap s.heap [] := va_S.rf
  refine lv_iload_n S.1 S.2.1 dX8_cut_0 rfl (lv_at hl 0 rfl) ?_
  refine lv_ldc (v := 1000000) S.1 S.2.1 S.2.2.2.1 (S.2.2.2.2 _ kw33_13) dX8_cut_1 ?_
  refine x_top (y := (nI 1000000)) (by decide) ?_
  refine lv_icmp_le (tgt := 11) S.1 S.2.1 dX8_cut_3 rfl (fun h1 => ?_) (fun h1 => ?_)
  · skip
    refine lv_iload_n S.1 S.2.1 dX8_cut_11 rfl (lv_at hl 0 rfl) ?_
    subst hQ
    exact x_retR S hr hlk (rfl) (by rw [rfCut]; first | rw [if_pos h1] | rw [if_neg h1]) dX8_cut_12
  · skip
    refine lv_ldc (v := 1000000) S.1 S.2.1 S.2.2.2.1 (S.2.2.2.2 _ kw33_13) dX8_cut_6 ?_
    refine x_top (y := (nI 1000000)) (by decide) ?_
    refine lv_goto (tgt := 12) S.1 S.2.1 dX8_cut_8 rfl ?_
    subst hQ
    exact x_retR S hr hlk (rfl) (by rw [rfCut]; first | rw [if_pos h1] | rw [if_neg h1]) dX8_cut_12
abbrev rm_X8_joins : Room := ({ frames := 1, cells := 0, slots := 0, locals := 20 } : Room)
set_option maxRecDepth 100000 in
set_option maxHeartbeats 600000 in
theorem c_X8_joins (l : Launch) (E : XE) (sa ga va : Int32) (H : Heap) : Rd l E yX8_joins cX8_joins 3 (some .int) rm_X8_joins [.int sa, .int ga, .int va] H (rfJo sa ga va) := by
  refine met_of (by decide) (Nat.le_of_ble_eq_true rfl) (fun p e s m args below meth c hBD Q hQ ls hl => ?_)
  obtain ⟨S, hr, hlk, hnm, hE, hH⟩ := hBD
  subst hH
  have hl : lv_has ls 3 [(0, .int sa), (1, .int ga), (2, .int va)] := hl
  have hS : va_S (fun _ => False) s.heap s.heap [] := va_S.rf
  refine lv_iload_n S.1 S.2.1 dX8_joins_0 rfl (lv_at hl 1 rfl) ?_
  refine lv_bipush (v := (nI 43)) S.1 S.2.1 dX8_joins_1 (by decide) ?_
  refine lv_icmp_ne (tgt := 15) S.1 S.2.1 dX8_joins_3 rfl (fun h1 => ?_) (fun h1 => ?_)
  · skip
    refine lv_iload_n S.1 S.2.1 dX8_joins_15 rfl (lv_at hl 1 rfl) ?_
    refine lv_bipush (v := (nI 94)) S.1 S.2.1 dX8_joins_16 (by decide) ?_
    refine lv_icmp_ne (tgt := 34) S.1 S.2.1 dX8_joins_18 rfl (fun h2 => ?_) (fun h2 => ?_)
    · skip
      refine lv_iload_n S.1 S.2.1 dX8_joins_34 rfl (lv_at hl 2 rfl) ?_
      subst hQ
      exact x_retR S hr hlk (rfl) (by rw [rfJo, if_neg h1, if_neg h2]) dX8_joins_35
    · skip
      refine lv_iload_n S.1 S.2.1 dX8_joins_21 rfl (lv_at hl 0 rfl) ?_
      refine lv_iload_n S.1 S.2.1 dX8_joins_22 rfl (lv_at hl 2 rfl) ?_
      refine lv_icmp_le (tgt := 30) S.1 S.2.1 dX8_joins_23 rfl (fun h3 => ?_) (fun h3 => ?_)
      · skip
        refine lv_iload_n S.1 S.2.1 dX8_joins_30 rfl (lv_at hl 2 rfl) ?_
        refine lv_goto (tgt := 35) S.1 S.2.1 dX8_joins_31 rfl ?_
        subst hQ
        exact x_retR S hr hlk (rfl) (by rw [rfJo, if_neg h1, if_pos h2, if_pos h3]) dX8_joins_35
      · skip
        refine lv_iload_n S.1 S.2.1 dX8_joins_26 rfl (lv_at hl 0 rfl) ?_
        refine lv_goto (tgt := 35) S.1 S.2.1 dX8_joins_27 rfl ?_
        subst hQ
        exact x_retR S hr hlk (rfl) (by rw [rfJo, if_neg h1, if_pos h2, if_neg h3]) dX8_joins_35
  · skip
    refine lv_iload_n S.1 S.2.1 dX8_joins_6 rfl (lv_at hl 0 rfl) ?_
    refine lv_iload_n S.1 S.2.1 dX8_joins_7 rfl (lv_at hl 2 rfl) ?_
    refine lv_iadd S.1 S.2.1 dX8_joins_8 ?_
    refine xk_R (v := (rfCut (sa + va))) (x_runS (As := [.int (sa + va)]) (rest := []) S hE hS (fun _ h => h.elim) (c_X8_cut l E (sa + va) _) kv_X8_cut kw33_10 kw33_11 ⟨Nat.le_of_ble_eq_true rfl, Nat.le_of_ble_eq_true rfl⟩ rfl rfl rfl hl.1 rfl (Nat.le_of_ble_eq_true rfl) dX8_joins_9 ⟨Nat.zero_le _, Nat.zero_le _⟩) ?_
    refine lv_goto (tgt := 35) S.1 S.2.1 dX8_joins_12 rfl ?_
    subst hQ
    exact x_retR S hr hlk (rfl) (by rw [rfJo, if_pos h1]) dX8_joins_35
abbrev rm_X8_makes : Room := ({ frames := 2, cells := 0, slots := 0, locals := 42 } : Room)
set_option maxRecDepth 100000 in
set_option maxHeartbeats 600000 in
theorem c_X8_makes (l : Launch) (E : XE) (M : Nat) (ps ty re : Int32) (σ pr f6 f7 : Nat → Int32) (u0 : Nat) (H : Heap) (ho : RfO E M ps ty re H) (hs : XI E (M + 1) 1670 σ H) (hq5 : XI E (M + 5) 4 pr H) (hq6 : XI E (M + 6) 7 f6 H) (hq7 : XI E (M + 7) 7 f7 H) (hm : σ 9 = nI u0) (hm2 : u0 ≤ 60) (hW : ∀ i, i < u0 → rfOk (rfDp σ i) (σ (10 + i))) : Wr l E yX8_makes cX8_makes 5 (some .int) rm_X8_makes [.ref M] H (fun q => q = M + 6 ∨ q = M + 7) (fun v H1 => v = rfMakes σ pr f6 f7 u0 ∧ (∃ g6, XI E (M + 6) 7 g6 H1) ∧ ∃ g7, XI E (M + 7) 7 g7 H1) := by
  refine met_of (by decide) (Nat.le_of_ble_eq_true rfl) (fun p e s m args below meth c hBD Q hQ ls hl => ?_)
  obtain ⟨S, hr, hlk, hnm, hE, hH⟩ := hBD
  subst hH
  have hl : lv_has ls 5 [(0, .ref M)] := hl
  have hO : Out (fun q => q = M + 6 ∨ q = M + 7) s.heap s.heap := Out.rf
  have hS : va_S (fun q => q = M + 6 ∨ q = M + 7) s.heap s.heap [] := va_S.rf
  refine lv_iconst (v := (nI 0)) S.1 S.2.1 dX8_makes_0 (by decide) ?_
  refine lv_istore_n S.1 S.2.1 dX8_makes_1 rfl hl (by decide) rfl (fun ls hl => ?_)
  have hl : lv_has ls 5 [(1, .int (nI 0)), (0, .ref M)] := hl
  refine lv_iconst (v := (nI 0)) S.1 S.2.1 dX8_makes_2 (by decide) ?_
  refine lv_istore_n S.1 S.2.1 dX8_makes_3 rfl hl (by decide) rfl (fun ls hl => ?_)
  have hl : lv_has ls 5 [(2, .int (nI 0)), (1, .int (nI 0)), (0, .ref M)] := hl
  refine lv_aload_n S.1 S.2.1 dX8_makes_4 rfl (lv_at hl 2 rfl) ?_
  refine x_get S hE (ho) (C := RX8) (T := TX8) (N := 10) rfl inlX8 8 (by decide) (v := .ref (M + 6)) rfl kw7_11 rfl dX8_makes_5 ?_
  refine lv_iconst (v := (nI 0)) S.1 S.2.1 dX8_makes_8 (by decide) ?_
  refine lv_iconst (v := (nI 0)) S.1 S.2.1 dX8_makes_9 (by decide) ?_
  refine x_iast S hE hS (Or.inl rfl) (hq6) 0 rfl (by decide) (by decide) dX8_makes_10 (fun H locs hX hO1 hS => ?_)
  have hO := hO.tr hO1 (fun q h => Or.inl h)
  have ho := va_at.kept ho (hO1.2 (M) (fun z => by have z : M = M + 6 := z; omega))
  have hs := va_at.kept hs (hO1.2 (M + 1) (fun z => by have z : M + 1 = M + 6 := z; omega))
  have hq5 := va_at.kept hq5 (hO1.2 (M + 5) (fun z => by have z : M + 5 = M + 6 := z; omega))
  have hq7 := va_at.kept hq7 (hO1.2 (M + 7) (fun z => by have z : M + 7 = M + 6 := z; omega))
  have hq6 := hX
  refine lv_aload_n S.1 S.2.1 dX8_makes_11 rfl (lv_at hl 2 rfl) ?_
  refine x_get S hE (ho) (C := RX8) (T := TX8) (N := 10) rfl inlX8 9 (by decide) (v := .ref (M + 7)) rfl kw7_12 rfl dX8_makes_12 ?_
  refine lv_iconst (v := (nI 0)) S.1 S.2.1 dX8_makes_15 (by decide) ?_
  refine lv_iconst (v := (nI 0)) S.1 S.2.1 dX8_makes_16 (by decide) ?_
  refine x_iast S hE hS (Or.inr rfl) (hq7) 0 rfl (by decide) (by decide) dX8_makes_17 (fun H locs hX hO1 hS => ?_)
  have hO := hO.tr hO1 (fun q h => Or.inr h)
  have ho := va_at.kept ho (hO1.2 (M) (fun z => by have z : M = M + 7 := z; omega))
  have hs := va_at.kept hs (hO1.2 (M + 1) (fun z => by have z : M + 1 = M + 7 := z; omega))
  have hq5 := va_at.kept hq5 (hO1.2 (M + 5) (fun z => by have z : M + 5 = M + 7 := z; omega))
  have hq6 := va_at.kept hq6 (hO1.2 (M + 6) (fun z => by have z : M + 6 = M + 7 := z; omega))
  have hq7 := hX
  refine lv_iconst (v := (nI 0)) S.1 S.2.1 dX8_makes_18 (by decide) ?_
  refine lv_istore_n S.1 S.2.1 dX8_makes_19 rfl hl (by decide) rfl (fun ls hl => ?_)
  have hl : lv_has ls 5 [(3, .int (nI 0)), (2, .int (nI 0)), (1, .int (nI 0)), (0, .ref M)] := hl
  have hloop20 : ∀ (d : Nat) (i : Nat) (r : RM) (H : Heap) (locs : List Loc) (ls : Array Slot), u0 - i = d → i ≤ u0 → rfMkN σ pr f6 f7 i = r → rfDp σ i ≤ 6 → RfO E M ps ty re H → XI E (M + 1) 1670 σ H → XI E (M + 5) 4 pr H → XI E (M + 6) 7 r.2.1 H → XI E (M + 7) 7 r.2.2 H → Out (fun q => q = M + 6 ∨ q = M + 7) s.heap H → va_S (fun q => q = M + 6 ∨ q = M + 7) s.heap H locs → lv_has ls 5 [(1, .int (nI (rfDp σ i))), (2, .int r.1), (3, .int (nI i)), (0, .ref M)] → W p l e rm_X8_makes s m args below meth c H locs 0 0 Q (F0 m 20 ls []) := by
    intro d
    induction d using Nat.strongRecOn with
    | ind d ih =>
      intro i r H locs ls hd hi hrr hd6 ho hs hq5 hq6 hq7 hO hS hl
      refine lv_iload_n S.1 S.2.1 dX8_makes_20 rfl (lv_at hl 2 rfl) ?_
      refine lv_aload_n S.1 S.2.1 dX8_makes_21 rfl (lv_at hl 3 rfl) ?_
      refine x_get S hE (ho) (C := RX8) (T := TX8) (N := 10) rfl inlX8 0 (by decide) (v := .ref (M + 1)) rfl kw7_6 rfl dX8_makes_22 ?_
      refine lv_bipush (v := (nI 9)) S.1 S.2.1 dX8_makes_25 (by decide) ?_
      refine x_iald S hE (hs) 9 rfl (by decide) (by decide) dX8_makes_27 ?_
      refine x_top (y := (nI u0)) (hm) ?_
      refine lv_icmp_ge (tgt := 195) S.1 S.2.1 dX8_makes_28 rfl (fun h1 => ?_) (fun h1 => ?_)
      · have hge : i = u0 := (by have := ge_of_le (by omega) (by omega) h1; omega)
        refine lv_aload_n S.1 S.2.1 dX8_makes_195 rfl (lv_at hl 3 rfl) ?_
        refine x_get S hE (ho) (C := RX8) (T := TX8) (N := 10) rfl inlX8 8 (by decide) (v := .ref (M + 6)) rfl kw7_11 rfl dX8_makes_196 ?_
        refine lv_iconst (v := (nI 0)) S.1 S.2.1 dX8_makes_199 (by decide) ?_
        refine x_iald S hE (hq6) 0 rfl (by decide) (by decide) dX8_makes_200 ?_
        refine lv_aload_n S.1 S.2.1 dX8_makes_201 rfl (lv_at hl 3 rfl) ?_
        refine x_get S hE (ho) (C := RX8) (T := TX8) (N := 10) rfl inlX8 9 (by decide) (v := .ref (M + 7)) rfl kw7_12 rfl dX8_makes_202 ?_
        refine lv_iconst (v := (nI 0)) S.1 S.2.1 dX8_makes_205 (by decide) ?_
        refine x_iald S hE (hq7) 0 rfl (by decide) (by decide) dX8_makes_206 ?_
        refine lv_iload_n S.1 S.2.1 dX8_makes_207 rfl (lv_at hl 1 rfl) ?_
        refine xk_R (v := (rfJo (r.2.1 0) (r.2.2 0) r.1)) (x_runS (As := [.int (r.2.1 0), .int (r.2.2 0), .int r.1]) (rest := []) S hE hS (fun _ h => h.elim) (c_X8_joins l E (r.2.1 0) (r.2.2 0) r.1 _) kv_X8_joins kw33_7 kw33_8 ⟨Nat.le_of_ble_eq_true rfl, Nat.le_of_ble_eq_true rfl⟩ rfl rfl rfl hl.1 rfl (Nat.le_of_ble_eq_true rfl) dX8_makes_208 ⟨Nat.zero_le _, Nat.zero_le _⟩) ?_
        subst hQ
        refine x_retW S hr hlk (rfl) hS hO ?_ dX8_makes_211
        exact ⟨by rw [rfMakes, ← hge, hrr], ⟨_, hq6⟩, ⟨_, hq7⟩⟩
      · have hlt : i < u0 := lt_of_nle (by omega) (by omega) h1
        refine lv_aload_n S.1 S.2.1 dX8_makes_31 rfl (lv_at hl 3 rfl) ?_
        refine x_get S hE (ho) (C := RX8) (T := TX8) (N := 10) rfl inlX8 0 (by decide) (v := .ref (M + 1)) rfl kw7_6 rfl dX8_makes_32 ?_
        refine lv_bipush (v := (nI 10)) S.1 S.2.1 dX8_makes_35 (by decide) ?_
        refine lv_iload_n S.1 S.2.1 dX8_makes_37 rfl (lv_at hl 2 rfl) ?_
        refine lv_iadd S.1 S.2.1 dX8_makes_38 ?_
        refine x_top (y := (nI (10 + i))) (nI_add 10 i) ?_
        refine x_iald S hE (hs) (10 + i) rfl (by omega) (by decide) dX8_makes_39 ?_
        refine lv_istore S.1 S.2.1 dX8_makes_40 hl (by decide) rfl (fun ls hl => ?_)
        have hl : lv_has ls 5 [(4, .int (σ (10 + i))), (1, .int (nI (rfDp σ i))), (2, .int r.1), (3, .int (nI i)), (0, .ref M)] := hl
        refine lv_iload S.1 S.2.1 dX8_makes_42 (lv_at hl 0 rfl) ?_
        refine lv_bipush (v := (nI 40)) S.1 S.2.1 dX8_makes_44 (by decide) ?_
        refine lv_icmp_ne (tgt := 69) S.1 S.2.1 dX8_makes_46 rfl (fun h2 => ?_) (fun h2 => ?_)
        · skip
          refine lv_iload S.1 S.2.1 dX8_makes_69 (lv_at hl 0 rfl) ?_
          refine lv_bipush (v := (nI 43)) S.1 S.2.1 dX8_makes_71 (by decide) ?_
          refine lv_icmp_eq (tgt := 83) S.1 S.2.1 dX8_makes_73 rfl (fun h3 => ?_) (fun h3 => ?_)
          · skip
            refine lv_aload_n S.1 S.2.1 dX8_makes_83 rfl (lv_at hl 4 rfl) ?_
            refine x_get S hE (ho) (C := RX8) (T := TX8) (N := 10) rfl inlX8 8 (by decide) (v := .ref (M + 6)) rfl kw7_11 rfl dX8_makes_84 ?_
            refine lv_iload_n S.1 S.2.1 dX8_makes_87 rfl (lv_at hl 1 rfl) ?_
            refine lv_aload_n S.1 S.2.1 dX8_makes_88 rfl (lv_at hl 4 rfl) ?_
            refine x_get S hE (ho) (C := RX8) (T := TX8) (N := 10) rfl inlX8 8 (by decide) (v := .ref (M + 6)) rfl kw7_11 rfl dX8_makes_89 ?_
            refine lv_iload_n S.1 S.2.1 dX8_makes_92 rfl (lv_at hl 1 rfl) ?_
            refine x_iald S hE (hq6) (rfDp σ i) rfl (by omega) (by decide) dX8_makes_93 ?_
            refine lv_aload_n S.1 S.2.1 dX8_makes_94 rfl (lv_at hl 4 rfl) ?_
            refine x_get S hE (ho) (C := RX8) (T := TX8) (N := 10) rfl inlX8 9 (by decide) (v := .ref (M + 7)) rfl kw7_12 rfl dX8_makes_95 ?_
            refine lv_iload_n S.1 S.2.1 dX8_makes_98 rfl (lv_at hl 1 rfl) ?_
            refine x_iald S hE (hq7) (rfDp σ i) rfl (by omega) (by decide) dX8_makes_99 ?_
            refine lv_iload_n S.1 S.2.1 dX8_makes_100 rfl (lv_at hl 2 rfl) ?_
            refine xk_R (v := (rfJo (r.2.1 (rfDp σ i)) (r.2.2 (rfDp σ i)) r.1)) (x_runS (As := [.int (r.2.1 (rfDp σ i)), .int (r.2.2 (rfDp σ i)), .int r.1]) (rest := [.int (nI (rfDp σ i)), .ref (M + 6)]) S hE hS (fun _ h => h.elim) (c_X8_joins l E (r.2.1 (rfDp σ i)) (r.2.2 (rfDp σ i)) r.1 _) kv_X8_joins kw33_7 kw33_8 ⟨Nat.le_of_ble_eq_true rfl, Nat.le_of_ble_eq_true rfl⟩ rfl rfl rfl hl.1 rfl (Nat.le_of_ble_eq_true rfl) dX8_makes_101 ⟨Nat.zero_le _, Nat.zero_le _⟩) ?_
            refine x_iast S hE hS (Or.inl rfl) (hq6) (rfDp σ i) rfl (by omega) (by decide) dX8_makes_104 (fun H locs hX hO1 hS => ?_)
            have hO := hO.tr hO1 (fun q h => Or.inl h)
            have ho := va_at.kept ho (hO1.2 (M) (fun z => by have z : M = M + 6 := z; omega))
            have hs := va_at.kept hs (hO1.2 (M + 1) (fun z => by have z : M + 1 = M + 6 := z; omega))
            have hq5 := va_at.kept hq5 (hO1.2 (M + 5) (fun z => by have z : M + 5 = M + 6 := z; omega))
            have hq7 := va_at.kept hq7 (hO1.2 (M + 7) (fun z => by have z : M + 7 = M + 6 := z; omega))
            have hq6 := hX
            refine lv_aload_n S.1 S.2.1 dX8_makes_105 rfl (lv_at hl 4 rfl) ?_
            refine x_get S hE (ho) (C := RX8) (T := TX8) (N := 10) rfl inlX8 9 (by decide) (v := .ref (M + 7)) rfl kw7_12 rfl dX8_makes_106 ?_
            refine lv_iload_n S.1 S.2.1 dX8_makes_109 rfl (lv_at hl 1 rfl) ?_
            refine lv_iload S.1 S.2.1 dX8_makes_110 (lv_at hl 0 rfl) ?_
            refine x_iast S hE hS (Or.inr rfl) (hq7) (rfDp σ i) rfl (by omega) (by decide) dX8_makes_112 (fun H locs hX hO1 hS => ?_)
            have hO := hO.tr hO1 (fun q h => Or.inr h)
            have ho := va_at.kept ho (hO1.2 (M) (fun z => by have z : M = M + 7 := z; omega))
            have hs := va_at.kept hs (hO1.2 (M + 1) (fun z => by have z : M + 1 = M + 7 := z; omega))
            have hq5 := va_at.kept hq5 (hO1.2 (M + 5) (fun z => by have z : M + 5 = M + 7 := z; omega))
            have hq6 := va_at.kept hq6 (hO1.2 (M + 6) (fun z => by have z : M + 6 = M + 7 := z; omega))
            have hq7 := hX
            refine lv_goto (tgt := 189) S.1 S.2.1 dX8_makes_113 rfl ?_
            refine lv_iinc (k := 3) (v := (nI (i + 1))) S.1 S.2.1 dX8_makes_189 hl rfl (iincP i 1) (by decide) rfl (fun ls hl => ?_)
            have hl : lv_has ls 5 [(3, .int (nI (i + 1))), (4, .int (σ (10 + i))), (1, .int (nI (rfDp σ i))), (2, .int r.1), (0, .ref M)] := hl
            refine lv_goto (tgt := 20) S.1 S.2.1 dX8_makes_192 rfl ?_
            have hr2 : rfMkN σ pr f6 f7 (i + 1) = (r.1, (upd r.2.1 (rfDp σ i) (rfJo (r.2.1 (rfDp σ i)) (r.2.2 (rfDp σ i)) r.1)), (upd r.2.2 (rfDp σ i) (σ (10 + i)))) := by rw [rfMkN, hrr, rfMkS, if_neg h2, if_pos (Or.inl h3)]
            have hl : lv_has ls 5 [(1, .int (nI (rfDp σ (i + 1)))), (2, .int r.1), (3, .int (nI (i + 1))), (0, .ref M)] := by
              rw [show (nI (rfDp σ (i + 1))) = (nI (rfDp σ i)) from by rw [rfDp, if_neg h2, if_neg (fun z => absurd (z.symm.trans h3) (by decide))]]
              exact lv_sub hl [2, 3, 0, 4] rfl
            exact ih _ (by omega) (i + 1) (r.1, (upd r.2.1 (rfDp σ i) (rfJo (r.2.1 (rfDp σ i)) (r.2.2 (rfDp σ i)) r.1)), (upd r.2.2 (rfDp σ i) (σ (10 + i)))) _ _ ls rfl (by omega) (hr2) (by rw [rfDp, if_neg h2, if_neg (fun z => absurd (z.symm.trans h3) (by decide))]; omega) (ho) (hs) (hq5) (hq6) (hq7) (hO) (hS) (lv_sub hl [0, 1, 2, 3] rfl)
          · skip
            refine lv_iload S.1 S.2.1 dX8_makes_76 (lv_at hl 0 rfl) ?_
            refine lv_bipush (v := (nI 94)) S.1 S.2.1 dX8_makes_78 (by decide) ?_
            refine lv_icmp_ne (tgt := 116) S.1 S.2.1 dX8_makes_80 rfl (fun h4 => ?_) (fun h4 => ?_)
            · skip
              refine lv_iload S.1 S.2.1 dX8_makes_116 (lv_at hl 0 rfl) ?_
              refine lv_bipush (v := (nI 41)) S.1 S.2.1 dX8_makes_118 (by decide) ?_
              refine lv_icmp_ne (tgt := 146) S.1 S.2.1 dX8_makes_120 rfl (fun h5 => ?_) (fun h5 => ?_)
              · skip
                refine lv_iload S.1 S.2.1 dX8_makes_146 (lv_at hl 0 rfl) ?_
                refine lv_bipush (v := (nI 42)) S.1 S.2.1 dX8_makes_148 (by decide) ?_
                refine lv_icmp_eq (tgt := 189) S.1 S.2.1 dX8_makes_150 rfl (fun h6 => ?_) (fun h6 => ?_)
                · skip
                  refine lv_iinc (k := 3) (v := (nI (i + 1))) S.1 S.2.1 dX8_makes_189 hl rfl (iincP i 1) (by decide) rfl (fun ls hl => ?_)
                  have hl : lv_has ls 5 [(3, .int (nI (i + 1))), (4, .int (σ (10 + i))), (1, .int (nI (rfDp σ i))), (2, .int r.1), (0, .ref M)] := hl
                  refine lv_goto (tgt := 20) S.1 S.2.1 dX8_makes_192 rfl ?_
                  have hr2 : rfMkN σ pr f6 f7 (i + 1) = (r.1, r.2.1, r.2.2) := by rw [rfMkN, hrr, rfMkS, if_neg h2, if_neg (fun z => z.elim h3 h4), if_neg h5, if_pos h6]
                  have hl : lv_has ls 5 [(1, .int (nI (rfDp σ (i + 1)))), (2, .int r.1), (3, .int (nI (i + 1))), (0, .ref M)] := by
                    rw [show (nI (rfDp σ (i + 1))) = (nI (rfDp σ i)) from by rw [rfDp, if_neg h2, if_neg h5]]
                    exact lv_sub hl [2, 3, 0, 4] rfl
                  exact ih _ (by omega) (i + 1) (r.1, r.2.1, r.2.2) _ _ ls rfl (by omega) (hr2) (by rw [rfDp, if_neg h2, if_neg h5]; omega) (ho) (hs) (hq5) (hq6) (hq7) (hO) (hS) (lv_sub hl [0, 1, 2, 3] rfl)
                · skip
                  refine lv_iload S.1 S.2.1 dX8_makes_153 (lv_at hl 0 rfl) ?_
                  refine lv_bipush (v := (nI 48)) S.1 S.2.1 dX8_makes_155 (by decide) ?_
                  refine lv_bipush (v := (nI 57)) S.1 S.2.1 dX8_makes_157 (by decide) ?_
                  refine xk_R (v := (bI ((nI 48) ≤ (σ (10 + i)) ∧ (σ (10 + i)) ≤ (nI 57)))) (x_runS (As := [.int (σ (10 + i)), .int (nI 48), .int (nI 57)]) (rest := []) S hE hS (fun _ h => h.elim) (c_X8_in l E (σ (10 + i)) (nI 48) (nI 57) _) kv_X8_in kw12_11 kw12_12 ⟨Nat.le_of_ble_eq_true rfl, Nat.le_of_ble_eq_true rfl⟩ rfl rfl rfl hl.1 rfl (Nat.le_of_ble_eq_true rfl) dX8_makes_159 ⟨Nat.zero_le _, Nat.zero_le _⟩) ?_
                  refine lv_if_eq (tgt := 178) S.1 S.2.1 dX8_makes_162 rfl (fun h7 => ?_) (fun h7 => ?_)
                  · have h7 := bI_0 h7
                    obtain ⟨j, hj4, hj⟩ := (hW i hlt).2.2 h2 (fun z => z.elim h3 h4) h5 h6 h7
                    refine lv_aload_n S.1 S.2.1 dX8_makes_178 rfl (lv_at hl 4 rfl) ?_
                    refine x_get S hE (ho) (C := RX8) (T := TX8) (N := 10) rfl inlX8 7 (by decide) (v := .ref (M + 5)) rfl kw7_10 rfl dX8_makes_179 ?_
                    refine lv_iload S.1 S.2.1 dX8_makes_182 (lv_at hl 0 rfl) ?_
                    refine xk_R (v := (rfPB (σ (10 + i)))) (x_runS (As := [.int (σ (10 + i))]) (rest := [.ref (M + 5)]) S hE hS (fun _ h => h.elim) (c_X8_partBy l E (σ (10 + i)) _) kv_X8_partBy kw31_10 kw31_11 ⟨Nat.le_of_ble_eq_true rfl, Nat.le_of_ble_eq_true rfl⟩ rfl rfl rfl hl.1 rfl (Nat.le_of_ble_eq_true rfl) dX8_makes_184 ⟨Nat.zero_le _, Nat.zero_le _⟩) ?_
                    refine x_iald S hE (hq5) j hj (hj4) (by decide) dX8_makes_187 ?_
                    refine lv_istore_n S.1 S.2.1 dX8_makes_188 rfl hl (by decide) rfl (fun ls hl => ?_)
                    have hl : lv_has ls 5 [(2, .int (pr j)), (4, .int (σ (10 + i))), (1, .int (nI (rfDp σ i))), (3, .int (nI i)), (0, .ref M)] := hl
                    refine lv_iinc (k := 3) (v := (nI (i + 1))) S.1 S.2.1 dX8_makes_189 hl rfl (iincP i 1) (by decide) rfl (fun ls hl => ?_)
                    have hl : lv_has ls 5 [(3, .int (nI (i + 1))), (2, .int (pr j)), (4, .int (σ (10 + i))), (1, .int (nI (rfDp σ i))), (0, .ref M)] := hl
                    refine lv_goto (tgt := 20) S.1 S.2.1 dX8_makes_192 rfl ?_
                    have hr2 : rfMkN σ pr f6 f7 (i + 1) = ((pr j), r.2.1, r.2.2) := by rw [rfMkN, hrr, rfMkS, if_neg h2, if_neg (fun z => z.elim h3 h4), if_neg h5, if_neg h6, if_neg h7, hj, nI_clamp (by omega)]
                    have hl : lv_has ls 5 [(1, .int (nI (rfDp σ (i + 1)))), (2, .int (pr j)), (3, .int (nI (i + 1))), (0, .ref M)] := by
                      rw [show (nI (rfDp σ (i + 1))) = (nI (rfDp σ i)) from by rw [rfDp, if_neg h2, if_neg h5]]
                      exact lv_sub hl [3, 1, 0, 4] rfl
                    exact ih _ (by omega) (i + 1) ((pr j), r.2.1, r.2.2) _ _ ls rfl (by omega) (hr2) (by rw [rfDp, if_neg h2, if_neg h5]; omega) (ho) (hs) (hq5) (hq6) (hq7) (hO) (hS) (lv_sub hl [0, 1, 2, 3] rfl)
                  · have h7 := bI_n0 h7
                    refine lv_iload_n S.1 S.2.1 dX8_makes_165 rfl (lv_at hl 2 rfl) ?_
                    refine lv_iload S.1 S.2.1 dX8_makes_166 (lv_at hl 0 rfl) ?_
                    refine lv_bipush (v := (nI 48)) S.1 S.2.1 dX8_makes_168 (by decide) ?_
                    refine lv_isub S.1 S.2.1 dX8_makes_170 ?_
                    refine lv_imul S.1 S.2.1 dX8_makes_171 ?_
                    refine xk_R (v := (rfCut (r.1 * ((σ (10 + i)) - (nI 48))))) (x_runS (As := [.int (r.1 * ((σ (10 + i)) - (nI 48)))]) (rest := []) S hE hS (fun _ h => h.elim) (c_X8_cut l E (r.1 * ((σ (10 + i)) - (nI 48))) _) kv_X8_cut kw33_10 kw33_11 ⟨Nat.le_of_ble_eq_true rfl, Nat.le_of_ble_eq_true rfl⟩ rfl rfl rfl hl.1 rfl (Nat.le_of_ble_eq_true rfl) dX8_makes_172 ⟨Nat.zero_le _, Nat.zero_le _⟩) ?_
                    refine lv_goto (tgt := 188) S.1 S.2.1 dX8_makes_175 rfl ?_
                    refine lv_istore_n S.1 S.2.1 dX8_makes_188 rfl hl (by decide) rfl (fun ls hl => ?_)
                    have hl : lv_has ls 5 [(2, .int (rfCut (r.1 * ((σ (10 + i)) - (nI 48))))), (4, .int (σ (10 + i))), (1, .int (nI (rfDp σ i))), (3, .int (nI i)), (0, .ref M)] := hl
                    refine lv_iinc (k := 3) (v := (nI (i + 1))) S.1 S.2.1 dX8_makes_189 hl rfl (iincP i 1) (by decide) rfl (fun ls hl => ?_)
                    have hl : lv_has ls 5 [(3, .int (nI (i + 1))), (2, .int (rfCut (r.1 * ((σ (10 + i)) - (nI 48))))), (4, .int (σ (10 + i))), (1, .int (nI (rfDp σ i))), (0, .ref M)] := hl
                    refine lv_goto (tgt := 20) S.1 S.2.1 dX8_makes_192 rfl ?_
                    have hr2 : rfMkN σ pr f6 f7 (i + 1) = ((rfCut (r.1 * ((σ (10 + i)) - (nI 48)))), r.2.1, r.2.2) := by rw [rfMkN, hrr, rfMkS, if_neg h2, if_neg (fun z => z.elim h3 h4), if_neg h5, if_neg h6, if_pos h7]
                    have hl : lv_has ls 5 [(1, .int (nI (rfDp σ (i + 1)))), (2, .int (rfCut (r.1 * ((σ (10 + i)) - (nI 48))))), (3, .int (nI (i + 1))), (0, .ref M)] := by
                      rw [show (nI (rfDp σ (i + 1))) = (nI (rfDp σ i)) from by rw [rfDp, if_neg h2, if_neg h5]]
                      exact lv_sub hl [3, 1, 0, 4] rfl
                    exact ih _ (by omega) (i + 1) ((rfCut (r.1 * ((σ (10 + i)) - (nI 48)))), r.2.1, r.2.2) _ _ ls rfl (by omega) (hr2) (by rw [rfDp, if_neg h2, if_neg h5]; omega) (ho) (hs) (hq5) (hq6) (hq7) (hO) (hS) (lv_sub hl [0, 1, 2, 3] rfl)
              · have hq1 := (hW i hlt).2.1 h5
                refine lv_aload_n S.1 S.2.1 dX8_makes_123 rfl (lv_at hl 4 rfl) ?_
                refine x_get S hE (ho) (C := RX8) (T := TX8) (N := 10) rfl inlX8 8 (by decide) (v := .ref (M + 6)) rfl kw7_11 rfl dX8_makes_124 ?_
                refine lv_iload_n S.1 S.2.1 dX8_makes_127 rfl (lv_at hl 1 rfl) ?_
                refine x_iald S hE (hq6) (rfDp σ i) rfl (by omega) (by decide) dX8_makes_128 ?_
                refine lv_aload_n S.1 S.2.1 dX8_makes_129 rfl (lv_at hl 4 rfl) ?_
                refine x_get S hE (ho) (C := RX8) (T := TX8) (N := 10) rfl inlX8 9 (by decide) (v := .ref (M + 7)) rfl kw7_12 rfl dX8_makes_130 ?_
                refine lv_iload_n S.1 S.2.1 dX8_makes_133 rfl (lv_at hl 1 rfl) ?_
                refine x_iald S hE (hq7) (rfDp σ i) rfl (by omega) (by decide) dX8_makes_134 ?_
                refine lv_iload_n S.1 S.2.1 dX8_makes_135 rfl (lv_at hl 2 rfl) ?_
                refine xk_R (v := (rfJo (r.2.1 (rfDp σ i)) (r.2.2 (rfDp σ i)) r.1)) (x_runS (As := [.int (r.2.1 (rfDp σ i)), .int (r.2.2 (rfDp σ i)), .int r.1]) (rest := []) S hE hS (fun _ h => h.elim) (c_X8_joins l E (r.2.1 (rfDp σ i)) (r.2.2 (rfDp σ i)) r.1 _) kv_X8_joins kw33_7 kw33_8 ⟨Nat.le_of_ble_eq_true rfl, Nat.le_of_ble_eq_true rfl⟩ rfl rfl rfl hl.1 rfl (Nat.le_of_ble_eq_true rfl) dX8_makes_136 ⟨Nat.zero_le _, Nat.zero_le _⟩) ?_
                refine lv_istore_n S.1 S.2.1 dX8_makes_139 rfl hl (by decide) rfl (fun ls hl => ?_)
                have hl : lv_has ls 5 [(2, .int (rfJo (r.2.1 (rfDp σ i)) (r.2.2 (rfDp σ i)) r.1)), (4, .int (σ (10 + i))), (1, .int (nI (rfDp σ i))), (3, .int (nI i)), (0, .ref M)] := hl
                refine lv_iinc (k := 2) (v := (nI (rfDp σ i - 1))) S.1 S.2.1 dX8_makes_140 hl rfl (idecQ hq1) (by decide) rfl (fun ls hl => ?_)
                have hl : lv_has ls 5 [(1, .int (nI (rfDp σ i - 1))), (2, .int (rfJo (r.2.1 (rfDp σ i)) (r.2.2 (rfDp σ i)) r.1)), (4, .int (σ (10 + i))), (3, .int (nI i)), (0, .ref M)] := hl
                refine lv_goto (tgt := 189) S.1 S.2.1 dX8_makes_143 rfl ?_
                refine lv_iinc (k := 3) (v := (nI (i + 1))) S.1 S.2.1 dX8_makes_189 hl rfl (iincP i 1) (by decide) rfl (fun ls hl => ?_)
                have hl : lv_has ls 5 [(3, .int (nI (i + 1))), (1, .int (nI (rfDp σ i - 1))), (2, .int (rfJo (r.2.1 (rfDp σ i)) (r.2.2 (rfDp σ i)) r.1)), (4, .int (σ (10 + i))), (0, .ref M)] := hl
                refine lv_goto (tgt := 20) S.1 S.2.1 dX8_makes_192 rfl ?_
                have hr2 : rfMkN σ pr f6 f7 (i + 1) = ((rfJo (r.2.1 (rfDp σ i)) (r.2.2 (rfDp σ i)) r.1), r.2.1, r.2.2) := by rw [rfMkN, hrr, rfMkS, if_neg h2, if_neg (fun z => z.elim h3 h4), if_pos h5]
                have hl : lv_has ls 5 [(1, .int (nI (rfDp σ (i + 1)))), (2, .int (rfJo (r.2.1 (rfDp σ i)) (r.2.2 (rfDp σ i)) r.1)), (3, .int (nI (i + 1))), (0, .ref M)] := by
                  rw [show (nI (rfDp σ (i + 1))) = (nI (rfDp σ i - 1)) from by rw [rfDp, if_neg h2, if_pos h5]]
                  exact lv_sub hl [1, 2, 0, 4] rfl
                exact ih _ (by omega) (i + 1) ((rfJo (r.2.1 (rfDp σ i)) (r.2.2 (rfDp σ i)) r.1), r.2.1, r.2.2) _ _ ls rfl (by omega) (hr2) (by rw [rfDp, if_neg h2, if_pos h5]; omega) (ho) (hs) (hq5) (hq6) (hq7) (hO) (hS) (lv_sub hl [0, 1, 2, 3] rfl)
            · skip
              refine lv_aload_n S.1 S.2.1 dX8_makes_83 rfl (lv_at hl 4 rfl) ?_
              refine x_get S hE (ho) (C := RX8) (T := TX8) (N := 10) rfl inlX8 8 (by decide) (v := .ref (M + 6)) rfl kw7_11 rfl dX8_makes_84 ?_
              refine lv_iload_n S.1 S.2.1 dX8_makes_87 rfl (lv_at hl 1 rfl) ?_
              refine lv_aload_n S.1 S.2.1 dX8_makes_88 rfl (lv_at hl 4 rfl) ?_
              refine x_get S hE (ho) (C := RX8) (T := TX8) (N := 10) rfl inlX8 8 (by decide) (v := .ref (M + 6)) rfl kw7_11 rfl dX8_makes_89 ?_
              refine lv_iload_n S.1 S.2.1 dX8_makes_92 rfl (lv_at hl 1 rfl) ?_
              refine x_iald S hE (hq6) (rfDp σ i) rfl (by omega) (by decide) dX8_makes_93 ?_
              refine lv_aload_n S.1 S.2.1 dX8_makes_94 rfl (lv_at hl 4 rfl) ?_
              refine x_get S hE (ho) (C := RX8) (T := TX8) (N := 10) rfl inlX8 9 (by decide) (v := .ref (M + 7)) rfl kw7_12 rfl dX8_makes_95 ?_
              refine lv_iload_n S.1 S.2.1 dX8_makes_98 rfl (lv_at hl 1 rfl) ?_
              refine x_iald S hE (hq7) (rfDp σ i) rfl (by omega) (by decide) dX8_makes_99 ?_
              refine lv_iload_n S.1 S.2.1 dX8_makes_100 rfl (lv_at hl 2 rfl) ?_
              refine xk_R (v := (rfJo (r.2.1 (rfDp σ i)) (r.2.2 (rfDp σ i)) r.1)) (x_runS (As := [.int (r.2.1 (rfDp σ i)), .int (r.2.2 (rfDp σ i)), .int r.1]) (rest := [.int (nI (rfDp σ i)), .ref (M + 6)]) S hE hS (fun _ h => h.elim) (c_X8_joins l E (r.2.1 (rfDp σ i)) (r.2.2 (rfDp σ i)) r.1 _) kv_X8_joins kw33_7 kw33_8 ⟨Nat.le_of_ble_eq_true rfl, Nat.le_of_ble_eq_true rfl⟩ rfl rfl rfl hl.1 rfl (Nat.le_of_ble_eq_true rfl) dX8_makes_101 ⟨Nat.zero_le _, Nat.zero_le _⟩) ?_
              refine x_iast S hE hS (Or.inl rfl) (hq6) (rfDp σ i) rfl (by omega) (by decide) dX8_makes_104 (fun H locs hX hO1 hS => ?_)
              have hO := hO.tr hO1 (fun q h => Or.inl h)
              have ho := va_at.kept ho (hO1.2 (M) (fun z => by have z : M = M + 6 := z; omega))
              have hs := va_at.kept hs (hO1.2 (M + 1) (fun z => by have z : M + 1 = M + 6 := z; omega))
              have hq5 := va_at.kept hq5 (hO1.2 (M + 5) (fun z => by have z : M + 5 = M + 6 := z; omega))
              have hq7 := va_at.kept hq7 (hO1.2 (M + 7) (fun z => by have z : M + 7 = M + 6 := z; omega))
              have hq6 := hX
              refine lv_aload_n S.1 S.2.1 dX8_makes_105 rfl (lv_at hl 4 rfl) ?_
              refine x_get S hE (ho) (C := RX8) (T := TX8) (N := 10) rfl inlX8 9 (by decide) (v := .ref (M + 7)) rfl kw7_12 rfl dX8_makes_106 ?_
              refine lv_iload_n S.1 S.2.1 dX8_makes_109 rfl (lv_at hl 1 rfl) ?_
              refine lv_iload S.1 S.2.1 dX8_makes_110 (lv_at hl 0 rfl) ?_
              refine x_iast S hE hS (Or.inr rfl) (hq7) (rfDp σ i) rfl (by omega) (by decide) dX8_makes_112 (fun H locs hX hO1 hS => ?_)
              have hO := hO.tr hO1 (fun q h => Or.inr h)
              have ho := va_at.kept ho (hO1.2 (M) (fun z => by have z : M = M + 7 := z; omega))
              have hs := va_at.kept hs (hO1.2 (M + 1) (fun z => by have z : M + 1 = M + 7 := z; omega))
              have hq5 := va_at.kept hq5 (hO1.2 (M + 5) (fun z => by have z : M + 5 = M + 7 := z; omega))
              have hq6 := va_at.kept hq6 (hO1.2 (M + 6) (fun z => by have z : M + 6 = M + 7 := z; omega))
              have hq7 := hX
              refine lv_goto (tgt := 189) S.1 S.2.1 dX8_makes_113 rfl ?_
              refine lv_iinc (k := 3) (v := (nI (i + 1))) S.1 S.2.1 dX8_makes_189 hl rfl (iincP i 1) (by decide) rfl (fun ls hl => ?_)
              have hl : lv_has ls 5 [(3, .int (nI (i + 1))), (4, .int (σ (10 + i))), (1, .int (nI (rfDp σ i))), (2, .int r.1), (0, .ref M)] := hl
              refine lv_goto (tgt := 20) S.1 S.2.1 dX8_makes_192 rfl ?_
              have hr2 : rfMkN σ pr f6 f7 (i + 1) = (r.1, (upd r.2.1 (rfDp σ i) (rfJo (r.2.1 (rfDp σ i)) (r.2.2 (rfDp σ i)) r.1)), (upd r.2.2 (rfDp σ i) (σ (10 + i)))) := by rw [rfMkN, hrr, rfMkS, if_neg h2, if_pos (Or.inr h4)]
              have hl : lv_has ls 5 [(1, .int (nI (rfDp σ (i + 1)))), (2, .int r.1), (3, .int (nI (i + 1))), (0, .ref M)] := by
                rw [show (nI (rfDp σ (i + 1))) = (nI (rfDp σ i)) from by rw [rfDp, if_neg h2, if_neg (fun z => absurd (z.symm.trans h4) (by decide))]]
                exact lv_sub hl [2, 3, 0, 4] rfl
              exact ih _ (by omega) (i + 1) (r.1, (upd r.2.1 (rfDp σ i) (rfJo (r.2.1 (rfDp σ i)) (r.2.2 (rfDp σ i)) r.1)), (upd r.2.2 (rfDp σ i) (σ (10 + i)))) _ _ ls rfl (by omega) (hr2) (by rw [rfDp, if_neg h2, if_neg (fun z => absurd (z.symm.trans h4) (by decide))]; omega) (ho) (hs) (hq5) (hq6) (hq7) (hO) (hS) (lv_sub hl [0, 1, 2, 3] rfl)
        · have hd66 := (hW i hlt).1 h2
          refine lv_iinc (k := 1) (v := (nI (rfDp σ i + 1))) S.1 S.2.1 dX8_makes_49 hl rfl (iincP (rfDp σ i) 1) (by decide) rfl (fun ls hl => ?_)
          have hl : lv_has ls 5 [(1, .int (nI (rfDp σ i + 1))), (4, .int (σ (10 + i))), (2, .int r.1), (3, .int (nI i)), (0, .ref M)] := hl
          refine lv_aload_n S.1 S.2.1 dX8_makes_52 rfl (lv_at hl 4 rfl) ?_
          refine x_get S hE (ho) (C := RX8) (T := TX8) (N := 10) rfl inlX8 8 (by decide) (v := .ref (M + 6)) rfl kw7_11 rfl dX8_makes_53 ?_
          refine lv_iload_n S.1 S.2.1 dX8_makes_56 rfl (lv_at hl 0 rfl) ?_
          refine lv_iconst (v := (nI 0)) S.1 S.2.1 dX8_makes_57 (by decide) ?_
          refine x_iast S hE hS (Or.inl rfl) (hq6) (rfDp σ i + 1) rfl (by omega) (by decide) dX8_makes_58 (fun H locs hX hO1 hS => ?_)
          have hO := hO.tr hO1 (fun q h => Or.inl h)
          have ho := va_at.kept ho (hO1.2 (M) (fun z => by have z : M = M + 6 := z; omega))
          have hs := va_at.kept hs (hO1.2 (M + 1) (fun z => by have z : M + 1 = M + 6 := z; omega))
          have hq5 := va_at.kept hq5 (hO1.2 (M + 5) (fun z => by have z : M + 5 = M + 6 := z; omega))
          have hq7 := va_at.kept hq7 (hO1.2 (M + 7) (fun z => by have z : M + 7 = M + 6 := z; omega))
          have hq6 := hX
          refine lv_aload_n S.1 S.2.1 dX8_makes_59 rfl (lv_at hl 4 rfl) ?_
          refine x_get S hE (ho) (C := RX8) (T := TX8) (N := 10) rfl inlX8 9 (by decide) (v := .ref (M + 7)) rfl kw7_12 rfl dX8_makes_60 ?_
          refine lv_iload_n S.1 S.2.1 dX8_makes_63 rfl (lv_at hl 0 rfl) ?_
          refine lv_iconst (v := (nI 0)) S.1 S.2.1 dX8_makes_64 (by decide) ?_
          refine x_iast S hE hS (Or.inr rfl) (hq7) (rfDp σ i + 1) rfl (by omega) (by decide) dX8_makes_65 (fun H locs hX hO1 hS => ?_)
          have hO := hO.tr hO1 (fun q h => Or.inr h)
          have ho := va_at.kept ho (hO1.2 (M) (fun z => by have z : M = M + 7 := z; omega))
          have hs := va_at.kept hs (hO1.2 (M + 1) (fun z => by have z : M + 1 = M + 7 := z; omega))
          have hq5 := va_at.kept hq5 (hO1.2 (M + 5) (fun z => by have z : M + 5 = M + 7 := z; omega))
          have hq6 := va_at.kept hq6 (hO1.2 (M + 6) (fun z => by have z : M + 6 = M + 7 := z; omega))
          have hq7 := hX
          refine lv_goto (tgt := 189) S.1 S.2.1 dX8_makes_66 rfl ?_
          refine lv_iinc (k := 3) (v := (nI (i + 1))) S.1 S.2.1 dX8_makes_189 hl rfl (iincP i 1) (by decide) rfl (fun ls hl => ?_)
          have hl : lv_has ls 5 [(3, .int (nI (i + 1))), (1, .int (nI (rfDp σ i + 1))), (4, .int (σ (10 + i))), (2, .int r.1), (0, .ref M)] := hl
          refine lv_goto (tgt := 20) S.1 S.2.1 dX8_makes_192 rfl ?_
          have hr2 : rfMkN σ pr f6 f7 (i + 1) = (r.1, (upd r.2.1 (rfDp σ i + 1) (nI 0)), (upd r.2.2 (rfDp σ i + 1) (nI 0))) := by rw [rfMkN, hrr, rfMkS, if_pos h2]
          have hl : lv_has ls 5 [(1, .int (nI (rfDp σ (i + 1)))), (2, .int r.1), (3, .int (nI (i + 1))), (0, .ref M)] := by
            rw [show (nI (rfDp σ (i + 1))) = (nI (rfDp σ i + 1)) from by rw [rfDp, if_pos h2]]
            exact lv_sub hl [1, 3, 0, 4] rfl
          exact ih _ (by omega) (i + 1) (r.1, (upd r.2.1 (rfDp σ i + 1) (nI 0)), (upd r.2.2 (rfDp σ i + 1) (nI 0))) _ _ ls rfl (by omega) (hr2) (by rw [rfDp, if_pos h2]; omega) (ho) (hs) (hq5) (hq6) (hq7) (hO) (hS) (lv_sub hl [0, 1, 2, 3] rfl)
  exact hloop20 _ 0 _ _ _ ls rfl (Nat.zero_le _) (rfl) (Nat.zero_le _) (ho) (hs) (hq5) (hq6) (hq7) (hO) (hS) (lv_sub hl [2, 1, 0, 3] rfl)
abbrev rm_X8_mix : Room := ({ frames := 5, cells := 0, slots := 0, locals := 110 } : Room)
set_option maxRecDepth 100000 in
set_option maxHeartbeats 600000 in
theorem c_X8_mix (l : Launch) (E : XE) (M n : Nat) (σ : Nat → Int32) (η : Nat → Nat → Int32) (np : Nat) (tx : Nat → Int32) (ty : Nat) (H : Heap) (hP : RfP E M (σ, (η, np), (tx, ty)) H) (hn : σ 0 = nI n) (hn2 : n ≤ 200) (hnp : np ≤ 4) (hb : 0 ≤ σ 8) (u0 : Nat) (hm : σ 9 = nI u0) (hm2 : u0 ≤ 60) (hW : ∀ i, i < u0 → rfOk (rfDp σ i) (σ (10 + i))) : Wr l E yX8_mix cX8_mix 2 (some .int) rm_X8_mix [.ref M] H (bk M 8) (fun v H1 => MadeR σ (fun j => rfHrO σ n (nI j) n) u0 v ∧ RfP E M (σ, (η, np), (tx, ty)) H1) := by
  refine met_of (by decide) (Nat.le_of_ble_eq_true rfl) (fun p e s m args below meth c hBD Q hQ ls hl => ?_)
  obtain ⟨S, hr, hlk, hnm, hE, hH⟩ := hBD
  subst hH
  have hl : lv_has ls 2 [(0, .ref M)] := hl
  have hO : Out (bk M 8) s.heap s.heap := Out.rf
  have hS : va_S (bk M 8) s.heap s.heap [] := va_S.rf
  obtain ⟨re, ho, hs, hp, ⟨f3, hd3⟩, ht, ⟨f5, hq5⟩, ⟨f6, hq6⟩, ⟨f7, hq7⟩⟩ := hP
  have ho : RfO E M (nI np) (nI ty) re s.heap := ho
  have hs : XI E (M + 1) 1670 σ s.heap := hs
  have hp : XI E (M + 2) 6680 (rfFl η) s.heap := hp
  have ht : XI E (M + 4) 60 tx s.heap := ht
  refine lv_iconst (v := (nI 0)) S.1 S.2.1 dX8_mix_0 (by decide) ?_
  refine lv_istore_n S.1 S.2.1 dX8_mix_1 rfl hl (by decide) rfl (fun ls hl => ?_)
  have hl : lv_has ls 2 [(1, .int (nI 0)), (0, .ref M)] := hl
  have hloop2 : ∀ (d : Nat) (k : Nat) (y5 : Nat → Int32) (H : Heap) (locs : List Loc) (ls : Array Slot), 4 - k = d → k ≤ 4 → (∀ j, j < k → y5 j = rfHrO σ n (nI j) n) → RfO E M (nI np) (nI ty) re H → XI E (M + 1) 1670 σ H → XI E (M + 2) 6680 (rfFl η) H → XI E (M + 3) 1670 f3 H → XI E (M + 4) 60 tx H → XI E (M + 5) 4 y5 H → XI E (M + 6) 7 f6 H → XI E (M + 7) 7 f7 H → Out (bk M 8) s.heap H → va_S (bk M 8) s.heap H locs → lv_has ls 2 [(1, .int (nI k)), (0, .ref M)] → W p l e rm_X8_mix s m args below meth c H locs 0 0 Q (F0 m 2 ls []) := by
    intro d
    induction d using Nat.strongRecOn with
    | ind d ih =>
      intro k y5 H locs ls hd hk hy ho hs hp hd3 ht hq5 hq6 hq7 hO hS hl
      refine lv_iload_n S.1 S.2.1 dX8_mix_2 rfl (lv_at hl 0 rfl) ?_
      refine lv_iconst (v := (nI 4)) S.1 S.2.1 dX8_mix_3 (by decide) ?_
      refine lv_icmp_ge (tgt := 24) S.1 S.2.1 dX8_mix_4 rfl (fun h1 => ?_) (fun h1 => ?_)
      · have hge : k = 4 := (by have := ge_of_le (by omega) (by omega) h1; omega)
        subst hge
        refine lv_aload_n S.1 S.2.1 dX8_mix_24 rfl (lv_at hl 1 rfl) ?_
        refine xk_W (x_runV (As := []) (rest := []) S hE hS (fun q h => h.elim (fun h => bkM (k := 6) h (by decide)) (fun h => bkM (k := 7) h (by decide))) (c_X8_makes l E M (nI np) (nI ty) re σ y5 f6 f7 u0 _ ho hs hq5 hq6 hq7 hm hm2 hW) kv_X8_makes kw33_3 kw33_4 kw33_5 (x_recv hE (ho) (ci := 8) rfl) ⟨Nat.le_of_ble_eq_true rfl, Nat.le_of_ble_eq_true rfl⟩ rfl rfl rfl hl.1 rfl (Nat.le_of_ble_eq_true rfl) dX8_mix_25 ⟨Nat.zero_le _, Nat.zero_le _⟩) hS (fun q h => h.elim (fun h => bkM (k := 6) h (by decide)) (fun h => bkM (k := 7) h (by decide))) (fun v0 H locs hX hO1 hS => ?_)
        have hO := hO.tr hO1 (fun q h => h.elim (fun h => bkM (k := 6) h (by decide)) (fun h => bkM (k := 7) h (by decide)))
        have ho := va_at.kept ho (hO1.2 (M) (fun z => by rcases z with z | z <;> omega))
        have hs := va_at.kept hs (hO1.2 (M + 1) (fun z => by rcases z with z | z <;> omega))
        have hp := va_at.kept hp (hO1.2 (M + 2) (fun z => by rcases z with z | z <;> omega))
        have hd3 := va_at.kept hd3 (hO1.2 (M + 3) (fun z => by rcases z with z | z <;> omega))
        have ht := va_at.kept ht (hO1.2 (M + 4) (fun z => by rcases z with z | z <;> omega))
        have hq5 := va_at.kept hq5 (hO1.2 (M + 5) (fun z => by rcases z with z | z <;> omega))
        obtain ⟨hv0, ⟨g6, hq6⟩, ⟨g7, hq7⟩⟩ := hX
        subst hQ
        refine x_retW S hr hlk (rfl) hS hO ?_ dX8_mix_28
        exact ⟨⟨_, _, _, hy, hv0⟩, ⟨_, ho, hs, hp, ⟨_, hd3⟩, ht, ⟨_, hq5⟩, ⟨_, hq6⟩, ⟨_, hq7⟩⟩⟩
      · have hlt : k < 4 := lt_of_nle (by omega) (by omega) h1
        refine lv_aload_n S.1 S.2.1 dX8_mix_7 rfl (lv_at hl 1 rfl) ?_
        refine x_get S hE (ho) (C := RX8) (T := TX8) (N := 10) rfl inlX8 7 (by decide) (v := .ref (M + 5)) rfl kw7_10 rfl dX8_mix_8 ?_
        refine lv_iload_n S.1 S.2.1 dX8_mix_11 rfl (lv_at hl 0 rfl) ?_
        refine lv_aload_n S.1 S.2.1 dX8_mix_12 rfl (lv_at hl 1 rfl) ?_
        refine lv_iload_n S.1 S.2.1 dX8_mix_13 rfl (lv_at hl 0 rfl) ?_
        refine xk_R (v := (rfHrO σ n (nI k) n)) (x_runV (As := [.int (nI k)]) (rest := [.int (nI k), .ref (M + 5)]) S hE hS (fun _ h => h.elim) (c_X8_heardOf l E M (nI np) (nI ty) re σ (nI k) n _ ho hs hn hn2 hb) kv_X8_heardOf kw23_4 kw23_5 kw23_6 (x_recv hE (ho) (ci := 8) rfl) ⟨Nat.le_of_ble_eq_true rfl, Nat.le_of_ble_eq_true rfl⟩ rfl rfl rfl hl.1 rfl (Nat.le_of_ble_eq_true rfl) dX8_mix_14 ⟨Nat.zero_le _, Nat.zero_le _⟩) ?_
        refine x_iast S hE hS (bkM (k := 5) rfl (by decide)) (hq5) k rfl (by omega) (by decide) dX8_mix_17 (fun H locs hX hO1 hS => ?_)
        have hO := hO.tr hO1 (fun q h => bkM (k := 5) h (by decide))
        have ho := va_at.kept ho (hO1.2 (M) (fun z => by have z : M = M + 5 := z; omega))
        have hs := va_at.kept hs (hO1.2 (M + 1) (fun z => by have z : M + 1 = M + 5 := z; omega))
        have hp := va_at.kept hp (hO1.2 (M + 2) (fun z => by have z : M + 2 = M + 5 := z; omega))
        have hd3 := va_at.kept hd3 (hO1.2 (M + 3) (fun z => by have z : M + 3 = M + 5 := z; omega))
        have ht := va_at.kept ht (hO1.2 (M + 4) (fun z => by have z : M + 4 = M + 5 := z; omega))
        have hq6 := va_at.kept hq6 (hO1.2 (M + 6) (fun z => by have z : M + 6 = M + 5 := z; omega))
        have hq7 := va_at.kept hq7 (hO1.2 (M + 7) (fun z => by have z : M + 7 = M + 5 := z; omega))
        have hq5 := hX
        refine lv_iinc (k := 0) (v := (nI (k + 1))) S.1 S.2.1 dX8_mix_18 hl rfl (iincP k 1) (by decide) rfl (fun ls hl => ?_)
        have hl : lv_has ls 2 [(1, .int (nI (k + 1))), (0, .ref M)] := hl
        refine lv_goto (tgt := 2) S.1 S.2.1 dX8_mix_21 rfl ?_
        exact ih _ (by omega) (k + 1) (upd y5 k (rfHrO σ n (nI k) n)) _ _ ls rfl (by omega) (fun j hj => (Nat.lt_or_ge j k).elim (fun q => by rw [pk_un (by omega)]; exact hy j q) (fun q => by have e : j = k := (by omega); rw [e, pk_us])) (ho) (hs) (hp) (hd3) (ht) (hq5) (hq6) (hq7) (hO) (hS) (lv_sub hl [0, 1] rfl)
  exact hloop2 _ 0 f5 _ _ ls rfl (Nat.zero_le _) (fun j hj => absurd hj (Nat.not_lt_zero _)) (ho) (hs) (hp) (hd3) (ht) (hq5) (hq6) (hq7) (hO) (hS) (lv_sub hl [0, 1] rfl)
abbrev rm_X8_alone : Room := ({ frames := 5, cells := 0, slots := 0, locals := 110 } : Room)
set_option maxRecDepth 100000 in
set_option maxHeartbeats 600000 in
theorem c_X8_alone (l : Launch) (E : XE) (M n : Nat) (σ : Nat → Int32) (η : Nat → Nat → Int32) (np : Nat) (tx : Nat → Int32) (ty : Nat) (wa : Int32) (H : Heap) (hP : RfP E M (σ, (η, np), (tx, ty)) H) (hn : σ 0 = nI n) (hn2 : n ≤ 200) (hnp : np ≤ 4) (hb : 0 ≤ σ 8) (u0 : Nat) (hm : σ 9 = nI u0) (hm2 : u0 ≤ 60) (hW : ∀ i, i < u0 → rfOk (rfDp σ i) (σ (10 + i))) : Wr l E yX8_alone cX8_alone 7 (some .int) rm_X8_alone [.ref M, .int wa] H (bk M 8) (fun v H1 => (∃ a : Nat → Int32, (∀ k, k < 4 → MadeR σ (fun j => if j = k then rfHrO σ n (nI k) n else nI 0) u0 (a k)) ∧ v = rfAlone a wa) ∧ RfP E M (σ, (η, np), (tx, ty)) H1) := by
  refine met_of (by decide) (Nat.le_of_ble_eq_true rfl) (fun p e s m args below meth c hBD Q hQ ls hl => ?_)
  obtain ⟨S, hr, hlk, hnm, hE, hH⟩ := hBD
  subst hH
  have hl : lv_has ls 7 [(0, .ref M), (1, .int wa)] := hl
  have hO : Out (bk M 8) s.heap s.heap := Out.rf
  have hS : va_S (bk M 8) s.heap s.heap [] := va_S.rf
  obtain ⟨re, ho, hs, hp, ⟨f3, hd3⟩, ht, ⟨f5, hq5⟩, ⟨f6, hq6⟩, ⟨f7, hq7⟩⟩ := hP
  have ho : RfO E M (nI np) (nI ty) re s.heap := ho
  have hs : XI E (M + 1) 1670 σ s.heap := hs
  have hp : XI E (M + 2) 6680 (rfFl η) s.heap := hp
  have ht : XI E (M + 4) 60 tx s.heap := ht
  refine lv_iload_n S.1 S.2.1 dX8_alone_0 rfl (lv_at hl 1 rfl) ?_
  refine lv_iconst (v := (nI 0)) S.1 S.2.1 dX8_alone_1 (by decide) ?_
  refine lv_iconst (v := (nI 1)) S.1 S.2.1 dX8_alone_2 (by decide) ?_
  refine xk_R (v := (bI ((nI 0) ≤ wa ∧ wa ≤ (nI 1)))) (x_runS (As := [.int wa, .int (nI 0), .int (nI 1)]) (rest := []) S hE hS (fun _ h => h.elim) (c_X8_in l E wa (nI 0) (nI 1) _) kv_X8_in kw12_11 kw12_12 ⟨Nat.le_of_ble_eq_true rfl, Nat.le_of_ble_eq_true rfl⟩ rfl rfl rfl hl.1 rfl (Nat.le_of_ble_eq_true rfl) dX8_alone_3 ⟨Nat.zero_le _, Nat.zero_le _⟩) ?_
  refine lv_if_ne (tgt := 11) S.1 S.2.1 dX8_alone_6 rfl (fun h1 => ?_) (fun h1 => ?_)
  · skip
    have h1 := bI_n0 h1
    refine lv_iconst (v := (nI 0)) S.1 S.2.1 dX8_alone_11 (by decide) ?_
    refine lv_istore_n S.1 S.2.1 dX8_alone_12 rfl hl (by decide) rfl (fun ls hl => ?_)
    have hl : lv_has ls 7 [(2, .int (nI 0)), (0, .ref M), (1, .int wa)] := hl
    refine lv_iconst (v := (nI 0)) S.1 S.2.1 dX8_alone_13 (by decide) ?_
    refine lv_istore_n S.1 S.2.1 dX8_alone_14 rfl hl (by decide) rfl (fun ls hl => ?_)
    have hl : lv_has ls 7 [(3, .int (nI 0)), (2, .int (nI 0)), (0, .ref M), (1, .int wa)] := hl
    refine lv_bipush (v := (-4)) S.1 S.2.1 dX8_alone_15 (by decide) ?_
    refine lv_istore S.1 S.2.1 dX8_alone_17 hl (by decide) rfl (fun ls hl => ?_)
    have hl : lv_has ls 7 [(4, .int (-4)), (3, .int (nI 0)), (2, .int (nI 0)), (0, .ref M), (1, .int wa)] := hl
    refine lv_iconst (v := (nI 0)) S.1 S.2.1 dX8_alone_19 (by decide) ?_
    refine lv_istore S.1 S.2.1 dX8_alone_20 hl (by decide) rfl (fun ls hl => ?_)
    have hl : lv_has ls 7 [(5, .int (nI 0)), (4, .int (-4)), (3, .int (nI 0)), (2, .int (nI 0)), (0, .ref M), (1, .int wa)] := hl
    have hloop22 : ∀ (d : Nat) (i : Nat) (m0 : Nat → Int32) (H : Heap) (locs : List Loc) (ls : Array Slot), 4 - i = d → i ≤ 4 → (∀ k, k < i → MadeR σ (fun j => (if j = k then rfHrO σ n (nI k) n else nI 0)) u0 (m0 k)) → RfO E M (nI np) (nI ty) re H → XI E (M + 1) 1670 σ H → XI E (M + 2) 6680 (rfFl η) H → XI E (M + 3) 1670 f3 H → XI E (M + 4) 60 tx H → (∃ f5, XI E (M + 5) 4 f5 H) → (∃ f6, XI E (M + 6) 7 f6 H) → (∃ f7, XI E (M + 7) 7 f7 H) → Out (bk M 8) s.heap H → va_S (bk M 8) s.heap H locs → lv_has ls 7 [(2, .int (rfAl m0 i).1), (3, .int (rfAl m0 i).2.1), (4, .int (rfAl m0 i).2.2), (5, .int (nI i)), (0, .ref M), (1, .int wa)] → W p l e rm_X8_alone s m args below meth c H locs 0 0 Q (F0 m 22 ls []) := by
      intro d22
      induction d22 using Nat.strongRecOn with
      | ind d22 ih22 =>
        intro i m0 H locs ls hd22 hi hm0 ho hs hp hd3 ht hq5 hq6 hq7 hO hS hl
        obtain ⟨f5, hq5⟩ := hq5; obtain ⟨f6, hq6⟩ := hq6; obtain ⟨f7, hq7⟩ := hq7
        refine lv_iload S.1 S.2.1 dX8_alone_22 (lv_at hl 3 rfl) ?_
        refine lv_iconst (v := (nI 4)) S.1 S.2.1 dX8_alone_24 (by decide) ?_
        refine lv_icmp_ge (tgt := 120) S.1 S.2.1 dX8_alone_25 rfl (fun h2 => ?_) (fun h2 => ?_)
        · have hge : i = 4 := (by have := ge_of_le (by omega) (by omega) h2; omega)
          subst hge
          refine lv_iload_n S.1 S.2.1 dX8_alone_120 rfl (lv_at hl 5 rfl) ?_
          refine lv_if_ne (tgt := 128) S.1 S.2.1 dX8_alone_121 rfl (fun h3 => ?_) (fun h3 => ?_)
          · skip
            refine lv_iload S.1 S.2.1 dX8_alone_128 (lv_at hl 2 rfl) ?_
            subst hQ
            refine x_retW S hr hlk (rfl) hS hO ?_ dX8_alone_130
            exact ⟨⟨m0, hm0, by rw [rfAlone, if_pos h1, if_neg h3]⟩, ⟨_, ho, hs, hp, ⟨_, hd3⟩, ht, ⟨_, hq5⟩, ⟨_, hq6⟩, ⟨_, hq7⟩⟩⟩
          · skip
            refine lv_iload_n S.1 S.2.1 dX8_alone_124 rfl (lv_at hl 0 rfl) ?_
            refine lv_goto (tgt := 130) S.1 S.2.1 dX8_alone_125 rfl ?_
            subst hQ
            refine x_retW S hr hlk (rfl) hS hO ?_ dX8_alone_130
            exact ⟨⟨m0, hm0, by rw [rfAlone, if_pos h1, if_pos h3]⟩, ⟨_, ho, hs, hp, ⟨_, hd3⟩, ht, ⟨_, hq5⟩, ⟨_, hq6⟩, ⟨_, hq7⟩⟩⟩
        · have hlt : i < 4 := lt_of_nle (by omega) (by omega) h2
          refine lv_iconst (v := (nI 0)) S.1 S.2.1 dX8_alone_28 (by decide) ?_
          refine lv_istore S.1 S.2.1 dX8_alone_29 hl (by decide) rfl (fun ls hl => ?_)
          have hl : lv_has ls 7 [(6, .int (nI 0)), (2, .int (rfAl m0 i).1), (3, .int (rfAl m0 i).2.1), (4, .int (rfAl m0 i).2.2), (5, .int (nI i)), (0, .ref M), (1, .int wa)] := hl
          have hloop31 : ∀ (d : Nat) (k : Nat) (y5 : Nat → Int32) (H : Heap) (locs : List Loc) (ls : Array Slot), 4 - k = d → k ≤ 4 → (∀ j, j < k → y5 j = (if j = i then rfHrO σ n (nI i) n else nI 0)) → RfO E M (nI np) (nI ty) re H → XI E (M + 1) 1670 σ H → XI E (M + 2) 6680 (rfFl η) H → XI E (M + 3) 1670 f3 H → XI E (M + 4) 60 tx H → XI E (M + 5) 4 y5 H → XI E (M + 6) 7 f6 H → XI E (M + 7) 7 f7 H → Out (bk M 8) s.heap H → va_S (bk M 8) s.heap H locs → lv_has ls 7 [(6, .int (nI k)), (2, .int (rfAl m0 i).1), (3, .int (rfAl m0 i).2.1), (4, .int (rfAl m0 i).2.2), (5, .int (nI i)), (0, .ref M), (1, .int wa)] → W p l e rm_X8_alone s m args below meth c H locs 0 0 Q (F0 m 31 ls []) := by
            intro d31
            induction d31 using Nat.strongRecOn with
            | ind d31 ih31 =>
              intro k y5 H locs ls hd31 hk hy ho hs hp hd3 ht hq5 hq6 hq7 hO hS hl
              refine lv_iload S.1 S.2.1 dX8_alone_31 (lv_at hl 0 rfl) ?_
              refine lv_iconst (v := (nI 4)) S.1 S.2.1 dX8_alone_33 (by decide) ?_
              refine lv_icmp_ge (tgt := 67) S.1 S.2.1 dX8_alone_34 rfl (fun h4 => ?_) (fun h4 => ?_)
              · have hge2 : k = 4 := (by have := ge_of_le (by omega) (by omega) h4; omega)
                subst hge2
                refine lv_aload_n S.1 S.2.1 dX8_alone_67 rfl (lv_at hl 5 rfl) ?_
                refine xk_W (x_runV (As := []) (rest := []) S hE hS (fun q h => h.elim (fun h => bkM (k := 6) h (by decide)) (fun h => bkM (k := 7) h (by decide))) (c_X8_makes l E M (nI np) (nI ty) re σ y5 f6 f7 u0 _ ho hs hq5 hq6 hq7 hm hm2 hW) kv_X8_makes kw33_3 kw33_4 kw33_5 (x_recv hE (ho) (ci := 8) rfl) ⟨Nat.le_of_ble_eq_true rfl, Nat.le_of_ble_eq_true rfl⟩ rfl rfl rfl hl.1 rfl (Nat.le_of_ble_eq_true rfl) dX8_alone_68 ⟨Nat.zero_le _, Nat.zero_le _⟩) hS (fun q h => h.elim (fun h => bkM (k := 6) h (by decide)) (fun h => bkM (k := 7) h (by decide))) (fun v0 H locs hX hO1 hS => ?_)
                have hO := hO.tr hO1 (fun q h => h.elim (fun h => bkM (k := 6) h (by decide)) (fun h => bkM (k := 7) h (by decide)))
                have ho := va_at.kept ho (hO1.2 (M) (fun z => by rcases z with z | z <;> omega))
                have hs := va_at.kept hs (hO1.2 (M + 1) (fun z => by rcases z with z | z <;> omega))
                have hp := va_at.kept hp (hO1.2 (M + 2) (fun z => by rcases z with z | z <;> omega))
                have hd3 := va_at.kept hd3 (hO1.2 (M + 3) (fun z => by rcases z with z | z <;> omega))
                have ht := va_at.kept ht (hO1.2 (M + 4) (fun z => by rcases z with z | z <;> omega))
                have hq5 := va_at.kept hq5 (hO1.2 (M + 5) (fun z => by rcases z with z | z <;> omega))
                obtain ⟨hv0, ⟨g6, hq6⟩, ⟨g7, hq7⟩⟩ := hX
                refine lv_istore S.1 S.2.1 dX8_alone_71 hl (by decide) rfl (fun ls hl => ?_)
                have hl : lv_has ls 7 [(6, .int v0), (2, .int (rfAl m0 i).1), (3, .int (rfAl m0 i).2.1), (4, .int (rfAl m0 i).2.2), (5, .int (nI i)), (0, .ref M), (1, .int wa)] := hl
                refine lv_iload_n S.1 S.2.1 dX8_alone_73 rfl (lv_at hl 1 rfl) ?_
                refine lv_iload S.1 S.2.1 dX8_alone_74 (lv_at hl 0 rfl) ?_
                refine lv_if_le (tgt := 83) S.1 S.2.1 dX8_alone_76 rfl (fun h5 => ?_) (fun h5 => ?_)
                · skip
                  refine lv_iconst (v := (nI 0)) S.1 S.2.1 dX8_alone_83 (by decide) ?_
                  refine lv_iadd S.1 S.2.1 dX8_alone_84 ?_
                  refine lv_istore_n S.1 S.2.1 dX8_alone_85 rfl hl (by decide) rfl (fun ls hl => ?_)
                  have hl : lv_has ls 7 [(2, .int ((rfAl m0 i).1 + (nI 0))), (6, .int v0), (3, .int (rfAl m0 i).2.1), (4, .int (rfAl m0 i).2.2), (5, .int (nI i)), (0, .ref M), (1, .int wa)] := hl
                  refine lv_iload S.1 S.2.1 dX8_alone_86 (lv_at hl 1 rfl) ?_
                  refine lv_iload_n S.1 S.2.1 dX8_alone_88 rfl (lv_at hl 2 rfl) ?_
                  refine lv_icmp_le (tgt := 97) S.1 S.2.1 dX8_alone_89 rfl (fun h6 => ?_) (fun h6 => ?_)
                  · skip
                    refine lv_iload S.1 S.2.1 dX8_alone_97 (lv_at hl 3 rfl) ?_
                    refine lv_istore S.1 S.2.1 dX8_alone_99 hl (by decide) rfl (fun ls hl => ?_)
                    have hl : lv_has ls 7 [(4, .int (rfAl m0 i).2.2), (2, .int ((rfAl m0 i).1 + (nI 0))), (6, .int v0), (3, .int (rfAl m0 i).2.1), (5, .int (nI i)), (0, .ref M), (1, .int wa)] := hl
                    refine lv_iload S.1 S.2.1 dX8_alone_101 (lv_at hl 2 rfl) ?_
                    refine lv_iload_n S.1 S.2.1 dX8_alone_103 rfl (lv_at hl 3 rfl) ?_
                    refine lv_icmp_le (tgt := 112) S.1 S.2.1 dX8_alone_104 rfl (fun h7 => ?_) (fun h7 => ?_)
                    · skip
                      refine lv_iload_n S.1 S.2.1 dX8_alone_112 rfl (lv_at hl 3 rfl) ?_
                      refine lv_istore_n S.1 S.2.1 dX8_alone_113 rfl hl (by decide) rfl (fun ls hl => ?_)
                      have hl : lv_has ls 7 [(3, .int (rfAl m0 i).2.1), (4, .int (rfAl m0 i).2.2), (2, .int ((rfAl m0 i).1 + (nI 0))), (6, .int v0), (5, .int (nI i)), (0, .ref M), (1, .int wa)] := hl
                      refine lv_iinc (k := 4) (v := (nI (i + 1))) S.1 S.2.1 dX8_alone_114 hl rfl (iincP i 1) (by decide) rfl (fun ls hl => ?_)
                      have hl : lv_has ls 7 [(5, .int (nI (i + 1))), (3, .int (rfAl m0 i).2.1), (4, .int (rfAl m0 i).2.2), (2, .int ((rfAl m0 i).1 + (nI 0))), (6, .int v0), (0, .ref M), (1, .int wa)] := hl
                      refine lv_goto (tgt := 22) S.1 S.2.1 dX8_alone_117 rfl ?_
                      have hl : lv_has ls 7 [(2, .int (rfAl (upd m0 i v0) (i + 1)).1), (3, .int (rfAl (upd m0 i v0) (i + 1)).2.1), (4, .int (rfAl (upd m0 i v0) (i + 1)).2.2), (5, .int (nI (i + 1))), (0, .ref M), (1, .int wa)] := by
                        rw [show (rfAl (upd m0 i v0) (i + 1)).1 = ((rfAl m0 i).1 + (nI 0)) from by first | rw [rl_1, if_pos h5] | rw [rl_2, if_pos h6] | rw [rl_3, if_pos h6]]
                        rw [show (rfAl (upd m0 i v0) (i + 1)).2.1 = (rfAl m0 i).2.1 from by first | rw [rl_1, if_pos h5] | rw [rl_2, if_pos h6] | rw [rl_3, if_pos h6]]
                        rw [show (rfAl (upd m0 i v0) (i + 1)).2.2 = (rfAl m0 i).2.2 from by first | rw [rl_1, if_pos h5] | rw [rl_2, if_pos h6] | rw [rl_3, if_pos h6]]
                        exact lv_sub hl [3, 1, 2, 0, 5, 6] rfl
                      exact ih22 _ (by omega) (i + 1) (upd m0 i v0) _ _ ls rfl (by omega) (fun j hj => (Nat.lt_or_ge j i).elim (fun q => by rw [pk_un (by omega)]; exact hm0 j q) (fun q => by have e : j = i := (by omega); rw [e, pk_us]; exact ⟨_, _, _, hy, hv0⟩)) (ho) (hs) (hp) (hd3) (ht) (⟨_, hq5⟩) (⟨_, hq6⟩) (⟨_, hq7⟩) (hO) (hS) (lv_sub hl [0, 1, 2, 3, 4, 5] rfl)
                    · exact absurd h6 h7
                  · skip
                    refine lv_iload S.1 S.2.1 dX8_alone_92 (lv_at hl 4 rfl) ?_
                    refine lv_goto (tgt := 99) S.1 S.2.1 dX8_alone_94 rfl ?_
                    refine lv_istore S.1 S.2.1 dX8_alone_99 hl (by decide) rfl (fun ls hl => ?_)
                    have hl : lv_has ls 7 [(4, .int (nI i)), (2, .int ((rfAl m0 i).1 + (nI 0))), (6, .int v0), (3, .int (rfAl m0 i).2.1), (5, .int (nI i)), (0, .ref M), (1, .int wa)] := hl
                    refine lv_iload S.1 S.2.1 dX8_alone_101 (lv_at hl 2 rfl) ?_
                    refine lv_iload_n S.1 S.2.1 dX8_alone_103 rfl (lv_at hl 3 rfl) ?_
                    refine lv_icmp_le (tgt := 112) S.1 S.2.1 dX8_alone_104 rfl (fun h8 => ?_) (fun h8 => ?_)
                    · exact absurd h8 h6
                    · skip
                      refine lv_iload S.1 S.2.1 dX8_alone_107 (lv_at hl 2 rfl) ?_
                      refine lv_goto (tgt := 113) S.1 S.2.1 dX8_alone_109 rfl ?_
                      refine lv_istore_n S.1 S.2.1 dX8_alone_113 rfl hl (by decide) rfl (fun ls hl => ?_)
                      have hl : lv_has ls 7 [(3, .int v0), (4, .int (nI i)), (2, .int ((rfAl m0 i).1 + (nI 0))), (6, .int v0), (5, .int (nI i)), (0, .ref M), (1, .int wa)] := hl
                      refine lv_iinc (k := 4) (v := (nI (i + 1))) S.1 S.2.1 dX8_alone_114 hl rfl (iincP i 1) (by decide) rfl (fun ls hl => ?_)
                      have hl : lv_has ls 7 [(5, .int (nI (i + 1))), (3, .int v0), (4, .int (nI i)), (2, .int ((rfAl m0 i).1 + (nI 0))), (6, .int v0), (0, .ref M), (1, .int wa)] := hl
                      refine lv_goto (tgt := 22) S.1 S.2.1 dX8_alone_117 rfl ?_
                      have hl : lv_has ls 7 [(2, .int (rfAl (upd m0 i v0) (i + 1)).1), (3, .int (rfAl (upd m0 i v0) (i + 1)).2.1), (4, .int (rfAl (upd m0 i v0) (i + 1)).2.2), (5, .int (nI (i + 1))), (0, .ref M), (1, .int wa)] := by
                        rw [show (rfAl (upd m0 i v0) (i + 1)).1 = ((rfAl m0 i).1 + (nI 0)) from by first | rw [rl_1, if_pos h5] | rw [rl_2, if_neg h6] | rw [rl_3, if_neg h6]]
                        rw [show (rfAl (upd m0 i v0) (i + 1)).2.1 = v0 from by first | rw [rl_1, if_pos h5] | rw [rl_2, if_neg h6] | rw [rl_3, if_neg h6]]
                        rw [show (rfAl (upd m0 i v0) (i + 1)).2.2 = (nI i) from by first | rw [rl_1, if_pos h5] | rw [rl_2, if_neg h6] | rw [rl_3, if_neg h6]]
                        exact lv_sub hl [3, 1, 2, 0, 5, 6] rfl
                      exact ih22 _ (by omega) (i + 1) (upd m0 i v0) _ _ ls rfl (by omega) (fun j hj => (Nat.lt_or_ge j i).elim (fun q => by rw [pk_un (by omega)]; exact hm0 j q) (fun q => by have e : j = i := (by omega); rw [e, pk_us]; exact ⟨_, _, _, hy, hv0⟩)) (ho) (hs) (hp) (hd3) (ht) (⟨_, hq5⟩) (⟨_, hq6⟩) (⟨_, hq7⟩) (hO) (hS) (lv_sub hl [0, 1, 2, 3, 4, 5] rfl)
                · skip
                  refine lv_iconst (v := (nI 1)) S.1 S.2.1 dX8_alone_79 (by decide) ?_
                  refine lv_goto (tgt := 84) S.1 S.2.1 dX8_alone_80 rfl ?_
                  refine lv_iadd S.1 S.2.1 dX8_alone_84 ?_
                  refine lv_istore_n S.1 S.2.1 dX8_alone_85 rfl hl (by decide) rfl (fun ls hl => ?_)
                  have hl : lv_has ls 7 [(2, .int ((rfAl m0 i).1 + (nI 1))), (6, .int v0), (3, .int (rfAl m0 i).2.1), (4, .int (rfAl m0 i).2.2), (5, .int (nI i)), (0, .ref M), (1, .int wa)] := hl
                  refine lv_iload S.1 S.2.1 dX8_alone_86 (lv_at hl 1 rfl) ?_
                  refine lv_iload_n S.1 S.2.1 dX8_alone_88 rfl (lv_at hl 2 rfl) ?_
                  refine lv_icmp_le (tgt := 97) S.1 S.2.1 dX8_alone_89 rfl (fun h9 => ?_) (fun h9 => ?_)
                  · skip
                    refine lv_iload S.1 S.2.1 dX8_alone_97 (lv_at hl 3 rfl) ?_
                    refine lv_istore S.1 S.2.1 dX8_alone_99 hl (by decide) rfl (fun ls hl => ?_)
                    have hl : lv_has ls 7 [(4, .int (rfAl m0 i).2.2), (2, .int ((rfAl m0 i).1 + (nI 1))), (6, .int v0), (3, .int (rfAl m0 i).2.1), (5, .int (nI i)), (0, .ref M), (1, .int wa)] := hl
                    refine lv_iload S.1 S.2.1 dX8_alone_101 (lv_at hl 2 rfl) ?_
                    refine lv_iload_n S.1 S.2.1 dX8_alone_103 rfl (lv_at hl 3 rfl) ?_
                    refine lv_icmp_le (tgt := 112) S.1 S.2.1 dX8_alone_104 rfl (fun h10 => ?_) (fun h10 => ?_)
                    · skip
                      refine lv_iload_n S.1 S.2.1 dX8_alone_112 rfl (lv_at hl 3 rfl) ?_
                      refine lv_istore_n S.1 S.2.1 dX8_alone_113 rfl hl (by decide) rfl (fun ls hl => ?_)
                      have hl : lv_has ls 7 [(3, .int (rfAl m0 i).2.1), (4, .int (rfAl m0 i).2.2), (2, .int ((rfAl m0 i).1 + (nI 1))), (6, .int v0), (5, .int (nI i)), (0, .ref M), (1, .int wa)] := hl
                      refine lv_iinc (k := 4) (v := (nI (i + 1))) S.1 S.2.1 dX8_alone_114 hl rfl (iincP i 1) (by decide) rfl (fun ls hl => ?_)
                      have hl : lv_has ls 7 [(5, .int (nI (i + 1))), (3, .int (rfAl m0 i).2.1), (4, .int (rfAl m0 i).2.2), (2, .int ((rfAl m0 i).1 + (nI 1))), (6, .int v0), (0, .ref M), (1, .int wa)] := hl
                      refine lv_goto (tgt := 22) S.1 S.2.1 dX8_alone_117 rfl ?_
                      have hl : lv_has ls 7 [(2, .int (rfAl (upd m0 i v0) (i + 1)).1), (3, .int (rfAl (upd m0 i v0) (i + 1)).2.1), (4, .int (rfAl (upd m0 i v0) (i + 1)).2.2), (5, .int (nI (i + 1))), (0, .ref M), (1, .int wa)] := by
                        rw [show (rfAl (upd m0 i v0) (i + 1)).1 = ((rfAl m0 i).1 + (nI 1)) from by first | rw [rl_1, if_neg h5] | rw [rl_2, if_pos h9] | rw [rl_3, if_pos h9]]
                        rw [show (rfAl (upd m0 i v0) (i + 1)).2.1 = (rfAl m0 i).2.1 from by first | rw [rl_1, if_neg h5] | rw [rl_2, if_pos h9] | rw [rl_3, if_pos h9]]
                        rw [show (rfAl (upd m0 i v0) (i + 1)).2.2 = (rfAl m0 i).2.2 from by first | rw [rl_1, if_neg h5] | rw [rl_2, if_pos h9] | rw [rl_3, if_pos h9]]
                        exact lv_sub hl [3, 1, 2, 0, 5, 6] rfl
                      exact ih22 _ (by omega) (i + 1) (upd m0 i v0) _ _ ls rfl (by omega) (fun j hj => (Nat.lt_or_ge j i).elim (fun q => by rw [pk_un (by omega)]; exact hm0 j q) (fun q => by have e : j = i := (by omega); rw [e, pk_us]; exact ⟨_, _, _, hy, hv0⟩)) (ho) (hs) (hp) (hd3) (ht) (⟨_, hq5⟩) (⟨_, hq6⟩) (⟨_, hq7⟩) (hO) (hS) (lv_sub hl [0, 1, 2, 3, 4, 5] rfl)
                    · exact absurd h9 h10
                  · skip
                    refine lv_iload S.1 S.2.1 dX8_alone_92 (lv_at hl 4 rfl) ?_
                    refine lv_goto (tgt := 99) S.1 S.2.1 dX8_alone_94 rfl ?_
                    refine lv_istore S.1 S.2.1 dX8_alone_99 hl (by decide) rfl (fun ls hl => ?_)
                    have hl : lv_has ls 7 [(4, .int (nI i)), (2, .int ((rfAl m0 i).1 + (nI 1))), (6, .int v0), (3, .int (rfAl m0 i).2.1), (5, .int (nI i)), (0, .ref M), (1, .int wa)] := hl
                    refine lv_iload S.1 S.2.1 dX8_alone_101 (lv_at hl 2 rfl) ?_
                    refine lv_iload_n S.1 S.2.1 dX8_alone_103 rfl (lv_at hl 3 rfl) ?_
                    refine lv_icmp_le (tgt := 112) S.1 S.2.1 dX8_alone_104 rfl (fun h11 => ?_) (fun h11 => ?_)
                    · exact absurd h11 h9
                    · skip
                      refine lv_iload S.1 S.2.1 dX8_alone_107 (lv_at hl 2 rfl) ?_
                      refine lv_goto (tgt := 113) S.1 S.2.1 dX8_alone_109 rfl ?_
                      refine lv_istore_n S.1 S.2.1 dX8_alone_113 rfl hl (by decide) rfl (fun ls hl => ?_)
                      have hl : lv_has ls 7 [(3, .int v0), (4, .int (nI i)), (2, .int ((rfAl m0 i).1 + (nI 1))), (6, .int v0), (5, .int (nI i)), (0, .ref M), (1, .int wa)] := hl
                      refine lv_iinc (k := 4) (v := (nI (i + 1))) S.1 S.2.1 dX8_alone_114 hl rfl (iincP i 1) (by decide) rfl (fun ls hl => ?_)
                      have hl : lv_has ls 7 [(5, .int (nI (i + 1))), (3, .int v0), (4, .int (nI i)), (2, .int ((rfAl m0 i).1 + (nI 1))), (6, .int v0), (0, .ref M), (1, .int wa)] := hl
                      refine lv_goto (tgt := 22) S.1 S.2.1 dX8_alone_117 rfl ?_
                      have hl : lv_has ls 7 [(2, .int (rfAl (upd m0 i v0) (i + 1)).1), (3, .int (rfAl (upd m0 i v0) (i + 1)).2.1), (4, .int (rfAl (upd m0 i v0) (i + 1)).2.2), (5, .int (nI (i + 1))), (0, .ref M), (1, .int wa)] := by
                        rw [show (rfAl (upd m0 i v0) (i + 1)).1 = ((rfAl m0 i).1 + (nI 1)) from by first | rw [rl_1, if_neg h5] | rw [rl_2, if_neg h9] | rw [rl_3, if_neg h9]]
                        rw [show (rfAl (upd m0 i v0) (i + 1)).2.1 = v0 from by first | rw [rl_1, if_neg h5] | rw [rl_2, if_neg h9] | rw [rl_3, if_neg h9]]
                        rw [show (rfAl (upd m0 i v0) (i + 1)).2.2 = (nI i) from by first | rw [rl_1, if_neg h5] | rw [rl_2, if_neg h9] | rw [rl_3, if_neg h9]]
                        exact lv_sub hl [3, 1, 2, 0, 5, 6] rfl
                      exact ih22 _ (by omega) (i + 1) (upd m0 i v0) _ _ ls rfl (by omega) (fun j hj => (Nat.lt_or_ge j i).elim (fun q => by rw [pk_un (by omega)]; exact hm0 j q) (fun q => by have e : j = i := (by omega); rw [e, pk_us]; exact ⟨_, _, _, hy, hv0⟩)) (ho) (hs) (hp) (hd3) (ht) (⟨_, hq5⟩) (⟨_, hq6⟩) (⟨_, hq7⟩) (hO) (hS) (lv_sub hl [0, 1, 2, 3, 4, 5] rfl)
              · have hlt2 : k < 4 := lt_of_nle (by omega) (by omega) h4
                refine lv_aload_n S.1 S.2.1 dX8_alone_37 rfl (lv_at hl 5 rfl) ?_
                refine x_get S hE (ho) (C := RX8) (T := TX8) (N := 10) rfl inlX8 7 (by decide) (v := .ref (M + 5)) rfl kw7_10 rfl dX8_alone_38 ?_
                refine lv_iload S.1 S.2.1 dX8_alone_41 (lv_at hl 0 rfl) ?_
                refine lv_iload S.1 S.2.1 dX8_alone_43 (lv_at hl 0 rfl) ?_
                refine lv_iload S.1 S.2.1 dX8_alone_45 (lv_at hl 4 rfl) ?_
                refine lv_icmp_ne (tgt := 59) S.1 S.2.1 dX8_alone_47 rfl (fun h12 => ?_) (fun h12 => ?_)
                · skip
                  refine lv_iconst (v := (nI 0)) S.1 S.2.1 dX8_alone_59 (by decide) ?_
                  refine x_iast S hE hS (bkM (k := 5) rfl (by decide)) (hq5) k rfl (by omega) (by decide) dX8_alone_60 (fun H locs hX hO1 hS => ?_)
                  have hO := hO.tr hO1 (fun q h => bkM (k := 5) h (by decide))
                  have ho := va_at.kept ho (hO1.2 (M) (fun z => by have z : M = M + 5 := z; omega))
                  have hs := va_at.kept hs (hO1.2 (M + 1) (fun z => by have z : M + 1 = M + 5 := z; omega))
                  have hp := va_at.kept hp (hO1.2 (M + 2) (fun z => by have z : M + 2 = M + 5 := z; omega))
                  have hd3 := va_at.kept hd3 (hO1.2 (M + 3) (fun z => by have z : M + 3 = M + 5 := z; omega))
                  have ht := va_at.kept ht (hO1.2 (M + 4) (fun z => by have z : M + 4 = M + 5 := z; omega))
                  have hq6 := va_at.kept hq6 (hO1.2 (M + 6) (fun z => by have z : M + 6 = M + 5 := z; omega))
                  have hq7 := va_at.kept hq7 (hO1.2 (M + 7) (fun z => by have z : M + 7 = M + 5 := z; omega))
                  have hq5 := hX
                  refine lv_iinc (k := 0) (v := (nI (k + 1))) S.1 S.2.1 dX8_alone_61 hl rfl (iincP k 1) (by decide) rfl (fun ls hl => ?_)
                  have hl : lv_has ls 7 [(6, .int (nI (k + 1))), (2, .int (rfAl m0 i).1), (3, .int (rfAl m0 i).2.1), (4, .int (rfAl m0 i).2.2), (5, .int (nI i)), (0, .ref M), (1, .int wa)] := hl
                  refine lv_goto (tgt := 31) S.1 S.2.1 dX8_alone_64 rfl ?_
                  exact ih31 _ (by omega) (k + 1) (upd y5 k (nI 0)) _ _ ls rfl (by omega) (fun j hj => (Nat.lt_or_ge j k).elim (fun q => by rw [pk_un (by omega)]; exact hy j q) (fun q => by have e : j = k := (by omega); rw [e, pk_us]; exact (if_neg (fun z => h12 (by rw [z]))).symm)) (ho) (hs) (hp) (hd3) (ht) (hq5) (hq6) (hq7) (hO) (hS) (lv_sub hl [0, 1, 2, 3, 4, 5, 6] rfl)
                · skip
                  refine lv_aload_n S.1 S.2.1 dX8_alone_50 rfl (lv_at hl 5 rfl) ?_
                  refine lv_iload S.1 S.2.1 dX8_alone_51 (lv_at hl 4 rfl) ?_
                  refine xk_R (v := (rfHrO σ n (nI i) n)) (x_runV (As := [.int (nI i)]) (rest := [.int (nI k), .ref (M + 5)]) S hE hS (fun _ h => h.elim) (c_X8_heardOf l E M (nI np) (nI ty) re σ (nI i) n _ ho hs hn hn2 hb) kv_X8_heardOf kw23_4 kw23_5 kw23_6 (x_recv hE (ho) (ci := 8) rfl) ⟨Nat.le_of_ble_eq_true rfl, Nat.le_of_ble_eq_true rfl⟩ rfl rfl rfl hl.1 rfl (Nat.le_of_ble_eq_true rfl) dX8_alone_53 ⟨Nat.zero_le _, Nat.zero_le _⟩) ?_
                  refine lv_goto (tgt := 60) S.1 S.2.1 dX8_alone_56 rfl ?_
                  refine x_iast S hE hS (bkM (k := 5) rfl (by decide)) (hq5) k rfl (by omega) (by decide) dX8_alone_60 (fun H locs hX hO1 hS => ?_)
                  have hO := hO.tr hO1 (fun q h => bkM (k := 5) h (by decide))
                  have ho := va_at.kept ho (hO1.2 (M) (fun z => by have z : M = M + 5 := z; omega))
                  have hs := va_at.kept hs (hO1.2 (M + 1) (fun z => by have z : M + 1 = M + 5 := z; omega))
                  have hp := va_at.kept hp (hO1.2 (M + 2) (fun z => by have z : M + 2 = M + 5 := z; omega))
                  have hd3 := va_at.kept hd3 (hO1.2 (M + 3) (fun z => by have z : M + 3 = M + 5 := z; omega))
                  have ht := va_at.kept ht (hO1.2 (M + 4) (fun z => by have z : M + 4 = M + 5 := z; omega))
                  have hq6 := va_at.kept hq6 (hO1.2 (M + 6) (fun z => by have z : M + 6 = M + 5 := z; omega))
                  have hq7 := va_at.kept hq7 (hO1.2 (M + 7) (fun z => by have z : M + 7 = M + 5 := z; omega))
                  have hq5 := hX
                  refine lv_iinc (k := 0) (v := (nI (k + 1))) S.1 S.2.1 dX8_alone_61 hl rfl (iincP k 1) (by decide) rfl (fun ls hl => ?_)
                  have hl : lv_has ls 7 [(6, .int (nI (k + 1))), (2, .int (rfAl m0 i).1), (3, .int (rfAl m0 i).2.1), (4, .int (rfAl m0 i).2.2), (5, .int (nI i)), (0, .ref M), (1, .int wa)] := hl
                  refine lv_goto (tgt := 31) S.1 S.2.1 dX8_alone_64 rfl ?_
                  exact ih31 _ (by omega) (k + 1) (upd y5 k (rfHrO σ n (nI i) n)) _ _ ls rfl (by omega) (fun j hj => (Nat.lt_or_ge j k).elim (fun q => by rw [pk_un (by omega)]; exact hy j q) (fun q => by have e : j = k := (by omega); rw [e, pk_us]; exact (if_pos ((nI_eq (by omega) (by omega)).mp h12)).symm)) (ho) (hs) (hp) (hd3) (ht) (hq5) (hq6) (hq7) (hO) (hS) (lv_sub hl [0, 1, 2, 3, 4, 5, 6] rfl)
          exact hloop31 _ 0 f5 _ _ ls rfl (Nat.zero_le _) (fun j hj => absurd hj (Nat.not_lt_zero _)) (ho) (hs) (hp) (hd3) (ht) (hq5) (hq6) (hq7) (hO) (hS) (lv_sub hl [0, 1, 2, 3, 4, 5, 6] rfl)
    exact hloop22 _ 0 (fun _ => 0) _ _ ls rfl (Nat.zero_le _) (fun j hj => absurd hj (Nat.not_lt_zero _)) (ho) (hs) (hp) (hd3) (ht) (⟨_, hq5⟩) (⟨_, hq6⟩) (⟨_, hq7⟩) (hO) (hS) (lv_sub hl [3, 2, 1, 0, 4, 5] rfl)
  · skip
    have h1 := bI_0 h1
    refine lv_iconst (v := (-1)) S.1 S.2.1 dX8_alone_9 (by decide) ?_
    subst hQ
    refine x_retW S hr hlk (rfl) hS hO ?_ dX8_alone_10
    exact ⟨⟨fun k => rfMakes σ (fun j => (if j = k then rfHrO σ n (nI k) n else nI 0)) f6 f7 u0, fun k _ => ⟨_, _, _, fun _ _ => rfl, rfl⟩, by rw [rfAlone, if_neg h1]⟩, ⟨_, ho, hs, hp, ⟨_, hd3⟩, ht, ⟨_, hq5⟩, ⟨_, hq6⟩, ⟨_, hq7⟩⟩⟩
