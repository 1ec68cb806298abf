/-! 46.pq: the mixers agree -/
def BV (x : Int32) : Prop := ∃ v, v ≤ 1000000 ∧ x = nI v
theorem cut_min (x : Int32) : xmin (nI 1000000) x = rfCut x := by
  unfold xmin rfCut
  by_cases c : x < nI 1000000
  · rw [if_pos c, if_pos (Int32.le_of_lt c)]
  · rw [if_neg c]
    by_cases d : x ≤ nI 1000000
    · rw [if_pos d]; exact Int32.le_antisymm (Int32.not_lt.mp c) d
    · rw [if_neg d]
theorem cut_nI {a : Nat} (ha : a < 2 ^ 31) : BV (rfCut (nI a)) := by
  unfold rfCut
  by_cases c : a ≤ 1000000
  · rw [if_pos (nI_le c (by omega))]; exact ⟨a, c, rfl⟩
  · rw [if_neg (nI_ge (by omega) ha)]; exact ⟨1000000, Nat.le_refl _, rfl⟩
theorem cut_BV {x : Int32} (h : BV x) : rfCut x = x := by
  obtain ⟨v, hv, rfl⟩ := h
  unfold rfCut; rw [if_pos (nI_le hv (by omega))]
def Pend (z : MZ) (r : RM) (e : Nat) : Prop := (r.2.2 e = nI 0 ∧ z.1 e = nI 0 ∧ z.2.1 e = nI 43) ∨ ((r.2.2 e = nI 43 ∨ r.2.2 e = nI 94) ∧ z.2.1 e = r.2.2 e ∧ z.1 e = r.2.1 e ∧ BV (r.2.1 e))
theorem pend_join {z : MZ} {r : RM} {e : Nat} {t : Int32} (hp : Pend z r e) (ht : BV t) : xmin (nI 1000000) (if z.2.1 e = nI 43 then z.1 e + t else xmax (z.1 e) t) = rfJo (r.2.1 e) (r.2.2 e) t ∧ BV (rfJo (r.2.1 e) (r.2.2 e) t) := by
  rw [cut_min]
  unfold rfJo
  rcases hp with ⟨h1, h2, h3⟩ | ⟨h1 | h1, h2, h3, h4⟩
  · rw [h3, if_pos rfl, h2, z0a, h1, if_neg (by decide), if_neg (by decide), cut_BV ht]; exact ⟨rfl, ht⟩
  · rw [h2, h1, if_pos rfl, h3, if_pos rfl]
    obtain ⟨a, ha, e1⟩ := h4
    obtain ⟨b, hb, rfl⟩ := ht
    refine ⟨rfl, ?_⟩
    rw [e1, nI_add]; exact cut_nI (by omega)
  · rw [h2, h1, if_neg (by decide), h3, if_neg (show ¬ nI 94 = nI 43 by decide), if_pos (show nI 94 = nI 94 from rfl)]
    have hx : xmax (r.2.1 e) t = if r.2.1 e ≤ t then t else r.2.1 e := by
      unfold xmax
      by_cases c : r.2.1 e < t
      · rw [if_pos c, if_pos (Int32.le_of_lt c)]
      · rw [if_neg c]
        by_cases d : r.2.1 e ≤ t
        · rw [if_pos d]; exact Int32.le_antisymm d (Int32.not_lt.mp c)
        · rw [if_neg d]
    have hb : BV (if r.2.1 e ≤ t then t else r.2.1 e) := by
      by_cases c : r.2.1 e ≤ t
      · rw [if_pos c]; exact ht
      · rw [if_neg c]; exact h4
    rw [hx, cut_BV hb]; exact ⟨rfl, hb⟩
def tvOf (L : List Int32) (p i : Nat) (now : Int32) : Int32 := if p = 1 then mxTimes L (nI i) now else if p = 2 then rfCut (now * (fsAt L (nI i) - nI 48)) else now
def MI (L : List Int32) (σ : Nat → Int32) (i : Nat) (z : MZ) (r : RM) : Prop :=
  ∃ p, RS2 L (rfDp σ) i p ∧ z.2.2 = nI (rfDp σ i) ∧ (∀ e, e < rfDp σ i → Pend z r e) ∧
    ((p = 0 ∧ Pend z r (rfDp σ i)) ∨ (1 ≤ p ∧ BV r.1 ∧ BV (z.1 (rfDp σ i)) ∧ z.1 (rfDp σ i) = rfJo (r.2.1 (rfDp σ i)) (r.2.2 (rfDp σ i)) (tvOf L p i r.1)))
theorem fs_out {L : List Int32} {i : Nat} (h : L.length ≤ i) (hi : i < 100) : fsAt L (nI i) = nI 0 := by
  unfold fsAt; rw [if_neg (fun z => by have := z.2; rw [nI_ltI (by omega) (by omega)] at this; omega)]
theorem pn_char {c : Int32} {j : Nat} (hj : j < 4) (h : pnOf c = nI j) : c = nI 115 ∨ c = nI 97 ∨ c = nI 116 ∨ c = nI 98 := by
  unfold pnOf at h
  by_cases c1 : c = nI 115
  · exact Or.inl c1
  by_cases c2 : c = nI 97
  · exact Or.inr (Or.inl c2)
  by_cases c3 : c = nI 116
  · exact Or.inr (Or.inr (Or.inl c3))
  by_cases c4 : c = nI 98
  · exact Or.inr (Or.inr (Or.inr c4))
  rw [if_neg c1, if_neg c2, if_neg c3, if_neg c4] at h; exact absurd h.symm (nI_m1 (by omega))
theorem dig_of {c : Int32} (h1 : nI 48 ≤ c) (h2 : c ≤ nI 57) : ∃ d, d ≤ 9 ∧ c - nI 48 = nI d ∧ c = nI (48 + d) := by
  obtain ⟨q, hq, rfl⟩ := i_nat (by omega) (Int32.le_trans (by decide : nI 0 ≤ nI 48) h1) h2
  have := (nI_leI (by omega) (by omega)).mp h1
  exact ⟨q - 48, by omega, by rw [pk_sub this], by rw [show 48 + (q - 48) = q from by omega]⟩
theorem dig_BV {c v : Int32} (h1 : nI 48 ≤ c) (h2 : c ≤ nI 57) (hv : BV v) : BV (rfCut (v * (c - nI 48))) := by
  obtain ⟨d, hd, e, -⟩ := dig_of h1 h2
  obtain ⟨a, ha, rfl⟩ := hv
  rw [e, pk_mul]
  exact cut_nI (by have : a * d ≤ 1000000 * 9 := Nat.mul_le_mul ha hd
                   omega)
section
variable {L : List Int32} {σ pr sh : Nat → Int32} {m : Nat}
/-- behind a thing: a star is followed by a digit -/
theorem bv_times (hl : L.length = m) (hm : m ≤ 60) (hs : ∀ j, j < m → L.getD j 0 = σ (10 + j)) (h : (rdAll L).2 = 0) {i : Nat} (hi : i ≤ m) (hp : RS2 L (rfDp σ) i 1) {v : Int32} (hv : BV v) : BV (mxTimes L (nI i) v) := by
  obtain ⟨h1, h2, h3⟩ := run_ok hl hs h
  unfold mxTimes
  by_cases c : fsAt L (nI i) = nI 42
  · rw [if_pos c, cut_min]
    have him : i < m := by
      by_cases d : i < m
      · exact d
      · rw [fs_out (by omega) (by omega)] at c; exact absurd c (by decide)
    rw [fsAt_nI (by omega) (by omega)] at c
    have hk := h2 i him
    rw [hp.2.2] at hk
    obtain ⟨z', o', g1, g2, g3, g4, g5⟩ := tk_ok hp.1 hp.2.1 hk
    have hz' : z' = 2 := by
      rcases g5 with ⟨q, -⟩ | ⟨q, -⟩ | ⟨q, -⟩ | ⟨-, q, -⟩ | ⟨-, -, q, -⟩ | ⟨-, q, -⟩
      · omega
      · omega
      · omega
      · rw [c] at q; exact absurd q (by decide)
      · exact q
      · rw [c] at q; exact absurd q (by decide)
    have he1 : rdSt L (i + 1) = (nI 2, nI o') := by rw [rdSt, hp.2.2, g3, g4, hz']
    have him2 : i + 1 < m := by
      by_cases d : i + 1 < m
      · exact d
      · have : i + 1 = m := by omega
        rw [← this, he1] at h3
        exact absurd h3.2 (by show ¬ (nI 2 = nI 1 ∨ nI 2 = nI 3); decide)
    have hk2 := h2 (i + 1) him2
    rw [he1] at hk2
    obtain ⟨z2, o2, q1, q2, q3, q4, q5⟩ := tk_ok (by omega) g2 hk2
    rw [nI_add, fsAt_nI (by omega) (by omega)]
    rcases q5 with ⟨q, -⟩ | ⟨q, -⟩ | ⟨-, w1, w2, -⟩ | ⟨q, -⟩ | ⟨q, -⟩ | ⟨q, -⟩
    · omega
    · omega
    · exact dig_BV w1 w2 hv
    · omega
    · omega
    · omega
  · rw [if_neg c]; exact hv
theorem join_up {z : MZ} {d : Nat} {t : Int32} (hd : d < 7) (hz : z.2.2 = nI d) : mxJoin z t = (upd z.1 d (xmin (nI 1000000) (if z.2.1 d = nI 43 then z.1 d + t else xmax (z.1 d) t)), z.2.1, nI d) := by
  unfold mxJoin mxAfter
  rw [hz, xput_nI (by decide) hd, xat_nI (by decide) hd, xat_nI (by decide) hd]
theorem pend_up {z z' : MZ} {r r' : RM} {e : Nat} (h : Pend z r e) (h1 : z'.1 e = z.1 e) (h2 : z'.2.1 e = z.2.1 e) (h3 : r'.2.1 e = r.2.1 e) (h4 : r'.2.2 e = r.2.2 e) : Pend z' r' e := by
  unfold Pend; rw [h1, h2, h3, h4]; exact h
theorem mi_step (hl : L.length = m) (hm : m ≤ 60) (hs : ∀ j, j < m → L.getD j 0 = σ (10 + j)) (h : (rdAll L).2 = 0) (hsh : ∀ j, j < 4 → sh j = pr j ∧ BV (pr j)) {i : Nat} (hi : i < m) {z : MZ} {r : RM} (hM : MI L σ i z r) : MI L σ (i + 1) (mxStep L sh z i (L.getD i 0)) (rfMkS pr (rfDp σ i) (σ (10 + i)) r) := by
  obtain ⟨h1, h2, h3⟩ := run_ok hl hs h
  obtain ⟨p, hp, hz, hPe, hst⟩ := hM
  have hk := h2 i hi
  rw [hp.2.2] at hk
  obtain ⟨p', d', g1, g2, g3, g4, g5⟩ := tk_ok hp.1 hp.2.1 hk
  have he1 : rdSt L (i + 1) = (nI p', nI d') := by rw [rdSt, hp.2.2, g3, g4]
  have hd' : rfDp σ (i + 1) = d' := by
    obtain ⟨z2, q1, q2, q3⟩ := h1 (i + 1) (by omega)
    rw [he1] at q3
    exact ((nI_eq (by omega) (by omega)).mp (congrArg Prod.snd q3)).symm
  have hR : RS2 L (rfDp σ) (i + 1) p' := ⟨g1, by rw [hd']; exact g2, by rw [he1, hd']⟩
  rw [← hs i hi]
  have hd6 : rfDp σ i ≤ 6 := hp.2.1
  have hfs : fsAt L (nI i) = L.getD i 0 := fsAt_nI (by omega) (by omega)
  refine ⟨p', hR, ?_⟩
  rw [hd']
  rcases g5 with ⟨q, q2, q3, q4⟩ | ⟨q, q2, ⟨j, hj, q3⟩, q4, q5⟩ | ⟨q, q2, q3, q4, q5⟩ | ⟨q, q2, q3, q4⟩ | ⟨q, q2, q3, q4⟩ | ⟨q, q2, q3, q4, q5⟩
  · -- an opening bracket
    subst q3
    have hn : pnOf (L.getD i 0) = (-1) := by rw [q2]; decide
    have hP0 : Pend z r (rfDp σ i) := hst.elim (fun w => w.2) (fun w => by omega)
    have hz' : mxStep L sh z i (L.getD i 0) = (upd z.1 d' (nI 0), upd z.2.1 d' (nI 43), nI d') := by
      unfold mxStep; rw [if_pos hn, if_pos q2, hz, nI_add, ← q4]
      unfold mxBegin; rw [xput_nI (by decide) (by omega), xput_nI (by decide) (by omega)]
    have hr' : rfMkS pr (rfDp σ i) (L.getD i 0) r = (r.1, upd r.2.1 d' (nI 0), upd r.2.2 d' (nI 0)) := by
      unfold rfMkS; rw [if_pos q2, ← q4]
    rw [hz', hr']
    refine ⟨rfl, fun e he => ?_, Or.inl ⟨rfl, Or.inl ⟨pk_us, pk_us, pk_us⟩⟩⟩
    have hb : Pend z r e := by
      by_cases w : e = rfDp σ i
      · rw [w]; exact hP0
      · exact hPe e (by omega)
    exact pend_up hb (pk_un (by omega)) (pk_un (by omega)) (pk_un (by omega)) (pk_un (by omega))
  · -- a part
    subst q4
    rw [q5] at *
    have hn : ¬ pnOf (L.getD i 0) = (-1) := by rw [q3]; exact nI_m1 (by omega)
    have hP0 : Pend z r (rfDp σ i) := hst.elim (fun w => w.2) (fun w => by omega)
    have hch := pn_char hj q3
    have hpb : rfPB (L.getD i 0) = nI j := ((pb_neg _).2 j hj).mp q3
    have hr' : rfMkS pr (rfDp σ i) (L.getD i 0) r = (pr j, r.2.1, r.2.2) := by
      unfold rfMkS
      rw [if_neg q2, if_neg (fun w => by rcases hch with e | e | e | e <;> rw [e] at w <;> exact absurd w (by decide)), if_neg (fun w => by rcases hch with e | e | e | e <;> rw [e] at w <;> exact absurd w (by decide)), if_neg (fun w => by rcases hch with e | e | e | e <;> rw [e] at w <;> exact absurd w (by decide)), if_neg (fun w => by rcases hch with e | e | e | e <;> rw [e] at w <;> exact absurd w (by decide)), hpb, nI_clamp (by omega)]
    have hbt := bv_times hl hm hs h (by omega) hR (hsh j hj).2
    have hz' : mxStep L sh z i (L.getD i 0) = (upd z.1 (rfDp σ i) (rfJo (r.2.1 (rfDp σ i)) (r.2.2 (rfDp σ i)) (mxTimes L (nI (i + 1)) (pr j))), z.2.1, nI (rfDp σ i)) := by
      unfold mxStep
      rw [if_neg hn, q3, xat_nI (by decide) hj, (hsh j hj).1, join_up (by omega) hz, (pend_join hP0 hbt).1]
    rw [hz', hr']
    refine ⟨rfl, fun e he => pend_up (hPe e he) (pk_un (by omega)) rfl rfl rfl, Or.inr ⟨by omega, (hsh j hj).2, ?_, ?_⟩⟩
    · show BV (upd z.1 _ _ _); rw [pk_us]; exact (pend_join hP0 hbt).2
    · show upd z.1 _ _ _ = _
      rw [pk_us, tvOf, if_pos rfl]
  · -- a digit
    obtain ⟨dg, hdg, e1, e2⟩ := dig_of q2 q3
    have hne : ∀ x, x < 48 → ¬ L.getD i 0 = nI x := fun x hx w => by rw [e2, nI_eq (by omega) (by omega)] at w; omega
    have hn : pnOf (L.getD i 0) = (-1) := by
      rcases pn_cases (L.getD i 0) with w | ⟨j, hj, w⟩
      · exact w
      · rcases pn_char hj w with u | u | u | u <;> rw [u] at q3 <;> exact absurd q3 (by decide)
    have hn94 : ¬ (L.getD i 0 = nI 43 ∨ L.getD i 0 = nI 94) := fun w => w.elim (hne 43 (by omega)) (fun u => by rw [u] at q3; exact absurd q3 (by decide))
    have hz' : mxStep L sh z i (L.getD i 0) = z := by
      unfold mxStep; rw [if_pos hn, if_neg (hne 40 (by omega)), if_neg (hne 41 (by omega)), if_neg hn94]
    have hr' : rfMkS pr (rfDp σ i) (L.getD i 0) r = (rfCut (r.1 * (L.getD i 0 - nI 48)), r.2.1, r.2.2) := by
      unfold rfMkS; rw [if_neg (hne 40 (by omega)), if_neg hn94, if_neg (hne 41 (by omega)), if_neg (hne 42 (by omega)), if_pos ⟨q2, q3⟩]
    obtain ⟨w1, w2, w3, w4⟩ := hst.elim (fun w => by omega) id
    rw [hz', hr', q5]
    refine ⟨hz, hPe, Or.inr ⟨by omega, dig_BV q2 q3 w2, w3, ?_⟩⟩
    rw [w4, q, q4]
    unfold tvOf
    rw [if_neg (by omega), if_pos rfl, hfs, if_neg (by omega), if_neg (by omega)]
  · -- a sign between
    subst q3
    rw [q4] at *
    obtain ⟨w1, w2, w3, w4⟩ := hst.elim (fun w => by omega) id
    have hne : ∀ x, ¬ x = 43 → ¬ x = 94 → x < 200 → ¬ L.getD i 0 = nI x := fun x h43 h94 hx w => by
      rcases q2 with u | u <;> rw [u, nI_eq (by omega) (by omega)] at w <;> omega
    have hn : pnOf (L.getD i 0) = (-1) := by rcases q2 with u | u <;> rw [u] <;> decide
    have htv : tvOf L p i r.1 = r.1 := by
      unfold tvOf
      rcases q with u | u
      · rw [if_pos u]; unfold mxTimes; rw [hfs, if_neg (hne 42 (by omega) (by omega) (by omega))]
      · rw [if_neg (by omega), if_neg (by omega)]
    rw [htv] at w4
    have hz' : mxStep L sh z i (L.getD i 0) = (z.1, upd z.2.1 (rfDp σ i) (L.getD i 0), nI (rfDp σ i)) := by
      unfold mxStep; rw [if_pos hn, if_neg (hne 40 (by omega) (by omega) (by omega)), if_neg (hne 41 (by omega) (by omega) (by omega)), if_pos q2, hz, xput_nI (by decide) (by omega)]
    have hr' : rfMkS pr (rfDp σ i) (L.getD i 0) r = (r.1, upd r.2.1 (rfDp σ i) (z.1 (rfDp σ i)), upd r.2.2 (rfDp σ i) (L.getD i 0)) := by
      unfold rfMkS; rw [if_neg (hne 40 (by omega) (by omega) (by omega)), if_pos q2, ← w4]
    rw [hz', hr']
    refine ⟨rfl, fun e he => pend_up (hPe e he) rfl (pk_un (by omega)) (pk_un (by omega)) (pk_un (by omega)), Or.inl ⟨rfl, Or.inr ⟨?_, ?_, ?_, ?_⟩⟩⟩
    · show upd r.2.2 _ _ _ = _ ∨ upd r.2.2 _ _ _ = _; rw [pk_us]; exact q2
    · show upd z.2.1 _ _ _ = upd r.2.2 _ _ _; rw [pk_us, pk_us]
    · show z.1 _ = upd r.2.1 _ _ _; rw [pk_us]
    · show BV (upd r.2.1 _ _ _); rw [pk_us]; exact w3
  · -- a star
    subst q3
    rw [q4] at *
    obtain ⟨w1, w2, w3, w4⟩ := hst.elim (fun w => by omega) id
    have hn : pnOf (L.getD i 0) = (-1) := by rw [q2]; decide
    have hz' : mxStep L sh z i (L.getD i 0) = z := by
      unfold mxStep; rw [if_pos hn, if_neg (by rw [q2]; decide), if_neg (by rw [q2]; decide), if_neg (by rw [q2]; decide)]
    have hr' : rfMkS pr (rfDp σ i) (L.getD i 0) r = r := by
      unfold rfMkS; rw [if_neg (by rw [q2]; decide), if_neg (by rw [q2]; decide), if_neg (by rw [q2]; decide), if_pos q2]
    rw [hz', hr']
    refine ⟨hz, hPe, Or.inr ⟨by omega, w2, w3, ?_⟩⟩
    rw [w4, q]
    unfold tvOf
    rw [if_pos rfl, if_neg (by omega), if_pos rfl]
    unfold mxTimes
    rw [hfs, if_pos q2, cut_min, nI_add]
  · -- a closing bracket
    subst q4
    obtain ⟨w1, w2, w3, w4⟩ := hst.elim (fun w => by omega) id
    have hn : pnOf (L.getD i 0) = (-1) := by rw [q2]; decide
    have htv : tvOf L p i r.1 = r.1 := by
      unfold tvOf
      rcases q with u | u
      · rw [if_pos u]; unfold mxTimes; rw [hfs, if_neg (by rw [q2]; decide)]
      · rw [if_neg (by omega), if_neg (by omega)]
    rw [htv] at w4
    have hP0 : Pend z r d' := hPe d' (by omega)
    have hbt := bv_times hl hm hs h (by omega) hR w3
    have hz' : mxStep L sh z i (L.getD i 0) = (upd z.1 d' (rfJo (r.2.1 d') (r.2.2 d') (mxTimes L (nI (i + 1)) (z.1 (rfDp σ i)))), z.2.1, nI d') := by
      unfold mxStep
      rw [if_pos hn, if_neg (by rw [q2]; decide), if_pos q2, hz, xat_nI (by decide) (by omega), join_up (z := (z.1, z.2.1, nI (rfDp σ i) - nI 1)) (d := d') (by omega) (by show nI (rfDp σ i) - nI 1 = _; rw [← q5]; exact sub1e d')]
      rw [(pend_join (z := (z.1, z.2.1, nI (rfDp σ i) - nI 1)) (r := r) (e := d') hP0 hbt).1]
    have hr' : rfMkS pr (rfDp σ i) (L.getD i 0) r = (z.1 (rfDp σ i), r.2.1, r.2.2) := by
      unfold rfMkS; rw [if_neg (by rw [q2]; decide), if_neg (by rw [q2]; decide), if_pos q2, ← w4]
    rw [hz', hr']
    refine ⟨rfl, fun e he => pend_up (hPe e (by omega)) (pk_un (by omega)) rfl rfl rfl, Or.inr ⟨by omega, w3, ?_, ?_⟩⟩
    · show BV (upd z.1 _ _ _); rw [pk_us]; exact (pend_join hP0 hbt).2
    · show upd z.1 _ _ _ = _
      rw [pk_us, tvOf, if_pos rfl]
theorem mk_eq (hl : L.length = m) (hm : m ≤ 60) (hs : ∀ j, j < m → L.getD j 0 = σ (10 + j)) (h : (rdAll L).2 = 0) (hsh : ∀ j, j < 4 → sh j = pr j ∧ BV (pr j)) (z0 : MZ) (f6 f7 : Nat → Int32) : mxOf L sh z0 = rfMakes σ pr f6 f7 m ∧ BV (mxOf L sh z0) := by
  have hI : ∀ i, i ≤ m → MI L σ i (mxN L sh z0 i) (rfMkN σ pr f6 f7 i) := fun i => by
    induction i with
    | zero =>
      intro _
      refine ⟨0, ⟨by omega, Nat.zero_le _, rfl⟩, rfl, fun e he => absurd he (Nat.not_lt_zero e), Or.inl ⟨rfl, Or.inl ⟨?_, ?_, ?_⟩⟩⟩
      · show upd f7 0 (nI 0) 0 = nI 0; exact if_pos rfl
      · show xput z0.1 7 (nI 0) (nI 0) 0 = nI 0; rw [xput_nI (by decide) (by omega)]; exact if_pos rfl
      · show xput z0.2.1 7 (nI 0) (nI 43) 0 = nI 43; rw [xput_nI (by decide) (by omega)]; exact if_pos rfl
    | succ i ih =>
      intro hi
      rw [mxN, rfMkN]
      exact mi_step hl hm hs h hsh (by omega) (ih (by omega))
  obtain ⟨p, hp, hz, hPe, hst⟩ := hI m (Nat.le_refl m)
  obtain ⟨h1, h2, h3⟩ := run_ok hl hs h
  rw [hp.2.2] at h3
  have hd0 : rfDp σ m = 0 := by
    have := h3.1
    rw [← nI_0] at this
    exact (nI_eq (by have := hp.2.1; omega) (by omega)).mp this
  have hp13 : p = 1 ∨ p = 3 := h3.2.elim (fun w => Or.inl ((nI_eq (by have := hp.1; omega) (by omega)).mp w)) (fun w => Or.inr ((nI_eq (by have := hp.1; omega) (by omega)).mp w))
  obtain ⟨w1, w2, w3, w4⟩ := hst.elim (fun w => by omega) id
  rw [hd0] at w3 w4
  have htv : tvOf L p m (rfMkN σ pr f6 f7 m).1 = (rfMkN σ pr f6 f7 m).1 := by
    unfold tvOf
    rcases hp13 with u | u
    · rw [if_pos u]; unfold mxTimes; rw [fs_out (by omega) (by omega), if_neg (by decide)]
    · rw [if_neg (by omega), if_neg (by omega)]
  rw [htv] at w4
  have he : mxOf L sh z0 = (mxN L sh z0 m).1 0 := by unfold mxOf; rw [hl, xat_nI (by decide) (by omega)]
  rw [he]
  exact ⟨w4, w3⟩
end
