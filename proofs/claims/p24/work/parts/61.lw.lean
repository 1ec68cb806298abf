/-! 61.lw: rows for long rows; contracts of the law's own methods; the law's picture -/
abbrev EL (E : XE) : Prop := E.2.2.1[1]? = some (E.2.1 3, .long)
abbrev XL (E : XE) (a n : Nat) (f : Nat → Int64) (H : Heap) : Prop := va_at E.1 vwCl (a, .inl (E.2.1 3, n, .inr (.inl f))) H
def updL (f : Nat → Int64) (k : Nat) (x : Int64) : Nat → Int64 := fun j => if j = k then x else f j
theorem updL_s {f : Nat → Int64} {k : Nat} {x : Int64} : updL f k x k = x := if_pos rfl
theorem updL_n {f : Nat → Int64} {k j : Nat} {x : Int64} (h : ¬ j = k) : updL f k x j = f j := if_neg h
/-- a method that hands back a long, and only reads -/
def Rl (l : Launch) (E : XE) (y : MethodName) (b : ByteArray) (n : Nat) (r : Option FieldType) (rm : Room) (av : List Value) (H : Heap) (v : Int64) : Prop :=
  Met l y (wd y b n r) rm (va_Pc av (fun U => EV E (fun _ => False) U ∧ U.heap = H)) (va_Ql (fun (x : Int64) (_ : Unit) => x = v) (fun _ t => t.heap = H) (fun _ => False)) 0 0 (fun _ => False)
section XLs
variable {p : Program} {l : Launch} {e : Env} {R : Room} {s : State} {m : MethodId} {args : Array Value} {below : List Frame} {meth : Method} {c : Code} {H : Heap} {locs : List Loc} {cells slots : Nat} {Q : State → Prop}
variable {E : XE} {A : Nat → Prop} {cc : ByteArray} {nL n idx pc a : Nat} {own : String} {st rest : List Value} {ls : Array Slot}
theorem x_topl {x y : Int64} (h : x = y) (k : W p l e R s m args below meth c H locs cells slots Q (F0 m pc ls (.long y :: rest))) : W p l e R s m args below meth c H locs cells slots Q (F0 m pc ls (.long x :: rest)) := h ▸ k
theorem x_lald {f : Nat → Int64} (S : CallFix p m c cc nL s args GW own) (hE : EV E A s) (hL : EL E) (ha : XL E a n f H) {i : Int32} (k : Nat) (hi : i = nI k) (hk : k < n) (hn : n < 2 ^ 31) (hdg : decode cc pc = .ok (.laload, 1))
    (kk : W p l e R s m args below meth c H locs cells slots Q (F0 m (pc + 1) ls (.long (f k) :: rest))) : W p l e R s m args below meth c H locs cells slots Q (F0 m pc ls (.int i :: .ref a :: rest)) := by
  subst hi
  have ht : (xtys E)[3]? = some (E.2.1 3, .long) := hL
  refine va_lald (ws := [(a, .inl (E.2.1 3, n, .inr (.inl f)))]) S.1 S.2.1 hE.1.1 (va_P1 ha) 0 3 rfl ht (vp_in_nI hk hn) hdg ?_
  rw [nI_clamp (by omega)]
  exact kk
theorem x_last {f : Nat → Int64} (S : CallFix p m c cc nL s args GW own) (hE : EV E A s) (hL : EL E) (hS : va_S A s.heap H locs) (hA : A a) (ha : XL E a n f H) {i : Int32} {x : Int64} (k : Nat) (hi : i = nI k) (hk : k < n) (hn : n < 2 ^ 31) (hdg : decode cc pc = .ok (.lastore, 1))
    (kk : ∀ (H1 : Heap) (locs1 : List Loc), XL E a n (updL f k x) H1 → Out (fun q => q = a) H H1 → va_S A s.heap H1 locs1 → W p l e R s m args below meth c H1 locs1 cells slots Q (F0 m (pc + 1) ls rest)) : W p l e R s m args below meth c H locs cells slots Q (F0 m pc ls (.long x :: .int i :: .ref a :: rest)) := by
  subst hi
  have ht : (xtys E)[3]? = some (E.2.1 3, .long) := hL
  have hin : vp_in (nI k) n := vp_in_nI hk hn
  refine W.last S.1 S.2.1 ha ((hE.1.1.2 3 _ ht).1 n (fun j => .long (f j))) (fun q => by cases q) (by show ¬ (_ < 0 ∨ (arrV _ _ _).slots.size ≤ _); rw [arrV_size]; exact hin) rfl rfl hdg fun H1 e z oq => ?_
  refine kk H1 _ ?_ ⟨z, oq⟩ (hS.put z oq hA)
  show H1[a]? = some (vp_cell _ _)
  rw [e]
  rw [vp_cell_l, vp_cell_l, arrV_store, nI_clamp (by omega)]
  congr 2
  funext q
  by_cases hq : q = k
  · subst hq
    simp [updV, updL]
  · simp [updV, updL, hq]
theorem xk_L {ar : Array Value} {v : Int64} (hr : va_Run p l e R s m args below meth c H locs cells slots 0 0 (F0 m pc ls st) rest (va_Ql (fun (x : Int64) (_ : Unit) => x = v) (fun _ t => t.heap = H) (fun _ => False) ar) (fun _ => False))
    (kk : W p l e R s m args below meth c H locs cells slots Q (F0 m (pc + 3) ls (.long v :: rest))) : W p l e R s m args below meth c H locs cells slots Q (F0 m pc ls st) := by
  intro T hT X
  obtain ⟨w, st₀, t, T', L, h0, X', hL, e1, e2, ⟨⟨r, u, hv, hp, hb⟩, hz, hk⟩, st⟩ := hr T hT X
  cases hv
  have hL0 : L = [] := by
    cases L with
    | nil => rfl
    | cons q _ => exact (hL q List.mem_cons_self).elim
  subst hL0
  rw [List.append_nil] at X'
  have hp : r = v := hp
  subst hp
  obtain ⟨t2, a1, b1⟩ := kk T' (e1.trans hb) X'
  exact ⟨t2, st t2 a1, b1⟩
theorem x_retL {v x : Int64} (S : CallFix p m c cc nL s args GW own) (hr : meth.sig.returnType = some .long) (hlk : meth.locks = false) (hv : x = v) (hdg : decode cc pc = .ok (.lreturn, 1)) :
    W p l e R s m args below meth c s.heap [] 0 0 (MQ below (va_Ql (fun (x : Int64) (_ : Unit) => x = v) (fun _ t => t.heap = s.heap) (fun _ => False)) args s 0 0 (fun _ => False)) (F0 m pc ls [.long x]) :=
  W.lret S.1 S.2.1 hr (fun t ht _ => ⟨⟨x, (), rfl, hv, ht⟩, by rw [ht]; exact Nat.le_refl _, fun q _ _ => by rw [ht]⟩) (fun q h => by cases h) hdg hlk
end XLs
/-- the law's long row: note k's eight fields are those of σ -/
def LcP (E : XE) (b : Nat) (σ : Nat → Int32) (H : Heap) : Prop := ∃ κ : Nat → Int64, XL E b 64 κ H ∧ ∀ k w, k < 64 → w < 8 → nf σ k w = fld w (κ k)
def LwP (E : XE) (a b : Nat) (σ : Nat → Int32) (H : Heap) : Prop := XI E a 9 σ H ∧ LcP E b σ H
theorem LcP.fr {E : XE} {b : Nat} {σ : Nat → Int32} {H H1 : Heap} (h : LcP E b σ H) (hq : H1[b]? = H[b]?) : LcP E b σ H1 := by
  obtain ⟨κ, h1, h2⟩ := h
  exact ⟨κ, va_at.kept h1 hq, h2⟩
theorem LcP.ext {E : XE} {b : Nat} {σ σ' : Nat → Int32} {H : Heap} (h : LcP E b σ H) (e : ∀ k w, k < 64 → w < 8 → nf σ' k w = nf σ k w) : LcP E b σ' H := by
  obtain ⟨κ, h1, h2⟩ := h
  exact ⟨κ, h1, fun k w hk hw => (e k w hk hw).trans (h2 k w hk hw)⟩
theorem LwP.ext {E : XE} {a b : Nat} {σ σ' : Nat → Int32} {H : Heap} (h : LwP E a b σ H) (e0 : ∀ j, j < 9 → σ' j = σ j) (e : ∀ k w, k < 64 → w < 8 → nf σ' k w = nf σ k w) : LwP E a b σ' H :=
  ⟨xi_ext h.1 (fun k hk => (e0 k hk).symm), h.2.ext e⟩
theorem LwP.fr {E : XE} {a b : Nat} {σ : Nat → Int32} {H H1 : Heap} (h : LwP E a b σ H) (ha : H1[a]? = H[a]?) (hb : H1[b]? = H[b]?) : LwP E a b σ H1 := ⟨va_at.kept h.1 ha, h.2.fr hb⟩
/-- a field is written -/
theorem lc_put {κ : Nat → Int64} {σ : Nat → Int32} (hU : ∀ k w, k < 64 → w < 8 → nf σ k w = fld w (κ k)) {k0 : Nat} {v : Int64} {f : Nat → Int32} (hv : ∀ w, w < 8 → fld w v = f w) {σ' : Nat → Int32} (e1 : ∀ w, w < 8 → nf σ' k0 w = f w) (e2 : ∀ k w, ¬ k = k0 → w < 8 → nf σ' k w = nf σ k w) : ∀ k w, k < 64 → w < 8 → nf σ' k w = fld w (updL κ k0 v k) := by
  intro k w hk hw
  by_cases c : k = k0
  · subst c; rw [updL_s, hv w hw, e1 w hw]
  · rw [updL_n c, e2 k w c hw, hU k w hk hw]
theorem bI_iff {P P' : Prop} [Decidable P] [Decidable P'] (h : P ↔ P') : bI P = bI P' := by
  by_cases c : P
  · rw [← bI_t c, ← bI_t (h.mp c)]
  · rw [← bI_f c, ← bI_f (fun z => c (h.mpr z))]
theorem pl_1 : ∀ m, m < 8 → ¬ nI m ≤ 0 → ¬ nI 5 ≤ nI m → (nI 1 ≤ nI m ∧ nI m ≤ nI 4) := by decide +kernel
theorem pl_0 : ∀ m, m < 8 → (nI m ≤ 0 ∨ nI 5 ≤ nI m) → ¬ (nI 1 ≤ nI m ∧ nI m ≤ nI 4) := by decide +kernel
theorem fld_m {w : Nat} {v : Int64} : ∃ m, m < 2 ^ fBt w ∧ fld w v = nI m := ⟨_, fvN_lt, rfl⟩
theorem pl_t {v : Int64} (h1 : ¬ fld 3 v ≤ 0) (h2 : ¬ nI 5 ≤ fld 3 v) : nI 1 ≤ fld 3 v ∧ fld 3 v ≤ nI 4 := by
  obtain ⟨m, hm, e⟩ := @fld_m 3 v
  rw [e] at h1 h2 ⊢
  exact pl_1 m hm h1 h2
theorem pl_f {v : Int64} (h : fld 3 v ≤ 0 ∨ nI 5 ≤ fld 3 v) : ¬ (nI 1 ≤ fld 3 v ∧ fld 3 v ≤ nI 4) := by
  obtain ⟨m, hm, e⟩ := @fld_m 3 v
  rw [e] at h ⊢
  exact pl_0 m hm h
