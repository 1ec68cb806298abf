/-! rows on cells: fields, arrays, statics -/
theorem va_S.put1 {A : Nat → Prop} {H0 H H1 : Heap} {locs : List Loc} {a k : Nat} (h : va_S A H0 H locs) (hO : Out (fun q => q = a) H H1) (ha : A a) : va_S A H0 H1 (locs ++ [⟨a, k⟩]) :=
  h.put hO.1 (fun q hq => hO.2 q hq) ha
theorem xo_get {E : XE} {a ci : Nat} {fs : List Value} {H H1 : Heap} (h : XO E a ci fs H) (hq : H1[a]? = H[a]?) : XO E a ci fs H1 := va_at.kept h hq
section XC
variable {p : Program} {l : Launch} {e : Env} {R : Room} {s : State} {m : MethodId} {args : Array Value} {below : List Frame} {meth : Method} {c : Code} {H : Heap} {locs : List Loc} {cells slots : Nat} {Q : State → Prop}
variable {E : XE} {A : Nat → Prop} {cc : ByteArray} {nL n N idx pc a ci : Nat} {own C : String} {T : u_T} {fs rest : List Value} {ls : Array Slot}
theorem x_get (S : CallFix p m c cc nL s args GW own) (hE : EV E A s) (ho : XO E a ci fs H) (hc : vwCl[ci]? = some (C, T, N)) (hin : ∀ w ∈ u_ws C T N, w ∈ GW) (k : Nat) (hk : k < N) {v : Value} (hv : fs[k]? = some v)
    (kl : Cond.fieldLink own idx C (T k).2.1 (T k).2.2.1 ∈ GW) (hsame : (T k).1 = C) (hdg : decode cc pc = .ok (.getfield idx, 3))
    (kk : W p l e R s m args below meth c H locs cells slots Q (F0 m (pc + 3) ls (v :: rest))) : W p l e R s m args below meth c H locs cells slots Q (F0 m pc ls (.ref a :: rest)) :=
  va_get (ws := [(a, .inr (ci, fs))]) S.1 S.2.1 S.2.2.2.2 hin S.2.2.2.1 hE.1.1 (va_P1 ho) 0 rfl hc k hk (S.2.2.2.2 _ kl) (fun _ h => by rw [← hsame]; exact h) hv hdg kk
theorem x_getN (S : CallFix p m c cc nL s args GW own) (hE : EV E A s) (ho : XO E a ci fs H) (hc : vwCl[ci]? = some (C, T, N)) (hin : ∀ w ∈ u_ws C T N, w ∈ GW) (k : Nat) (hk : k < N) {v : Value} (hv : fs[k]? = some v)
    (kl : Cond.fieldLinkNest own idx C (T k).2.1 (T k).2.2.1 "ChoirBox" ∈ NWL) (hsame : (T k).1 = C) (hdg : decode cc pc = .ok (.getfield idx, 3))
    (kk : W p l e R s m args below meth c H locs cells slots Q (F0 m (pc + 3) ls (v :: rest))) : W p l e R s m args below meth c H locs cells slots Q (F0 m pc ls (.ref a :: rest)) :=
  va_getN (ws := [(a, .inr (ci, fs))]) S.1 S.2.1 S.2.2.2.2 hin S.2.2.2.1 hE.1.1 (va_P1 ho) 0 rfl hc k hk (hE.1.2 _ kl) (fun _ h => by rw [← hsame]; exact h) hv hdg kk
theorem x_put (S : CallFix p m c cc nL s args GW own) (hE : EV E A s) (hS0 : va_S A s.heap H locs) (ha : A a) (ho : XO E a ci fs H) (hc : vwCl[ci]? = some (C, T, N)) (hin : ∀ w ∈ u_ws C T N, w ∈ GW)
    (ty0 : Nat → FieldType) (hty : ∀ k, k < N → parseFieldDescriptor (T k).2.2.1 = some (ty0 k)) (hnm : ∀ a, a < N → ∀ b, b < N → a ≠ b → (T a).2.1 ≠ (T b).2.1) (k : Nat) (hk : k < N) (hl : k < fs.length)
    (kl : Cond.fieldLink own idx C (T k).2.1 (T k).2.2.1 ∈ GW) (hsame : (T k).1 = C) (hfin : (T k).2.2.2 = false) {v : Value} (hn : narrow (ty0 k) v = v) (hfit : fits (ty0 k) v = true)
    (hdg : decode cc pc = .ok (.putfield idx, 3))
    (kk : ∀ (H1 : Heap) (locs1 : List Loc), XO E a ci (fs.set k v) H1 → Out (fun q => q = a) H H1 → va_S A s.heap H1 locs1 → W p l e R s m args below meth c H1 locs1 cells slots Q (F0 m (pc + 3) ls rest)) : W p l e R s m args below meth c H locs cells slots Q (F0 m pc ls (v :: .ref a :: rest)) := by
  have hts := S.2.2.2.2
  have hap := va_apart (own := own) hts hin ty0 hty hnm hE.1.1 hc
  obtain ⟨r, h1, cell, q1, q2, q3, q4⟩ := ho
  have hr : r = (C, T, N) := Option.some.inj (h1.symm.trans hc)
  subst hr
  obtain ⟨hS, hfc, kC, hkC, hkind⟩ := hE.1.1.1 ci _ hc
  obtain ⟨cf, kf, fi, f, hi, hsl⟩ := hS k hk
  have hlay := hts _ (hin _ (u_in_lay hk))
  unfold u_lay at hlay
  rw [if_neg (by rw [hfin]; decide)] at hlay
  have hst := (u_facts hfc hkC (u_lays hts hin hk) hi).1
  have h6 := u_store hfc hkC hkind hlay hi (hty k hk) hn hfit
  refine W.putK S.1 S.2.1 (f := f) ⟨S.2.2.2.1, hts _ kl, ⟨_, _, _, by rw [← hsame]; exact hi⟩, hst⟩ (by rw [q2]; exact h6) q1 q3 (by rw [hsl]; exact k2_hasslot (q4 k hk)) rfl rfl hdg fun H' e1 e2 e3 => ?_
  rw [hsl] at e1 ⊢
  exact kk H' _ ⟨_, hc, t_OB.to (V := updV (vp_V fs) k v) ⟨_, e1, q2, q3, t_set q4 hap hk v⟩ (fun j _ => vp_updV_set hl v j)⟩ ⟨e2, e3⟩ (hS0.put e2 e3 ha)
theorem x_putN (S : CallFix p m c cc nL s args GW own) (hE : EV E A s) (hS0 : va_S A s.heap H locs) (ha : A a) (ho : XO E a ci fs H) (hc : vwCl[ci]? = some (C, T, N)) (hin : ∀ w ∈ u_ws C T N, w ∈ GW)
    (ty0 : Nat → FieldType) (hty : ∀ k, k < N → parseFieldDescriptor (T k).2.2.1 = some (ty0 k)) (hnm : ∀ a, a < N → ∀ b, b < N → a ≠ b → (T a).2.1 ≠ (T b).2.1) (k : Nat) (hk : k < N) (hl : k < fs.length)
    (kl : Cond.fieldLinkNest own idx C (T k).2.1 (T k).2.2.1 "ChoirBox" ∈ NWL) (hsame : (T k).1 = C) (hfin : (T k).2.2.2 = false) {v : Value} (hn : narrow (ty0 k) v = v) (hfit : fits (ty0 k) v = true)
    (hdg : decode cc pc = .ok (.putfield idx, 3))
    (kk : ∀ (H1 : Heap) (locs1 : List Loc), XO E a ci (fs.set k v) H1 → Out (fun q => q = a) H H1 → va_S A s.heap H1 locs1 → W p l e R s m args below meth c H1 locs1 cells slots Q (F0 m (pc + 3) ls rest)) : W p l e R s m args below meth c H locs cells slots Q (F0 m pc ls (v :: .ref a :: rest)) := by
  have hts := S.2.2.2.2
  have hap := va_apart (own := own) hts hin ty0 hty hnm hE.1.1 hc
  obtain ⟨r, h1, cell, q1, q2, q3, q4⟩ := ho
  have hr : r = (C, T, N) := Option.some.inj (h1.symm.trans hc)
  subst hr
  obtain ⟨hS, hfc, kC, hkC, hkind⟩ := hE.1.1.1 ci _ hc
  obtain ⟨cf, kf, fi, f, hi, hsl⟩ := hS k hk
  have hlay := hts _ (hin _ (u_in_lay hk))
  unfold u_lay at hlay
  rw [if_neg (by rw [hfin]; decide)] at hlay
  have hst := (u_facts hfc hkC (u_lays hts hin hk) hi).1
  have h6 := u_store hfc hkC hkind hlay hi (hty k hk) hn hfit
  refine va_WputK S.1 S.2.1 (f := f) S.2.2.2.1 (va_Nw.use rfl (hE.1.2 _ kl)) (by rw [← hsame]; exact hi) hst (by rw [q2]; exact h6) q1 q3 (by rw [hsl]; exact k2_hasslot (q4 k hk)) rfl rfl hdg fun H' e1 e2 e3 => ?_
  rw [hsl] at e1 ⊢
  exact kk H' _ ⟨_, hc, t_OB.to (V := updV (vp_V fs) k v) ⟨_, e1, q2, q3, t_set q4 hap hk v⟩ (fun j _ => vp_updV_set hl v j)⟩ ⟨e2, e3⟩ (hS0.put e2 e3 ha)
-- arrays
theorem x_iald {f : Nat → Int32} (S : CallFix p m c cc nL s args GW own) (hE : EV E A s) (ha : XI E a n f H) {i : Int32} (k : Nat) (hi : i = nI k) (hk : k < n) (hn : n < 2 ^ 31) (hdg : decode cc pc = .ok (.iaload, 1))
    (kk : W p l e R s m args below meth c H locs cells slots Q (F0 m (pc + 1) ls (.int (f k) :: rest))) : W p l e R s m args below meth c H locs cells slots Q (F0 m pc ls (.int i :: .ref a :: rest)) := by
  subst hi
  refine va_iald (ws := [(a, .inl (E.2.1 0, n, .inl f))]) S.1 S.2.1 hE.1.1 (va_P1 ha) 0 0 rfl rfl (vp_in_nI hk hn) hdg ?_
  rw [nI_clamp (by omega)]
  exact kk
theorem x_ialdI {f : Nat → Int32} (S : CallFix p m c cc nL s args GW own) (hE : EV E A s) (ha : XI E a n f H) {i : Int32} (hin : vp_in i n) (hdg : decode cc pc = .ok (.iaload, 1))
    (kk : W p l e R s m args below meth c H locs cells slots Q (F0 m (pc + 1) ls (.int (f i.toNatClampNeg) :: rest))) : W p l e R s m args below meth c H locs cells slots Q (F0 m pc ls (.int i :: .ref a :: rest)) :=
  va_iald (ws := [(a, .inl (E.2.1 0, n, .inl f))]) S.1 S.2.1 hE.1.1 (va_P1 ha) 0 0 rfl rfl hin hdg kk
theorem x_caldI {f : Nat → Int32} (S : CallFix p m c cc nL s args GW own) (hE : EV E A s) (ha : XC E a n f H) {i : Int32} (hin : vp_in i n) (hdg : decode cc pc = .ok (.caload, 1))
    (kk : W p l e R s m args below meth c H locs cells slots Q (F0 m (pc + 1) ls (.int (f i.toNatClampNeg) :: rest))) : W p l e R s m args below meth c H locs cells slots Q (F0 m pc ls (.int i :: .ref a :: rest)) :=
  va_cald (ws := [(a, .inl (E.2.1 1, n, .inl f))]) S.1 S.2.1 hE.1.1 (va_P1 ha) 0 1 rfl rfl hin hdg kk
theorem x_iastI {f : Nat → Int32} (S : CallFix p m c cc nL s args GW own) (hE : EV E A s) (hS : va_S A s.heap H locs) (hA : A a) (ha : XI E a n f H) {i x : Int32} (hin : vp_in i n) (hdg : decode cc pc = .ok (.iastore, 1))
    (kk : ∀ (H1 : Heap) (locs1 : List Loc), XI E a n (upd f i.toNatClampNeg x) H1 → Out (fun q => q = a) H H1 → va_S A s.heap H1 locs1 → W p l e R s m args below meth c H1 locs1 cells slots Q (F0 m (pc + 1) ls rest)) : W p l e R s m args below meth c H locs cells slots Q (F0 m pc ls (.int x :: .int i :: .ref a :: rest)) := by
  refine W.iast S.1 S.2.1 ha ((hE.1.1.2 0 _ rfl).1 n (fun j => .int (f j))) (fun q => by cases q) (by show ¬ (i < 0 ∨ (arrV _ _ _).slots.size ≤ _); rw [arrV_size]; exact hin) rfl rfl hdg fun H1 e z oq => ?_
  refine kk H1 _ ?_ ⟨z, oq⟩ (hS.put z oq hA)
  show H1[a]? = some (vp_cell _ _)
  rw [e]
  rw [vp_cell_i, vp_cell_i, arrV_store]
  congr 2
  funext q
  by_cases hq : q = i.toNatClampNeg
  · subst hq
    simp [updV, upd]
  · simp [updV, upd, hq]
theorem x_iast {f : Nat → Int32} (S : CallFix p m c cc nL s args GW own) (hE : EV E A s) (hS : va_S A s.heap H locs) (hA : A a) (ha : XI E a n f H) {i x : Int32} (k : Nat) (hi : i = nI k) (hk : k < n) (hn : n < 2 ^ 31) (hdg : decode cc pc = .ok (.iastore, 1))
    (kk : ∀ (H1 : Heap) (locs1 : List Loc), XI E a n (upd f k x) H1 → Out (fun q => q = a) H H1 → va_S A s.heap H1 locs1 → W p l e R s m args below meth c H1 locs1 cells slots Q (F0 m (pc + 1) ls rest)) : W p l e R s m args below meth c H locs cells slots Q (F0 m pc ls (.int x :: .int i :: .ref a :: rest)) := by
  subst hi
  refine x_iastI S hE hS hA ha (vp_in_nI hk hn) hdg (fun H1 locs1 h1 h2 h3 => ?_)
  rw [nI_clamp (by omega)] at h1
  exact kk H1 locs1 h1 h2 h3
theorem x_castI {f : Nat → Int32} (S : CallFix p m c cc nL s args GW own) (hE : EV E A s) (hS : va_S A s.heap H locs) (hA : A a) (ha : XC E a n f H) {i x : Int32} (hin : vp_in i n) (hx : narrow .char (.int x) = .int x) (hdg : decode cc pc = .ok (.castore, 1))
    (kk : ∀ (H1 : Heap) (locs1 : List Loc), XC E a n (upd f i.toNatClampNeg x) H1 → Out (fun q => q = a) H H1 → va_S A s.heap H1 locs1 → W p l e R s m args below meth c H1 locs1 cells slots Q (F0 m (pc + 1) ls rest)) : W p l e R s m args below meth c H locs cells slots Q (F0 m pc ls (.int x :: .int i :: .ref a :: rest)) := by
  refine W.cast S.1 S.2.1 ha ((hE.1.1.2 1 _ rfl).1 n (fun j => .int (f j))) (fun q => by cases q) (by show ¬ (i < 0 ∨ (arrV _ _ _).slots.size ≤ _); rw [arrV_size]; exact hin) rfl rfl hdg fun H1 e z oq => ?_
  refine kk H1 _ ?_ ⟨z, oq⟩ (hS.put z oq hA)
  show H1[a]? = some (vp_cell _ _)
  rw [e, hx]
  rw [vp_cell_i, vp_cell_i, arrV_store]
  congr 2
  funext q
  by_cases hq : q = i.toNatClampNeg
  · subst hq
    simp [updV, upd]
  · simp [updV, upd, hq]
theorem x_alenI {f : Nat → Int32} (S : CallFix p m c cc nL s args GW own) (hE : EV E A s) (ha : XI E a n f H) (hn : n < 2 ^ 31) (hdg : decode cc pc = .ok (.arraylength, 1))
    (kk : W p l e R s m args below meth c H locs cells slots Q (F0 m (pc + 1) ls (.int (nI n) :: rest))) : W p l e R s m args below meth c H locs cells slots Q (F0 m pc ls (.ref a :: rest)) := by
  exact W.alen (n := nI n) S.1 S.2.1 ha ((hE.1.1.2 0 _ rfl).1 n (fun j => .int (f j))) (by show (arrV _ _ _).slots.size.toInt32 = _; rw [arrV_size]; rfl) rfl rfl hdg kk
theorem x_alenC {f : Nat → Int32} (S : CallFix p m c cc nL s args GW own) (hE : EV E A s) (ha : XC E a n f H) (hn : n < 2 ^ 31) (hdg : decode cc pc = .ok (.arraylength, 1))
    (kk : W p l e R s m args below meth c H locs cells slots Q (F0 m (pc + 1) ls (.int (nI n) :: rest))) : W p l e R s m args below meth c H locs cells slots Q (F0 m pc ls (.ref a :: rest)) := by
  exact W.alen (n := nI n) S.1 S.2.1 ha ((hE.1.1.2 1 _ rfl).1 n (fun j => .int (f j))) (by show (arrV _ _ _).slots.size.toInt32 = _; rw [arrV_size]; rfl) rfl rfl hdg kk
theorem x_alenQ {g : Nat → Option Nat} (S : CallFix p m c cc nL s args GW own) (hK : ∃ C, ArrOfT s (E.2.1 2) (.object C)) (ha : XQ E a n g H) (hn : n < 2 ^ 31) (hdg : decode cc pc = .ok (.arraylength, 1))
    (kk : W p l e R s m args below meth c H locs cells slots Q (F0 m (pc + 1) ls (.int (nI n) :: rest))) : W p l e R s m args below meth c H locs cells slots Q (F0 m pc ls (.ref a :: rest)) := by
  obtain ⟨C, hK⟩ := hK
  exact W.alen (n := nI n) S.1 S.2.1 ha (hK n (fun j => va_rf (g j))) (by show (arrV _ _ _).slots.size.toInt32 = _; rw [arrV_size]; rfl) rfl rfl hdg kk
/-- an array that a method only reads, wherever it lies -/
theorem xi_T {f : Nat → Int32} (hE : EV E A s) (ha : XI E a n f H) : va_T .int a n (fun j => .int (f j)) (fun _ => False) s H := by
  refine ⟨_, ha, (hE.1.1.2 0 _ rfl).1 n (fun j => .int (f j)), (fun q => by cases q), ?_, ?_, fun j hj => ?_, fun h => h⟩
  · show n ≤ (arrV _ _ _).slots.size
    rw [arrV_size]; exact Nat.le_refl _
  · show (arrV _ _ _).slots.size.toInt32 = _
    rw [arrV_size]
  · exact arrV_read (E.2.1 0) (fun j => .int (f j)) hj
theorem x_gets (S : CallFix p m c cc nL s args GW own) (hE : EV E A s) (hS : va_S A s.heap H locs) (k : Nat) (hk : k < 7) (kl : Cond.fieldLink own idx "ChoirBox" (st_nm k) "[I" ∈ GW) (hdg : decode cc pc = .ok (.getstatic idx, 3))
    (kk : W p l e R s m args below meth c H locs cells slots Q (F0 m (pc + 3) ls (.ref (E.2.2.2 k) :: rest))) : W p l e R s m args below meth c H locs cells slots Q (F0 m pc ls rest) :=
  va_gets S.1 S.2.1 (hE.2.2.1 k hk).1 hS S.2.2.2.1 (S.2.2.2.2 _ kl) (fun _ h => h) hdg kk
theorem x_getsN (S : CallFix p m c cc nL s args GW own) (hE : EV E A s) (hS : va_S A s.heap H locs) (k : Nat) (hk : k < 7) (kl : Cond.fieldLinkNest own idx "ChoirBox" (st_nm k) "[I" "ChoirBox" ∈ NWL) (hdg : decode cc pc = .ok (.getstatic idx, 3))
    (kk : W p l e R s m args below meth c H locs cells slots Q (F0 m (pc + 3) ls (.ref (E.2.2.2 k) :: rest))) : W p l e R s m args below meth c H locs cells slots Q (F0 m pc ls rest) :=
  va_getsN S.1 S.2.1 (hE.2.2.1 k hk).1 hS S.2.2.2.1 (va_Nw.use rfl (hE.1.2 _ kl)) (fun _ h => h) hdg kk
/-- a row of whole numbers that a method reads: of the heap, or a static one -/
def XR (E : XE) (a n : Nat) (f : Nat → Int32) (H : Heap) : Prop := XI E a n f H ∨ ∃ k, k < 7 ∧ a = E.2.2.2 k ∧ n = st_len k ∧ f = st_val k
theorem xr_i {f : Nat → Int32} (h : XI E a n f H) : XR E a n f H := Or.inl h
theorem xr_s (k : Nat) (hk : k < 7) : XR E (E.2.2.2 k) (st_len k) (st_val k) H := Or.inr ⟨k, hk, rfl, rfl, rfl⟩
theorem xr_T2 {f : Nat → Int32} (hE : EV E A s) (h : XR E a n f s.heap) : va_T .int a n (fun j => .int (f j)) (fun _ => False) s s.heap := by
  rcases h with h | ⟨k, hk, rfl, rfl, rfl⟩
  · exact xi_T hE h
  · exact (hE.2.2.1 k hk).2.narrow (fun _ z => z.elim)
theorem xr_T {f : Nat → Int32} (hE : EV E (fun _ => False) s) (h : XR E a n f s.heap) : va_T .int a n (fun j => .int (f j)) (fun _ => False) s s.heap := by
  rcases h with h | ⟨k, hk, rfl, rfl, rfl⟩
  · exact xi_T hE h
  · exact (hE.2.2.1 k hk).2
end XC
section XCP
variable {p : Program} {l : Launch} {e : Env} {R : Room} {s : State} {m : MethodId} {args : Array Value} {below : List Frame} {meth : Method} {c : Code} {H : Heap} {locs : List Loc} {cells slots : Nat} {Q : State → Prop}
variable {E : XE} {A B : Nat → Prop} {cc : ByteArray} {nL idx pc a a0 n0 n1 : Nat} {own : String} {rest : List Value} {ls : Array Slot} {f g : Nat → Int32}
theorem x_copyi (S : CallFix p m c cc nL s args GW own) (hE : EV E A s) (hS : va_S A s.heap H locs) (hA : A a) (hX : va_T .int a0 n0 (fun j => .int (f j)) B s H) (hc1 : XI E a n1 g H) {sp dp n : Int32} (h1 : ¬ sp < 0) (h2 : ¬ dp < 0) (h3 : ¬ n < 0) (h4 : sp.toNatClampNeg + n.toNatClampNeg ≤ n0) (h5 : dp.toNatClampNeg + n.toNatClampNeg ≤ n1)
    (hsz : ls.size = nL) (hlink : Cond.methodLink own idx arraycopyName ∈ GW) (hnat : Cond.native arraycopyName ∈ GW) (hstat : Cond.static arraycopyName ∈ GW) (hini : Cond.initialized "java/lang/System" ∈ GW)
    (hframes : 1 ≤ R.frames) (hlocals : (rest.map fun v => v.category).sum + (nativeFrameWords "java/lang/System" "arraycopy" 5 + 11) ≤ R.locals) (hdg : decode cc pc = .ok (.invokestatic idx, 3))
    (kk : ∀ (H1 : Heap) (locs1 : List Loc), XI E a n1 (va_cpy f g sp.toNatClampNeg dp.toNatClampNeg n.toNatClampNeg) H1 → Out (fun q => q = a) H H1 → va_S A s.heap H1 locs1 → W p l e R s m args below meth c H1 locs1 cells slots Q (F0 m (pc + 3) ls rest)) : W p l e R s m args below meth c H locs cells slots Q (F0 m pc ls (.int n :: .int dp :: .ref a :: .int sp :: .ref a0 :: rest)) := by
  have nn : ∀ z : Int32, ¬ z < 0 → z.toInt = (z.toNatClampNeg : Int) := by
    intro z hz
    have hz0 : (0 : Int) ≤ z.toInt := by
      have := Int32.not_lt.mp hz
      simpa using Int32.le_iff_toInt_le.mp this
    show z.toInt = ((z.toInt.toNat : Nat) : Int)
    omega
  intro T hT X
  obtain ⟨scr, hc0, hs2, hs3, hs4, -, hs5, -⟩ := hX
  have hc1 : H[a]? = some (vp_cell (E.2.1 0) (n1, .inl g)) := hc1
  obtain ⟨hs6, k0, hk0, cm0, hkk0⟩ := hs2
  obtain ⟨-, k1, hk1, cm1, hkk1⟩ := (hE.1.1.2 0 _ rfl).1 n1 (fun j => .int (g j))
  have hts := S.2.2.2.2
  obtain ⟨vm', X', step⟩ := X.arraycopy S.1 S.2.2.2.1 (hts _ hlink) (hts _ hnat) (hts _ hstat) (hts _ hini) (src := a0) (dst := a) (cs := scr) (cd := vp_cell (E.2.1 0) (n1, .inl g)) (srcPos := sp) (destPos := dp) (n := n) (by rw [hT]; exact hc0) (by rw [hT]; exact hc1)
    hs6 (fun _ h => by cases h) hs3 (fun h => by cases h) hk0 hk1 hkk0 hkk1 (by simp [refKind]) h1 h2 h3
    (by rw [nn sp h1, nn n h3]; omega)
    (by rw [nn dp h2, nn n h3]; show ¬ _ > ((arrV (E.2.1 0) n1 (fun j => .int (g j))).slots.size : Int); rw [arrV_size]; omega)
    (fun vm₁ _ i hi => by
      have e : scr.slots.getD (sp.toNatClampNeg + i) .null = .int (f (sp.toNatClampNeg + i)) := by
        rw [Array.getD_eq_getD_getElem?, hs5 _ (by omega)]
        rfl
      refine ⟨?_, ?_⟩
      · rw [e]
        rfl
      · rw [e]
        exact trivial)
    (g := F0 m pc ls (.int n :: .int dp :: .ref a :: .int sp :: .ref a0 :: rest)) rfl (by rw [S.2.2.1]; exact hsz) (rest := rest) rfl (by rw [S.2.1]; exact hdg) hframes (by show 2 * 0 + _ + _ ≤ _; omega)
  have e1 : copied scr (vp_cell (E.2.1 0) (n1, .inl g)) sp dp n = vp_cell (E.2.1 0) (n1, .inl (va_cpy f g sp.toNatClampNeg dp.toNatClampNeg n.toNatClampNeg)) := va_copiedX (fun z => .int z) scr (E.2.1 0) f g hs5 h4
  rw [e1] at X' step
  have hl : a < H.size := (Array.getElem?_eq_some_iff.mp hc1).1
  have hheap : ((T.setVm vm').setCell a (vp_cell (E.2.1 0) (n1, .inl (va_cpy f g sp.toNatClampNeg dp.toNatClampNeg n.toNatClampNeg)))).heap = H.setIfInBounds a (vp_cell (E.2.1 0) (n1, .inl (va_cpy f g sp.toNatClampNeg dp.toNatClampNeg n.toNatClampNeg))) := by rw [← hT]; rfl
  have oq : ∀ q : Nat, q ≠ a → (H.setIfInBounds a (vp_cell (E.2.1 0) (n1, .inl (va_cpy f g sp.toNatClampNeg dp.toNatClampNeg n.toNatClampNeg))))[q]? = H[q]? := fun q hq => by simp [Array.getElem?_setIfInBounds, Ne.symm hq]
  obtain ⟨t, a1, b1⟩ := kk _ _ (show (H.setIfInBounds a _)[a]? = some _ by simp [Array.getElem?_setIfInBounds, hl]) ⟨by simp, fun q hq => oq q hq⟩ ⟨by simp; exact hS.1, fun q g1 g2 => by
      rw [oq q (fun e => g2 (by rw [e]; exact hA))]
      exact hS.2.1 q g1 g2, fun q hq => by
      rcases List.mem_append.mp hq with h | h
      · exact hS.2.2 q h
      · obtain ⟨z, -, hz⟩ := List.mem_map.mp h
        rw [← hz]
        exact hA⟩ _ hheap X'
  exact ⟨t, step t a1, b1⟩
theorem x_aldq {C : String} {n r : Nat} {h : Nat → Option Nat} (S : CallFix p m c cc nL s args GW own) (hE : EV E A s) (hQ : E.2.2.1[0]? = some (E.2.1 2, .object C)) (ha : XQ E a n h H) {i : Int32} (k : Nat) (hi : i = nI k) (hk : k < n) (hn : n < 2 ^ 31) (hv : h k = some r) (hdg : decode cc pc = .ok (.aaload, 1))
    (kk : W p l e R s m args below meth c H locs cells slots Q (F0 m (pc + 1) ls (.ref r :: rest))) : W p l e R s m args below meth c H locs cells slots Q (F0 m pc ls (.int i :: .ref a :: rest)) := by
  subst hi
  refine va_aldq (ws := [(a, .inl (E.2.1 2, n, .inr (.inr (.inr (.inr h)))))]) (C := C) S.1 S.2.1 hE.1.1 (va_P1 ha) 0 2 rfl hQ (vp_in_nI hk hn) hdg ?_
  rw [nI_clamp (by omega), hv]
  exact kk
theorem x_astq {C : String} {T : u_T} {N n v ci : Nat} {vs : List Value} {h : Nat → Option Nat} (S : CallFix p m c cc nL s args GW own) (hE : EV E A s) (hS : va_S A s.heap H locs) (hA : A a) (hQ : E.2.2.1[0]? = some (E.2.1 2, .object C)) (ha : XQ E a n h H) (hv : XO E v ci vs H) (hc : vwCl[ci]? = some (C, T, N)) {i : Int32} (k : Nat) (hi : i = nI k) (hk : k < n) (hn : n < 2 ^ 31) (hdg : decode cc pc = .ok (.aastore, 1))
    (kk : ∀ (H1 : Heap) (locs1 : List Loc), XQ E a n (va_up h k (some v)) H1 → Out (fun q => q = a) H H1 → va_S A s.heap H1 locs1 → W p l e R s m args below meth c H1 locs1 cells slots Q (F0 m (pc + 1) ls rest)) : W p l e R s m args below meth c H locs cells slots Q (F0 m pc ls (.ref v :: .int i :: .ref a :: rest)) := by
  subst hi
  have ht : (xtys E)[2]? = some (E.2.1 2, .object C) := hQ
  have hin : vp_in (nI k) n := vp_in_nI hk hn
  have hlt : (nI k).toNatClampNeg < n := Nat.not_le.mp fun q => hin (Or.inr q)
  have h0 : ¬ nI k < 0 := fun q => hin (Or.inl q)
  obtain ⟨r', hr', cellV, g1, g2, g3, -⟩ := hv
  have hcls := (hE.1.1.1 ci _ hc).2
  obtain ⟨kA, comp, k1, k2, k3, -⟩ := (hE.1.1.2 2 _ ht).2
  have hcomp : comp = E.1.1 ci := Option.some.inj (k3.symm.trans hcls.1)
  subst hcomp
  obtain ⟨kC, hkC, -⟩ := hcls.2
  refine W.aast S.1 S.2.1 ha (fun q h => by cases h) (fun h => by cases h) k1 k2 rfl hkC ⟨h0, by show _ < (arrV _ _ _).slots.size; rw [arrV_size]; exact hlt⟩ g1 (fun q h => by rw [g3] at h; cases h) (by rw [g2]; exact hkC) (by rw [g2]; exact va_assign hcls) rfl rfl hdg fun H1 e z oq => ?_
  refine kk H1 _ ?_ ⟨z, oq⟩ (hS.put z oq hA)
  show H1[a]? = some (vp_cell _ _)
  rw [e]
  rw [vp_cell_q, vp_cell_q, arrV_store, nI_clamp (by omega)]
  congr 2
  funext q
  by_cases hq : q = k
  · subst hq
    simp [updV, va_up, va_rf]
  · simp [updV, va_up, hq]
end XCP
/-- System.arraycopy of a row's first m, as copyRow does it -/
def xcpy (f : Nat → Int32) (n0 : Nat) (g : Nat → Int32) (n1 : Nat) (m : Int32) : Nat → Int32 := if 0 < m ∧ m ≤ nI n0 ∧ m ≤ nI n1 then va_cpy f g 0 0 m.toNatClampNeg else g
theorem xcl_le {m : Int32} {n : Nat} (hn : n < 2 ^ 31) (h : m ≤ nI n) : m.toNatClampNeg ≤ n := by
  rw [Int32.le_iff_toInt_le, nI_toInt hn] at h
  show m.toInt.toNat ≤ n
  omega
/-- the Java 'at': 0 outside -/
def xat (f : Nat → Int32) (n : Nat) (i : Int32) : Int32 := if 0 ≤ i ∧ i < nI n then f i.toNatClampNeg else 0
def xput (f : Nat → Int32) (n : Nat) (i v : Int32) : Nat → Int32 := if 0 ≤ i ∧ i < nI n then upd f i.toNatClampNeg v else f
theorem xat_nI {f : Nat → Int32} {n k : Nat} (hn : n < 2 ^ 31) (hk : k < n) : xat f n (nI k) = f k := by
  rw [xat, if_pos ⟨nI_pos' (by omega), nI_lt hk hn⟩, nI_clamp (by omega)]
theorem xput_nI {f : Nat → Int32} {n k : Nat} {v : Int32} (hn : n < 2 ^ 31) (hk : k < n) : xput f n (nI k) v = upd f k v := by
  rw [xput, if_pos ⟨nI_pos' (by omega), nI_lt hk hn⟩, nI_clamp (by omega)]
theorem xin_of {i : Int32} {n : Nat} (hn : n < 2 ^ 31) (h0 : ¬ i < 0) (h1 : ¬ nI n ≤ i) : vp_in i n := by
  obtain ⟨j, hj, rfl⟩ := nI_of h0
  rcases Nat.lt_or_ge j n with h | h
  · exact vp_in_nI h hn
  · exact absurd (nI_le h hj) h1
theorem i_nlt {a b : Int32} (h : ¬ a < b) : b ≤ a := Int32.not_lt.mp h
theorem i_nle {a b : Int32} (h : ¬ a ≤ b) : b < a := Int32.not_le.mp h
