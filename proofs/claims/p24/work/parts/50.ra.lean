/-! 50.ra: rows for what makes cells: new objects and rows, constructors, final fields; methods without an answer that only read -/
def EA (E : XE) (A : Nat → Prop) (U : State) : Prop := EV E A U ∧ va_AO "ChoirBox$Choir" U
def CB (P : Heap → Prop) : Unit → State → Prop := fun _ t => P t.heap
/-- a constructor's contract: it may write from a on; P says what stands there then -/
def Cn (l : Launch) (E : XE) (y : MethodName) (b : ByteArray) (n : Nat) (rm : Room) (av : List Value) (H : Heap) (a : Nat) (P : Heap → Prop) (mc ms : Nat) : Prop :=
  Met l y (wd y b n none) rm (va_Pc av (fun U => EA E (fun q => a ≤ q) U ∧ U.heap = H)) (va_Qv (fun (_ : Unit) => True) (CB P) (fun q => a ≤ q)) mc ms (fun q => a ≤ q)
/-- how a heap has grown: k cells from a on, what was ahead of a is as it was -/
def Gr (H0 H : Heap) (a k : Nat) : Prop := H.size = a + k ∧ ∀ q : Nat, q < a → H[q]? = H0[q]?
theorem EA.same {E : XE} {A : Nat → Prop} {u U : State} (hv : U.vm = u.vm) (hh : U.heap = u.heap) (h : EA E A u) : EA E A U :=
  ⟨h.1.same hv hh, va_AO.moved (by rw [hv]; exact Vm.Alike.refl _) h.2⟩
theorem ea_blind {E : XE} {A : Nat → Prop} {av : List Value} {H : Heap} : FrameBlind (va_Pc av (fun U => EA E A U ∧ U.heap = H)) := by
  intro a U g mk h
  exact ⟨h.1, EA.same (u := U) rfl rfl h.2.1, h.2.2⟩
theorem EA.call {E : XE} {A A' : Nat → Prop} {s U : State} {H : Heap} {locs : List Loc} (h : EA E A s) (hS : va_S A s.heap H locs) (hAA : ∀ q, A' q → A q) (hU : U.heap = H) (hW : s.WarmedH U.vm) : EA E A' U :=
  ⟨h.1.call hS hAA hU hW, va_AO.moved hW.alike h.2⟩
abbrev BC (p : Program) (s : State) (m : MethodId) (args : Array Value) (meth : Method) (c : Code) (y : MethodName) (b : ByteArray) (n : Nat) (E : XE) (a : Nat) (H : Heap) : Prop :=
  CallFix p m c b n s args GW y.cls ∧ meth.sig.returnType = none ∧ meth.locks = false ∧ meth.name = y.name ∧ EA E (fun q => a ≤ q) s ∧ s.heap = H
theorem met_ofC {l : Launch} {y : MethodName} {b : ByteArray} {n : Nat} {rm : Room} {av : List Value} {E : XE} {a : Nat} {H : Heap} {P : Heap → Prop} {mc ms : Nat} (hy : plainName y.cls = true) (hn : (lg_sl av).length ≤ n)
    (body : ∀ (p : Program) (e : Env) (s : State) (m : MethodId) (args : Array Value) (below : List Frame) (meth : Method) (c : Code), BC p s m args meth c y b n E a H → ∀ Q : State → Prop, Q = MQ below (va_Qv (fun (_ : Unit) => True) (CB P) (fun q => a ≤ q)) args s mc ms (fun q => a ≤ q) → ∀ ls : Array Slot, lv_has ls n (lv_args 0 av) → W p l e rm s m args below meth c s.heap [] 0 0 Q (F0 m 0 ls [])) :
    Cn l E y b n rm av H a P mc ms := by
  refine Met.ofW (cc := b) (maxL := n) (ret := none) hy rfl ?_
  intro p e s m args below meth c s₁ B hml hv
  obtain ⟨rfl, hE, hH⟩ := hv
  rw [lg_entry_eq]
  exact body p e s m _ below meth c ⟨⟨B.exec, B.bytes, hml, findClass_of_methodNamed B.named, fun w hw => atoms_spec (ws := wd y b n none) B.pre w (List.mem_cons_of_mem _ hw)⟩, B.returns, B.notSynchronized, (name_of_methodNamed B.named B.method).1, hE, hH⟩ _ rfl _ (lv_entry av hn)
/-- a method without an answer that only reads -/
def Rv (l : Launch) (E : XE) (y : MethodName) (b : ByteArray) (n : Nat) (rm : Room) (av : List Value) (H : Heap) : Prop :=
  Met l y (wd y b n none) rm (va_Pc av (fun U => EV E (fun _ => False) U ∧ U.heap = H)) (va_Qv (fun (_ : Unit) => True) (fun _ t => t.heap = H) (fun _ => False)) 0 0 (fun _ => False)
section XK
variable {p : Program} {l : Launch} {e : Env} {R : Room} {s : State} {m : MethodId} {args : Array Value} {below : List Frame} {meth : Method} {c : Code} {H : Heap} {locs : List Loc} {cells slots : Nat} {Q : State → Prop}
variable {E : XE} {A : Nat → Prop} {cc bytes : ByteArray} {nL maxL n N idx pc a ci : Nat} {own C : String} {T : u_T} {y : MethodName} {rm : Room} {As st rest : List Value} {fs : List Value} {Qc : Array Value → State → Outcome → State → Prop} {ls : Array Slot} {mc ms : Nat} {free : Addr → Prop}
theorem xk_Rv {ar : Array Value} (hr : va_Run p l e R s m args below meth c H locs cells slots 0 0 (F0 m pc ls st) rest (va_Qv (fun (_ : Unit) => True) (fun _ t => t.heap = H) (fun _ => False) ar) (fun _ => False))
    (kk : W p l e R s m args below meth c H locs cells slots Q (F0 m (pc + 3) ls rest)) : W p l e R s m args below meth c H locs cells slots Q (F0 m pc ls st) := by
  intro T hT X
  obtain ⟨w, st₀, t, T', L, h0, X', hL, e1, e2, ⟨⟨u, hv, hp, hb⟩, hz, hk⟩, st⟩ := hr T hT X
  cases hv
  have hL0 : L = [] := by
    cases L with
    | nil => rfl
    | cons q _ => exact (hL q List.mem_cons_self).elim
  subst hL0
  rw [List.append_nil] at X'
  obtain ⟨t2, a1, b1⟩ := kk T' (e1.trans hb) X'
  exact ⟨t2, st t2 a1, b1⟩
theorem x_retRv (S : CallFix p m c cc nL s args GW own) (hr : meth.sig.returnType = none) (hlk : meth.locks = false) (hdg : decode cc pc = .ok (.return_, 1)) :
    W p l e R s m args below meth c s.heap [] 0 0 (MQ below (va_Qv (fun (_ : Unit) => True) (fun _ t => t.heap = s.heap) (fun _ => False)) args s 0 0 (fun _ => False)) (F0 m pc ls []) :=
  W.vret S.1 S.2.1 hr (fun t ht _ => ⟨⟨(), rfl, trivial, ht⟩, by rw [ht]; exact Nat.le_refl _, fun q _ _ => by rw [ht]⟩) (fun q h => by cases h) hdg hlk
theorem x_retC {P : Heap → Prop} (S : CallFix p m c cc nL s args GW own) (hr : meth.sig.returnType = none) (hlk : meth.locks = false) (hS : va_S A s.heap H locs) (hP : P H) (hdg : decode cc pc = .ok (.return_, 1)) :
    W p l e R s m args below meth c H locs mc ms (MQ below (va_Qv (fun (_ : Unit) => True) (CB P) A) args s mc ms A) (F0 m pc ls []) :=
  W.vret S.1 S.2.1 hr (fun t ht _ => ⟨⟨(), rfl, trivial, by show P t.heap; rw [ht]; exact hP⟩, hS.F ht⟩) hS.2.2 hdg hlk
theorem x_init0 (S : CallFix p m c cc nL s args GW own) (kl : Cond.methodLink own idx objectInit ∈ GW) (ki : Cond.instanceMethod objectInit ∈ GW) (kc : Cond.code objectInit ⟨#[0xb1]⟩ 1 none ∈ GW) (hsz : ls.size = nL) (hdg : decode cc pc = .ok (.invokespecial idx, 3)) (hf : 1 ≤ R.frames) (hlo : (rest.map fun v => v.category).sum + 12 ≤ R.locals)
    (kk : W p l e R s m args below meth c H locs cells slots Q (F0 m (pc + 3) ls rest)) : W p l e R s m args below meth c H locs cells slots Q (F0 m pc ls (.ref a :: rest)) := by
  refine W.objInit S.1 S.2.1 S.2.2.2.1 (S.2.2.2.2 _ kl) (S.2.2.2.2 _ ki) (S.2.2.2.2 _ kc) rfl (by rw [S.2.2.1]; exact hsz) rfl hdg hf (by show 2 * 0 + _ + 12 ≤ _; omega) ?_
  exact W.eq (g2 := F0 m (pc + 3) ls rest) rfl kk
theorem x_newO (S : CallFix p m c cc nL s args GW own) (hE : EV E A s) (hS : va_S A s.heap H locs) (hc : vwCl[ci]? = some (C, T, N)) (hin : ∀ w ∈ u_ws C T N, w ∈ GW) (ty : Nat → FieldType) (hty : ∀ k, k < N → parseFieldDescriptor (T k).2.2.1 = some (ty k))
    (kcl : Cond.classLink own idx C ∈ GW) (kin : Cond.instantiable C N ∈ GW) (kini : Cond.initialized C ∈ GW) (hfs : ∀ j, j < N → defaultValue (ty j) = vp_V fs j) (hcells : cells + 1 ≤ R.cells) (hslots : slots + N ≤ R.slots) (hdg : decode cc pc = .ok (.new idx, 3)) {z : Nat} (hz : H.size = z)
    (kk : ∀ H1 : Heap, XO E z ci fs H1 → H1.size = z + 1 → (∀ q : Nat, q < z → H1[q]? = H[q]?) → va_S A s.heap H1 locs → W p l e R s m args below meth c H1 locs (cells + 1) (slots + N) Q (F0 m (pc + 3) ls (.ref z :: rest))) : W p l e R s m args below meth c H locs cells slots Q (F0 m pc ls rest) := by
  have hKn := hE.1.1.1 ci _ hc
  have hle : s.heap.size ≤ z := hz ▸ hS.1
  refine W.newcK S.1 S.2.1 S.2.2.2.1 (S.2.2.2.2 _ kcl) (S.2.2.2.2 _ kin) (S.2.2.2.2 _ kini) rfl hdg hcells hslots hKn.2.1 hz fun H1 kC hkC e1 z1 o1 => ?_
  exact kk H1 ⟨_, hc, (u_born ty S.2.2.2.2 hin hKn hkC e1 hty).to hfs⟩ z1 o1 ⟨by omega, fun x h1 h2 => (o1 x (by omega)).trans (hS.2.1 x h1 h2), hS.2.2⟩
theorem x_newI (S : CallFix p m c cc nL s args GW own) (hE : EV E A s) (hS : va_S A s.heap H locs) (ka : Cond.arrayClass .int ∈ GW) {i : Int32} {k : Nat} (hi : i = nI k) (hk : k < 100000000) (hcells : cells + 1 ≤ R.cells) (hslots : slots + k ≤ R.slots) (hdg : decode cc pc = .ok (.newarray .int, 2)) {z : Nat} (hz : H.size = z)
    (kk : ∀ H1 : Heap, XI E z k (fun _ => 0) H1 → H1.size = z + 1 → (∀ q : Nat, q < z → H1[q]? = H[q]?) → va_S A s.heap H1 locs → W p l e R s m args below meth c H1 locs (cells + 1) (slots + k) Q (F0 m (pc + 2) ls (.ref z :: rest))) : W p l e R s m args below meth c H locs cells slots Q (F0 m pc ls (.int i :: rest)) := by
  subst hi
  have hle : s.heap.size ≤ z := hz ▸ hS.1
  refine va_newaK (atype := .int) S.1 S.2.1 (S.2.2.2.2 _ ka) rfl hdg rfl (nI_pos (by omega)) (nI_clamp (by omega)) (by show k * 4 ≤ _; omega) hcells hslots hz fun H1 cA e1 z1 o1 hAr hNm => ?_
  have hcA : cA = E.2.1 0 := Option.some.inj (hNm.symm.trans ((hE.1.1.2 0 _ rfl).2))
  subst hcA
  exact kk H1 e1 z1 o1 ⟨by omega, fun x h1 h2 => (o1 x (by omega)).trans (hS.2.1 x h1 h2), hS.2.2⟩
theorem x_newC (S : CallFix p m c cc nL s args GW own) (hE : EV E A s) (hS : va_S A s.heap H locs) (ka : Cond.arrayClass .char ∈ GW) {i : Int32} {k : Nat} (hi : i = nI k) (hk : k < 100000000) (hcells : cells + 1 ≤ R.cells) (hslots : slots + k ≤ R.slots) (hdg : decode cc pc = .ok (.newarray .char, 2)) {z : Nat} (hz : H.size = z)
    (kk : ∀ H1 : Heap, XC E z k (fun _ => 0) H1 → H1.size = z + 1 → (∀ q : Nat, q < z → H1[q]? = H[q]?) → va_S A s.heap H1 locs → W p l e R s m args below meth c H1 locs (cells + 1) (slots + k) Q (F0 m (pc + 2) ls (.ref z :: rest))) : W p l e R s m args below meth c H locs cells slots Q (F0 m pc ls (.int i :: rest)) := by
  subst hi
  have hle : s.heap.size ≤ z := hz ▸ hS.1
  refine va_newaK (atype := .char) S.1 S.2.1 (S.2.2.2.2 _ ka) rfl hdg rfl (nI_pos (by omega)) (nI_clamp (by omega)) (by show k * 2 ≤ _; omega) hcells hslots hz fun H1 cA e1 z1 o1 hAr hNm => ?_
  have hcA : cA = E.2.1 1 := Option.some.inj (hNm.symm.trans ((hE.1.1.2 1 _ rfl).2))
  subst hcA
  exact kk H1 e1 z1 o1 ⟨by omega, fun x h1 h2 => (o1 x (by omega)).trans (hS.2.1 x h1 h2), hS.2.2⟩
theorem x_newQ {D : String} (S : CallFix p m c cc nL s args GW own) (hE : EV E A s) (hO : va_AO D s) (hQ : E.2.2.1[0]? = some (E.2.1 2, .object D)) (hS : va_S A s.heap H locs) (kcl : Cond.classLink own idx D ∈ GW) {i : Int32} {k : Nat} (hi : i = nI k) (hk : k < 100000000) (hcells : cells + 1 ≤ R.cells) (hslots : slots + k ≤ R.slots) (hdg : decode cc pc = .ok (.anewarray idx, 3)) {z : Nat} (hz : H.size = z)
    (kk : ∀ H1 : Heap, XQ E z k (fun _ => none) H1 → H1.size = z + 1 → (∀ q : Nat, q < z → H1[q]? = H[q]?) → va_S A s.heap H1 locs → W p l e R s m args below meth c H1 locs (cells + 1) (slots + k) Q (F0 m (pc + 3) ls (.ref z :: rest))) : W p l e R s m args below meth c H locs cells slots Q (F0 m pc ls (.int i :: rest)) := by
  subst hi
  subst hz
  have hcl : (nI k).toNatClampNeg = k := nI_clamp (by omega)
  refine W.anew S.1 S.2.1 S.2.2.2.1 (S.2.2.2.2 _ kcl) (va_AO.use hO) rfl hdg rfl (nI_pos (by omega)) (by rw [hcl]; omega) hcells (by rw [hcl]; exact hslots) fun cA kA comp h1 h2 h3 h4 => ?_
  have ht : (xtys E)[2]? = some (E.2.1 2, .object D) := hQ
  obtain ⟨kA2, comp2, g1, g2, g3, g4⟩ := (hE.1.1.2 2 _ ht).2
  have hcA : cA = E.2.1 2 := Option.some.inj (h1.symm.trans g4)
  subst hcA
  rw [hcl]
  refine kk _ ?_ (by simp) (fun q hq => by rw [Array.getElem?_push, if_neg (Nat.ne_of_lt hq)]) ⟨by simp; have := hS.1; omega, fun x g5 g6 => by have := hS.1; rw [Array.getElem?_push, if_neg (by omega)]; exact hS.2.1 x g5 g6, hS.2.2⟩
  show _ = some (vp_cell _ _)
  rw [vp_cell_q, ← arrV_new]
  simp [va_rf]
theorem x_putF (S : CallFix p m c cc nL s args GW own) (hE : EV E A s) (hS0 : va_S A s.heap H locs) (ha : A a) (ho : XO E a ci fs H) (hc : vwCl[ci]? = some (C, T, N)) (hin : ∀ w ∈ u_ws C T N, w ∈ GW)
    (ty0 : Nat → FieldType) (hty : ∀ k, k < N → parseFieldDescriptor (T k).2.2.1 = some (ty0 k)) (hnm : ∀ a, a < N → ∀ b, b < N → a ≠ b → (T a).2.1 ≠ (T b).2.1) (k : Nat) (hk : k < N) (hl : k < fs.length)
    (kl : Cond.fieldLink own idx C (T k).2.1 (T k).2.2.1 ∈ GW) (hsame : (T k).1 = C) (hfin : (T k).2.2.2 = true) (hin2 : meth.name = "<init>") (hdecl : (T k).1 = own) {v : Value} (hn : narrow (ty0 k) v = v) (hfit : fits (ty0 k) v = true)
    (hdg : decode cc pc = .ok (.putfield idx, 3))
    (kk : ∀ (H1 : Heap) (locs1 : List Loc), XO E a ci (fs.set k v) H1 → Out (fun q => q = a) H H1 → va_S A s.heap H1 locs1 → W p l e R s m args below meth c H1 locs1 cells slots Q (F0 m (pc + 3) ls rest)) : W p l e R s m args below meth c H locs cells slots Q (F0 m pc ls (v :: .ref a :: rest)) := by
  have hts := S.2.2.2.2
  have hap := va_apart (own := own) hts hin ty0 hty hnm hE.1.1 hc
  obtain ⟨r, h1, cell, q1, q2, q3, q4⟩ := ho
  have hr : r = (C, T, N) := Option.some.inj (h1.symm.trans hc)
  subst hr
  obtain ⟨hS, hfc, kC, hkC, hkind⟩ := hE.1.1.1 ci _ hc
  obtain ⟨cf, kf, fi, f, hi, hsl⟩ := hS k hk
  have hlay := hts _ (hin _ (u_in_lay hk))
  unfold u_lay at hlay
  rw [if_pos hfin] at hlay
  have hst := (u_facts hfc hkC (u_lays hts hin hk) hi).1
  have hcf : m.cls = cf := by
    obtain ⟨_, _, c', _, _, _, -, -, hf', -, -, -, hown2, -⟩ := Cond.laysFinal_spec hlay
    have e1 : c' = cf := by have := hi.symm.trans hf'; simp at this; exact this.1.symm
    rw [hdecl] at hown2
    rw [← e1]; exact Option.some.inj (S.2.2.2.1.symm.trans hown2)
  have h6 := u_fits hfc hkC hkind (Or.inr hlay) hi (hty k hk) hn hfit
  refine W.putFinK S.1 S.2.1 S.2.2.2.1 (hts _ kl) (by rw [← hsame]; exact hi) hst hcf hin2 (by rw [q2]; exact h6) q1 q3 (by rw [hsl]; exact k2_hasslot (q4 k hk)) rfl rfl hdg fun H' e1 e2 e3 => ?_
  rw [hsl] at e1 ⊢
  exact kk H' _ ⟨_, hc, t_OB.to (V := updV (vp_V fs) k v) ⟨_, e1, q2, q3, t_set q4 hap hk v⟩ (fun j _ => vp_updV_set hl v j)⟩ ⟨e2, e3⟩ (hS0.put e2 e3 ha)
theorem x_runIN {b a1 : Nat} {P : Heap → Prop} (S : CallFix p m c cc nL s args GW own) (hE : EA E A s) (hS : va_S A s.heap H locs) (hAA : ∀ q, a1 ≤ q → A q)
    (hM : Cn l E y bytes maxL rm (.ref b :: As) H a1 P mc ms)
    (kc : KV y bytes maxL none n) (kl : Cond.methodLinkNest own idx y "ChoirBox" ∈ NWL) (ki : Cond.instanceMethod y ∈ GW) (hy : y.name = "<init>")
    (hR : rm.frames + 1 ≤ R.frames ∧ 8 + (maxL + 11) + rm.locals ≤ R.locals) (hrc : rm.cells = mc) (hrs : rm.slots = ms) (hn : As.length = n) (hsz : ls.size = nL) (hst : st = As.reverse ++ .ref b :: rest) (hrest : (rest.map fun v => v.category).sum ≤ 8)
    (hdg : decode cc pc = .ok (.invokespecial idx, 3)) (hf : cells + mc ≤ R.cells ∧ slots + ms ≤ R.slots) :
    va_Run p l e R s m args below meth c H locs cells slots mc ms (F0 m pc ls st) rest (va_Qv (fun (_ : Unit) => True) (CB P) (fun q => a1 ≤ q) (Value.ref b :: As).toArray) (fun q => a1 ≤ q) :=
  va_runIN (As := As) (rest := rest) S hM ⟨va_cnB n S.2.2.2.2 (wd_good (fun _ h => h) kc.1) rfl hrc hrs (hE.1.1.2 _ kl) (S.2.2.2.2 _ kc.2.1) kc.2.2 hR, hy, S.2.2.2.2 _ ki⟩ ⟨ea_blind, fun U hU hW => ⟨rfl, hE.call hS hAA hU hW, hU⟩⟩ rfl hn hsz hst (lv_room hrest) hdg hf
theorem x_runI {b a1 : Nat} {P : Heap → Prop} (S : CallFix p m c cc nL s args GW own) (hE : EA E A s) (hS : va_S A s.heap H locs) (hAA : ∀ q, a1 ≤ q → A q)
    (hM : Cn l E y bytes maxL rm (.ref b :: As) H a1 P mc ms)
    (kc : KV y bytes maxL none n) (kl : Cond.methodLink own idx y ∈ GW) (ki : Cond.instanceMethod y ∈ GW) (hy : y.name = "<init>")
    (hR : rm.frames + 1 ≤ R.frames ∧ 8 + (maxL + 11) + rm.locals ≤ R.locals) (hrc : rm.cells = mc) (hrs : rm.slots = ms) (hn : As.length = n) (hsz : ls.size = nL) (hst : st = As.reverse ++ .ref b :: rest) (hrest : (rest.map fun v => v.category).sum ≤ 8)
    (hdg : decode cc pc = .ok (.invokespecial idx, 3)) (hf : cells + mc ≤ R.cells ∧ slots + ms ≤ R.slots) :
    va_Run p l e R s m args below meth c H locs cells slots mc ms (F0 m pc ls st) rest (va_Qv (fun (_ : Unit) => True) (CB P) (fun q => a1 ≤ q) (Value.ref b :: As).toArray) (fun q => a1 ≤ q) :=
  va_runI (As := As) (rest := rest) S hM (cwI n S.2.2.2.2 (wd_good (fun _ h => h) kc.1) rfl hrc hrs (S.2.2.2.2 _ kc.2.1) (S.2.2.2.2 _ kl) (S.2.2.2.2 _ ki) hy kc.2.2 hR) ⟨ea_blind, fun U hU hW => ⟨rfl, hE.call hS hAA hU hW, hU⟩⟩ rfl hn hsz hst (lv_room hrest) hdg hf
/-- behind a constructor -/
theorem xk_C {a1 : Nat} {P : Heap → Prop} {ar : Array Value} (hr : va_Run p l e R s m args below meth c H locs cells slots mc ms (F0 m pc ls st) rest (va_Qv (fun (_ : Unit) => True) (CB P) (fun q => a1 ≤ q) ar) (fun q => a1 ≤ q)) (hS : va_S A s.heap H locs) (hAA : ∀ q, a1 ≤ q → A q)
    (kk : ∀ (H1 : Heap) (locs1 : List Loc), P H1 → va_S A s.heap H1 locs1 → W p l e R s m args below meth c H1 locs1 (cells + mc) (slots + ms) Q (F0 m (pc + 3) ls rest)) : W p l e R s m args below meth c H locs cells slots Q (F0 m pc ls st) := by
  refine va_callv hr hS (fun q _ h => hAA q h) hAA (fun u t H1 locs1 ht hvm hw hB hz1 hk1 hS1 => ?_)
  unfold CB at hB
  rw [ht] at hB
  exact kk H1 locs1 hB hS1
end XK
theorem k_lt {a o m : Nat} (h : o < m) : a + o < a + m := Nat.add_lt_add_left h a
theorem k_lt0 {a m : Nat} (h : 0 < m) : a < a + m := Nat.lt_add_of_pos_right h
theorem kb_lt {a o n m q : Nat} (h : o + n ≤ m) (z : bk (a + o) n q) : q < a + m := by obtain ⟨u, v⟩ := z; omega
theorem kb_ne {a o n k q : Nat} (h : o + n ≤ k ∨ k < o) (z : bk (a + o) n q) : ¬ q = a + k := by obtain ⟨u, v⟩ := z; omega
theorem kb_ne0 {a o n q : Nat} (h : 0 < o) (z : bk (a + o) n q) : ¬ q = a := by obtain ⟨u, v⟩ := z; omega
theorem k_ne {a o k : Nat} (h : ¬ o = k) : ¬ a + o = a + k := by omega
theorem k_ne0a {a k : Nat} (h : ¬ 0 = k) : ¬ a = a + k := by omega
theorem k_ne0b {a o : Nat} (h : ¬ o = 0) : ¬ a + o = a := by omega
theorem kp_lt {a m q : Nat} (h : q < a) : q < a + m := by omega
theorem kp_ne {a k q : Nat} (h : q < a) : ¬ q = a + k := by omega
theorem kp_ne0 {a q : Nat} (h : q < a) : ¬ q = a := by omega
