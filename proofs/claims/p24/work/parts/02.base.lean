/-! BASE: what stands outside a method (EV), cells, contracts (Rd reads, Wr writes), this claim's rows -/
def wd (y : MethodName) (b : ByteArray) (n : Nat) (r : Option FieldType) : List Cond := Cond.code y b n r :: GW
set_option maxRecDepth 100000 in
theorem gw_good : GW.all goodWord = true := by decide +kernel
theorem gw_in {w : Cond} (h : w ∈ GW) : (w.onTables && w.keeps) = true ∨ ∃ ty, w = .arrayClass ty := good_of_word (List.all_eq_true.mp gw_good w h)
theorem wd_good {Ts : List Cond} (hT : ∀ w ∈ GW, w ∈ Ts) {y : MethodName} {b : ByteArray} {n : Nat} {r : Option FieldType} (hc : Cond.code y b n r ∈ GW) : GoodIn Ts (wd y b n r) := by
  intro w hw
  have hg : w ∈ GW := by
    rcases List.mem_cons.mp hw with h | h
    · rw [h]; exact hc
    · exact h
  exact ⟨hT w hg, gw_in hg⟩
def isNest : Cond → Bool
  | .fieldLinkNest .. => true
  | .methodLinkNest .. => true
  | _ => false
theorem nwl_nest : NWL.all isNest = true := by decide +kernel
theorem Nw_warm {w : Cond} (h : isNest w = true) {s U : State} (hW : s.WarmedH U.vm) (hZ : va_Nw w s) : va_Nw w U := by
  cases w <;> first | exact va_Nw.warmF hW hZ | exact va_Nw.warmM hW hZ | (simp [isNest] at h)
theorem Nw_same {w : Cond} (h : isNest w = true) {s U : State} (hW : s.vm = U.vm) (hZ : va_Nw w s) : va_Nw w U := by
  cases w <;> first | exact va_Nw.same rfl hW hZ | (simp [isNest] at h)
/-- the claim's numbers: slots of fields, classes of arrays, further arrays, addresses of statics (0..6), of String constants (10..12), of their bytes (20..22) -/
abbrev XE : Type := va_G × (Nat → ClassId) × List (ClassId × FieldType) × (Nat → Nat)
def xtys (E : XE) : List (ClassId × FieldType) := (E.2.1 0, .int) :: (E.2.1 1, .char) :: E.2.2.1
def st_nm : Nat → String
  | 0 => "FADES" | 1 => "HOLDS" | 2 => "RISES" | 3 => "SINKS" | 4 => "LEAST_VALUES" | 5 => "MOST_VALUES" | _ => "FIRST_VALUES"
def st_len : Nat → Nat
  | 0 => 4 | 1 => 4 | 2 => 4 | 3 => 4 | _ => 3
def st_lst : Nat → List Nat
  | 0 => [6, 8, 10, 16] | 1 => [600, 700, 800, 900] | 2 => [2, 4, 5, 8] | 3 => [10, 8, 12, 6] | 4 => [1, 0, 100] | 5 => [8, 2, 8000] | _ => [4, 0, 2500]
def st_val (k j : Nat) : Int32 := nI ((st_lst k).getD j 0)
def sc_len : List Nat := [7, 0, 4]
def sc_byt : List (List Int32) := [[115, 43, 97, 43, 116, 43, 98], [], [115, 97, 116, 98]]
def sc_own : Nat → String
  | 0 => "ChoirBox$Choir" | 1 => "ChoirBox" | _ => "ChoirBox$Formula"
def sc_at : Nat → Nat
  | 0 => 39 | 1 => 28 | _ => 41
def sc_tx : Nat → String
  | 0 => "s+a+t+b" | 1 => "" | _ => "satb"
def EVt (E : XE) (U : State) : Prop := va_K E.1 vwCl (xtys E) U ∧ ∀ w ∈ NWL, va_Nw w U
def EVr (E : XE) (U : State) : Prop := ∀ k, k < 3 → vk_R (sc_own k) (sc_at k) (sc_tx k) (E.2.2.2 (10 + k)) U
def EVs (E : XE) (A : Nat → Prop) (U : State) (H : Heap) : Prop :=
  (∀ k, k < 7 → va_Z "ChoirBox" (st_nm k) "[I" (.ref (E.2.2.2 k)) A U H ∧ va_T .int (E.2.2.2 k) (st_len k) (fun j => .int (st_val k j)) A U H) ∧
  vk_S 3 sc_len sc_byt (fun k => E.2.2.2 (10 + k)) (fun k => E.2.2.2 (20 + k)) A U H ∧
  va_Z "java/lang/String" "COMPACT_STRINGS" "Z" (.int 1) A U H ∧ va_Zq "jdk/internal/util/Preconditions" "SIOOBE_FORMATTER" "Ljava/util/function/BiFunction;" A U H
def EV (E : XE) (A : Nat → Prop) (U : State) : Prop := EVt E U ∧ EVr E U ∧ EVs E A U U.heap
theorem EVs.moved {E : XE} {A : Nat → Prop} {u U : State} {H : Heap} (hvm : u.vm.Alike U.vm) (h : EVs E A u H) : EVs E A U H :=
  ⟨fun k hk => ⟨(h.1 k hk).1.moved hvm, (h.1 k hk).2.moved hvm⟩, h.2.1.moved hvm, h.2.2.1.moved hvm, h.2.2.2.moved hvm⟩
theorem EVs.kept {E : XE} {A : Nat → Prop} {U : State} {H H1 : Heap} (h : EVs E A U H) (hq : ∀ a : Nat, a < H.size → ¬ A a → H1[a]? = H[a]?) : EVs E A U H1 :=
  ⟨fun k hk => ⟨(h.1 k hk).1.kept hq, (h.1 k hk).2.kept hq⟩, h.2.1.kept hq, h.2.2.1.kept hq, h.2.2.2.kept hq⟩
theorem EVs.narrow {E : XE} {A B : Nat → Prop} {U : State} {H : Heap} (h : EVs E A U H) (hAB : ∀ q, B q → A q) : EVs E B U H :=
  ⟨fun k hk => ⟨(h.1 k hk).1.narrow hAB, (h.1 k hk).2.narrow hAB⟩, h.2.1.narrow hAB, h.2.2.1.narrow hAB, h.2.2.2.narrow hAB⟩
theorem EV.same {E : XE} {A : Nat → Prop} {u U : State} (hv : U.vm = u.vm) (hh : U.heap = u.heap) (h : EV E A u) : EV E A U := by
  have hvm : u.vm.Alike U.vm := by rw [hv]; exact Vm.Alike.refl _
  exact ⟨⟨h.1.1.moved hvm, fun w hw => Nw_same (List.all_eq_true.mp nwl_nest w hw) hv.symm (h.1.2 w hw)⟩, fun k hk => (h.2.1 k hk).same hv, by rw [hh]; exact h.2.2.moved hvm⟩
theorem EV.call {E : XE} {A A' : Nat → Prop} {s U : State} {H : Heap} {locs : List Loc} (h : EV E A s) (hS : va_S A s.heap H locs) (hAA : ∀ q, A' q → A q) (hU : U.heap = H) (hW : s.WarmedH U.vm) : EV E A' U :=
  ⟨⟨h.1.1.moved hW.alike, fun w hw => Nw_warm (List.all_eq_true.mp nwl_nest w hw) hW (h.1.2 w hw)⟩, fun k hk => (h.2.1 k hk).warm hW, by rw [hU]; exact ((h.2.2.kept hS.2.1).narrow hAA).moved hW.alike⟩
-- cells
abbrev XO (E : XE) (a ci : Nat) (fs : List Value) (H : Heap) : Prop := va_at E.1 vwCl (a, .inr (ci, fs)) H
abbrev XI (E : XE) (a n : Nat) (f : Nat → Int32) (H : Heap) : Prop := va_at E.1 vwCl (a, .inl (E.2.1 0, n, .inl f)) H
abbrev XC (E : XE) (a n : Nat) (f : Nat → Int32) (H : Heap) : Prop := va_at E.1 vwCl (a, .inl (E.2.1 1, n, .inl f)) H
abbrev XQ (E : XE) (a n : Nat) (g : Nat → Option Nat) (H : Heap) : Prop := va_at E.1 vwCl (a, .inl (E.2.1 2, n, .inr (.inr (.inr (.inr g))))) H
def bk (b n : Nat) : Nat → Prop := fun q => b ≤ q ∧ q < b + n
/-- a heap that differs from another in A alone -/
def Out (A : Nat → Prop) (H0 H1 : Heap) : Prop := H1.size = H0.size ∧ ∀ q : Nat, ¬ A q → H1[q]? = H0[q]?
theorem Out.rf {A : Nat → Prop} {H : Heap} : Out A H H := ⟨rfl, fun _ _ => rfl⟩
theorem Out.tr {A B : Nat → Prop} {H0 H1 H2 : Heap} (h : Out B H0 H1) (h2 : Out A H1 H2) (hA : ∀ q, A q → B q) : Out B H0 H2 := ⟨h2.1.trans h.1, fun q hq => (h2.2 q (fun z => hq (hA q z))).trans (h.2 q hq)⟩
theorem Out.mono {A B : Nat → Prop} {H0 H1 : Heap} (h : Out A H0 H1) (hA : ∀ q, A q → B q) : Out B H0 H1 := ⟨h.1, fun q hq => h.2 q (fun z => hq (hA q z))⟩
theorem va_P1 {D : va_G} {cl : List vw_C} {q : Nat × va_E} {H : Heap} (h : va_at D cl q H) : va_P D cl [q] H := by
  intro k x hx
  cases k with
  | zero => cases hx; exact h
  | succ k => simp at hx
-- contracts
def Rd (l : Launch) (E : XE) (y : MethodName) (b : ByteArray) (n : Nat) (r : Option FieldType) (rm : Room) (av : List Value) (H : Heap) (v : Int32) : Prop :=
  Met l y (wd y b n r) rm (va_Pc av (fun U => EV E (fun _ => False) U ∧ U.heap = H)) (va_Qi (fun (x : Int32) (_ : Unit) => x = v) (fun _ t => t.heap = H) (fun _ => False)) 0 0 (fun _ => False)
def WB (A : Nat → Prop) (H : Heap) (P : Int32 → Heap → Prop) : Int32 → State → Prop := fun u t => P u t.heap ∧ Out A H t.heap
def VB (A : Nat → Prop) (H : Heap) (P : Heap → Prop) : Unit → State → Prop := fun _ t => P t.heap ∧ Out A H t.heap
def Wr (l : Launch) (E : XE) (y : MethodName) (b : ByteArray) (n : Nat) (r : Option FieldType) (rm : Room) (av : List Value) (H : Heap) (A : Nat → Prop) (P : Int32 → Heap → Prop) : Prop :=
  Met l y (wd y b n r) rm (va_Pc av (fun U => EV E A U ∧ U.heap = H)) (va_Qi (fun (x : Int32) (u : Int32) => x = u) (WB A H P) A) 0 0 A
def Wv (l : Launch) (E : XE) (y : MethodName) (b : ByteArray) (n : Nat) (rm : Room) (av : List Value) (H : Heap) (A : Nat → Prop) (P : Heap → Prop) : Prop :=
  Met l y (wd y b n none) rm (va_Pc av (fun U => EV E A U ∧ U.heap = H)) (va_Qv (fun (_ : Unit) => True) (VB A H P) A) 0 0 A
/-- a method that hands back a reference or null, and only reads -/
def Rq (l : Launch) (E : XE) (y : MethodName) (b : ByteArray) (n : Nat) (r : Option FieldType) (rm : Room) (av : List Value) (H : Heap) (v : Option Nat) : Prop :=
  Met l y (wd y b n r) rm (va_Pc av (fun U => EV E (fun _ => False) U ∧ U.heap = H)) (va_Qq (fun (x : Option Nat) (_ : Unit) => x = v) (fun _ t => t.heap = H) (fun _ => False)) 0 0 (fun _ => False)
theorem ev_blind {E : XE} {A : Nat → Prop} {av : List Value} {H : Heap} : FrameBlind (va_Pc av (fun U => EV E A U ∧ U.heap = H)) := by
  intro a U g mk h
  exact ⟨h.1, EV.same (u := U) rfl rfl h.2.1, h.2.2⟩
/-- what a body is given -/
abbrev BD (p : Program) (s : State) (m : MethodId) (args : Array Value) (meth : Method) (c : Code) (y : MethodName) (b : ByteArray) (n : Nat) (r : Option FieldType) (E : XE) (A : Nat → Prop) (H : Heap) : Prop :=
  CallFix p m c b n s args GW y.cls ∧ meth.sig.returnType = r ∧ meth.locks = false ∧ meth.name = y.name ∧ EV E A s ∧ s.heap = H
theorem met_of {l : Launch} {y : MethodName} {b : ByteArray} {n : Nat} {r : Option FieldType} {rm : Room} {av : List Value} {E : XE} {A : Nat → Prop} {H : Heap} {Qc : Array Value → State → Outcome → State → Prop} {mc ms : Nat} {free : Addr → Prop} (hy : plainName y.cls = true) (hn : (lg_sl av).length ≤ n)
    (body : ∀ (p : Program) (e : Env) (s : State) (m : MethodId) (args : Array Value) (below : List Frame) (meth : Method) (c : Code), BD p s m args meth c y b n r E A H → ∀ Q : State → Prop, Q = MQ below Qc args s mc ms free → ∀ ls : Array Slot, lv_has ls n (lv_args 0 av) → W p l e rm s m args below meth c s.heap [] 0 0 Q (F0 m 0 ls [])) :
    Met l y (wd y b n r) rm (va_Pc av (fun U => EV E A U ∧ U.heap = H)) Qc mc ms free := by
  refine Met.ofW (cc := b) (maxL := n) (ret := r) hy rfl ?_
  intro p e s m args below meth c s₁ B hml hv
  obtain ⟨rfl, hE, hH⟩ := hv
  rw [lg_entry_eq]
  exact body p e s m _ below meth c ⟨⟨B.exec, B.bytes, hml, findClass_of_methodNamed B.named, fun w hw => atoms_spec (ws := wd y b n r) B.pre w (List.mem_cons_of_mem _ hw)⟩, B.returns, B.notSynchronized, (name_of_methodNamed B.named B.method).1, hE, hH⟩ _ rfl _ (lv_entry av hn)
/-- what is known of a method that is called -/
def KV (y : MethodName) (b : ByteArray) (n : Nat) (r : Option FieldType) (k : Nat) : Prop :=
  Cond.code y b n r ∈ GW ∧ Cond.initialized y.cls ∈ GW ∧ (y.cls ≠ "java/lang/invoke/MethodHandle" ∧ y.cls ≠ "java/lang/invoke/VarHandle" ∧ (parseMethodDescriptor y.desc).map (fun d => d.parameters.length) = some k)
section XR
variable {p : Program} {l : Launch} {e : Env} {R : Room} {s : State} {m : MethodId} {args : Array Value} {below : List Frame} {meth : Method} {c : Code} {H : Heap} {locs : List Loc} {cells slots : Nat} {Q : State → Prop}
variable {E : XE} {A A1 : Nat → Prop} {cc bytes : ByteArray} {nL maxL n idx pc : Nat} {own : String} {y : MethodName} {ret : Option FieldType} {rm : Room} {As st rest : List Value} {Qc : Array Value → State → Outcome → State → Prop} {ls : Array Slot} {mc ms : Nat} {free : Addr → Prop}
theorem x_recv {b ci : Nat} {fs : List Value} {q : vw_C} (hE : EV E A s) (ho : XO E b ci fs H) (hc : vwCl[ci]? = some q) : ∃ cell : Cell, H[b]? = some cell ∧ cell.vm.isStatics = false ∧ s.vm.findClass q.1 = some cell.cls :=
  va_recv hE.1.1 (va_P1 ho) hc (q0 := 0) rfl
theorem x_runV {b : Nat} (S : CallFix p m c cc nL s args GW own) (hE : EV E A s) (hS : va_S A s.heap H locs) (hAA : ∀ q, A1 q → A q)
    (hM : Met l y (wd y bytes maxL ret) rm (va_Pc (.ref b :: As) (fun U => EV E A1 U ∧ U.heap = H)) Qc mc ms free)
    (kc : KV y bytes maxL ret n) (kl : Cond.methodLink own idx y ∈ GW) (ki : Cond.instanceMethod y ∈ GW) (ks : Cond.selects y.cls y y ∈ GW)
    (hrv : ∃ cell : Cell, H[b]? = some cell ∧ cell.vm.isStatics = false ∧ s.vm.findClass y.cls = some cell.cls)
    (hR : rm.frames + 1 ≤ R.frames ∧ 8 + (maxL + 11) + rm.locals ≤ R.locals) (hrc : rm.cells = mc) (hrs : rm.slots = ms) (hn : As.length = n) (hsz : ls.size = nL) (hst : st = As.reverse ++ .ref b :: rest) (hrest : (rest.map fun v => v.category).sum ≤ 8)
    (hdg : decode cc pc = .ok (.invokevirtual idx, 3)) (hf : cells + mc ≤ R.cells ∧ slots + ms ≤ R.slots) :
    va_Run p l e R s m args below meth c H locs cells slots mc ms (F0 m pc ls st) rest (Qc (Value.ref b :: As).toArray) free := by
  have hG : GoodIn GW (wsV own idx y.cls y (wd y bytes maxL ret)) := by
    refine goodIn_app ?_ (wd_good (fun _ h => h) kc.1)
    intro w hw
    have hg : w ∈ GW := by
      simp only [List.mem_cons, List.not_mem_nil, or_false] at hw
      rcases hw with h | h | h | h <;> subst h
      · exact kl
      · exact ki
      · exact ks
      · exact kc.2.1
    exact ⟨hg, gw_in hg⟩
  exact va_runV (As := As) (rest := rest) S hM (cwV n S.2.2.2.2 hG rfl hrc hrs ⟨rfl, kc.2.2⟩ hR) ⟨ev_blind, hrv, fun U hU hW => ⟨rfl, hE.call hS hAA hU hW, hU⟩⟩ rfl hn hsz hst (lv_room hrest) hdg hf
theorem x_runVN {b : Nat} (S : CallFix p m c cc nL s args GW own) (hE : EV E A s) (hS : va_S A s.heap H locs) (hAA : ∀ q, A1 q → A q)
    (hM : Met l y (wd y bytes maxL ret) rm (va_Pc (.ref b :: As) (fun U => EV E A1 U ∧ U.heap = H)) Qc mc ms free)
    (kc : KV y bytes maxL ret n) (kl : Cond.methodLinkNest own idx y "ChoirBox" ∈ NWL) (ki : Cond.instanceMethod y ∈ GW) (ks : Cond.selects y.cls y y ∈ GW)
    (hrv : ∃ cell : Cell, H[b]? = some cell ∧ cell.vm.isStatics = false ∧ s.vm.findClass y.cls = some cell.cls)
    (hR : rm.frames + 1 ≤ R.frames ∧ 8 + (maxL + 11) + rm.locals ≤ R.locals) (hrc : rm.cells = mc) (hrs : rm.slots = ms) (hn : As.length = n) (hsz : ls.size = nL) (hst : st = As.reverse ++ .ref b :: rest) (hrest : (rest.map fun v => v.category).sum ≤ 8)
    (hdg : decode cc pc = .ok (.invokevirtual idx, 3)) (hf : cells + mc ≤ R.cells ∧ slots + ms ≤ R.slots) :
    va_Run p l e R s m args below meth c H locs cells slots mc ms (F0 m pc ls st) rest (Qc (Value.ref b :: As).toArray) free :=
  va_runVN (As := As) (rest := rest) S hM ⟨va_cnB n S.2.2.2.2 (wd_good (fun _ h => h) kc.1) rfl hrc hrs (hE.1.2 _ kl) (S.2.2.2.2 _ kc.2.1) kc.2.2 hR, S.2.2.2.2 _ ki, S.2.2.2.2 _ ks⟩ ⟨ev_blind, hrv, fun U hU hW => ⟨rfl, hE.call hS hAA hU hW, hU⟩⟩ rfl hn hsz hst (lv_room hrest) hdg hf
theorem x_runS (S : CallFix p m c cc nL s args GW own) (hE : EV E A s) (hS : va_S A s.heap H locs) (hAA : ∀ q, A1 q → A q)
    (hM : Met l y (wd y bytes maxL ret) rm (va_Pc As (fun U => EV E A1 U ∧ U.heap = H)) Qc mc ms free)
    (kc : KV y bytes maxL ret n) (kl : Cond.methodLink own idx y ∈ GW) (ki : Cond.static y ∈ GW)
    (hR : rm.frames + 1 ≤ R.frames ∧ 8 + (maxL + 11) + rm.locals ≤ R.locals) (hrc : rm.cells = mc) (hrs : rm.slots = ms) (hn : As.length = n) (hsz : ls.size = nL) (hst : st = As.reverse ++ rest) (hrest : (rest.map fun v => v.category).sum ≤ 8)
    (hdg : decode cc pc = .ok (.invokestatic idx, 3)) (hf : cells + mc ≤ R.cells ∧ slots + ms ≤ R.slots) :
    va_Run p l e R s m args below meth c H locs cells slots mc ms (F0 m pc ls st) rest (Qc As.toArray) free := by
  have hG : GoodIn GW (va_wsS own idx y (wd y bytes maxL ret)) := by
    refine goodIn_app ?_ (wd_good (fun _ h => h) kc.1)
    intro w hw
    have hg : w ∈ GW := by
      simp only [List.mem_cons, List.not_mem_nil, or_false] at hw
      rcases hw with h | h | h <;> subst h
      · exact kl
      · exact ki
      · exact kc.2.1
    exact ⟨hg, gw_in hg⟩
  exact va_runS (As := As) (rest := rest) S hM (va_cwS n S.2.2.2.2 hG rfl hrc hrs kc.2.2 hR) ⟨ev_blind, fun U hU hW => ⟨rfl, hE.call hS hAA hU hW, hU⟩⟩ rfl hn hsz hst (lv_room hrest) hdg hf
theorem x_runSN (S : CallFix p m c cc nL s args GW own) (hE : EV E A s) (hS : va_S A s.heap H locs) (hAA : ∀ q, A1 q → A q)
    (hM : Met l y (wd y bytes maxL ret) rm (va_Pc As (fun U => EV E A1 U ∧ U.heap = H)) Qc mc ms free)
    (kc : KV y bytes maxL ret n) (kl : Cond.methodLinkNest own idx y "ChoirBox" ∈ NWL) (ki : Cond.static y ∈ GW)
    (hR : rm.frames + 1 ≤ R.frames ∧ 8 + (maxL + 11) + rm.locals ≤ R.locals) (hrc : rm.cells = mc) (hrs : rm.slots = ms) (hn : As.length = n) (hsz : ls.size = nL) (hst : st = As.reverse ++ rest) (hrest : (rest.map fun v => v.category).sum ≤ 8)
    (hdg : decode cc pc = .ok (.invokestatic idx, 3)) (hf : cells + mc ≤ R.cells ∧ slots + ms ≤ R.slots) :
    va_Run p l e R s m args below meth c H locs cells slots mc ms (F0 m pc ls st) rest (Qc As.toArray) free :=
  va_runSN (As := As) (rest := rest) S hM ⟨va_cnB n S.2.2.2.2 (wd_good (fun _ h => h) kc.1) rfl hrc hrs (hE.1.2 _ kl) (S.2.2.2.2 _ kc.2.1) kc.2.2 hR, S.2.2.2.2 _ ki, trivial⟩ ⟨ev_blind, fun U hU hW => ⟨rfl, hE.call hS hAA hU hW, hU⟩⟩ rfl hn hsz hst (lv_room hrest) hdg hf
/-- behind a call that reads: the heap is the same -/
theorem xk_R {a : Array Value} {v : Int32} (hr : va_Run p l e R s m args below meth c H locs cells slots 0 0 (F0 m pc ls st) rest (va_Qi (fun (x : Int32) (_ : Unit) => x = v) (fun _ t => t.heap = H) (fun _ => False) a) (fun _ => False))
    (kk : W p l e R s m args below meth c H locs cells slots Q (F0 m (pc + 3) ls (.int v :: rest))) : W p l e R s m args below meth c H locs cells slots Q (F0 m pc ls st) := by
  intro T hT X
  obtain ⟨w, st₀, t, T', L, h0, X', hL, e1, e2, ⟨⟨r, u, hv, hp, hb⟩, hz, hk⟩, st⟩ := hr T hT X
  cases hv
  have hL0 : L = [] := by
    cases L with
    | nil => rfl
    | cons q _ => exact (hL q List.mem_cons_self).elim
  subst hL0
  rw [List.append_nil] at X'
  have hp : r = v := hp
  subst hp
  obtain ⟨t2, a1, b1⟩ := kk T' (e1.trans hb) X'
  exact ⟨t2, st t2 a1, b1⟩
theorem xk_q {a : Array Value} {v : Option Nat} (hr : va_Run p l e R s m args below meth c H locs cells slots 0 0 (F0 m pc ls st) rest (va_Qq (fun (x : Option Nat) (_ : Unit) => x = v) (fun _ t => t.heap = H) (fun _ => False) a) (fun _ => False))
    (kk : W p l e R s m args below meth c H locs cells slots Q (F0 m (pc + 3) ls (va_rf v :: rest))) : W p l e R s m args below meth c H locs cells slots Q (F0 m pc ls st) := by
  intro T hT X
  obtain ⟨w, st₀, t, T', L, h0, X', hL, e1, e2, ⟨⟨r, u, hv, hp, hb⟩, hz, hk⟩, st⟩ := hr T hT X
  cases hv
  have hL0 : L = [] := by
    cases L with
    | nil => rfl
    | cons q _ => exact (hL q List.mem_cons_self).elim
  subst hL0
  rw [List.append_nil] at X'
  have hp : r = v := hp
  subst hp
  obtain ⟨t2, a1, b1⟩ := kk T' (e1.trans hb) X'
  exact ⟨t2, st t2 a1, b1⟩
theorem xk_qs {a : Array Value} {r : Nat} (hr : va_Run p l e R s m args below meth c H locs cells slots 0 0 (F0 m pc ls st) rest (va_Qq (fun (x : Option Nat) (_ : Unit) => x = some r) (fun _ t => t.heap = H) (fun _ => False) a) (fun _ => False))
    (kk : W p l e R s m args below meth c H locs cells slots Q (F0 m (pc + 3) ls (.ref r :: rest))) : W p l e R s m args below meth c H locs cells slots Q (F0 m pc ls st) := xk_q hr kk
theorem xk_W {a : Array Value} {P : Int32 → Heap → Prop} (hr : va_Run p l e R s m args below meth c H locs cells slots 0 0 (F0 m pc ls st) rest (va_Qi (fun (x : Int32) (u : Int32) => x = u) (WB A1 H P) A1 a) A1) (hS : va_S A s.heap H locs) (hAA : ∀ q, A1 q → A q)
    (kk : ∀ (v : Int32) (H1 : Heap) (locs1 : List Loc), P v H1 → Out A1 H H1 → va_S A s.heap H1 locs1 → W p l e R s m args below meth c H1 locs1 cells slots Q (F0 m (pc + 3) ls (.int v :: rest))) : W p l e R s m args below meth c H locs cells slots Q (F0 m pc ls st) := by
  refine va_calli hr hS (fun q _ h => hAA q h) hAA (fun r u t H1 locs1 ht hvm hw hB hz1 hk1 hS1 => ?_)
  have hw : r = u := hw
  subst hw
  unfold WB at hB
  rw [ht] at hB
  exact kk r H1 locs1 hB.1 hB.2 hS1
theorem xk_V {a : Array Value} {P : Heap → Prop} (hr : va_Run p l e R s m args below meth c H locs cells slots 0 0 (F0 m pc ls st) rest (va_Qv (fun (_ : Unit) => True) (VB A1 H P) A1 a) A1) (hS : va_S A s.heap H locs) (hAA : ∀ q, A1 q → A q)
    (kk : ∀ (H1 : Heap) (locs1 : List Loc), P H1 → Out A1 H H1 → va_S A s.heap H1 locs1 → W p l e R s m args below meth c H1 locs1 cells slots Q (F0 m (pc + 3) ls rest)) : W p l e R s m args below meth c H locs cells slots Q (F0 m pc ls st) := by
  refine va_callv hr hS (fun q _ h => hAA q h) hAA (fun u t H1 locs1 ht hvm hw hB hz1 hk1 hS1 => ?_)
  unfold VB at hB
  rw [ht] at hB
  exact kk H1 locs1 hB.1 hB.2 hS1
-- ends
theorem x_retR {v x : Int32} {ty : FieldType} (S : CallFix p m c cc nL s args GW own) (hr : meth.sig.returnType = some ty) (hlk : meth.locks = false) (hn : narrow ty (.int x) = .int x) (hv : x = v) (hdg : decode cc pc = .ok (.ireturn, 1)) :
    W p l e R s m args below meth c s.heap [] 0 0 (MQ below (va_Qi (fun (x : Int32) (_ : Unit) => x = v) (fun _ t => t.heap = s.heap) (fun _ => False)) args s 0 0 (fun _ => False)) (F0 m pc ls [.int x]) :=
  W.zret (ty := ty) S.1 S.2.1 hr hn (fun t ht _ => ⟨⟨x, (), rfl, hv, ht⟩, by rw [ht]; exact Nat.le_refl _, fun q _ _ => by rw [ht]⟩) (fun q h => by cases h) hdg hlk
theorem x_retW {x : Int32} {P : Int32 → Heap → Prop} {ty : FieldType} (S : CallFix p m c cc nL s args GW own) (hr : meth.sig.returnType = some ty) (hlk : meth.locks = false) (hn : narrow ty (.int x) = .int x) (hS : va_S A s.heap H locs) (hO : Out A s.heap H) (hP : P x H) (hdg : decode cc pc = .ok (.ireturn, 1)) :
    W p l e R s m args below meth c H locs 0 0 (MQ below (va_Qi (fun (x : Int32) (u : Int32) => x = u) (WB A s.heap P) A) args s 0 0 A) (F0 m pc ls [.int x]) :=
  W.zret (ty := ty) S.1 S.2.1 hr hn (fun t ht _ => ⟨⟨x, x, rfl, rfl, by show P x t.heap ∧ Out A s.heap t.heap; rw [ht]; exact ⟨hP, hO⟩⟩, hS.F ht⟩) hS.2.2 hdg hlk
theorem x_retV {P : Heap → Prop} (S : CallFix p m c cc nL s args GW own) (hr : meth.sig.returnType = none) (hlk : meth.locks = false) (hS : va_S A s.heap H locs) (hO : Out A s.heap H) (hP : P H) (hdg : decode cc pc = .ok (.return_, 1)) :
    W p l e R s m args below meth c H locs 0 0 (MQ below (va_Qv (fun (_ : Unit) => True) (VB A s.heap P) A) args s 0 0 A) (F0 m pc ls []) :=
  W.vret S.1 S.2.1 hr (fun t ht _ => ⟨⟨(), rfl, trivial, by show P t.heap ∧ Out A s.heap t.heap; rw [ht]; exact ⟨hP, hO⟩⟩, hS.F ht⟩) hS.2.2 hdg hlk
theorem x_retq {v : Option Nat} {C : String} (S : CallFix p m c cc nL s args GW own) (hr : meth.sig.returnType = some (.object C)) (hlk : meth.locks = false) (hdg : decode cc pc = .ok (.areturn, 1)) :
    W p l e R s m args below meth c s.heap [] 0 0 (MQ below (va_Qq (fun (x : Option Nat) (_ : Unit) => x = v) (fun _ t => t.heap = s.heap) (fun _ => False)) args s 0 0 (fun _ => False)) (F0 m pc ls [va_rf v]) :=
  W.aret S.1 S.2.1 hr (Or.inl ⟨C, rfl⟩) (va_rf_or v) (fun t ht _ => ⟨⟨v, (), rfl, rfl, ht⟩, by rw [ht]; exact Nat.le_refl _, fun q _ _ => by rw [ht]⟩) (fun q h => by cases h) hdg hlk
theorem x_top {x y : Int32} (h : x = y) (k : W p l e R s m args below meth c H locs cells slots Q (F0 m pc ls (.int y :: rest))) : W p l e R s m args below meth c H locs cells slots Q (F0 m pc ls (.int x :: rest)) := h ▸ k
end XR
