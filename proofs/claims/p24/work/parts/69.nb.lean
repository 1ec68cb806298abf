/-! 69.nb: a method that makes a row of its own; places of cells -/
def GB (P : Int32 → Heap → Prop) : Int32 → State → Prop := fun u t => P u t.heap
def Gi (l : Launch) (E : XE) (y : MethodName) (b : ByteArray) (n : Nat) (r : Option FieldType) (rm : Room) (av : List Value) (H : Heap) (A : Nat → Prop) (P : Int32 → Heap → Prop) (mc ms : Nat) : Prop :=
  Met l y (wd y b n r) rm (va_Pc av (fun U => EV E A U ∧ U.heap = H)) (va_Qi (fun (x : Int32) (u : Int32) => x = u) (GB P) A) mc ms A
section
variable {p : Program} {l : Launch} {e : Env} {R : Room} {s : State} {m : MethodId} {args : Array Value} {below : List Frame} {meth : Method} {c : Code} {H : Heap} {locs : List Loc} {cells slots : Nat} {Q : State → Prop}
variable {E : XE} {A A1 : Nat → Prop} {cc : ByteArray} {nL n idx pc mc ms : Nat} {own : String} {st rest : List Value} {ls : Array Slot}
theorem x_retG {x : Int32} {P : Int32 → Heap → Prop} {ty : FieldType} (S : CallFix p m c cc nL s args GW own) (hr : meth.sig.returnType = some ty) (hlk : meth.locks = false) (hn : narrow ty (.int x) = .int x) (hS : va_S A s.heap H locs) (hP : P x H) (hdg : decode cc pc = .ok (.ireturn, 1)) :
    W p l e R s m args below meth c H locs mc ms (MQ below (va_Qi (fun (x : Int32) (u : Int32) => x = u) (GB P) A) args s mc ms A) (F0 m pc ls [.int x]) :=
  W.zret (ty := ty) S.1 S.2.1 hr hn (fun t ht _ => ⟨⟨x, x, rfl, rfl, by show P x t.heap; rw [ht]; exact hP⟩, hS.F ht⟩) hS.2.2 hdg hlk
theorem xk_G {ar : Array Value} {P : Int32 → Heap → Prop} (hr : va_Run p l e R s m args below meth c H locs cells slots mc ms (F0 m pc ls st) rest (va_Qi (fun (x : Int32) (u : Int32) => x = u) (GB P) A1 ar) A1) (hS : va_S A s.heap H locs) (hAA : ∀ q, A1 q → A q)
    (kk : ∀ (v : Int32) (H1 : Heap) (locs1 : List Loc), P v H1 → va_S A s.heap H1 locs1 → W p l e R s m args below meth c H1 locs1 (cells + mc) (slots + ms) Q (F0 m (pc + 3) ls (.int v :: rest))) : W p l e R s m args below meth c H locs cells slots Q (F0 m pc ls st) := by
  refine va_calli hr hS (fun q _ h => hAA q h) hAA (fun r u t H1 locs1 ht hvm hw hB hz1 hk1 hS1 => ?_)
  have hw : r = u := hw
  subst hw
  unfold GB at hB
  rw [ht] at hB
  exact kk r H1 locs1 hB hS1
end
theorem xi_lt {E : XE} {a n : Nat} {f : Nat → Int32} {H : Heap} (h : XI E a n f H) : a < H.size := by
  have h : H[a]? = some (vp_cell (E.2.1 0) (n, .inl f)) := h
  exact (Array.getElem?_eq_some_iff.mp h).1
theorem xl_lt {E : XE} {a n : Nat} {f : Nat → Int64} {H : Heap} (h : XL E a n f H) : a < H.size := by
  have h : H[a]? = some (vp_cell (E.2.1 3) (n, .inr (.inl f))) := h
  exact (Array.getElem?_eq_some_iff.mp h).1
theorem box_lt {E : XE} {B : Nat} {β : BS} {H : Heap} (h : BoxP E B β H) : B + 118 ≤ H.size := by
  obtain ⟨h1, h2, h3, h4, h5, h6, h7, sh, h8⟩ := h
  have := xi_lt h8
  omega
theorem nb_x {σ : Nat → Int32} {k : Nat} (h : NB σ k) : ∃ x, x ≤ 6 ∧ nf σ k 3 = nI x := by
  obtain ⟨p, s, x, v, m, b1, b2, b3, b4, b5, b6, b7, b8, b9, -⟩ := h
  exact ⟨x, b4, b9⟩
/-- a method that reads the script: any row of whole numbers that stands outside -/
def EX (E : XE) (bb L : Nat) (xs : Nat → Int32) (U : State) : Prop := EV E (fun _ => False) U ∧ va_X bb L xs U U.heap
theorem ex_blind {E : XE} {bb L : Nat} {xs : Nat → Int32} {av : List Value} {H : Heap} : FrameBlind (va_Pc av (fun U => EX E bb L xs U ∧ U.heap = H)) := by
  intro a U g mk h
  exact ⟨h.1, ⟨EV.same (u := U) rfl rfl h.2.1.1, va_X.moved (u := U) (Vm.Alike.refl _) h.2.1.2⟩, h.2.2⟩
def Rx (l : Launch) (E : XE) (y : MethodName) (b : ByteArray) (n : Nat) (r : Option FieldType) (rm : Room) (av : List Value) (H : Heap) (bb L : Nat) (xs : Nat → Int32) (v : Int32) : Prop :=
  Met l y (wd y b n r) rm (va_Pc av (fun U => EX E bb L xs U ∧ U.heap = H)) (va_Qi (fun (x : Int32) (_ : Unit) => x = v) (fun _ t => t.heap = H) (fun _ => False)) 0 0 (fun _ => False)
theorem met_ofX {l : Launch} {y : MethodName} {b : ByteArray} {n : Nat} {r : Option FieldType} {rm : Room} {av : List Value} {E : XE} {bb L : Nat} {xs : Nat → Int32} {H : Heap} {Qc : Array Value → State → Outcome → State → Prop} {mc ms : Nat} {free : Addr → Prop} (hy : plainName y.cls = true) (hn : (lg_sl av).length ≤ n)
    (body : ∀ (p : Program) (e : Env) (s : State) (m : MethodId) (args : Array Value) (below : List Frame) (meth : Method) (c : Code), BD p s m args meth c y b n r E (fun _ => False) H → va_X bb L xs s s.heap → ∀ Q : State → Prop, Q = MQ below Qc args s mc ms free → ∀ ls : Array Slot, lv_has ls n (lv_args 0 av) → W p l e rm s m args below meth c s.heap [] 0 0 Q (F0 m 0 ls [])) :
    Met l y (wd y b n r) rm (va_Pc av (fun U => EX E bb L xs U ∧ U.heap = H)) Qc mc ms free := by
  refine Met.ofW (cc := b) (maxL := n) (ret := r) hy rfl ?_
  intro p e s m args below meth c s₁ B hml hv
  obtain ⟨rfl, ⟨hE, hX⟩, hH⟩ := hv
  rw [lg_entry_eq]
  exact body p e s m _ below meth c ⟨⟨B.exec, B.bytes, hml, findClass_of_methodNamed B.named, fun w hw => atoms_spec (ws := wd y b n r) B.pre w (List.mem_cons_of_mem _ hw)⟩, B.returns, B.notSynchronized, (name_of_methodNamed B.named B.method).1, hE, hH⟩ hX _ rfl _ (lv_entry av hn)
theorem x_runSX {p : Program} {l : Launch} {e : Env} {R : Room} {s : State} {m : MethodId} {args : Array Value} {below : List Frame} {meth : Method} {c : Code} {H : Heap} {locs : List Loc} {cells slots : Nat} {E : XE} {A : Nat → Prop} {cc bytes : ByteArray} {nL maxL n idx pc mc ms bb L : Nat} {xs : Nat → Int32} {own : String} {y : MethodName} {ret : Option FieldType} {rm : Room} {As st rest : List Value} {Qc : Array Value → State → Outcome → State → Prop} {ls : Array Slot} {free : Addr → Prop}
    (S : CallFix p m c cc nL s args GW own) (hE : EV E A s) (hS : va_S A s.heap H locs) (hX : va_X bb L xs s s.heap) (hbl : bb < s.heap.size) (hbA : ¬ A bb)
    (hM : Met l y (wd y bytes maxL ret) rm (va_Pc As (fun U => EX E bb L xs U ∧ U.heap = H)) Qc mc ms free)
    (kc : KV y bytes maxL ret n) (kl : Cond.methodLink own idx y ∈ GW) (ki : Cond.static y ∈ GW)
    (hR : rm.frames + 1 ≤ R.frames ∧ 8 + (maxL + 11) + rm.locals ≤ R.locals) (hrc : rm.cells = mc) (hrs : rm.slots = ms) (hn : As.length = n) (hsz : ls.size = nL) (hst : st = As.reverse ++ rest) (hrest : (rest.map fun v => v.category).sum ≤ 8)
    (hdg : decode cc pc = .ok (.invokestatic idx, 3)) (hf : cells + mc ≤ R.cells ∧ slots + ms ≤ R.slots) :
    va_Run p l e R s m args below meth c H locs cells slots mc ms (F0 m pc ls st) rest (Qc As.toArray) free := by
  have hG : GoodIn GW (va_wsS own idx y (wd y bytes maxL ret)) := by
    refine goodIn_app ?_ (wd_good (fun _ h => h) kc.1)
    intro w hw
    have hg : w ∈ GW := by
      simp only [List.mem_cons, List.not_mem_nil, or_false] at hw
      rcases hw with h | h | h <;> subst h
      · exact kl
      · exact ki
      · exact kc.2.1
    exact ⟨hg, gw_in hg⟩
  exact va_runS (As := As) (rest := rest) S hM (va_cwS n S.2.2.2.2 hG rfl hrc hrs kc.2.2 hR) ⟨ex_blind, fun U hU hW => ⟨rfl, ⟨hE.call hS (fun _ h => h.elim) hU hW, by rw [hU]; exact (hX.kept (hS.2.1 bb hbl hbA)).moved hW.alike⟩, hU⟩⟩ rfl hn hsz hst (lv_room hrest) hdg hf
/-- a new row of longs -/
theorem x_newL {p : Program} {l : Launch} {e : Env} {R : Room} {s : State} {m : MethodId} {args : Array Value} {below : List Frame} {meth : Method} {c : Code} {H : Heap} {locs : List Loc} {cells slots : Nat} {Q : State → Prop} {E : XE} {A : Nat → Prop} {cc : ByteArray} {nL pc : Nat} {own : String} {rest : List Value} {ls : Array Slot}
    (S : CallFix p m c cc nL s args GW own) (hE : EV E A s) (hL : EL E) (hS : va_S A s.heap H locs) (ka : Cond.arrayClass .long ∈ GW) {i : Int32} {k : Nat} (hi : i = nI k) (hk : k < 10000000) (hcells : cells + 1 ≤ R.cells) (hslots : slots + k ≤ R.slots) (hdg : decode cc pc = .ok (.newarray .long, 2)) {z : Nat} (hz : H.size = z)
    (kk : ∀ H1 : Heap, XL E z k (fun _ => 0) H1 → H1.size = z + 1 → (∀ q : Nat, q < z → H1[q]? = H[q]?) → va_S A s.heap H1 locs → W p l e R s m args below meth c H1 locs (cells + 1) (slots + k) Q (F0 m (pc + 2) ls (.ref z :: rest))) : W p l e R s m args below meth c H locs cells slots Q (F0 m pc ls (.int i :: rest)) := by
  subst hi
  have hle : s.heap.size ≤ z := hz ▸ hS.1
  have ht : (xtys E)[3]? = some (E.2.1 3, .long) := hL
  refine va_newaK (atype := .long) S.1 S.2.1 (S.2.2.2.2 _ ka) rfl hdg rfl (nI_pos (by omega)) (nI_clamp (by omega)) (by show k * 8 ≤ _; omega) hcells hslots hz fun H1 cA e1 z1 o1 hAr hNm => ?_
  have hcA : cA = E.2.1 3 := Option.some.inj (hNm.symm.trans ((hE.1.1.2 3 _ ht).2))
  subst hcA
  exact kk H1 e1 z1 o1 ⟨by omega, fun x h1 h2 => (o1 x (by omega)).trans (hS.2.1 x h1 h2), hS.2.2⟩
