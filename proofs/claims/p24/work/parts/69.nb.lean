/-! 69.nb: a method that makes a row of its own; places of cells -/
def Gi (l : Launch) (E : XE) (y : MethodName) (b : ByteArray) (n : Nat) (r : Option FieldType) (rm : Room) (av : List Value) (H : Heap) (A : Nat → Prop) (P : Int32 → Heap → Prop) (mc ms : Nat) : Prop :=
  Met l y (wd y b n r) rm (va_Pc av (fun U => EV E A U ∧ U.heap = H)) (va_Qi (fun (x : Int32) (u : Int32) => x = u) (fun u t => P u t.heap) A) mc ms A
section
variable {p : Program} {l : Launch} {e : Env} {R : Room} {s : State} {m : MethodId} {args : Array Value} {below : List Frame} {meth : Method} {c : Code} {H : Heap} {locs : List Loc} {cells slots : Nat} {Q : State → Prop}
variable {E : XE} {A A1 : Nat → Prop} {cc : ByteArray} {nL n idx pc mc ms : Nat} {own : String} {st rest : List Value} {ls : Array Slot}
theorem x_retG {x : Int32} {P : Int32 → Heap → Prop} {ty : FieldType} (S : CallFix p m c cc nL s args GW own) (hr : meth.sig.returnType = some ty) (hlk : meth.locks = false) (hn : narrow ty (.int x) = .int x) (hS : va_S A s.heap H locs) (hP : P x H) (hdg : decode cc pc = .ok (.ireturn, 1)) :
    W p l e R s m args below meth c H locs mc ms (MQ below (va_Qi (fun (x : Int32) (u : Int32) => x = u) (fun u t => P u t.heap) A) args s mc ms A) (F0 m pc ls [.int x]) :=
  W.zret (ty := ty) S.1 S.2.1 hr hn (fun t ht _ => ⟨⟨x, x, rfl, rfl, by show P x t.heap; rw [ht]; exact hP⟩, hS.F ht⟩) hS.2.2 hdg hlk
theorem xk_G {ar : Array Value} {P : Int32 → Heap → Prop} (hr : va_Run p l e R s m args below meth c H locs cells slots mc ms (F0 m pc ls st) rest (va_Qi (fun (x : Int32) (u : Int32) => x = u) (fun u t => P u t.heap) A1 ar) A1) (hS : va_S A s.heap H locs) (hAA : ∀ q, A1 q → A q)
    (kk : ∀ (v : Int32) (H1 : Heap) (locs1 : List Loc), P v H1 → va_S A s.heap H1 locs1 → W p l e R s m args below meth c H1 locs1 (cells + mc) (slots + ms) Q (F0 m (pc + 3) ls (.int v :: rest))) : W p l e R s m args below meth c H locs cells slots Q (F0 m pc ls st) := by
  refine va_calli hr hS (fun q _ h => hAA q h) hAA (fun r u t H1 locs1 ht hvm hw hB hz1 hk1 hS1 => ?_)
  have hw : r = u := hw
  subst hw
  have hB : P r t.heap := hB
  rw [ht] at hB
  exact kk r H1 locs1 hB hS1
end
theorem xi_lt {E : XE} {a n : Nat} {f : Nat → Int32} {H : Heap} (h : XI E a n f H) : a < H.size := by
  have h : H[a]? = some (vp_cell (E.2.1 0) (n, .inl f)) := h
  exact (Array.getElem?_eq_some_iff.mp h).1
theorem xl_lt {E : XE} {a n : Nat} {f : Nat → Int64} {H : Heap} (h : XL E a n f H) : a < H.size := by
  have h : H[a]? = some (vp_cell (E.2.1 3) (n, .inr (.inl f))) := h
  exact (Array.getElem?_eq_some_iff.mp h).1
theorem box_lt {E : XE} {B : Nat} {β : BS} {H : Heap} (h : BoxP E B β H) : B + 118 ≤ H.size := by
  obtain ⟨h1, h2, h3, h4, h5, h6, h7, sh, h8⟩ := h
  have := xi_lt h8
  omega
theorem nb_x {σ : Nat → Int32} {k : Nat} (h : NB σ k) : ∃ x, x ≤ 6 ∧ nf σ k 3 = nI x := by
  obtain ⟨p, s, x, v, m, b1, b2, b3, b4, b5, b6, b7, b8, b9, -⟩ := h
  exact ⟨x, b4, b9⟩
