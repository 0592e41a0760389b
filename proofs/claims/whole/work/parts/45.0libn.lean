def z1L : Nat → Int64 := fun _ => 0
def z1I : Nat → Int32 := fun _ => 0
def z2L : Nat → Nat → Int64 := fun _ _ => 0
def QLN (D : va_G) (cy : Nat → ClassId) (A : Nat → Prop) (r0 : Int64) (P : (Nat → Nat) → (Nat → Nat) → va_W) : Array Value → State → Outcome → State → Prop := va_Ql (fun r (_ : (Nat → Nat) × (Nat → Nat)) => r = r0) (fun u t => Bw D cy A (P u.1 u.2) () t) A
def MLN (l : Launch) (y : MethodName) (w : List Cond) (rm : Room) (D : va_G) (cy : Nat → ClassId) (G : State → Prop) (av : List Value) (sz : Nat) (ws : va_W) (r0 : Int64) (P : (Nat → Nat) → (Nat → Nat) → va_W) : Prop := Met l y w rm (va_Pc av (fun U => Pw D cy sz ws U ∧ G U)) (QLN D cy (va_A ws sz) r0 P) rm.cells rm.slots (va_A ws sz)
theorem MLN.of {l : Launch} {y : MethodName} {w w' : List Cond} {rm : Room} {D : va_G} {cy : Nat → ClassId} {G : State → Prop} {av : List Value} {sz : Nat} {ws : va_W} {r0 : Int64} {P : (Nat → Nat) → (Nat → Nat) → va_W} {cc : ByteArray} {maxL : Nat} (hy : Jvm.plainName y.cls = true) (hw : w = Cond.code y cc maxL (some .long) :: w') (hlen : (lg_sl av).length ≤ maxL)
    (body : ∀ (p : Program) (e : Env) (s : State) (m : MethodId) (below : List Frame) (meth : Method) (c : Code) (A : Nat → Prop) (ls : Array Slot), p.tables.exec = Jvm.exec → c.code = cc → c.maxLocals = maxL → s.vm.findClass y.cls = some m.cls → (∀ x ∈ w, x.before av.toArray s = true) → meth.locks = false → meth.sig.returnType = some .long → G s → va_K D vwCl (TY cy) s → (∀ q, s.heap.size ≤ q → A q) → va_P D vwCl ws s.heap → va_D A ws → va_S A s.heap s.heap [] → lv_has ls maxL (lv_args 0 av) →
      W p l e rm s m av.toArray below meth c s.heap [] 0 0 (MQ below (QLN D cy A r0 P) av.toArray s rm.cells rm.slots A) (F0 m 0 ls [])) : MLN l y w rm D cy G av sz ws r0 P := by
  refine Met.ofW (cc := cc) (maxL := maxL) (ret := some .long) hy hw ?_
  intro p e s m args below meth c s₁ B hml hv
  obtain ⟨rfl, ⟨hsz, hP, hK, hD0⟩, hG⟩ := hv
  subst hsz
  have hl := lv_entry av (n := maxL) hlen
  rw [lg_entry_eq]
  exact body p e s m below meth c (va_A ws s.heap.size) _ B.exec B.bytes hml (findClass_of_methodNamed B.named) (atoms_spec (ws := w) B.pre) B.notSynchronized B.returns hG hK (fun q h => Or.inr h) hP (hD0.self (sz := s.heap.size)) va_S.rf hl
section LBN
variable {p : Program} {l : Launch} {e : Env} {R : Room} {s : State} {m : MethodId} {args : Array Value} {below : List Frame} {meth : Method} {c : Code} {H : Heap} {locs : List Loc} {cells slots : Nat} {Q : State → Prop}
variable {cc : ByteArray} {pc : Nat} {ls : Array Slot} {rest : List Value} {D : va_G} {A : Nat → Prop} {cy : Nat → ClassId}
theorem rten_l {v0 r0 : Int64} {P : (Nat → Nat) → (Nat → Nat) → va_W} {u v : Nat → Nat} {ws0 : va_W} (hv : v0 = r0) (hw : ws0 = P u v) (hx : p.tables.exec = Jvm.exec) (hb : c.code = cc) (hr : meth.sig.returnType = some .long) (hlk : meth.locks = false) (hK : va_K D vwCl (TY cy) s) (hP : va_P D vwCl ws0 H) (hD : va_D A ws0) (hS : va_S A s.heap H locs) (hdg : decode cc pc = .ok (.lreturn, 1)) : W p l e R s m args below meth c H locs cells slots (MQ below (QLN D cy A r0 P) args s cells slots A) (F0 m pc ls [.long v0]) := by
  subst hv
  subst hw
  exact W.lret hx hb hr (fun t ht hW => ⟨⟨v0, (u, v), rfl, rfl, by rw [ht]; exact hP, va_K.moved hW.alike hK, hD⟩, hS.F ht⟩) hS.2.2 hdg hlk
end LBN
