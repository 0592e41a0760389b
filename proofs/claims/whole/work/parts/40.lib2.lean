theorem al_kind {u U : Vm} (h : u.Alike U) (c : Nat) : (U.classes[c]?).map (fun k => k.kind) = (u.classes[c]?).map (fun k => k.kind) := by
  cases hc : u.classes[c]? with
  | none =>
    have h1 : U.classes[c]? = none := by
      rw [Array.getElem?_eq_none_iff] at hc ⊢
      rw [h.2.1]; exact hc
    rw [h1]
  | some k =>
    obtain ⟨k', h1, h2⟩ := h.2.2 c k hc
    rw [h1]
    simp only [Option.map_some]
    rw [h2]
theorem va_AOA.moved {ty : FieldType} {u U : State} (hvm : u.vm.Alike U.vm) (h : va_AOA ty u) : va_AOA ty U := by
  have hi : ∀ comp : ClassId, (U.vm.classes.findIdx? fun (x : Class) => match x.kind with | .array component _ => component == comp | _ => false) = (u.vm.classes.findIdx? fun (x : Class) => match x.kind with | .array component _ => component == comp | _ => false) := by
    intro comp
    have h1 := va_idx_bare U.vm comp
    have h2 := va_idx_bare u.vm comp
    have e9 : U.vm.bare = u.vm.bare := by first | exact hvm.bare_eq | exact hvm.bare_eq.symm
    rw [e9] at h1
    exact h1.symm.trans h2
  have hk : ∀ (c : ClassId) (F : Kind → Bool), (U.vm.classes[c]?).map (fun (k : Class) => F k.kind) = (u.vm.classes[c]?).map (fun (k : Class) => F k.kind) := by
    intro c F
    have := congrArg (Option.map F) (al_kind hvm c)
    simpa [Option.map_map, Function.comp_def] using this
  unfold va_AOA Cond.before Cond.holds at h ⊢
  simp only [Cond.value] at h ⊢
  rw [hvm.findClass]
  refine Eq.trans ?_ h
  congr 1
  refine congrArg (Option.bind _) (funext fun comp => ?_)
  refine (congrArg (fun o : Option Nat => o.bind _) (hi comp)).trans ?_
  refine congrArg (Option.bind _) (funext fun c => ?_)
  have := hk c (fun kd => match kd with | .array _ t => decide (t = FieldType.array ty) && decide (u.vm.findClass ("[" ++ (FieldType.array ty).toString) = some c) | _ => false)
  rw [hvm.findClass]
  exact this
/-! constructors: the new addresses u (single cells) and v (rows of an array of arrays) -/
def QN (D : va_G) (cy : Nat → ClassId) (A : Nat → Prop) (P : (Nat → Nat) → (Nat → Nat) → va_W) : Array Value → State → Outcome → State → Prop := va_Qv (fun (_ : (Nat → Nat) × (Nat → Nat)) => True) (fun u t => Bw D cy A (P u.1 u.2) () t) A
def MN (l : Launch) (y : MethodName) (w : List Cond) (rm : Room) (D : va_G) (cy : Nat → ClassId) (G : State → Prop) (av : List Value) (sz : Nat) (ws : va_W) (P : (Nat → Nat) → (Nat → Nat) → va_W) : Prop := Met l y w rm (va_Pc av (fun U => Pw D cy sz ws U ∧ G U)) (QN D cy (va_A ws sz) P) rm.cells rm.slots (va_A ws sz)
theorem MN.of {l : Launch} {y : MethodName} {w w' : List Cond} {rm : Room} {D : va_G} {cy : Nat → ClassId} {G : State → Prop} {av : List Value} {sz : Nat} {ws : va_W} {P : (Nat → Nat) → (Nat → Nat) → va_W} {cc : ByteArray} {maxL : Nat} (hy : Jvm.plainName y.cls = true) (hyn : y.name = "<init>") (hw : w = Cond.code y cc maxL none :: w') (hlen : (lg_sl av).length ≤ maxL)
    (body : ∀ (p : Program) (e : Env) (s : State) (m : MethodId) (below : List Frame) (meth : Method) (c : Code) (A : Nat → Prop) (ls : Array Slot), p.tables.exec = Jvm.exec → c.code = cc → c.maxLocals = maxL → s.vm.findClass y.cls = some m.cls → (∀ x ∈ w, x.before av.toArray s = true) → meth.locks = false → meth.sig.returnType = none → meth.name = "<init>" → G s → va_K D vwCl (TY cy) s → (∀ q, s.heap.size ≤ q → A q) → va_P D vwCl ws s.heap → va_D A ws → va_S A s.heap s.heap [] → lv_has ls maxL (lv_args 0 av) →
      W p l e rm s m av.toArray below meth c s.heap [] 0 0 (MQ below (QN D cy A P) av.toArray s rm.cells rm.slots A) (F0 m 0 ls [])) : MN l y w rm D cy G av sz ws P := by
  refine Met.ofW (cc := cc) (maxL := maxL) (ret := none) hy hw ?_
  intro p e s m args below meth c s₁ B hml hv
  obtain ⟨rfl, ⟨hsz, hP, hK, hD0⟩, hG⟩ := hv
  subst hsz
  have hl := lv_entry av (n := maxL) hlen
  rw [lg_entry_eq]
  exact body p e s m below meth c (va_A ws s.heap.size) _ B.exec B.bytes hml (findClass_of_methodNamed B.named) (atoms_spec (ws := w) B.pre) B.notSynchronized B.returns ((name_of_methodNamed B.named B.method).1.trans hyn) hG hK (fun q h => Or.inr h) hP (hD0.self (sz := s.heap.size)) va_S.rf hl
theorem mna_rows4 {r : Nat → Nat} {f : Nat → va_E} {x : va_E} : va_pl ([] ++ (List.range 4).map r) (vr_up f ((List.range 4).map r) x) = [(r 0, x), (r 1, x), (r 2, x), (r 3, x)] := by simp [va_pl, vr_up, List.range, List.range.loop]
theorem mna_rows9 {r : Nat → Nat} {f : Nat → va_E} {x : va_E} : va_pl ([] ++ (List.range 9).map r) (vr_up f ((List.range 9).map r) x) = [(r 0, x), (r 1, x), (r 2, x), (r 3, x), (r 4, x), (r 5, x), (r 6, x), (r 7, x), (r 8, x)] := by simp [va_pl, vr_up, List.range, List.range.loop]
section LB3
variable {p : Program} {l : Launch} {e : Env} {R : Room} {s : State} {m : MethodId} {args : Array Value} {below : List Frame} {meth : Method} {c : Code} {H : Heap} {locs : List Loc} {cells slots : Nat} {Q : State → Prop}
variable {cc : ByteArray} {pc : Nat} {ls : Array Slot} {rest : List Value} {D : va_G} {A : Nat → Prop} {a : Nat} {ws ws' : va_W} {H0 : Heap} {cy : Nat → ClassId}
theorem rt_n {P : (Nat → Nat) → (Nat → Nat) → va_W} {u v : Nat → Nat} (hx : p.tables.exec = Jvm.exec) (hb : c.code = cc) (hr : meth.sig.returnType = none) (hlk : meth.locks = false) (hK : va_K D vwCl (TY cy) s) (hP : va_P D vwCl (P u v) H) (hD : va_D A (P u v)) (hS : va_S A s.heap H locs) (hdg : decode cc pc = .ok (.return_, 1)) : W p l e R s m args below meth c H locs cells slots (MQ below (QN D cy A P) args s cells slots A) (F0 m pc ls []) :=
  W.vret hx hb hr (fun t ht hW => ⟨⟨(u, v), rfl, trivial, by rw [ht]; exact hP, va_K.moved hW.alike hK, hD⟩, hS.F ht⟩) hS.2.2 hdg hlk
theorem n_newI (hexec : p.tables.exec = Jvm.exec) (hb : c.code = cc) (harr : (Cond.arrayClass .int).before args s = true) (hK : va_K D vwCl (TY cy) s) (hP : va_P D vwCl ws H) (hD : va_D A ws) (hS : va_S A H0 H locs) (hA : ∀ q, H0.size ≤ q → A q)
    {n : Int32} {N' : Nat} (hn : ¬ n < 0) (hN : n.toNatClampNeg = N') (hbytes : N' * componentBytes .int ≤ 536870912) (hcells : cells + 1 ≤ R.cells) (hslots : slots + N' ≤ R.slots) (hdg : decode cc pc = .ok (.newarray .int, 2))
    (kk : ∀ (q : Nat) (H1 : Heap), va_P D vwCl (ws ++ [(q, .inl (cy 0, N', .inl (fun _ => 0)))]) H1 → va_D A (ws ++ [(q, .inl (cy 0, N', .inl (fun _ => 0)))]) → va_S A H0 H1 locs →
      W p l e R s m args below meth c H1 locs (cells + 1) (slots + N') Q (F0 m (pc + 2) ls (.ref q :: rest))) : W p l e R s m args below meth c H locs cells slots Q (F0 m pc ls (.int n :: rest)) := by
  refine va_newa (atype := .int) (a0 := (N', .inl (fun _ => 0))) hexec hb harr rfl hK hP hD hS hA (fun _ => rfl) hn hN hbytes hcells hslots hdg (fun q cA H1 hK1 hP1 hD1 hS1 => ?_)
  have h1 : s.vm.findClass ("[" ++ FieldType.toString .int) = some cA := (hK1.2 6 (cA, .int) rfl).2
  have h2 : s.vm.findClass ("[" ++ FieldType.toString .int) = some (cy 0) := (hK.2 0 (cy 0, .int) rfl).2
  have h3 : cA = cy 0 := Option.some.inj (h1.symm.trans h2)
  subst h3
  exact kk q H1 hP1 hD1 hS1
theorem n_newJ (hexec : p.tables.exec = Jvm.exec) (hb : c.code = cc) (harr : (Cond.arrayClass .long).before args s = true) (hK : va_K D vwCl (TY cy) s) (hP : va_P D vwCl ws H) (hD : va_D A ws) (hS : va_S A H0 H locs) (hA : ∀ q, H0.size ≤ q → A q)
    {n : Int32} {N' : Nat} (hn : ¬ n < 0) (hN : n.toNatClampNeg = N') (hbytes : N' * componentBytes .long ≤ 536870912) (hcells : cells + 1 ≤ R.cells) (hslots : slots + N' ≤ R.slots) (hdg : decode cc pc = .ok (.newarray .long, 2))
    (kk : ∀ (q : Nat) (H1 : Heap), va_P D vwCl (ws ++ [(q, .inl (cy 1, N', .inr (.inl (fun _ => 0))))]) H1 → va_D A (ws ++ [(q, .inl (cy 1, N', .inr (.inl (fun _ => 0))))]) → va_S A H0 H1 locs →
      W p l e R s m args below meth c H1 locs (cells + 1) (slots + N') Q (F0 m (pc + 2) ls (.ref q :: rest))) : W p l e R s m args below meth c H locs cells slots Q (F0 m pc ls (.int n :: rest)) := by
  refine va_newa (atype := .long) (a0 := (N', .inr (.inl (fun _ => 0)))) hexec hb harr rfl hK hP hD hS hA (fun _ => rfl) hn hN hbytes hcells hslots hdg (fun q cA H1 hK1 hP1 hD1 hS1 => ?_)
  have h1 : s.vm.findClass ("[" ++ FieldType.toString .long) = some cA := (hK1.2 6 (cA, .long) rfl).2
  have h2 : s.vm.findClass ("[" ++ FieldType.toString .long) = some (cy 1) := (hK.2 1 (cy 1, .long) rfl).2
  have h3 : cA = cy 1 := Option.some.inj (h1.symm.trans h2)
  subst h3
  exact kk q H1 hP1 hD1 hS1
theorem n_newB (hexec : p.tables.exec = Jvm.exec) (hb : c.code = cc) (harr : (Cond.arrayClass .byte).before args s = true) (hK : va_K D vwCl (TY cy) s) (hP : va_P D vwCl ws H) (hD : va_D A ws) (hS : va_S A H0 H locs) (hA : ∀ q, H0.size ≤ q → A q)
    {n : Int32} {N' : Nat} (hn : ¬ n < 0) (hN : n.toNatClampNeg = N') (hbytes : N' * componentBytes .byte ≤ 536870912) (hcells : cells + 1 ≤ R.cells) (hslots : slots + N' ≤ R.slots) (hdg : decode cc pc = .ok (.newarray .byte, 2))
    (kk : ∀ (q : Nat) (H1 : Heap), va_P D vwCl (ws ++ [(q, .inl (cy 2, N', .inl (fun _ => 0)))]) H1 → va_D A (ws ++ [(q, .inl (cy 2, N', .inl (fun _ => 0)))]) → va_S A H0 H1 locs →
      W p l e R s m args below meth c H1 locs (cells + 1) (slots + N') Q (F0 m (pc + 2) ls (.ref q :: rest))) : W p l e R s m args below meth c H locs cells slots Q (F0 m pc ls (.int n :: rest)) := by
  refine va_newa (atype := .byte) (a0 := (N', .inl (fun _ => 0))) hexec hb harr rfl hK hP hD hS hA (fun _ => rfl) hn hN hbytes hcells hslots hdg (fun q cA H1 hK1 hP1 hD1 hS1 => ?_)
  have h1 : s.vm.findClass ("[" ++ FieldType.toString .byte) = some cA := (hK1.2 6 (cA, .byte) rfl).2
  have h2 : s.vm.findClass ("[" ++ FieldType.toString .byte) = some (cy 2) := (hK.2 2 (cy 2, .byte) rfl).2
  have h3 : cA = cy 2 := Option.some.inj (h1.symm.trans h2)
  subst h3
  exact kk q H1 hP1 hD1 hS1
theorem n_newZ (hexec : p.tables.exec = Jvm.exec) (hb : c.code = cc) (harr : (Cond.arrayClass .boolean).before args s = true) (hK : va_K D vwCl (TY cy) s) (hP : va_P D vwCl ws H) (hD : va_D A ws) (hS : va_S A H0 H locs) (hA : ∀ q, H0.size ≤ q → A q)
    {n : Int32} {N' : Nat} (hn : ¬ n < 0) (hN : n.toNatClampNeg = N') (hbytes : N' * componentBytes .boolean ≤ 536870912) (hcells : cells + 1 ≤ R.cells) (hslots : slots + N' ≤ R.slots) (hdg : decode cc pc = .ok (.newarray .boolean, 2))
    (kk : ∀ (q : Nat) (H1 : Heap), va_P D vwCl (ws ++ [(q, .inl (cy 3, N', .inl (fun _ => 0)))]) H1 → va_D A (ws ++ [(q, .inl (cy 3, N', .inl (fun _ => 0)))]) → va_S A H0 H1 locs →
      W p l e R s m args below meth c H1 locs (cells + 1) (slots + N') Q (F0 m (pc + 2) ls (.ref q :: rest))) : W p l e R s m args below meth c H locs cells slots Q (F0 m pc ls (.int n :: rest)) := by
  refine va_newa (atype := .boolean) (a0 := (N', .inl (fun _ => 0))) hexec hb harr rfl hK hP hD hS hA (fun _ => rfl) hn hN hbytes hcells hslots hdg (fun q cA H1 hK1 hP1 hD1 hS1 => ?_)
  have h1 : s.vm.findClass ("[" ++ FieldType.toString .boolean) = some cA := (hK1.2 6 (cA, .boolean) rfl).2
  have h2 : s.vm.findClass ("[" ++ FieldType.toString .boolean) = some (cy 3) := (hK.2 3 (cy 3, .boolean) rfl).2
  have h3 : cA = cy 3 := Option.some.inj (h1.symm.trans h2)
  subst h3
  exact kk q H1 hP1 hD1 hS1
theorem n_mna4I (hexec : p.tables.exec = Jvm.exec) (hb : c.code = cc) {own : String} {index : Nat} (hown : s.vm.findClass own = some m.cls) (hclink : (Cond.classLink own index "[[I").before args s = true) (hover : va_AOA .int s) (harr : (Cond.arrayClass .int).before args s = true) (hK : va_K D vwCl (TY cy) s) (hP : va_P D vwCl ws H) (hD : va_D A ws) (hS : va_S A H0 H locs) (hA : ∀ q, H0.size ≤ q → A q)
    {n k : Int32} {K' : Nat} (hn : ¬ n < 0) (hk : ¬ k < 0) (hN : n.toNatClampNeg = 4) (hM : k.toNatClampNeg = K') (hb2 : K' * componentBytes .int ≤ 536870912) (hb3 : K' ≤ 536870912) (hcells : cells + (1 + 4) ≤ R.cells) (hslots : slots + (4 + 4 * K') ≤ R.slots) (hdg : decode cc pc = .ok (.multianewarray index 2, 4))
    (kk : ∀ (q : Nat) (r : Nat → Nat) (H1 : Heap), va_P D vwCl (ws ++ ([(q, .inl (cy 4, 4, .inr (.inr (.inr (.inr (fun i => if i < 4 then some (r i) else none)))))), (r 0, .inl (cy 0, K', .inl (fun _ => 0))), (r 1, .inl (cy 0, K', .inl (fun _ => 0))), (r 2, .inl (cy 0, K', .inl (fun _ => 0))), (r 3, .inl (cy 0, K', .inl (fun _ => 0)))] : va_W)) H1 → va_D A (ws ++ ([(q, .inl (cy 4, 4, .inr (.inr (.inr (.inr (fun i => if i < 4 then some (r i) else none)))))), (r 0, .inl (cy 0, K', .inl (fun _ => 0))), (r 1, .inl (cy 0, K', .inl (fun _ => 0))), (r 2, .inl (cy 0, K', .inl (fun _ => 0))), (r 3, .inl (cy 0, K', .inl (fun _ => 0)))] : va_W)) → va_S A H0 H1 locs →
      W p l e R s m args below meth c H1 locs (cells + 1 + 4) (slots + 4 + 4 * K') Q (F0 m (pc + 4) ls (.ref q :: rest))) : W p l e R s m args below meth c H locs cells slots Q (F0 m pc ls (.int k :: .int n :: rest)) := by
  have hcy : s.vm.findClass (FieldType.array .int).toString = some (cy 0) := (hK.2 0 (cy 0, .int) rfl).2
  refine va_mna (X := ws) (L := []) (f := fun _ => .inr (0, [])) (ty := .int) (cy := cy 0) (N' := 4) (K' := K') (z := (K', .inl (fun _ => 0))) hexec hb hown hclink hover harr hcy hK (by simpa [va_pl] using hP) (by simpa [va_pl] using hD) hS hA hn hk hN hM (by decide) hb2 hb3 rfl rfl hcells hslots (fun c9 => ?_) hdg (fun q r cA H1 hr1 hr2 hK1 hP1 hD1 hS1 => ?_)
  · show ({ cls := c9, slots := Array.replicate K' (defaultValue .int), vm := .none } : Cell) = _
    rw [arrV_new]
    rfl
  · have h1 : s.vm.findClass ("[" ++ (FieldType.array .int).toString) = some cA := (hK1.2 6 (cA, .array .int) rfl).2
    have h2 : s.vm.findClass ("[" ++ (FieldType.array .int).toString) = some (cy 4) := (hK.2 4 (cy 4, .array .int) rfl).2
    have h3 : cA = cy 4 := Option.some.inj (h1.symm.trans h2)
    subst h3
    rw [mna_rows4, List.append_assoc] at hP1 hD1
    exact kk q r H1 hP1 hD1 hS1
theorem n_mna9J (hexec : p.tables.exec = Jvm.exec) (hb : c.code = cc) {own : String} {index : Nat} (hown : s.vm.findClass own = some m.cls) (hclink : (Cond.classLink own index "[[J").before args s = true) (hover : va_AOA .long s) (harr : (Cond.arrayClass .long).before args s = true) (hK : va_K D vwCl (TY cy) s) (hP : va_P D vwCl ws H) (hD : va_D A ws) (hS : va_S A H0 H locs) (hA : ∀ q, H0.size ≤ q → A q)
    {n k : Int32} {K' : Nat} (hn : ¬ n < 0) (hk : ¬ k < 0) (hN : n.toNatClampNeg = 9) (hM : k.toNatClampNeg = K') (hb2 : K' * componentBytes .long ≤ 536870912) (hb3 : K' ≤ 536870912) (hcells : cells + (1 + 9) ≤ R.cells) (hslots : slots + (9 + 9 * K') ≤ R.slots) (hdg : decode cc pc = .ok (.multianewarray index 2, 4))
    (kk : ∀ (q : Nat) (r : Nat → Nat) (H1 : Heap), va_P D vwCl (ws ++ ([(q, .inl (cy 5, 9, .inr (.inr (.inr (.inr (fun i => if i < 9 then some (r i) else none)))))), (r 0, .inl (cy 1, K', .inr (.inl (fun _ => 0)))), (r 1, .inl (cy 1, K', .inr (.inl (fun _ => 0)))), (r 2, .inl (cy 1, K', .inr (.inl (fun _ => 0)))), (r 3, .inl (cy 1, K', .inr (.inl (fun _ => 0)))), (r 4, .inl (cy 1, K', .inr (.inl (fun _ => 0)))), (r 5, .inl (cy 1, K', .inr (.inl (fun _ => 0)))), (r 6, .inl (cy 1, K', .inr (.inl (fun _ => 0)))), (r 7, .inl (cy 1, K', .inr (.inl (fun _ => 0)))), (r 8, .inl (cy 1, K', .inr (.inl (fun _ => 0))))] : va_W)) H1 → va_D A (ws ++ ([(q, .inl (cy 5, 9, .inr (.inr (.inr (.inr (fun i => if i < 9 then some (r i) else none)))))), (r 0, .inl (cy 1, K', .inr (.inl (fun _ => 0)))), (r 1, .inl (cy 1, K', .inr (.inl (fun _ => 0)))), (r 2, .inl (cy 1, K', .inr (.inl (fun _ => 0)))), (r 3, .inl (cy 1, K', .inr (.inl (fun _ => 0)))), (r 4, .inl (cy 1, K', .inr (.inl (fun _ => 0)))), (r 5, .inl (cy 1, K', .inr (.inl (fun _ => 0)))), (r 6, .inl (cy 1, K', .inr (.inl (fun _ => 0)))), (r 7, .inl (cy 1, K', .inr (.inl (fun _ => 0)))), (r 8, .inl (cy 1, K', .inr (.inl (fun _ => 0))))] : va_W)) → va_S A H0 H1 locs →
      W p l e R s m args below meth c H1 locs (cells + 1 + 9) (slots + 9 + 9 * K') Q (F0 m (pc + 4) ls (.ref q :: rest))) : W p l e R s m args below meth c H locs cells slots Q (F0 m pc ls (.int k :: .int n :: rest)) := by
  have hcy : s.vm.findClass (FieldType.array .long).toString = some (cy 1) := (hK.2 1 (cy 1, .long) rfl).2
  refine va_mna (X := ws) (L := []) (f := fun _ => .inr (0, [])) (ty := .long) (cy := cy 1) (N' := 9) (K' := K') (z := (K', .inr (.inl (fun _ => 0)))) hexec hb hown hclink hover harr hcy hK (by simpa [va_pl] using hP) (by simpa [va_pl] using hD) hS hA hn hk hN hM (by decide) hb2 hb3 rfl rfl hcells hslots (fun c9 => ?_) hdg (fun q r cA H1 hr1 hr2 hK1 hP1 hD1 hS1 => ?_)
  · show ({ cls := c9, slots := Array.replicate K' (defaultValue .long), vm := .none } : Cell) = _
    rw [arrV_new]
    rfl
  · have h1 : s.vm.findClass ("[" ++ (FieldType.array .long).toString) = some cA := (hK1.2 6 (cA, .array .long) rfl).2
    have h2 : s.vm.findClass ("[" ++ (FieldType.array .long).toString) = some (cy 5) := (hK.2 5 (cy 5, .array .long) rfl).2
    have h3 : cA = cy 5 := Option.some.inj (h1.symm.trans h2)
    subst h3
    rw [mna_rows9, List.append_assoc] at hP1 hD1
    exact kk q r H1 hP1 hD1 hS1
theorem cl_Nn {y : MethodName} {bytes : ByteArray} {maxL nL index : Nat} {wy Ts : List Cond} {rm : Room} {own host : String} {b : Nat} {st : List Value} {wc : va_W} {P : (Nat → Nat) → (Nat → Nat) → va_W} {G : State → Prop} (isC isR : List Nat) (wr : va_W)
    (S : CallFix p m c cc nL s args Ts own) (hM : MN l y wy rm D cy G [.ref b] H.size wc P) (cw : va_CN R s args own index y host bytes maxL none wy rm rm.cells rm.slots 0 ∧ y.name = "<init>" ∧ (Cond.instanceMethod y).before args s = true) (hG : ∀ U : State, s.WarmedH U.vm → G U) (hGb : ∀ (U : State) (g : JFrame) (mk : MethodId) (a : Array Value), G U → G (U.calling g mk a))
    (hK : va_K D vwCl (TY cy) s) (hP : va_P D vwCl ws H) (hD : va_D A ws) (hS : va_S A H0 H locs) (hA : ∀ q, H0.size ≤ q → A q)
    (hC : isC.map (fun i => ws[i]?) = wc.map some) (hnC : va_nd isC = true) (hR : isR.map (fun i => ws[i]?) = wr.map some) (hnR : va_nd isR = true) (hdis : ∀ i ∈ isR, i ∉ isC)
    (hsize : ls.size = nL) (hst : st = .ref b :: rest) (hw8 : (rest.map fun v => v.category).sum ≤ 8) (hdg : decode cc pc = .ok (.invokespecial index, 3)) (hf : cells + rm.cells ≤ R.cells ∧ slots + rm.slots ≤ R.slots)
    (kk : ∀ (u v : Nat → Nat) (H1 : Heap) (locs1 : List Loc), va_P D vwCl (wr ++ P u v) H1 → va_D A (wr ++ P u v) → va_S A H0 H1 locs1 → W p l e R s m args below meth c H1 locs1 (cells + rm.cells) (slots + rm.slots) Q (F0 m (pc + 3) ls rest)) : W p l e R s m args below meth c H locs cells slots Q (F0 m pc ls st) := by
  subst hst
  have hPc : va_P D vwCl wc H := hP.sub isC (fm_map hC)
  have hDc := hD.sub isC hnC hC
  have hFc := va_free hD hS hA isC hC
  refine va_callv (va_runIN (As := []) S hM cw ⟨fun a U g mk q => by obtain ⟨q0, ⟨q1, qP, qK, qD⟩, qG⟩ := q; exact ⟨q0, ⟨q1, qP, va_K.moved (u := U) (U := U.calling g mk a) (Vm.Alike.refl U.vm) qK, qD⟩, hGb U g mk a qG⟩, fun U hU hW => ⟨rfl, ⟨by rw [hU], by rw [hU]; exact hPc, va_K.moved hW.alike hK, hDc.weaken (fun _ _ _ _ => trivial)⟩, hG U hW⟩⟩ rfl rfl hsize rfl (lv_room hw8) hdg hf) hS (fun q _ h => hFc q h) hFc (fun u t H1 locs1 ht hvm hw hB hz1 hk1 hS1 => ?_)
  obtain ⟨hP1, hK1, hD1⟩ := hB
  rw [ht] at hP1
  obtain ⟨hP2, hD2⟩ := va_join hP hD isC isR hC hR hnR hdis hk1 hFc hP1 hD1
  exact kk u.1 u.2 H1 locs1 hP2 hD2 hS1
end LB3
