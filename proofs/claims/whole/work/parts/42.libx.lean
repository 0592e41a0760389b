/-! throwing: pure words -/
def obx {α β : Type} (x : Option (Sum String α)) (k : α → Option (Sum String β)) : Option (Sum String β) := match x with
  | none => none
  | some (.inl q) => some (.inl q)
  | some (.inr u) => k u
theorem inr_1 {α : Type} {a b : α} (h : some (Sum.inr a : Sum String α) = some (.inr b)) : some a = some b := by
  injection h with h
  injection h with h
  rw [h]
theorem inl_1 {α : Type} {a b : String} (h : some (Sum.inl a : Sum String α) = some (.inl b)) : a = b := by
  injection h with h
  injection h with h
def obr {α : Type} (x : Option α) : Option (Sum String α) := match x with
  | none => none
  | some u => some (.inr u)
theorem obr_n {α : Type} {x : Option α} {u : α} (h : obr x = some (.inr u)) : x = some u := by
  cases x with
  | none => cases h
  | some v => injection h with h; injection h with h; rw [h]
theorem obr_x {α : Type} {x : Option α} {q : String} : ¬ obr x = some (.inl q) := by
  intro h
  cases x with
  | none => cases h
  | some v => injection h with h; cases h
theorem obx_n {α β : Type} {x : Option (Sum String α)} {k : α → Option (Sum String β)} {r : β} (h : obx x k = some (.inr r)) : ∃ u, x = some (.inr u) ∧ k u = some (.inr r) := by
  rcases x with _ | (q | u)
  · cases h
  · cases h
  · exact ⟨u, rfl, h⟩
theorem obx_x {α β : Type} {x : Option (Sum String α)} {k : α → Option (Sum String β)} {q : String} (h : obx x k = some (.inl q)) : x = some (.inl q) ∨ ∃ u, x = some (.inr u) ∧ k u = some (.inl q) := by
  rcases x with _ | (z | u)
  · cases h
  · left; injection h with h; injection h with h; rw [h]
  · right; exact ⟨u, rfl, h⟩
/-- what the class's statics hold -/
def stL : Nat → Int32 := fun j => ([1, 0, 2, 0] : List Int32).getD j 0
def stH : Nat → Int32 := fun j => ([100, 100, 9, 100] : List Int32).getD j 0
def XSTR : List (Nat × String) := [(89, "there are 40 commands"), (112, "what is not 0 to 3"), (121, "the value is out of its bounds"), (129, "the tape has not so many bytes"), (208, "which is not 0 or 1"), (226, "no such command"), (229, "the count is not 0 to 10,000"), (232, "the words are not 0 to 16,777,215"), (234, "the exchanges are not 0 to 3")]
/-- what a throw needs of the machine's start: two statics, the texts, three words; and the two static rows of set() -/
def XG (sa : Nat → Nat) (tl th : Nat) (A : Nat → Prop) (U : State) : Prop := vx_Zq Bundle.tN "UNASSIGNED_STACK" Bundle.steD A U U.heap ∧ vx_Zq Bundle.tN "SUPPRESSED_SENTINEL" Bundle.listD A U U.heap ∧ (∀ q ∈ XSTR, vk_R RX7 q.1 q.2 (sa q.1) U) ∧ (va_Nw (.castable "java/lang/IllegalArgumentException" "java/lang/IllegalArgumentException") U ∧ va_Nw (.castable "java/lang/IllegalStateException" "java/lang/IllegalStateException") U ∧ va_Nw (.castable "java/lang/IndexOutOfBoundsException" "java/lang/IndexOutOfBoundsException") U) ∧ (va_Nw (.declares (Bundle.initS "java/lang/RuntimeException")) U ∧ va_Nw (.declares (Bundle.initS "java/lang/Exception")) U ∧ va_Nw (.declares (Bundle.initS Bundle.tN)) U) ∧ (va_Z RX7 "LOWEST" "[I" (.ref tl) A U U.heap ∧ va_T .int tl 4 (fun j => .int (stL j)) A U U.heap ∧ va_Z RX7 "HIGHEST" "[I" (.ref th) A U U.heap ∧ va_T .int th 4 (fun j => .int (stH j)) A U U.heap)
theorem XG.pass {sa : Nat → Nat} {tl th : Nat} {A A1 : Nat → Prop} {s U : State} {H : Heap} {locs : List Loc} (h : XG sa tl th A s) (hS : va_S A s.heap H locs) (hA : ∀ q, A1 q → A q) (hU : U.heap = H) (hW : s.WarmedH U.vm) : XG sa tl th A1 U := by
  obtain ⟨h1, h2, h3, ⟨h4, h5, h6⟩, ⟨g4, g5, g6⟩, h7, h8, h9, h10⟩ := h
  have hk : ∀ a : Nat, a < s.heap.size → ¬ A a → U.heap[a]? = s.heap[a]? := fun a q1 q2 => by rw [hU]; exact hS.2.1 a q1 q2
  exact ⟨vx_Zq.narrow (vx_Zq.kept (vx_Zq.moved hW.alike h1) hk) hA, vx_Zq.narrow (vx_Zq.kept (vx_Zq.moved hW.alike h2) hk) hA, fun q hq => vk_R.warm hW (h3 q hq), ⟨va_Nw.warmC hW h4, va_Nw.warmC hW h5, va_Nw.warmC hW h6⟩, ⟨va_Nw.warmD hW g4, va_Nw.warmD hW g5, va_Nw.warmD hW g6⟩, va_Z.narrow (va_Z.kept (va_Z.moved hW.alike h7) hk) hA, va_T.narrow (va_T.kept (va_T.moved hW.alike h8) hk) hA, va_Z.narrow (va_Z.kept (va_Z.moved hW.alike h9) hk) hA, va_T.narrow (va_T.kept (va_T.moved hW.alike h10) hk) hA⟩
theorem XG.blind {sa : Nat → Nat} {tl th : Nat} {A : Nat → Prop} {U : State} (g : JFrame) (mk : MethodId) (a : Array Value) (h : XG sa tl th A U) : XG sa tl th A (U.calling g mk a) := XG.pass (s := U) (U := U.calling g mk a) (H := U.heap) (locs := []) h ⟨Nat.le_refl _, fun _ _ _ => rfl, fun _ q => by cases q⟩ (fun _ q => q) rfl (State.WarmedH.refl U)
/-- a call that throws q and leaves its world as it was -/
def QF (A : Nat → Prop) : Array Value → State → Outcome → State → Prop := va_Qv (fun (_ : Unit) => False) (fun _ _ => True) A
def XF (D : va_G) (cy : Nat → ClassId) (A : Nat → Prop) (q : String) (ws : va_W) : String → State → State → Prop := vx_X (fun (_ : Unit) => True) (fun q1 u t => q1 = q ∧ Bw D cy A ws u t) A
def MX (l : Launch) (y : MethodName) (w : List Cond) (rm : Room) (D : va_G) (cy : Nat → ClassId) (sa : Nat → Nat) (tl th : Nat) (q : String) (av : List Value) (sz : Nat) (ws : va_W) : Prop := vx_Met l y w rm (va_Pc av (fun U => Pw D cy sz ws U ∧ XG sa tl th (va_A ws sz) U)) (QF (va_A ws sz)) (XF D cy (va_A ws sz) q ws) rm.cells rm.slots (va_A ws sz)
theorem MX.of {l : Launch} {y : MethodName} {w w' : List Cond} {rm : Room} {D : va_G} {cy : Nat → ClassId} {sa : Nat → Nat} {tl th : Nat} {q : String} {av : List Value} {sz : Nat} {ws : va_W} {cc : ByteArray} {maxL : Nat} {ret : Option FieldType} (hy : Jvm.plainName y.cls = true) (hw : w = Cond.code y cc maxL ret :: w') (hlen : (lg_sl av).length ≤ maxL)
    (body : ∀ (p : Program) (e : Env) (s : State) (m : MethodId) (below : List Frame) (meth : Method) (c : Code) (A : Nat → Prop) (ls : Array Slot), p.tables.exec = Jvm.exec → c.code = cc → c.maxLocals = maxL → s.vm.findClass y.cls = some m.cls → (∀ x ∈ w, x.before av.toArray s = true) → meth.locks = false → meth.sig.returnType = ret → (∀ x ∈ c.exceptionTable.toList, False) → XG sa tl th A s → va_K D vwCl (TY cy) s → (∀ q, s.heap.size ≤ q → A q) → va_P D vwCl ws s.heap → va_D A ws → va_S A s.heap s.heap [] → lv_has ls maxL (lv_args 0 av) →
      W p l e rm s m av.toArray below meth c s.heap [] 0 0 (vx_MQ below (QF A) (XF D cy A q ws) av.toArray s rm.cells rm.slots A) (F0 m 0 ls [])) : MX l y w rm D cy sa tl th q av sz ws := by
  refine vx_ofW (cc := cc) (maxL := maxL) (ret := ret) hy hw ?_
  intro p e s m args below meth c s₁ B hml htab hv
  obtain ⟨rfl, ⟨hsz, hP, hK, hD0⟩, hG⟩ := hv
  subst hsz
  have hl := lv_entry av (n := maxL) hlen
  rw [lg_entry_eq]
  exact body p e s m below meth c (va_A ws s.heap.size) _ B.exec B.bytes hml (findClass_of_methodNamed B.named) (atoms_spec (ws := w) B.pre) B.notSynchronized B.returns htab hG hK (fun q h => Or.inr h) hP (hD0.self (sz := s.heap.size)) va_S.rf hl
/-- as MI, with the statics at hand -/
def MG (l : Launch) (y : MethodName) (w : List Cond) (rm : Room) (D : va_G) (cy : Nat → ClassId) (sa : Nat → Nat) (tl th : Nat) (av : List Value) (sz : Nat) (ws : va_W) (r0 : Int32) (ws' : va_W) : Prop := Met l y w rm (va_Pc av (fun U => Pw D cy sz ws U ∧ XG sa tl th (va_A ws sz) U)) (QI D cy (va_A ws sz) r0 ws') rm.cells rm.slots (va_A ws sz)
theorem MG.of {l : Launch} {y : MethodName} {w w' : List Cond} {rm : Room} {D : va_G} {cy : Nat → ClassId} {sa : Nat → Nat} {tl th : Nat} {av : List Value} {sz : Nat} {ws : va_W} {r0 : Int32} {ws' : va_W} {cc : ByteArray} {maxL : Nat} {ret : Option FieldType} (hy : Jvm.plainName y.cls = true) (hw : w = Cond.code y cc maxL ret :: w') (hlen : (lg_sl av).length ≤ maxL)
    (body : ∀ (p : Program) (e : Env) (s : State) (m : MethodId) (below : List Frame) (meth : Method) (c : Code) (A : Nat → Prop) (ls : Array Slot), p.tables.exec = Jvm.exec → c.code = cc → c.maxLocals = maxL → s.vm.findClass y.cls = some m.cls → (∀ x ∈ w, x.before av.toArray s = true) → meth.locks = false → meth.sig.returnType = ret → XG sa tl th A s → va_K D vwCl (TY cy) s → (∀ q, s.heap.size ≤ q → A q) → va_P D vwCl ws s.heap → va_D A ws → va_S A s.heap s.heap [] → lv_has ls maxL (lv_args 0 av) →
      W p l e rm s m av.toArray below meth c s.heap [] 0 0 (MQ below (QI D cy A r0 ws') av.toArray s rm.cells rm.slots A) (F0 m 0 ls [])) : MG l y w rm D cy sa tl th av sz ws r0 ws' := by
  refine Met.ofW (cc := cc) (maxL := maxL) (ret := ret) hy hw ?_
  intro p e s m args below meth c s₁ B hml hv
  obtain ⟨rfl, ⟨hsz, hP, hK, hD0⟩, hG⟩ := hv
  subst hsz
  have hl := lv_entry av (n := maxL) hlen
  rw [lg_entry_eq]
  exact body p e s m below meth c (va_A ws s.heap.size) _ B.exec B.bytes hml (findClass_of_methodNamed B.named) (atoms_spec (ws := w) B.pre) B.notSynchronized B.returns hG hK (fun q h => Or.inr h) hP (hD0.self (sz := s.heap.size)) va_S.rf hl
section LBX
variable {p : Program} {l : Launch} {e : Env} {R : Room} {s : State} {m : MethodId} {args : Array Value} {below : List Frame} {meth : Method} {c : Code} {H : Heap} {locs : List Loc} {cells slots : Nat} {Q : State → Prop}
variable {cc : ByteArray} {pc : Nat} {ls : Array Slot} {rest : List Value} {D : va_G} {A : Nat → Prop} {a : Nat} {ws ws' : va_W} {cy : Nat → ClassId}
theorem XF.of {q : String} (hK : va_K D vwCl (TY cy) s) (hP : va_P D vwCl ws H) (hD : va_D A ws) (hS : va_S A s.heap H locs) {t : State} (hvm : s.vm.Alike t.vm) (hz : H.size ≤ t.heap.size) (hk : ∀ q : Nat, q < H.size → t.heap[q]? = H[q]?) : XF D cy A q ws q s t :=
  ⟨(), trivial, ⟨rfl, hP.kept (fun k x hx => hk x.1 ((hP k x hx).lt)), va_K.moved hvm hK, hD⟩, Nat.le_trans hS.1 hz, fun x h1 h2 => (hk x (Nat.lt_of_lt_of_le h1 hS.1)).trans (hS.2.1 x h1 h2)⟩
/-- 'throw new E("text")' in a method of MenuPlanner -/
theorem th_S {q : String} {tx : String} {ik is ic : Nat} {sa : Nat → Nat} {tl th : Nat} {w : List Cond} (hlt : l.stackTraces = false) (hx : p.tables.exec = Jvm.exec) (hb : c.code = cc) (hml : c.maxLocals = ls.size) (hown : s.vm.findClass RX7 = some m.cls) (hlk : meth.locks = false) (htab : ∀ x ∈ c.exceptionTable.toList, False) (hG : XG sa tl th A s) (hK : va_K D vwCl (TY cy) s) (hP : va_P D vwCl ws H) (hD : va_D A ws) (hS : va_S A s.heap H locs)
    (hfit : Bundle.fit q = true) (hq : va_Nw (.castable q q) s) (hts : ∀ x ∈ w, x.before args s = true) (hk : Cond.classLink RX7 ik q ∈ w) (hini : Cond.initialized q ∈ w) (hw1 : ∀ x ∈ (vx_atS RX7 ic q ["java/lang/RuntimeException", "java/lang/Exception"]).filter goodWord, x ∈ w) (hw2 : ∀ x ∈ (vx_atS RX7 ic q ["java/lang/RuntimeException", "java/lang/Exception"]).filter (fun x => !goodWord x), x ∈ [Cond.castable q q, .declares (Bundle.initS "java/lang/RuntimeException"), .declares (Bundle.initS "java/lang/Exception"), .declares (Bundle.initS Bundle.tN)])
    (hgood : ∀ x ∈ Cond.classLink RX7 ik q :: Cond.initialized q :: vx_atS RX7 ic q ["java/lang/RuntimeException", "java/lang/Exception"], vx_ot x = true) (hstr : (is, tx) ∈ XSTR)
    (d0 : decode cc pc = .ok (.new ik, 3)) (d3 : decode cc (pc + 3) = .ok (.dup, 1)) (d4 : decode cc (pc + 4) = .ok (.ldc is, 2)) (d6 : decode cc (pc + 6) = .ok (.invokespecial ic, 3)) (d9 : decode cc (pc + 9) = .ok (.athrow, 1))
    (hf : 5 < R.frames) (hlo : (rest.map fun v => v.category).sum + 82 ≤ R.locals) (hc : cells + 1 ≤ R.cells) (hs : slots + 6 ≤ R.slots) :
    W p l e R s m args below meth c H locs cells slots (vx_MQ below (QF A) (XF D cy A q ws) args s (cells + 1) (slots + 6) A) (F0 m pc ls rest) := by
  refine vx_throwS (names := ["java/lang/RuntimeException", "java/lang/Exception"]) (sa := sa is) hx hb hlt hown hfit (by decide) (hts _ hk) (hts _ hini) (hG.2.2.1 _ hstr) (vx_hat (fun x h => hts x (hw1 x h)) hw2 (vx_c (va_Nw.use rfl hq) (vx_c (va_Nw.use rfl hG.2.2.2.2.1.1) (vx_c (va_Nw.use rfl hG.2.2.2.2.1.2.1) (vx_c (va_Nw.use rfl hG.2.2.2.2.1.2.2) vx_n))))) hgood hG.1 hG.2.1 hS hml.symm d0 d3 d4 d6 d9 (fun x h => (htab x h).elim) hf (by simpa using hlo) hc hs hlk (fun t h1 h2 h3 => XF.of hK hP hD hS h1 h2 h3) hS.2.2 (Nat.le_refl _) (Nat.le_refl _)
/-- a callee of MenuPlanner's own that throws -/
theorem xl_V {y : MethodName} {bytes : ByteArray} {maxL nL index n : Nat} {ret : Option FieldType} {wy Ts : List Cond} {rm : Room} {own : String} {b : Nat} {As st : List Value} {wc : va_W} {q : String} {sa : Nat → Nat} {tl th : Nat} (isC isR isO : List Nat) (wr : va_W) (ci : Nat) {qc : vw_C} {fs : List Value}
    (S : CallFix p m c cc nL s args Ts own) (hM : MX l y wy rm D cy sa tl th q (.ref b :: As) H.size wc) (cw : CallW R s args own y.cls index y bytes maxL ret wy rm rm.cells rm.slots n) (hlk : meth.locks = false) (htab : ∀ x ∈ c.exceptionTable.toList, False) (hG : XG sa tl th A s)
    (hK : va_K D vwCl (TY cy) s) (hP : va_P D vwCl ws H) (hD : va_D A ws) (hS : va_S A s.heap H locs) (hA : ∀ q, s.heap.size ≤ q → A q)
    (hC : isC.map (fun i => ws[i]?) = wc.map some) (hnC : va_nd isC = true) (hR : isR.map (fun i => ws[i]?) = wr.map some) (hnR : va_nd isR = true) (hdis : ∀ i ∈ isR, i ∉ isC) (hO : isO.map (fun i => (wr ++ wc)[i]?) = ws.map some) (hnO : va_nd isO = true) (hq : vwCl[ci]? = some qc) (hqc : qc.1 = y.cls) (he : wc[0]? = some (b, .inr (ci, fs)))
    (hn : As.length = n) (hsize : ls.size = nL) (hst : st = As.reverse ++ .ref b :: rest) (hw8 : (rest.map fun v => v.category).sum ≤ 8) (hdg : decode cc pc = .ok (.invokevirtual index, 3)) (hf : cells + rm.cells ≤ R.cells ∧ slots + rm.slots ≤ R.slots) : W p l e R s m args below meth c H locs cells slots (vx_MQ below (QF A) (XF D cy A q ws) args s (cells + rm.cells) (slots + rm.slots) A) (F0 m pc ls st) := by
  subst hst
  have hPc : va_P D vwCl wc H := hP.sub isC (fm_map hC)
  have hDc := hD.sub isC hnC hC
  have hFc := va_free hD hS hA isC hC
  refine vx_callv (A1 := va_A wc H.size) (A0 := A) (H0 := s.heap) (AX := va_A wc H.size) (px := fun (_ : Unit) => True) (BX := fun q1 u t => q1 = q ∧ Bw D cy (va_A wc H.size) wc u t) (post := fun (_ : Unit) => False) (B := fun _ _ => True) (vx_runV S hM cw ⟨fun a U g mk z => by obtain ⟨q0, ⟨q1, qP, qK, qD⟩, qG⟩ := z; exact ⟨q0, ⟨q1, qP, va_K.moved (u := U) (U := U.calling g mk a) (Vm.Alike.refl U.vm) qK, qD⟩, XG.blind g mk a qG⟩, hqc ▸ va_recv hK hPc hq he, fun U hU hW => ⟨rfl, ⟨by rw [hU], by rw [hU]; exact hPc, va_K.moved hW.alike hK, hDc.weaken (fun _ _ _ _ => trivial)⟩, XG.pass hG hS hFc hU hW⟩⟩ rfl hn hsize rfl (lv_room hw8) hdg hf) hS (fun q _ h => hFc q h) hFc (fun q _ h => hFc q h) (fun q1 ce q9 u t H1 locs1 ht hvm _ hB hz1 hk1 hS1 hce hcv hcl => ?_) (fun u t H1 locs1 ht hvm hw hB hz1 hk1 hS1 => hw.elim)
  obtain ⟨rfl, hP1, hK1, hD1⟩ := hB
  rw [ht] at hP1
  obtain ⟨hP2, hD2⟩ := va_join hP hD isC isR hC hR hnR hdis hk1 hFc hP1 hD1
  have hP3 : va_P D vwCl ws H1 := hP2.sub isO (fm_map hO)
  refine vx_out (fun x h => (htab x h).elim) hlk hce hcv hcl (fun t2 h1 h2 => ?_) hS1.2.2 (Nat.le_refl _) (Nat.le_refl _)
  exact XF.of hK hP3 hD hS1 h2 (by rw [h1]; exact Nat.le_refl _) (fun x _ => by rw [h1])
end LBX
theorem ret17 {α0 α1 α2 α3 α4 α5 α6 α7 α8 α9 α10 α11 α12 α13 α14 α15 α16 : Type} {a0 b0 : α0} {a1 b1 : α1} {a2 b2 : α2} {a3 b3 : α3} {a4 b4 : α4} {a5 b5 : α5} {a6 b6 : α6} {a7 b7 : α7} {a8 b8 : α8} {a9 b9 : α9} {a10 b10 : α10} {a11 b11 : α11} {a12 b12 : α12} {a13 b13 : α13} {a14 b14 : α14} {a15 b15 : α15} {a16 b16 : α16} (h : some (a0, a1, a2, a3, a4, a5, a6, a7, a8, a9, a10, a11, a12, a13, a14, a15, a16) = some (b0, b1, b2, b3, b4, b5, b6, b7, b8, b9, b10, b11, b12, b13, b14, b15, b16)) : a0 = b0 ∧ a1 = b1 ∧ a2 = b2 ∧ a3 = b3 ∧ a4 = b4 ∧ a5 = b5 ∧ a6 = b6 ∧ a7 = b7 ∧ a8 = b8 ∧ a9 = b9 ∧ a10 = b10 ∧ a11 = b11 ∧ a12 = b12 ∧ a13 = b13 ∧ a14 = b14 ∧ a15 = b15 ∧ a16 = b16 := by
  injection h with h
  injection h with e0 h
  injection h with e1 h
  injection h with e2 h
  injection h with e3 h
  injection h with e4 h
  injection h with e5 h
  injection h with e6 h
  injection h with e7 h
  injection h with e8 h
  injection h with e9 h
  injection h with e10 h
  injection h with e11 h
  injection h with e12 h
  injection h with e13 h
  injection h with e14 h
  injection h with e15 h
  exact ⟨e0, e1, e2, e3, e4, e5, e6, e7, e8, e9, e10, e11, e12, e13, e14, e15, h⟩
theorem ret18 {α0 α1 α2 α3 α4 α5 α6 α7 α8 α9 α10 α11 α12 α13 α14 α15 α16 α17 : Type} {a0 b0 : α0} {a1 b1 : α1} {a2 b2 : α2} {a3 b3 : α3} {a4 b4 : α4} {a5 b5 : α5} {a6 b6 : α6} {a7 b7 : α7} {a8 b8 : α8} {a9 b9 : α9} {a10 b10 : α10} {a11 b11 : α11} {a12 b12 : α12} {a13 b13 : α13} {a14 b14 : α14} {a15 b15 : α15} {a16 b16 : α16} {a17 b17 : α17} (h : some (a0, a1, a2, a3, a4, a5, a6, a7, a8, a9, a10, a11, a12, a13, a14, a15, a16, a17) = some (b0, b1, b2, b3, b4, b5, b6, b7, b8, b9, b10, b11, b12, b13, b14, b15, b16, b17)) : a0 = b0 ∧ a1 = b1 ∧ a2 = b2 ∧ a3 = b3 ∧ a4 = b4 ∧ a5 = b5 ∧ a6 = b6 ∧ a7 = b7 ∧ a8 = b8 ∧ a9 = b9 ∧ a10 = b10 ∧ a11 = b11 ∧ a12 = b12 ∧ a13 = b13 ∧ a14 = b14 ∧ a15 = b15 ∧ a16 = b16 ∧ a17 = b17 := by
  injection h with h
  injection h with e0 h
  injection h with e1 h
  injection h with e2 h
  injection h with e3 h
  injection h with e4 h
  injection h with e5 h
  injection h with e6 h
  injection h with e7 h
  injection h with e8 h
  injection h with e9 h
  injection h with e10 h
  injection h with e11 h
  injection h with e12 h
  injection h with e13 h
  injection h with e14 h
  injection h with e15 h
  injection h with e16 h
  exact ⟨e0, e1, e2, e3, e4, e5, e6, e7, e8, e9, e10, e11, e12, e13, e14, e15, e16, h⟩
theorem ret19 {α0 α1 α2 α3 α4 α5 α6 α7 α8 α9 α10 α11 α12 α13 α14 α15 α16 α17 α18 : Type} {a0 b0 : α0} {a1 b1 : α1} {a2 b2 : α2} {a3 b3 : α3} {a4 b4 : α4} {a5 b5 : α5} {a6 b6 : α6} {a7 b7 : α7} {a8 b8 : α8} {a9 b9 : α9} {a10 b10 : α10} {a11 b11 : α11} {a12 b12 : α12} {a13 b13 : α13} {a14 b14 : α14} {a15 b15 : α15} {a16 b16 : α16} {a17 b17 : α17} {a18 b18 : α18} (h : some (a0, a1, a2, a3, a4, a5, a6, a7, a8, a9, a10, a11, a12, a13, a14, a15, a16, a17, a18) = some (b0, b1, b2, b3, b4, b5, b6, b7, b8, b9, b10, b11, b12, b13, b14, b15, b16, b17, b18)) : a0 = b0 ∧ a1 = b1 ∧ a2 = b2 ∧ a3 = b3 ∧ a4 = b4 ∧ a5 = b5 ∧ a6 = b6 ∧ a7 = b7 ∧ a8 = b8 ∧ a9 = b9 ∧ a10 = b10 ∧ a11 = b11 ∧ a12 = b12 ∧ a13 = b13 ∧ a14 = b14 ∧ a15 = b15 ∧ a16 = b16 ∧ a17 = b17 ∧ a18 = b18 := by
  injection h with h
  injection h with e0 h
  injection h with e1 h
  injection h with e2 h
  injection h with e3 h
  injection h with e4 h
  injection h with e5 h
  injection h with e6 h
  injection h with e7 h
  injection h with e8 h
  injection h with e9 h
  injection h with e10 h
  injection h with e11 h
  injection h with e12 h
  injection h with e13 h
  injection h with e14 h
  injection h with e15 h
  injection h with e16 h
  injection h with e17 h
  exact ⟨e0, e1, e2, e3, e4, e5, e6, e7, e8, e9, e10, e11, e12, e13, e14, e15, e16, e17, h⟩
theorem ret20 {α0 α1 α2 α3 α4 α5 α6 α7 α8 α9 α10 α11 α12 α13 α14 α15 α16 α17 α18 α19 : Type} {a0 b0 : α0} {a1 b1 : α1} {a2 b2 : α2} {a3 b3 : α3} {a4 b4 : α4} {a5 b5 : α5} {a6 b6 : α6} {a7 b7 : α7} {a8 b8 : α8} {a9 b9 : α9} {a10 b10 : α10} {a11 b11 : α11} {a12 b12 : α12} {a13 b13 : α13} {a14 b14 : α14} {a15 b15 : α15} {a16 b16 : α16} {a17 b17 : α17} {a18 b18 : α18} {a19 b19 : α19} (h : some (a0, a1, a2, a3, a4, a5, a6, a7, a8, a9, a10, a11, a12, a13, a14, a15, a16, a17, a18, a19) = some (b0, b1, b2, b3, b4, b5, b6, b7, b8, b9, b10, b11, b12, b13, b14, b15, b16, b17, b18, b19)) : a0 = b0 ∧ a1 = b1 ∧ a2 = b2 ∧ a3 = b3 ∧ a4 = b4 ∧ a5 = b5 ∧ a6 = b6 ∧ a7 = b7 ∧ a8 = b8 ∧ a9 = b9 ∧ a10 = b10 ∧ a11 = b11 ∧ a12 = b12 ∧ a13 = b13 ∧ a14 = b14 ∧ a15 = b15 ∧ a16 = b16 ∧ a17 = b17 ∧ a18 = b18 ∧ a19 = b19 := by
  injection h with h
  injection h with e0 h
  injection h with e1 h
  injection h with e2 h
  injection h with e3 h
  injection h with e4 h
  injection h with e5 h
  injection h with e6 h
  injection h with e7 h
  injection h with e8 h
  injection h with e9 h
  injection h with e10 h
  injection h with e11 h
  injection h with e12 h
  injection h with e13 h
  injection h with e14 h
  injection h with e15 h
  injection h with e16 h
  injection h with e17 h
  injection h with e18 h
  exact ⟨e0, e1, e2, e3, e4, e5, e6, e7, e8, e9, e10, e11, e12, e13, e14, e15, e16, e17, e18, h⟩
