/-! the law's wrappers -/
theorem mf_mono {l : Launch} {y : MethodName} {S : Spec} {P : Array Value → State → Prop} {Q Q2 : Array Value → State → Outcome → State → Prop} (h : MetFree l y S P (fun _ _ _ _ _ => True) Q) (hQ : ∀ a s o t, Q a s o t → Q2 a s o t) : MetFree l y S P (fun _ _ _ _ _ => True) Q2 := by
  intro p e ha hc hk s m args below hf happ hP hF
  obtain ⟨k, o, h1, h2, h3, hq⟩ := h p e ha hc hk s m args below hf happ hP hF
  exact ⟨k, o, h1, h2, h3, hQ _ _ _ _ hq⟩
theorem vx_mono {l : Launch} {y : MethodName} {w : List Cond} {rm : Room} {Pc : Array Value → State → Prop} {Qc Qc2 : Array Value → State → Outcome → State → Prop} {XC : String → State → State → Prop} {mc ms : Nat} {free : Addr → Prop} (h : vx_Met l y w rm Pc Qc XC mc ms free) (hQ : ∀ a s o t, Qc a s o t → Qc2 a s o t) : vx_Met l y w rm Pc Qc2 XC mc ms free :=
  mf_mono h (fun a s o t q => q.elim (fun z => Or.inl ⟨hQ _ _ _ _ z.1, z.2⟩) Or.inr)
theorem vx_toMet {l : Launch} {y : MethodName} {w : List Cond} {rm : Room} {Pc : Array Value → State → Prop} {Qc : Array Value → State → Outcome → State → Prop} {mc ms : Nat} {free : Addr → Prop} (h : vx_Met l y w rm Pc Qc (fun _ _ _ => False) mc ms free) : Met l y w rm Pc Qc mc ms free :=
  mf_mono h (fun a s o t q => q.elim id (fun z => by obtain ⟨q, -, E, ce, L, hx, -⟩ := z; exact hx.elim))
theorem QF_i {A : Nat → Prop} {a : Array Value} {s t : State} {o : Outcome} (h : QF A a s o t) : va_Qi (fun (_ : Int32) (_ : Unit) => False) (fun _ _ => True) A a s o t := by obtain ⟨⟨u, -, hf, -⟩, -⟩ := h; exact hf.elim
theorem QF_l {A : Nat → Prop} {a : Array Value} {s t : State} {o : Outcome} (h : QF A a s o t) : va_Ql (fun (_ : Int64) (_ : Unit) => False) (fun _ _ => True) A a s o t := by obtain ⟨⟨u, -, hf, -⟩, -⟩ := h; exact hf.elim
def XH (sa : Nat → Nat) (tl th : Nat) (A : Nat → Prop) (U : State) : Prop := XG sa tl th A U ∧ va_Nc "java/lang/IllegalStateException" "java/lang/IllegalArgumentException" U ∧ va_Nc "java/lang/IllegalArgumentException" "java/lang/IndexOutOfBoundsException" U
theorem XH.pass {sa : Nat → Nat} {tl th : Nat} {A A1 : Nat → Prop} {s U : State} {H : Heap} {locs : List Loc} (h : XH sa tl th A s) (hS : va_S A s.heap H locs) (hA : ∀ q, A1 q → A q) (hU : U.heap = H) (hW : s.WarmedH U.vm) : XH sa tl th A1 U := ⟨XG.pass h.1 hS hA hU hW, va_Nc.moved hW.alike h.2.1, va_Nc.moved hW.alike h.2.2⟩
theorem XH.blind {sa : Nat → Nat} {tl th : Nat} {A : Nat → Prop} {U : State} (g : JFrame) (mk : MethodId) (a : Array Value) (h : XH sa tl th A U) : XH sa tl th A (U.calling g mk a) := XH.pass (s := U) (U := U.calling g mk a) (H := U.heap) (locs := []) h ⟨Nat.le_refl _, fun _ _ _ => rfl, fun _ q => by cases q⟩ (fun _ q => q) rfl (State.WarmedH.refl U)
def MH (l : Launch) (y : MethodName) (w : List Cond) (rm : Room) (D : va_G) (cy : Nat → ClassId) (sa : Nat → Nat) (tl th : Nat) (av : List Value) (sz : Nat) (ws : va_W) (r0 : Int32) (ws' : va_W) : Prop := Met l y w rm (va_Pc av (fun U => Pw D cy sz ws U ∧ XH sa tl th (va_A ws sz) U)) (QI D cy (va_A ws sz) r0 ws') rm.cells rm.slots (va_A ws sz)
theorem MH.of {l : Launch} {y : MethodName} {w w' : List Cond} {rm : Room} {D : va_G} {cy : Nat → ClassId} {sa : Nat → Nat} {tl th : Nat} {av : List Value} {sz : Nat} {ws : va_W} {r0 : Int32} {ws' : va_W} {cc : ByteArray} {maxL : Nat} {ret : Option FieldType} {hh : List (Nat × Nat × Nat × Nat)} (hy : Jvm.plainName y.cls = true) (hw : w = Cond.codeWith y cc maxL ret hh :: w') (hlen : (lg_sl av).length ≤ maxL)
    (body : ∀ (p : Program) (e : Env) (s : State) (m : MethodId) (below : List Frame) (meth : Method) (c : Code) (A : Nat → Prop) (ls : Array Slot), p.tables.exec = Jvm.exec → c.code = cc → c.maxLocals = maxL → s.vm.findClass y.cls = some m.cls → (∀ x ∈ w, x.before av.toArray s = true) → meth.locks = false → meth.sig.returnType = ret → c.exceptionTable.toList = tableOf hh → XH sa tl th A s → va_K D vwCl (TY cy) s → (∀ q, s.heap.size ≤ q → A q) → va_P D vwCl ws s.heap → va_D A ws → va_S A s.heap s.heap [] → lv_has ls maxL (lv_args 0 av) →
      W p l e rm s m av.toArray below meth c s.heap [] 0 0 (vx_MQ below (QI D cy A r0 ws') (fun _ _ _ => False) av.toArray s rm.cells rm.slots A) (F0 m 0 ls [])) : MH l y w rm D cy sa tl th av sz ws r0 ws' := by
  refine vx_toMet (vx_ofWH (cc := cc) (maxL := maxL) (ret := ret) (hh := hh) hy hw ?_)
  intro p e s m args below meth c s₁ B hml hv
  obtain ⟨rfl, ⟨hsz, hP, hK, hD0⟩, hG⟩ := hv
  subst hsz
  have hl := lv_entry av (n := maxL) hlen
  have hts := atoms_spec (ws := w) B.pre
  have htab : c.exceptionTable.toList = tableOf hh := vx_table (x := y) B (hts _ (by rw [hw]; exact List.mem_cons_self))
  rw [lg_entry_eq]
  exact body p e s m below meth c (va_A ws s.heap.size) _ B.exec B.bytes hml (findClass_of_methodNamed B.named) hts B.notSynchronized B.returns htab hG hK (fun q h => Or.inr h) hP (hD0.self (sz := s.heap.size)) va_S.rf hl
section LBH
variable {p : Program} {l : Launch} {e : Env} {R : Room} {s : State} {m : MethodId} {args : Array Value} {below : List Frame} {meth : Method} {c : Code} {H : Heap} {locs : List Loc} {cells slots : Nat} {Q : State → Prop}
variable {cc : ByteArray} {pc : Nat} {ls : Array Slot} {rest : List Value} {D : va_G} {A : Nat → Prop} {a : Nat} {ws ws' : va_W} {cy : Nat → ClassId}
theorem xc_Vi {y : MethodName} {bytes : ByteArray} {maxL nL index n : Nat} {ret : Option FieldType} {wy Ts : List Cond} {rm : Room} {own nm : String} {b : Nat} {As st : List Value} {wc : va_W} {q : String} {sa : Nat → Nat} {tl th : Nat} (isC isR isO : List Nat) (wr : va_W) (ci : Nat) {qc : vw_C} {fs : List Value} (pre : List ExceptionTableEntry) (x : ExceptionTableEntry) (suf : List ExceptionTableEntry)
    (S : CallFix p m c cc nL s args Ts own) (hM : MX l y wy rm D cy sa tl th q (.ref b :: As) H.size wc) (cw : CallW R s args own y.cls index y bytes maxL ret wy rm rm.cells rm.slots n) (hG : XG sa tl th A s)
    (hsplit : c.exceptionTable.toList = pre ++ x :: suf) (hpass : ∀ z ∈ pre, covers z pc = false ∨ (z.catchType ≠ 0 ∧ ∃ nm : String, (Cond.classLink own z.catchType nm).before args s = true ∧ va_Nc q nm s)) (hcv : covers x pc = true) (h0 : x.catchType ≠ 0) (hlink : (Cond.classLink own x.catchType nm).before args s = true) (hcast : (Cond.castable q nm).before args s = true)
    (hK : va_K D vwCl (TY cy) s) (hP : va_P D vwCl ws H) (hD : va_D A ws) (hS : va_S A s.heap H locs) (hA : ∀ q, s.heap.size ≤ q → A q)
    (hC : isC.map (fun i => ws[i]?) = wc.map some) (hnC : va_nd isC = true) (hR : isR.map (fun i => ws[i]?) = wr.map some) (hnR : va_nd isR = true) (hdis : ∀ i ∈ isR, i ∉ isC) (hO : isO.map (fun i => (wr ++ wc)[i]?) = ws.map some) (hnO : va_nd isO = true) (hq : vwCl[ci]? = some qc) (hqc : qc.1 = y.cls) (he : wc[0]? = some (b, .inr (ci, fs)))
    (hn : As.length = n) (hsize : ls.size = nL) (hst : st = As.reverse ++ .ref b :: rest) (hw8 : (rest.map fun v => v.category).sum ≤ 8) (hdg : decode cc pc = .ok (.invokevirtual index, 3)) (hf : cells + rm.cells ≤ R.cells ∧ slots + rm.slots ≤ R.slots)
    (kk : ∀ (q9 : Nat) (H1 : Heap) (locs1 : List Loc), va_P D vwCl ws H1 → va_D A ws → va_S A s.heap H1 locs1 → W p l e R s m args below meth c H1 locs1 (cells + rm.cells) (slots + rm.slots) Q (F0 m x.handlerPc ls [.ref q9])) : W p l e R s m args below meth c H locs cells slots Q (F0 m pc ls st) := by
  subst hst
  have hPc : va_P D vwCl wc H := hP.sub isC (fm_map hC)
  have hDc := hD.sub isC hnC hC
  have hFc := va_free hD hS hA isC hC
  refine vx_calli (A1 := va_A wc H.size) (A0 := A) (H0 := s.heap) (AX := va_A wc H.size) (px := fun (_ : Unit) => True) (BX := fun q1 u t => q1 = q ∧ Bw D cy (va_A wc H.size) wc u t) (post := fun (_ : Int32) (_ : Unit) => False) (B := fun _ _ => True) (vx_runV S (vx_mono hM (fun _ _ _ _ z => QF_i z)) cw ⟨fun a U g mk z => by obtain ⟨q0, ⟨q1, qP, qK, qD⟩, qG⟩ := z; exact ⟨q0, ⟨q1, qP, va_K.moved (u := U) (U := U.calling g mk a) (Vm.Alike.refl U.vm) qK, qD⟩, XG.blind g mk a qG⟩, hqc ▸ va_recv hK hPc hq he, fun U hU hW => ⟨rfl, ⟨by rw [hU], by rw [hU]; exact hPc, va_K.moved hW.alike hK, hDc.weaken (fun _ _ _ _ => trivial)⟩, XG.pass hG hS hFc hU hW⟩⟩ rfl hn hsize rfl (lv_room hw8) hdg hf) hS (fun q _ h => hFc q h) hFc (fun q _ h => hFc q h) (fun q1 ce q9 u t H1 locs1 ht hvm _ hB hz1 hk1 hS1 hce hcv1 hcl => ?_) (fun r u t H1 locs1 ht hvm hw hB hz1 hk1 hS1 => hw.elim)
  obtain ⟨rfl, hP1, hK1, hD1⟩ := hB
  rw [ht] at hP1
  obtain ⟨hP2, hD2⟩ := va_join hP hD isC isR hC hR hnR hdis hk1 hFc hP1 hD1
  exact vx_catch S.2.2.2.1 pre x suf hsplit hpass hcv h0 hlink hcast hce hcv1 hcl (kk q9 H1 locs1 (hP2.sub isO (fm_map hO)) hD hS1)
theorem xc_Vl {y : MethodName} {bytes : ByteArray} {maxL nL index n : Nat} {ret : Option FieldType} {wy Ts : List Cond} {rm : Room} {own nm : String} {b : Nat} {As st : List Value} {wc : va_W} {q : String} {sa : Nat → Nat} {tl th : Nat} (isC isR isO : List Nat) (wr : va_W) (ci : Nat) {qc : vw_C} {fs : List Value} (pre : List ExceptionTableEntry) (x : ExceptionTableEntry) (suf : List ExceptionTableEntry)
    (S : CallFix p m c cc nL s args Ts own) (hM : MX l y wy rm D cy sa tl th q (.ref b :: As) H.size wc) (cw : CallW R s args own y.cls index y bytes maxL ret wy rm rm.cells rm.slots n) (hG : XG sa tl th A s)
    (hsplit : c.exceptionTable.toList = pre ++ x :: suf) (hpass : ∀ z ∈ pre, covers z pc = false ∨ (z.catchType ≠ 0 ∧ ∃ nm : String, (Cond.classLink own z.catchType nm).before args s = true ∧ va_Nc q nm s)) (hcv : covers x pc = true) (h0 : x.catchType ≠ 0) (hlink : (Cond.classLink own x.catchType nm).before args s = true) (hcast : (Cond.castable q nm).before args s = true)
    (hK : va_K D vwCl (TY cy) s) (hP : va_P D vwCl ws H) (hD : va_D A ws) (hS : va_S A s.heap H locs) (hA : ∀ q, s.heap.size ≤ q → A q)
    (hC : isC.map (fun i => ws[i]?) = wc.map some) (hnC : va_nd isC = true) (hR : isR.map (fun i => ws[i]?) = wr.map some) (hnR : va_nd isR = true) (hdis : ∀ i ∈ isR, i ∉ isC) (hO : isO.map (fun i => (wr ++ wc)[i]?) = ws.map some) (hnO : va_nd isO = true) (hq : vwCl[ci]? = some qc) (hqc : qc.1 = y.cls) (he : wc[0]? = some (b, .inr (ci, fs)))
    (hn : As.length = n) (hsize : ls.size = nL) (hst : st = As.reverse ++ .ref b :: rest) (hw8 : (rest.map fun v => v.category).sum ≤ 8) (hdg : decode cc pc = .ok (.invokevirtual index, 3)) (hf : cells + rm.cells ≤ R.cells ∧ slots + rm.slots ≤ R.slots)
    (kk : ∀ (q9 : Nat) (H1 : Heap) (locs1 : List Loc), va_P D vwCl ws H1 → va_D A ws → va_S A s.heap H1 locs1 → W p l e R s m args below meth c H1 locs1 (cells + rm.cells) (slots + rm.slots) Q (F0 m x.handlerPc ls [.ref q9])) : W p l e R s m args below meth c H locs cells slots Q (F0 m pc ls st) := by
  subst hst
  have hPc : va_P D vwCl wc H := hP.sub isC (fm_map hC)
  have hDc := hD.sub isC hnC hC
  have hFc := va_free hD hS hA isC hC
  refine vx_calll (A1 := va_A wc H.size) (A0 := A) (H0 := s.heap) (AX := va_A wc H.size) (px := fun (_ : Unit) => True) (BX := fun q1 u t => q1 = q ∧ Bw D cy (va_A wc H.size) wc u t) (post := fun (_ : Int64) (_ : Unit) => False) (B := fun _ _ => True) (vx_runV S (vx_mono hM (fun _ _ _ _ z => QF_l z)) cw ⟨fun a U g mk z => by obtain ⟨q0, ⟨q1, qP, qK, qD⟩, qG⟩ := z; exact ⟨q0, ⟨q1, qP, va_K.moved (u := U) (U := U.calling g mk a) (Vm.Alike.refl U.vm) qK, qD⟩, XG.blind g mk a qG⟩, hqc ▸ va_recv hK hPc hq he, fun U hU hW => ⟨rfl, ⟨by rw [hU], by rw [hU]; exact hPc, va_K.moved hW.alike hK, hDc.weaken (fun _ _ _ _ => trivial)⟩, XG.pass hG hS hFc hU hW⟩⟩ rfl hn hsize rfl (lv_room hw8) hdg hf) hS (fun q _ h => hFc q h) hFc (fun q _ h => hFc q h) (fun q1 ce q9 u t H1 locs1 ht hvm _ hB hz1 hk1 hS1 hce hcv1 hcl => ?_) (fun r u t H1 locs1 ht hvm hw hB hz1 hk1 hS1 => hw.elim)
  obtain ⟨rfl, hP1, hK1, hD1⟩ := hB
  rw [ht] at hP1
  obtain ⟨hP2, hD2⟩ := va_join hP hD isC isR hC hR hnR hdis hk1 hFc hP1 hD1
  exact vx_catch S.2.2.2.1 pre x suf hsplit hpass hcv h0 hlink hcast hce hcv1 hcl (kk q9 H1 locs1 (hP2.sub isO (fm_map hO)) hD hS1)
theorem cl_Vg {y : MethodName} {bytes : ByteArray} {maxL nL index n : Nat} {ret : Option FieldType} {wy Ts : List Cond} {rm : Room} {own : String} {b : Nat} {As st : List Value} {wc wc' : va_W} {r0 : Int32} {sa : Nat → Nat} {tl th : Nat} (isC isR isO : List Nat) (wr w1 : va_W) (ci : Nat) {q : vw_C} {fs : List Value}
    (S : CallFix p m c cc nL s args Ts own) (hM : MG l y wy rm D cy sa tl th (.ref b :: As) H.size wc r0 wc') (cw : CallW R s args own y.cls index y bytes maxL ret wy rm rm.cells rm.slots n) (hG : XG sa tl th A s)
    (hK : va_K D vwCl (TY cy) s) (hP : va_P D vwCl ws H) (hD : va_D A ws) (hS : va_S A s.heap H locs) (hA : ∀ q, s.heap.size ≤ q → A q)
    (hC : isC.map (fun i => ws[i]?) = wc.map some) (hnC : va_nd isC = true) (hR : isR.map (fun i => ws[i]?) = wr.map some) (hnR : va_nd isR = true) (hdis : ∀ i ∈ isR, i ∉ isC) (hO : isO.map (fun i => (wr ++ wc')[i]?) = w1.map some) (hnO : va_nd isO = true) (hq : vwCl[ci]? = some q) (hqc : q.1 = y.cls) (he : wc[0]? = some (b, .inr (ci, fs)))
    (hc0 : rm.cells = 0) (hs0 : rm.slots = 0) (hn : As.length = n) (hsize : ls.size = nL) (hst : st = As.reverse ++ .ref b :: rest) (hw8 : (rest.map fun v => v.category).sum ≤ 8) (hdg : decode cc pc = .ok (.invokevirtual index, 3)) (hf : cells ≤ R.cells ∧ slots ≤ R.slots)
    (kk : ∀ (H1 : Heap) (locs1 : List Loc), va_P D vwCl w1 H1 → va_D A w1 → va_S A s.heap H1 locs1 → W p l e R s m args below meth c H1 locs1 cells slots Q (F0 m (pc + 3) ls (.int r0 :: rest))) : W p l e R s m args below meth c H locs cells slots Q (F0 m pc ls st) := by
  subst hst
  have hPc : va_P D vwCl wc H := hP.sub isC (fm_map hC)
  have hDc := hD.sub isC hnC hC
  have hFc := va_free hD hS hA isC hC
  refine va_calli (va_runV S hM cw ⟨fun a U g mk z => by obtain ⟨q0, ⟨q1, qP, qK, qD⟩, qG⟩ := z; exact ⟨q0, ⟨q1, qP, va_K.moved (u := U) (U := U.calling g mk a) (Vm.Alike.refl U.vm) qK, qD⟩, XG.blind g mk a qG⟩, hqc ▸ va_recv hK hPc hq he, fun U hU hW => ⟨rfl, ⟨by rw [hU], by rw [hU]; exact hPc, va_K.moved hW.alike hK, hDc.weaken (fun _ _ _ _ => trivial)⟩, XG.pass hG hS hFc hU hW⟩⟩ rfl hn hsize rfl (lv_room hw8) hdg ⟨by rw [hc0]; exact hf.1, by rw [hs0]; exact hf.2⟩) hS (fun q _ h => hFc q h) hFc (fun r u t H1 locs1 ht hvm hw hB hz1 hk1 hS1 => ?_)
  obtain ⟨hP1, hK1, hD1⟩ := hB
  rw [ht] at hP1
  obtain ⟨hP2, hD2⟩ := va_join hP hD isC isR hC hR hnR hdis hk1 hFc hP1 hD1
  have hw : r = r0 := hw
  subst hw
  have hkk := kk H1 locs1 (hP2.sub isO (fm_map hO)) (hD2.sub isO hnO hO) hS1
  rw [hc0, hs0]
  exact hkk
end LBH
