/-! the law: calls beside a pool of other cells -/
def pk (is : List Nat) (X : va_W) : va_W := is.filterMap (fun i => X[i]?)
theorem p_left {D : va_G} {cl : List vw_C} {w pl : va_W} {H : Heap} (h : va_P D cl (w ++ pl) H) : va_P D cl w H := fun k q hk => h k q (by rw [List.getElem?_append_left (List.getElem?_eq_some_iff.mp hk).1]; exact hk)
theorem d_left {A : Nat → Prop} {w pl : va_W} (h : va_D A (w ++ pl)) : va_D A w := by
  have e : ∀ (k : Nat) (q : Nat × va_E), w[k]? = some q → (w ++ pl)[k]? = some q := fun k q hk => by rw [List.getElem?_append_left (List.getElem?_eq_some_iff.mp hk).1]; exact hk
  exact ⟨fun i j x y hx hy hxy => h.1 i j x y (e i x hx) (e j y hy) hxy, fun k q hk => h.2 k q (e k q hk)⟩
def up : va_W → List Nat → va_W → va_W
  | X, i :: is, c :: cs => up (X.set i c) is cs
  | X, _, _ => X
theorem up_get {q : Nat × va_E} : ∀ (is : List Nat) (cs : va_W) (X : va_W) (k : Nat), cs.length = is.length → (up X is cs)[k]? = some q → (X[k]? = some q ∧ k ∉ is) ∨ ∃ j : Nat, cs[j]? = some q
  | [], cs, X, k, _, h => .inl ⟨by cases cs <;> exact h, List.not_mem_nil⟩
  | i :: is, [], X, k, hl, h => by simp at hl
  | i :: is, c :: cs, X, k, hl, h => by
    rcases up_get is cs (X.set i c) k (by simpa using hl) h with ⟨h1, h2⟩ | ⟨j, hj⟩
    · by_cases e : i = k
      · subst e
        by_cases hlt : i < X.length
        · rw [List.getElem?_set_self hlt] at h1
          exact .inr ⟨0, h1⟩
        · rw [List.getElem?_eq_none (by rw [List.length_set]; omega)] at h1
          cases h1
      · rw [List.getElem?_set_ne e] at h1
        exact .inl ⟨h1, fun hm => by
          rcases List.mem_cons.mp hm with z | z
          · exact e z.symm
          · exact h2 z⟩
    · exact .inr ⟨j + 1, hj⟩
theorem set_same {α : Type} {l : List α} {i : Nat} {x : α} (h : l[i]? = some x) : l.set i x = l := by
  refine List.ext_getElem? (fun k => ?_)
  by_cases e : i = k
  · subst e
    rw [List.getElem?_set_self (List.getElem?_eq_some_iff.mp h).1, h]
  · rw [List.getElem?_set_ne e]
theorem up_adr : ∀ (is : List Nat) (cs X : va_W), (is.map fun i => (X.map (·.1))[i]?) = cs.map (fun c => some c.1) → (up X is cs).map (·.1) = X.map (·.1)
  | [], cs, X, _ => by cases cs <;> rfl
  | i :: is, [], X, h => by simp at h
  | i :: is, c :: cs, X, h => by
    rw [List.map_cons, List.map_cons] at h
    injection h with h1 h2
    have e : (X.set i c).map (·.1) = X.map (·.1) := by rw [List.map_set]; exact set_same h1
    show (up (X.set i c) is cs).map (·.1) = _
    rw [up_adr is cs (X.set i c) (by rw [e]; exact h2), e]
theorem d_adr {A : Nat → Prop} {w w' : va_W} (h : w'.map (·.1) = w.map (·.1)) (hD : va_D A w) : va_D A w' := by
  have key : ∀ (k : Nat) (q : Nat × va_E), w'[k]? = some q → ∃ q', w[k]? = some q' ∧ q'.1 = q.1 := fun k q hk => by
    have h1 : (w'.map (·.1))[k]? = some q.1 := by rw [List.getElem?_map, hk]; rfl
    rw [h, List.getElem?_map] at h1
    cases hw : w[k]? with
    | none => rw [hw] at h1; cases h1
    | some q' => rw [hw] at h1; exact ⟨q', rfl, Option.some.inj h1⟩
  refine ⟨fun i j x y hx hy hxy => ?_, fun k q hk => ?_⟩
  · obtain ⟨x', hx1, hx2⟩ := key i x hx
    obtain ⟨y', hy1, hy2⟩ := key j y hy
    exact hD.1 i j x' y' hx1 hy1 (by rw [hx2, hy2, hxy])
  · obtain ⟨q', h1, h2⟩ := key k q hk
    rw [← h2]
    exact hD.2 k q' h1
theorem adr_of {is : List Nat} {X wc wc' : va_W} (hC : is.map (fun i => X[i]?) = wc.map some) (ha : wc'.map (·.1) = wc.map (·.1)) : (is.map fun i => (X.map (·.1))[i]?) = wc'.map (fun c => some c.1) := by
  have h1 : (is.map fun i => (X.map (·.1))[i]?) = (is.map (fun i => X[i]?)).map (Option.map (·.1)) := by
    rw [List.map_map]
    refine List.map_congr_left (fun i _ => ?_)
    rw [List.getElem?_map]
    rfl
  have h2 : wc'.map (fun c => some c.1) = (wc'.map (·.1)).map some := by rw [List.map_map]; rfl
  rw [h1, hC, h2, ha, List.map_map, List.map_map]
  rfl
theorem up_D {A : Nat → Prop} {is : List Nat} {X wc wc' pl : va_W} (hD : va_D A (X ++ pl)) (hC : is.map (fun i => X[i]?) = wc.map some) (ha : wc'.map (·.1) = wc.map (·.1)) : va_D A (up X is wc' ++ pl) := by
  refine d_adr ?_ hD
  rw [List.map_append, List.map_append, up_adr is wc' X (adr_of hC ha)]
theorem up_P {A : Nat → Prop} {D : va_G} {cl : List vw_C} {H H1 : Heap} {is : List Nat} {X wc wc' pl : va_W} (hP : va_P D cl (X ++ pl) H) (hD : va_D A (X ++ pl)) (hC : is.map (fun i => X[i]?) = wc.map some) (ha : wc'.map (·.1) = wc.map (·.1)) (hk : ∀ q : Nat, q < H.size → ¬ va_A wc H.size q → H1[q]? = H[q]?) (hP1 : va_P D cl wc' H1) : va_P D cl (up X is wc' ++ pl) H1 := by
  have hlen : (up X is wc').length = X.length := by
    have := congrArg List.length (up_adr is wc' X (adr_of hC ha))
    simpa using this
  have hl2 : wc'.length = is.length := by
    have e1 := congrArg List.length ha
    have e2 := congrArg List.length hC
    rw [List.length_map, List.length_map] at e1 e2
    omega
  have kept : ∀ (k : Nat) (q : Nat × va_E), (X ++ pl)[k]? = some q → k ∉ is → va_at D cl q H1 := fun k q hq hn => by
    have hlt := (hP k q hq).lt
    refine (hP k q hq).kept (hk q.1 hlt (fun hA => ?_))
    rcases hA with ⟨k2, e, h⟩ | h
    · obtain ⟨j, h5, h6⟩ := va_in_of is hC h
      have hj : j < X.length := (List.getElem?_eq_some_iff.mp h6).1
      have h6' : (X ++ pl)[j]? = some (q.1, e) := by rw [List.getElem?_append_left hj]; exact h6
      have := hD.1 _ _ q (q.1, e) hq h6' rfl
      subst this
      exact hn (List.mem_of_getElem? h5)
    · omega
  have isl : ∀ k, k ∈ is → k < X.length := fun k hm => by
    obtain ⟨j, hj⟩ := List.mem_iff_getElem?.mp hm
    have h1 : (is.map (fun i => X[i]?))[j]? = some (X[k]?) := by rw [List.getElem?_map, hj]; rfl
    rw [hC, List.getElem?_map] at h1
    cases hw : wc[j]? with
    | none => rw [hw] at h1; cases h1
    | some q => rw [hw] at h1; exact (List.getElem?_eq_some_iff.mp (Option.some.inj h1).symm).1
  intro k q hq
  by_cases h : k < X.length
  · rw [List.getElem?_append_left (by rw [hlen]; exact h)] at hq
    rcases up_get is wc' X k hl2 hq with ⟨h1, h2⟩ | ⟨j, hj⟩
    · exact kept k q (by rw [List.getElem?_append_left h]; exact h1) h2
    · exact hP1 j q hj
  · rw [List.getElem?_append_right (by rw [hlen]; omega), hlen] at hq
    exact kept k q (by rw [List.getElem?_append_right (by omega)]; exact hq) (fun hm => h (isl k hm))
section LQ
variable {p : Program} {l : Launch} {e : Env} {R : Room} {s : State} {m : MethodId} {args : Array Value} {below : List Frame} {meth : Method} {c : Code} {H : Heap} {locs : List Loc} {cells slots : Nat} {Q : State → Prop}
variable {cc : ByteArray} {pc : Nat} {ls : Array Slot} {rest : List Value} {D : va_G} {A : Nat → Prop} {X pl : va_W} {cy : Nat → ClassId}
theorem q_part {wc : va_W} (isC : List Nat) (hP : va_P D vwCl (X ++ pl) H) (hD : va_D A (X ++ pl)) (hS : va_S A s.heap H locs) (hA : ∀ q, s.heap.size ≤ q → A q) (hC : isC.map (fun i => X[i]?) = wc.map some) (hnC : va_nd isC = true) : va_P D vwCl wc H ∧ va_D A wc ∧ ∀ q, va_A wc H.size q → A q := by
  have hX := p_left hP
  have hDX := d_left hD
  exact ⟨hX.sub isC (fm_map hC), hDX.sub isC hnC hC, va_free hDX hS hA isC hC⟩
/-- a wrapper: static, with its table -/
theorem cq_H {y : MethodName} {bytes : ByteArray} {maxL nL index n : Nat} {ret : Option FieldType} {hh : List (Nat × Nat × Nat × Nat)} {wy Ts : List Cond} {rm : Room} {own : String} {As st : List Value} {wc wc' : va_W} {r0 : Int32} {sa : Nat → Nat} {tl th : Nat} (isC : List Nat) (w1 : va_W)
    (S : CallFix p m c cc nL s args Ts own) (hM : MH l y wy rm D cy sa tl th As H.size wc r0 wc') (cw : vx_CSW R s args own index y bytes maxL ret hh wy rm rm.cells rm.slots n) (hG : XH sa tl th A s)
    (hK : va_K D vwCl (TY cy) s) (hP : va_P D vwCl (X ++ pl) H) (hD : va_D A (X ++ pl)) (hS : va_S A s.heap H locs) (hA : ∀ q, s.heap.size ≤ q → A q)
    (hC : isC.map (fun i => X[i]?) = wc.map some) (hnC : va_nd isC = true) (ha : wc'.map (·.1) = wc.map (·.1)) (hO : up X isC wc' = w1)
    (hn : As.length = n) (hsize : ls.size = nL) (hst : st = As.reverse ++ rest) (hw8 : (rest.map fun v => v.category).sum ≤ 8) (hdg : decode cc pc = .ok (.invokestatic index, 3)) (hf : cells + rm.cells ≤ R.cells ∧ slots + rm.slots ≤ R.slots)
    (kk : ∀ (H1 : Heap) (locs1 : List Loc), va_P D vwCl (w1 ++ pl) H1 → va_D A (w1 ++ pl) → va_S A s.heap H1 locs1 → W p l e R s m args below meth c H1 locs1 (cells + rm.cells) (slots + rm.slots) Q (F0 m (pc + 3) ls (.int r0 :: rest))) : W p l e R s m args below meth c H locs cells slots Q (F0 m pc ls st) := by
  subst hst
  obtain ⟨hPc, hDc, hFc⟩ := q_part isC hP hD hS hA hC hnC
  refine va_calli (vx_runSW (hh := hh) S hM cw ⟨fun a U g mk z => by obtain ⟨q0, ⟨q1, qP, qK, qD⟩, qG⟩ := z; exact ⟨q0, ⟨q1, qP, va_K.moved (u := U) (U := U.calling g mk a) (Vm.Alike.refl U.vm) qK, qD⟩, XH.blind g mk a qG⟩, fun U hU hW => ⟨rfl, ⟨by rw [hU], by rw [hU]; exact hPc, va_K.moved hW.alike hK, hDc.weaken (fun _ _ _ _ => trivial)⟩, XH.pass hG hS hFc hU hW⟩⟩ rfl hn hsize rfl (lv_room hw8) hdg hf) hS (fun q _ h => hFc q h) hFc (fun r u t H1 locs1 ht hvm hw hB hz1 hk1 hS1 => ?_)
  obtain ⟨hP1, hK1, hD1⟩ := hB
  rw [ht] at hP1
  have hP2 := up_P hP hD hC ha hk1 hP1
  have hD2 := up_D hD hC ha
  rw [hO] at hP2 hD2
  have hw : r = r0 := hw
  subst hw
  exact kk H1 locs1 hP2 hD2 hS1
theorem cq_Vi {y : MethodName} {bytes : ByteArray} {maxL nL index n : Nat} {ret : Option FieldType} {wy Ts : List Cond} {rm : Room} {own : String} {b : Nat} {As st : List Value} {wc wc' : va_W} {r0 : Int32} (isC : List Nat) (w1 : va_W) (ci : Nat) {q : vw_C} {fs : List Value}
    (S : CallFix p m c cc nL s args Ts own) (hM : MI l y wy rm D cy (.ref b :: As) H.size wc r0 wc') (cw : CallW R s args own y.cls index y bytes maxL ret wy rm rm.cells rm.slots n)
    (hK : va_K D vwCl (TY cy) s) (hP : va_P D vwCl (X ++ pl) H) (hD : va_D A (X ++ pl)) (hS : va_S A s.heap H locs) (hA : ∀ q, s.heap.size ≤ q → A q)
    (hC : isC.map (fun i => X[i]?) = wc.map some) (hnC : va_nd isC = true) (ha : wc'.map (·.1) = wc.map (·.1)) (hO : up X isC wc' = w1) (hq : vwCl[ci]? = some q) (hqc : q.1 = y.cls) (he : wc[0]? = some (b, .inr (ci, fs)))
    (hc0 : rm.cells = 0) (hs0 : rm.slots = 0) (hn : As.length = n) (hsize : ls.size = nL) (hst : st = As.reverse ++ .ref b :: rest) (hw8 : (rest.map fun v => v.category).sum ≤ 8) (hdg : decode cc pc = .ok (.invokevirtual index, 3)) (hf : cells ≤ R.cells ∧ slots ≤ R.slots)
    (kk : ∀ (H1 : Heap) (locs1 : List Loc), va_P D vwCl (w1 ++ pl) H1 → va_D A (w1 ++ pl) → va_S A s.heap H1 locs1 → W p l e R s m args below meth c H1 locs1 cells slots Q (F0 m (pc + 3) ls (.int r0 :: rest))) : W p l e R s m args below meth c H locs cells slots Q (F0 m pc ls st) := by
  subst hst
  obtain ⟨hPc, hDc, hFc⟩ := q_part isC hP hD hS hA hC hnC
  refine va_calli (va_runV S hM cw ⟨fun a U g mk q => by obtain ⟨q0, q1, qP, qK, qD⟩ := q; exact ⟨q0, q1, qP, va_K.moved (u := U) (U := U.calling g mk a) (Vm.Alike.refl U.vm) qK, qD⟩, hqc ▸ va_recv hK hPc hq he, fun U hU hW => ⟨rfl, by rw [hU], by rw [hU]; exact hPc, va_K.moved hW.alike hK, hDc.weaken (fun _ _ _ _ => trivial)⟩⟩ rfl hn hsize rfl (lv_room hw8) hdg ⟨by rw [hc0]; exact hf.1, by rw [hs0]; exact hf.2⟩) hS (fun q _ h => hFc q h) hFc (fun r u t H1 locs1 ht hvm hw hB hz1 hk1 hS1 => ?_)
  obtain ⟨hP1, hK1, hD1⟩ := hB
  rw [ht] at hP1
  have hP2 := up_P hP hD hC ha hk1 hP1
  have hD2 := up_D hD hC ha
  rw [hO] at hP2 hD2
  have hw : r = r0 := hw
  subst hw
  have hkk := kk H1 locs1 hP2 hD2 hS1
  rw [hc0, hs0]
  exact hkk
theorem cq_Vl {y : MethodName} {bytes : ByteArray} {maxL nL index n : Nat} {ret : Option FieldType} {wy Ts : List Cond} {rm : Room} {own : String} {b : Nat} {As st : List Value} {wc wc' : va_W} {r0 : Int64} (isC : List Nat) (w1 : va_W) (ci : Nat) {q : vw_C} {fs : List Value}
    (S : CallFix p m c cc nL s args Ts own) (hM : ML l y wy rm D cy (.ref b :: As) H.size wc r0 wc') (cw : CallW R s args own y.cls index y bytes maxL ret wy rm rm.cells rm.slots n)
    (hK : va_K D vwCl (TY cy) s) (hP : va_P D vwCl (X ++ pl) H) (hD : va_D A (X ++ pl)) (hS : va_S A s.heap H locs) (hA : ∀ q, s.heap.size ≤ q → A q)
    (hC : isC.map (fun i => X[i]?) = wc.map some) (hnC : va_nd isC = true) (ha : wc'.map (·.1) = wc.map (·.1)) (hO : up X isC wc' = w1) (hq : vwCl[ci]? = some q) (hqc : q.1 = y.cls) (he : wc[0]? = some (b, .inr (ci, fs)))
    (hc0 : rm.cells = 0) (hs0 : rm.slots = 0) (hn : As.length = n) (hsize : ls.size = nL) (hst : st = As.reverse ++ .ref b :: rest) (hw8 : (rest.map fun v => v.category).sum ≤ 8) (hdg : decode cc pc = .ok (.invokevirtual index, 3)) (hf : cells ≤ R.cells ∧ slots ≤ R.slots)
    (kk : ∀ (H1 : Heap) (locs1 : List Loc), va_P D vwCl (w1 ++ pl) H1 → va_D A (w1 ++ pl) → va_S A s.heap H1 locs1 → W p l e R s m args below meth c H1 locs1 cells slots Q (F0 m (pc + 3) ls (.long r0 :: rest))) : W p l e R s m args below meth c H locs cells slots Q (F0 m pc ls st) := by
  subst hst
  obtain ⟨hPc, hDc, hFc⟩ := q_part isC hP hD hS hA hC hnC
  refine va_calll (va_runV S hM cw ⟨fun a U g mk q => by obtain ⟨q0, q1, qP, qK, qD⟩ := q; exact ⟨q0, q1, qP, va_K.moved (u := U) (U := U.calling g mk a) (Vm.Alike.refl U.vm) qK, qD⟩, hqc ▸ va_recv hK hPc hq he, fun U hU hW => ⟨rfl, by rw [hU], by rw [hU]; exact hPc, va_K.moved hW.alike hK, hDc.weaken (fun _ _ _ _ => trivial)⟩⟩ rfl hn hsize rfl (lv_room hw8) hdg ⟨by rw [hc0]; exact hf.1, by rw [hs0]; exact hf.2⟩) hS (fun q _ h => hFc q h) hFc (fun r u t H1 locs1 ht hvm hw hB hz1 hk1 hS1 => ?_)
  obtain ⟨hP1, hK1, hD1⟩ := hB
  rw [ht] at hP1
  have hP2 := up_P hP hD hC ha hk1 hP1
  have hD2 := up_D hD hC ha
  rw [hO] at hP2 hD2
  have hw : r = r0 := hw
  subst hw
  have hkk := kk H1 locs1 hP2 hD2 hS1
  rw [hc0, hs0]
  exact hkk
/-- plan and free where they make their tables -/
theorem cq_VN {y : MethodName} {bytes : ByteArray} {maxL nL index n : Nat} {ret : Option FieldType} {wy Ts : List Cond} {rm : Room} {own : String} {b : Nat} {As st : List Value} {wc : va_W} {P : (Nat → Nat) → (Nat → Nat) → va_W} {G : State → Prop} {r0 : Int64} (isC isR isO : List Nat) (w1 : (Nat → Nat) → (Nat → Nat) → va_W) (ci : Nat) {q : vw_C} {fs : List Value}
    (S : CallFix p m c cc nL s args Ts own) (hM : MLN l y wy rm D cy G (.ref b :: As) H.size wc r0 P) (cw : CallW R s args own y.cls index y bytes maxL ret wy rm rm.cells rm.slots n) (hG : ∀ U : State, s.WarmedH U.vm → G U) (hGb : ∀ (U : State) (g : JFrame) (mk : MethodId) (a : Array Value), G U → G (U.calling g mk a))
    (hK : va_K D vwCl (TY cy) s) (hP : va_P D vwCl (X ++ pl) H) (hD : va_D A (X ++ pl)) (hS : va_S A s.heap H locs) (hA : ∀ q, s.heap.size ≤ q → A q)
    (hC : isC.map (fun i => X[i]?) = wc.map some) (hnC : va_nd isC = true) (hR : isR.map (fun i => X[i]?) = (pk isR X).map some) (hnR : va_nd isR = true) (hdis : ∀ i ∈ isR, i ∉ isC) (hO : ∀ u v, isO.map (fun i => (pk isR X ++ P u v)[i]?) = (w1 u v).map some) (hnO : va_nd isO = true) (hq : vwCl[ci]? = some q) (hqc : q.1 = y.cls) (he : wc[0]? = some (b, .inr (ci, fs)))
    (hn : As.length = n) (hsize : ls.size = nL) (hst : st = As.reverse ++ .ref b :: rest) (hw8 : (rest.map fun v => v.category).sum ≤ 8) (hdg : decode cc pc = .ok (.invokevirtual index, 3)) (hf : cells + rm.cells ≤ R.cells ∧ slots + rm.slots ≤ R.slots)
    (kk : ∀ (u v : Nat → Nat) (H1 : Heap) (locs1 : List Loc), va_P D vwCl (w1 u v ++ pl) H1 → va_D A (w1 u v ++ pl) → va_S A s.heap H1 locs1 → W p l e R s m args below meth c H1 locs1 (cells + rm.cells) (slots + rm.slots) Q (F0 m (pc + 3) ls (.long r0 :: rest))) : W p l e R s m args below meth c H locs cells slots Q (F0 m pc ls st) := by
  subst hst
  obtain ⟨hPc, hDc, hFc⟩ := q_part isC hP hD hS hA hC hnC
  refine va_calll (va_runV S hM cw ⟨fun a U g mk z => by obtain ⟨q0, ⟨q1, qP, qK, qD⟩, qG⟩ := z; exact ⟨q0, ⟨q1, qP, va_K.moved (u := U) (U := U.calling g mk a) (Vm.Alike.refl U.vm) qK, qD⟩, hGb U g mk a qG⟩, hqc ▸ va_recv hK hPc hq he, fun U hU hW => ⟨rfl, ⟨by rw [hU], by rw [hU]; exact hPc, va_K.moved hW.alike hK, hDc.weaken (fun _ _ _ _ => trivial)⟩, hG U hW⟩⟩ rfl hn hsize rfl (lv_room hw8) hdg hf) hS (fun q _ h => hFc q h) hFc (fun r u t H1 locs1 ht hvm hw hB hz1 hk1 hS1 => ?_)
  obtain ⟨hP1, hK1, hD1⟩ := hB
  rw [ht] at hP1
  obtain ⟨hP2, hD2⟩ := va_joinQ hP hD isC isR hC hR hnR hdis hk1 hFc hP1 hD1
  have hw : r = r0 := hw
  subst hw
  exact kk u.1 u.2 H1 locs1 (hP2.part isO (hO u.1 u.2)) (hD2.part isO hnO (hO u.1 u.2)) hS1
/-- a constructor -/
theorem cq_In {y : MethodName} {bytes : ByteArray} {maxL nL index : Nat} {wy Ts : List Cond} {rm : Room} {own : String} {b : Nat} {st : List Value} {wc : va_W} {P : (Nat → Nat) → (Nat → Nat) → va_W} {G : State → Prop} (isC isR : List Nat)
    (S : CallFix p m c cc nL s args Ts own) (hM : MN l y wy rm D cy G [.ref b] H.size wc P) (cw : CallB R s args own index y bytes maxL none wy rm rm.cells rm.slots 0 ∧ y.name = "<init>" ∧ (Cond.instanceMethod y).before args s = true) (hG : ∀ U : State, s.WarmedH U.vm → G U) (hGb : ∀ (U : State) (g : JFrame) (mk : MethodId) (a : Array Value), G U → G (U.calling g mk a))
    (hK : va_K D vwCl (TY cy) s) (hP : va_P D vwCl X H) (hD : va_D A X) (hS : va_S A s.heap H locs) (hA : ∀ q, s.heap.size ≤ q → A q)
    (hC : isC.map (fun i => X[i]?) = wc.map some) (hnC : va_nd isC = true) (hR : isR.map (fun i => X[i]?) = (pk isR X).map some) (hnR : va_nd isR = true) (hdis : ∀ i ∈ isR, i ∉ isC)
    (hsize : ls.size = nL) (hst : st = .ref b :: rest) (hw8 : (rest.map fun v => v.category).sum ≤ 8) (hdg : decode cc pc = .ok (.invokespecial index, 3)) (hf : cells + rm.cells ≤ R.cells ∧ slots + rm.slots ≤ R.slots)
    (kk : ∀ (u v : Nat → Nat) (H1 : Heap) (locs1 : List Loc), va_P D vwCl (pk isR X ++ P u v) H1 → va_D A (pk isR X ++ P u v) → va_S A s.heap H1 locs1 → W p l e R s m args below meth c H1 locs1 (cells + rm.cells) (slots + rm.slots) Q (F0 m (pc + 3) ls rest)) : W p l e R s m args below meth c H locs cells slots Q (F0 m pc ls st) := by
  subst hst
  have hPc : va_P D vwCl wc H := hP.sub isC (fm_map hC)
  have hDc := hD.sub isC hnC hC
  have hFc := va_free hD hS hA isC hC
  refine va_callv (va_runI (As := []) S hM cw ⟨fun a U g mk q => by obtain ⟨q0, ⟨q1, qP, qK, qD⟩, qG⟩ := q; exact ⟨q0, ⟨q1, qP, va_K.moved (u := U) (U := U.calling g mk a) (Vm.Alike.refl U.vm) qK, qD⟩, hGb U g mk a qG⟩, fun U hU hW => ⟨rfl, ⟨by rw [hU], by rw [hU]; exact hPc, va_K.moved hW.alike hK, hDc.weaken (fun _ _ _ _ => trivial)⟩, hG U hW⟩⟩ rfl rfl hsize rfl (lv_room hw8) hdg hf) hS (fun q _ h => hFc q h) hFc (fun u t H1 locs1 ht hvm hw hB hz1 hk1 hS1 => ?_)
  obtain ⟨hP1, hK1, hD1⟩ := hB
  rw [ht] at hP1
  obtain ⟨hP2, hD2⟩ := va_join hP hD isC isR hC hR hnR hdis hk1 hFc hP1 hD1
  exact kk u.1 u.2 H1 locs1 hP2 hD2 hS1
end LQ
