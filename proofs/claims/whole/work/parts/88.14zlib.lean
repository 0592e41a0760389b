/-! the law: calls with many cells -/
theorem up2_P {A : Nat → Prop} {D : va_G} {cl : List vw_C} {H H1 : Heap} {is isO : List Nat} {X wc wc' w1 pl : va_W} (hP : va_P D cl (X ++ pl) H) (hD : va_D A (X ++ pl)) (hC : is.map (fun i => X[i]?) = wc.map some) (hk : ∀ q : Nat, q < H.size → ¬ va_A wc H.size q → H1[q]? = H[q]?) (hP1 : va_P D cl wc' H1) (hdis : ∀ i ∈ isO, i ∉ is) (hO : isO.map (fun i => (X ++ wc')[i]?) = w1.map some) : va_P D cl (w1 ++ pl) H1 := by
  have kept : ∀ (k : Nat) (q : Nat × va_E), (X ++ pl)[k]? = some q → k ∉ is → va_at D cl q H1 := fun k q hq hn => by
    have hlt := (hP k q hq).lt
    refine (hP k q hq).kept (hk q.1 hlt (fun hA => ?_))
    rcases hA with ⟨k2, e, h⟩ | h
    · obtain ⟨j, h5, h6⟩ := va_in_of is hC h
      have hj : j < X.length := (List.getElem?_eq_some_iff.mp h6).1
      have h6' : (X ++ pl)[j]? = some (q.1, e) := by rw [List.getElem?_append_left hj]; exact h6
      have := hD.1 _ _ q (q.1, e) hq h6' rfl
      subst this
      exact hn (List.mem_of_getElem? h5)
    · omega
  have isl : ∀ k, k ∈ is → k < X.length := fun k hm => by
    obtain ⟨j, hj⟩ := List.mem_iff_getElem?.mp hm
    have h1 : (is.map (fun i => X[i]?))[j]? = some (X[k]?) := by rw [List.getElem?_map, hj]; rfl
    rw [hC, List.getElem?_map] at h1
    cases hw : wc[j]? with
    | none => rw [hw] at h1; cases h1
    | some q => rw [hw] at h1; exact (List.getElem?_eq_some_iff.mp (Option.some.inj h1).symm).1
  intro k q hq
  by_cases h : k < w1.length
  · rw [List.getElem?_append_left h] at hq
    obtain ⟨j, h5, h6⟩ := va_in_of isO hO hq
    have hn := hdis j (List.mem_of_getElem? h5)
    by_cases hj : j < X.length
    · rw [List.getElem?_append_left hj] at h6
      exact kept j q (by rw [List.getElem?_append_left hj]; exact h6) hn
    · rw [List.getElem?_append_right (by omega)] at h6
      exact hP1 _ q h6
  · rw [List.getElem?_append_right (by omega)] at hq
    exact kept (X.length + (k - w1.length)) q (by rw [List.getElem?_append_right (by omega), show X.length + (k - w1.length) - X.length = k - w1.length by omega]; exact hq) (fun hm => by have := isl _ hm; omega)
theorem up2_D {A : Nat → Prop} {X w1 pl : va_W} (hD : va_D A (X ++ pl)) (h : w1.map (·.1) = X.map (·.1)) : va_D A (w1 ++ pl) := by
  refine d_adr ?_ hD
  rw [List.map_append, List.map_append, h]
section LQ
variable {p : Program} {l : Launch} {e : Env} {R : Room} {s : State} {m : MethodId} {args : Array Value} {below : List Frame} {meth : Method} {c : Code} {H : Heap} {locs : List Loc} {cells slots : Nat} {Q : State → Prop}
variable {cc : ByteArray} {pc : Nat} {ls : Array Slot} {rest : List Value} {D : va_G} {A : Nat → Prop} {X pl : va_W} {cy : Nat → ClassId}
theorem cr_H {y : MethodName} {bytes : ByteArray} {maxL nL index n : Nat} {ret : Option FieldType} {hh : List (Nat × Nat × Nat × Nat)} {wy Ts : List Cond} {rm : Room} {own : String} {As st : List Value} {wc wc' : va_W} {r0 : Int32} {sa : Nat → Nat} {tl th : Nat} (isC isO : List Nat) (w1 : va_W)
    (S : CallFix p m c cc nL s args Ts own) (hM : MH l y wy rm D cy sa tl th As H.size wc r0 wc') (cw : vx_CSW R s args own index y bytes maxL ret hh wy rm rm.cells rm.slots n) (hG : XH sa tl th A s)
    (hK : va_K D vwCl (TY cy) s) (hP : va_P D vwCl (X ++ pl) H) (hD : va_D A (X ++ pl)) (hS : va_S A s.heap H locs) (hA : ∀ q, s.heap.size ≤ q → A q)
    (hC : isC.map (fun i => X[i]?) = wc.map some) (hnC : va_nd isC = true) (hdis : ∀ i ∈ isO, i ∉ isC) (hO : isO.map (fun i => (X ++ wc')[i]?) = w1.map some) (hadr : w1.map (·.1) = X.map (·.1))
    (hn : As.length = n) (hsize : ls.size = nL) (hst : st = As.reverse ++ rest) (hw8 : (rest.map fun v => v.category).sum ≤ 8) (hdg : decode cc pc = .ok (.invokestatic index, 3)) (hf : cells + rm.cells ≤ R.cells ∧ slots + rm.slots ≤ R.slots)
    (kk : ∀ (H1 : Heap) (locs1 : List Loc), va_P D vwCl (w1 ++ pl) H1 → va_D A (w1 ++ pl) → va_S A s.heap H1 locs1 → W p l e R s m args below meth c H1 locs1 (cells + rm.cells) (slots + rm.slots) Q (F0 m (pc + 3) ls (.int r0 :: rest))) : W p l e R s m args below meth c H locs cells slots Q (F0 m pc ls st) := by
  subst hst
  obtain ⟨hPc, hDc, hFc⟩ := q_part isC hP hD hS hA hC hnC
  refine va_calli (vx_runSW (hh := hh) S hM cw ⟨fun a U g mk z => by obtain ⟨q0, ⟨q1, qP, qK, qD⟩, qG⟩ := z; exact ⟨q0, ⟨q1, qP, va_K.moved (u := U) (U := U.calling g mk a) (Vm.Alike.refl U.vm) qK, qD⟩, XH.blind g mk a qG⟩, fun U hU hW => ⟨rfl, ⟨by rw [hU], by rw [hU]; exact hPc, va_K.moved hW.alike hK, hDc.weaken (fun _ _ _ _ => trivial)⟩, XH.pass hG hS hFc hU hW⟩⟩ rfl hn hsize rfl (lv_room hw8) hdg hf) hS (fun q _ h => hFc q h) hFc (fun r u t H1 locs1 ht hvm hw hB hz1 hk1 hS1 => ?_)
  obtain ⟨hP1, hK1, hD1⟩ := hB
  rw [ht] at hP1
  have hP2 := up2_P hP hD hC hk1 hP1 hdis hO
  have hD2 := up2_D hD hadr
  have hw : r = r0 := hw
  subst hw
  exact kk H1 locs1 hP2 hD2 hS1
theorem cr_Vi {y : MethodName} {bytes : ByteArray} {maxL nL index n : Nat} {ret : Option FieldType} {wy Ts : List Cond} {rm : Room} {own : String} {b : Nat} {As st : List Value} {wc wc' : va_W} {r0 : Int32} (isC isO : List Nat) (w1 : va_W) (ci : Nat) {q : vw_C} {fs : List Value}
    (S : CallFix p m c cc nL s args Ts own) (hM : MI l y wy rm D cy (.ref b :: As) H.size wc r0 wc') (cw : CallW R s args own y.cls index y bytes maxL ret wy rm rm.cells rm.slots n)
    (hK : va_K D vwCl (TY cy) s) (hP : va_P D vwCl (X ++ pl) H) (hD : va_D A (X ++ pl)) (hS : va_S A s.heap H locs) (hA : ∀ q, s.heap.size ≤ q → A q)
    (hC : isC.map (fun i => X[i]?) = wc.map some) (hnC : va_nd isC = true) (hdis : ∀ i ∈ isO, i ∉ isC) (hO : isO.map (fun i => (X ++ wc')[i]?) = w1.map some) (hadr : w1.map (·.1) = X.map (·.1)) (hq : vwCl[ci]? = some q) (hqc : q.1 = y.cls) (he : wc[0]? = some (b, .inr (ci, fs)))
    (hc0 : rm.cells = 0) (hs0 : rm.slots = 0) (hn : As.length = n) (hsize : ls.size = nL) (hst : st = As.reverse ++ .ref b :: rest) (hw8 : (rest.map fun v => v.category).sum ≤ 8) (hdg : decode cc pc = .ok (.invokevirtual index, 3)) (hf : cells ≤ R.cells ∧ slots ≤ R.slots)
    (kk : ∀ (H1 : Heap) (locs1 : List Loc), va_P D vwCl (w1 ++ pl) H1 → va_D A (w1 ++ pl) → va_S A s.heap H1 locs1 → W p l e R s m args below meth c H1 locs1 cells slots Q (F0 m (pc + 3) ls (.int r0 :: rest))) : W p l e R s m args below meth c H locs cells slots Q (F0 m pc ls st) := by
  subst hst
  obtain ⟨hPc, hDc, hFc⟩ := q_part isC hP hD hS hA hC hnC
  refine va_calli (va_runV S hM cw ⟨fun a U g mk q => by obtain ⟨q0, q1, qP, qK, qD⟩ := q; exact ⟨q0, q1, qP, va_K.moved (u := U) (U := U.calling g mk a) (Vm.Alike.refl U.vm) qK, qD⟩, hqc ▸ va_recv hK hPc hq he, fun U hU hW => ⟨rfl, by rw [hU], by rw [hU]; exact hPc, va_K.moved hW.alike hK, hDc.weaken (fun _ _ _ _ => trivial)⟩⟩ rfl hn hsize rfl (lv_room hw8) hdg ⟨by rw [hc0]; exact hf.1, by rw [hs0]; exact hf.2⟩) hS (fun q _ h => hFc q h) hFc (fun r u t H1 locs1 ht hvm hw hB hz1 hk1 hS1 => ?_)
  obtain ⟨hP1, hK1, hD1⟩ := hB
  rw [ht] at hP1
  have hP2 := up2_P hP hD hC hk1 hP1 hdis hO
  have hD2 := up2_D hD hadr
  have hw : r = r0 := hw
  subst hw
  have hkk := kk H1 locs1 hP2 hD2 hS1
  rw [hc0, hs0]
  exact hkk
theorem cr_Vl {y : MethodName} {bytes : ByteArray} {maxL nL index n : Nat} {ret : Option FieldType} {wy Ts : List Cond} {rm : Room} {own : String} {b : Nat} {As st : List Value} {wc wc' : va_W} {r0 : Int64} (isC isO : List Nat) (w1 : va_W) (ci : Nat) {q : vw_C} {fs : List Value}
    (S : CallFix p m c cc nL s args Ts own) (hM : ML l y wy rm D cy (.ref b :: As) H.size wc r0 wc') (cw : CallW R s args own y.cls index y bytes maxL ret wy rm rm.cells rm.slots n)
    (hK : va_K D vwCl (TY cy) s) (hP : va_P D vwCl (X ++ pl) H) (hD : va_D A (X ++ pl)) (hS : va_S A s.heap H locs) (hA : ∀ q, s.heap.size ≤ q → A q)
    (hC : isC.map (fun i => X[i]?) = wc.map some) (hnC : va_nd isC = true) (hdis : ∀ i ∈ isO, i ∉ isC) (hO : isO.map (fun i => (X ++ wc')[i]?) = w1.map some) (hadr : w1.map (·.1) = X.map (·.1)) (hq : vwCl[ci]? = some q) (hqc : q.1 = y.cls) (he : wc[0]? = some (b, .inr (ci, fs)))
    (hc0 : rm.cells = 0) (hs0 : rm.slots = 0) (hn : As.length = n) (hsize : ls.size = nL) (hst : st = As.reverse ++ .ref b :: rest) (hw8 : (rest.map fun v => v.category).sum ≤ 8) (hdg : decode cc pc = .ok (.invokevirtual index, 3)) (hf : cells ≤ R.cells ∧ slots ≤ R.slots)
    (kk : ∀ (H1 : Heap) (locs1 : List Loc), va_P D vwCl (w1 ++ pl) H1 → va_D A (w1 ++ pl) → va_S A s.heap H1 locs1 → W p l e R s m args below meth c H1 locs1 cells slots Q (F0 m (pc + 3) ls (.long r0 :: rest))) : W p l e R s m args below meth c H locs cells slots Q (F0 m pc ls st) := by
  subst hst
  obtain ⟨hPc, hDc, hFc⟩ := q_part isC hP hD hS hA hC hnC
  refine va_calll (va_runV S hM cw ⟨fun a U g mk q => by obtain ⟨q0, q1, qP, qK, qD⟩ := q; exact ⟨q0, q1, qP, va_K.moved (u := U) (U := U.calling g mk a) (Vm.Alike.refl U.vm) qK, qD⟩, hqc ▸ va_recv hK hPc hq he, fun U hU hW => ⟨rfl, by rw [hU], by rw [hU]; exact hPc, va_K.moved hW.alike hK, hDc.weaken (fun _ _ _ _ => trivial)⟩⟩ rfl hn hsize rfl (lv_room hw8) hdg ⟨by rw [hc0]; exact hf.1, by rw [hs0]; exact hf.2⟩) hS (fun q _ h => hFc q h) hFc (fun r u t H1 locs1 ht hvm hw hB hz1 hk1 hS1 => ?_)
  obtain ⟨hP1, hK1, hD1⟩ := hB
  rw [ht] at hP1
  have hP2 := up2_P hP hD hC hk1 hP1 hdis hO
  have hD2 := up2_D hD hadr
  have hw : r = r0 := hw
  subst hw
  have hkk := kk H1 locs1 hP2 hD2 hS1
  rw [hc0, hs0]
  exact hkk
end LQ
