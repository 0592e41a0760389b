/-! the start's facts -/
theorem st_in {w : Cond} {k : Nat} (h : tables_1[k]? = some w) : w ∈ lw_tbl := List.mem_append_right _ (List.mem_of_getElem? h)
theorem st_arr {args : Array Value} {s : State} {ty : FieldType} (h : (Cond.arrayClass ty).before args s = true) : ∃ cA : ClassId, ArrOfT s cA ty ∧ s.vm.findClass ("[" ++ ty.toString) = some cA := by
  obtain ⟨c, k, comp, h1, h2, h3⟩ := Cond.arrayClass_spec h
  exact ⟨c, fun n z => ⟨(fun q e => by cases e), k, h2, comp, h3⟩, h1⟩
theorem st_arr2 {args : Array Value} {s : State} {ty : FieldType} (h : (Cond.arrayOver (.array ty)).before args s = true) : ∃ cA : ClassId, ArrOfT s cA (.array ty) ∧ s.vm.findClass ("[" ++ (FieldType.array ty).toString) = some cA := by
  obtain ⟨comp, c, k, h0, hi, h2, h3, h1⟩ := Stand.arrayOver_specB h
  exact ⟨c, fun n z => ⟨(fun q e => by cases e), k, h2, comp, h3⟩, h1⟩
theorem st_str {args : Array Value} {s : State} {k : Nat} {tx : String} (h1 : (Cond.stringRef RX7 k tx).before args s = true) (h2 : (Cond.exactly (.string RX7 k) "java/lang/String").before args s = true) : ∃ a : Nat, vk_R RX7 k tx a s := by
  obtain ⟨a, c, cell, kk, h, -⟩ := Cond.exactly_spec h2
  exact ⟨a, vk_R.of h1 h⟩
set_option maxRecDepth 20000 in
theorem st_K {args : Array Value} {s : State} (hts : ∀ w ∈ lw_tbl, w.before args s = true) : ∃ (D : va_G) (cy : Nat → ClassId), va_K D vwCl (TY cy) s := by
  obtain ⟨c0, i0, k0⟩ := u_known (C := RX0) (T := TX0) (N := 11) (n := 11) hts in_lxX00 (hts (.instantiable RX0 11) (st_in (k := 149) (by decide +kernel)))
  obtain ⟨c1, i1, k1⟩ := u_known (C := RX1) (T := TX1) (N := 2) (n := 2) hts in_lxX10 (hts (.instantiable RX1 2) (st_in (k := 134) (by decide +kernel)))
  obtain ⟨c2, i2, k2⟩ := u_known (C := RX2) (T := TX2) (N := 6) (n := 6) hts in_lxX20 (hts (.instantiable RX2 6) (st_in (k := 68) (by decide +kernel)))
  obtain ⟨c3, i3, k3⟩ := u_known (C := RX3) (T := TX3) (N := 5) (n := 5) hts in_lxX30 (hts (.instantiable RX3 5) (st_in (k := 254) (by decide +kernel)))
  obtain ⟨c4, i4, k4⟩ := u_known (C := RX4) (T := TX4) (N := 4) (n := 4) hts in_lxX40 (hts (.instantiable RX4 4) (st_in (k := 382) (by decide +kernel)))
  obtain ⟨c5, i5, k5⟩ := u_known (C := RX5) (T := TX5) (N := 8) (n := 8) hts in_lxX50 (hts (.instantiable RX5 8) (st_in (k := 97) (by decide +kernel)))
  obtain ⟨c6, i6, k6⟩ := u_known (C := RX6) (T := TX6) (N := 4) (n := 4) hts in_lxX60 (hts (.instantiable RX6 4) (st_in (k := 29) (by decide +kernel)))
  obtain ⟨c7, i7, k7⟩ := u_known (C := RX7) (T := TX7) (N := 14) (n := 14) hts in_lxX70 (hts (.instantiable RX7 14) (st_in (k := 21) (by decide +kernel)))
  obtain ⟨c8, i8, k8⟩ := u_known (C := RX8) (T := TX8) (N := 42) (n := 42) hts in_lxX80 (hts (.instantiable RX8 42) (st_in (k := 791) (by decide +kernel)))
  obtain ⟨y0, a0, n0⟩ := st_arr (hts (.arrayClass .int) (st_in (k := 66) (by decide +kernel)))
  obtain ⟨y1, a1, n1⟩ := st_arr (hts (.arrayClass .long) (st_in (k := 192) (by decide +kernel)))
  obtain ⟨y2, a2, n2⟩ := st_arr (hts (.arrayClass .byte) (st_in (k := 94) (by decide +kernel)))
  obtain ⟨y3, a3, n3⟩ := st_arr (hts (.arrayClass .boolean) (st_in (k := 95) (by decide +kernel)))
  obtain ⟨y4, a4, n4⟩ := st_arr2 (hts (.arrayOver (.array .int)) (st_in (k := 155) (by decide +kernel)))
  obtain ⟨y5, a5, n5⟩ := st_arr2 (hts (.arrayOver (.array .long)) (st_in (k := 260) (by decide +kernel)))
  refine ⟨(fun k => match k with | 0 => c0 | 1 => c1 | 2 => c2 | 3 => c3 | 4 => c4 | 5 => c5 | 6 => c6 | 7 => c7 | _ => c8, fun k => match k with | 0 => i0 | 1 => i1 | 2 => i2 | 3 => i3 | 4 => i4 | 5 => i5 | 6 => i6 | 7 => i7 | _ => i8), fun k => match k with | 0 => y0 | 1 => y1 | 2 => y2 | 3 => y3 | 4 => y4 | _ => y5, fun k q hq => ?_, fun k q hq => ?_⟩
  · match k, hq with
    | 0, hq => cases hq; exact k0
    | 1, hq => cases hq; exact k1
    | 2, hq => cases hq; exact k2
    | 3, hq => cases hq; exact k3
    | 4, hq => cases hq; exact k4
    | 5, hq => cases hq; exact k5
    | 6, hq => cases hq; exact k6
    | 7, hq => cases hq; exact k7
    | 8, hq => cases hq; exact k8
    | k + 9, hq => exact absurd hq (by simp [vwCl])
  · match k, hq with
    | 0, hq => cases hq; exact ⟨a0, n0⟩
    | 1, hq => cases hq; exact ⟨a1, n1⟩
    | 2, hq => cases hq; exact ⟨a2, n2⟩
    | 3, hq => cases hq; exact ⟨a3, n3⟩
    | 4, hq => cases hq; exact ⟨a4, n4⟩
    | 5, hq => cases hq; exact ⟨a5, n5⟩
    | k + 6, hq => exact absurd hq (by simp [TY])
set_option maxRecDepth 20000 in
set_option maxHeartbeats 4000000 in
theorem st_XH {b : Nat} {s : State} (hts : ∀ w ∈ lw_tbl, w.before #[Value.ref b] s = true) (hgv : (Jvm.Cond.and given_1 narrow_1).before #[Value.ref b] s = true) : ∃ (sa : Nat → Nat) (tl th : Nat), XH sa tl th (AL s) s := by
  have hs := flat_of_before _ hgv
  have hA : ∀ a : Nat, a < s.heap.size → ¬ AL s a := fun a h => Nat.not_le.mpr h
  obtain ⟨s0, e0⟩ := st_str (hts (.stringRef RX7 89 "there are 40 commands") (st_in (k := 530) (by decide +kernel))) (hs (.exactly (.string RX7 89) "java/lang/String") (by decide +kernel))
  obtain ⟨s1, e1⟩ := st_str (hts (.stringRef RX7 112 "what is not 0 to 3") (st_in (k := 587) (by decide +kernel))) (hs (.exactly (.string RX7 112) "java/lang/String") (by decide +kernel))
  obtain ⟨s2, e2⟩ := st_str (hts (.stringRef RX7 121 "the value is out of its bounds") (st_in (k := 592) (by decide +kernel))) (hs (.exactly (.string RX7 121) "java/lang/String") (by decide +kernel))
  obtain ⟨s3, e3⟩ := st_str (hts (.stringRef RX7 129 "the tape has not so many bytes") (st_in (k := 600) (by decide +kernel))) (hs (.exactly (.string RX7 129) "java/lang/String") (by decide +kernel))
  obtain ⟨s4, e4⟩ := st_str (hts (.stringRef RX7 208 "which is not 0 or 1") (st_in (k := 770) (by decide +kernel))) (hs (.exactly (.string RX7 208) "java/lang/String") (by decide +kernel))
  obtain ⟨s5, e5⟩ := st_str (hts (.stringRef RX7 226 "no such command") (st_in (k := 566) (by decide +kernel))) (hs (.exactly (.string RX7 226) "java/lang/String") (by decide +kernel))
  obtain ⟨s6, e6⟩ := st_str (hts (.stringRef RX7 229 "the count is not 0 to 10,000") (st_in (k := 489) (by decide +kernel))) (hs (.exactly (.string RX7 229) "java/lang/String") (by decide +kernel))
  obtain ⟨s7, e7⟩ := st_str (hts (.stringRef RX7 232 "the words are not 0 to 16,777,215") (st_in (k := 520) (by decide +kernel))) (hs (.exactly (.string RX7 232) "java/lang/String") (by decide +kernel))
  obtain ⟨s8, e8⟩ := st_str (hts (.stringRef RX7 234 "the exchanges are not 0 to 3") (st_in (k := 720) (by decide +kernel))) (hs (.exactly (.string RX7 234) "java/lang/String") (by decide +kernel))
  obtain ⟨tl, evl, Tl⟩ := va_Tof (tm := (Term.static RX7 "LOWEST" "[I")) (ty := .int) (N := 4) (f := fun j => .int (stL j)) (A := AL s) (by decide) (hs (.arrayOf (Term.static RX7 "LOWEST" "[I") .int) (by decide +kernel)) (va_eqt (hs (.eq (.length (Term.static RX7 "LOWEST" "[I")) (.int 4)) (by decide +kernel))) (fun j hj => by
    match j, hj with
    | 0, _ => exact va_eqt (hs (.eq (.elem (Term.static RX7 "LOWEST" "[I") (.int 0)) (.int 1)) (by decide +kernel))
    | 1, _ => exact va_eqt (hs (.eq (.elem (Term.static RX7 "LOWEST" "[I") (.int 1)) (.int 0)) (by decide +kernel))
    | 2, _ => exact va_eqt (hs (.eq (.elem (Term.static RX7 "LOWEST" "[I") (.int 2)) (.int 2)) (by decide +kernel))
    | 3, _ => exact va_eqt (hs (.eq (.elem (Term.static RX7 "LOWEST" "[I") (.int 3)) (.int 0)) (by decide +kernel))
    | j + 4, hj => omega) hA
  obtain ⟨th, evh, Th⟩ := va_Tof (tm := (Term.static RX7 "HIGHEST" "[I")) (ty := .int) (N := 4) (f := fun j => .int (stH j)) (A := AL s) (by decide) (hs (.arrayOf (Term.static RX7 "HIGHEST" "[I") .int) (by decide +kernel)) (va_eqt (hs (.eq (.length (Term.static RX7 "HIGHEST" "[I")) (.int 4)) (by decide +kernel))) (fun j hj => by
    match j, hj with
    | 0, _ => exact va_eqt (hs (.eq (.elem (Term.static RX7 "HIGHEST" "[I") (.int 0)) (.int 100)) (by decide +kernel))
    | 1, _ => exact va_eqt (hs (.eq (.elem (Term.static RX7 "HIGHEST" "[I") (.int 1)) (.int 100)) (by decide +kernel))
    | 2, _ => exact va_eqt (hs (.eq (.elem (Term.static RX7 "HIGHEST" "[I") (.int 2)) (.int 9)) (by decide +kernel))
    | 3, _ => exact va_eqt (hs (.eq (.elem (Term.static RX7 "HIGHEST" "[I") (.int 3)) (.int 100)) (by decide +kernel))
    | j + 4, hj => omega) hA
  refine ⟨fun k => if k = 89 then s0 else if k = 112 then s1 else if k = 121 then s2 else if k = 129 then s3 else if k = 208 then s4 else if k = 226 then s5 else if k = 229 then s6 else if k = 232 then s7 else s8, tl, th, ⟨?_, ?_, ?_, ?_, ?_, ?_⟩, va_Nc.of (hs (.not (.castable "java/lang/IllegalStateException" "java/lang/IllegalArgumentException")) (by decide +kernel)), va_Nc.of (hs (.not (.castable "java/lang/IllegalArgumentException" "java/lang/IndexOutOfBoundsException")) (by decide +kernel))⟩
  · exact vx_Zqof (hts (.laysStatic Bundle.tN "UNASSIGNED_STACK" Bundle.steD) (st_in (k := 475) (by decide +kernel))) (hts (.initialized Bundle.tN) (st_in (k := 8) (by decide +kernel))) (hs (.isRef (.static Bundle.tN "UNASSIGNED_STACK" Bundle.steD)) (by decide +kernel)) hA
  · exact vx_Zqof (hts (.laysStatic Bundle.tN "SUPPRESSED_SENTINEL" Bundle.listD) (st_in (k := 477) (by decide +kernel))) (hts (.initialized Bundle.tN) (st_in (k := 8) (by decide +kernel))) (hs (.isRef (.static Bundle.tN "SUPPRESSED_SENTINEL" Bundle.listD)) (by decide +kernel)) hA
  · exact List.forall_mem_cons.mpr ⟨e0, List.forall_mem_cons.mpr ⟨e1, List.forall_mem_cons.mpr ⟨e2, List.forall_mem_cons.mpr ⟨e3, List.forall_mem_cons.mpr ⟨e4, List.forall_mem_cons.mpr ⟨e5, List.forall_mem_cons.mpr ⟨e6, List.forall_mem_cons.mpr ⟨e7, List.forall_mem_cons.mpr ⟨e8, fun _ h => absurd h List.not_mem_nil⟩⟩⟩⟩⟩⟩⟩⟩⟩
  · exact ⟨va_Nw.of rfl (hts (.castable "java/lang/IllegalArgumentException" "java/lang/IllegalArgumentException") (st_in (k := 450) (by decide +kernel))), va_Nw.of rfl (hts (.castable "java/lang/IllegalStateException" "java/lang/IllegalStateException") (st_in (k := 523) (by decide +kernel))), va_Nw.of rfl (hts (.castable "java/lang/IndexOutOfBoundsException" "java/lang/IndexOutOfBoundsException") (st_in (k := 559) (by decide +kernel)))⟩
  · exact ⟨va_Nw.of rfl (hts (.declares (Bundle.initS "java/lang/RuntimeException")) (st_in (k := 452) (by decide +kernel))), va_Nw.of rfl (hts (.declares (Bundle.initS "java/lang/Exception")) (st_in (k := 454) (by decide +kernel))), va_Nw.of rfl (hts (.declares (Bundle.initS Bundle.tN)) (st_in (k := 456) (by decide +kernel)))⟩
  · exact ⟨va_Zof (hts (.laysStatic RX7 "LOWEST" "[I") (st_in (k := 589) (by decide +kernel))) (hts (.initialized RX7) (st_in (k := 1) (by decide +kernel))) evl hA, Tl, va_Zof (hts (.laysStatic RX7 "HIGHEST" "[I") (st_in (k := 591) (by decide +kernel))) (hts (.initialized RX7) (st_in (k := 1) (by decide +kernel))) evh hA, Th⟩
