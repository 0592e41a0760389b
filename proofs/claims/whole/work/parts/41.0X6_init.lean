abbrev rm_X6_init : Room := { frames := 1, cells := 3, slots := 84, locals := 12 }
set_option maxHeartbeats 4000000 in
set_option maxRecDepth 100000 in
theorem c_X6_init (l : Launch) (D : va_G) (cy : Nat → ClassId) (sz : Nat) (h_this : Nat) : MN l yX6_init wsX6_init rm_X6_init D cy (fun _ => True) [.ref h_this] sz [(h_this, .inr (6, [.int 0, .null, .null, .null]))] (fun u v => [(h_this, .inr (6, [.int 0, .ref (u 0), .ref (u 1), .ref (u 2)])), ((u 0), .inl (cy 0, 40, .inl (fun _ => 0))), ((u 1), .inl (cy 0, 40, .inl (fun _ => 0))), ((u 2), .inl (cy 0, 4, .inl (upd (upd (upd (upd (fun _ => 0) (Int32.toNatClampNeg 0) 1) (Int32.toNatClampNeg 1) 1) (Int32.toNatClampNeg 2) 4) (Int32.toNatClampNeg 3) 1)))]) := by
  refine MN.of (cc := cX6_init) (maxL := 1) (by decide) rfl rfl (Nat.le_of_ble_eq_true rfl) ?_
  intro p e s m below meth c A ls hx hb hml hown hts hlk hr hin0 hAO hK hA hP hD hS hl
  have wo := hts (.methodLink RX6 3 objectInit) (by decide +kernel)
  have wo2 := hts (.instanceMethod objectInit) (by decide +kernel)
  have wo3 := hts (.code objectInit ⟨#[0xb1]⟩ 1 none) (by decide +kernel)
  have wf9 := hts (.fieldLink RX6 9 "MenuPlanner$Use" "size" "I") (by decide +kernel)
  have hinX6 := (by decide +kernel : ∀ w ∈ u_ws RX6 TX6 4, w ∈ wsX6_init)
  have wa_I := hts (.arrayClass .int) (by decide +kernel)
  have wf15 := hts (.fieldLink RX6 15 "MenuPlanner$Use" "counts" "[I") (by decide +kernel)
  have wf19 := hts (.fieldLink RX6 19 "MenuPlanner$Use" "words" "[I") (by decide +kernel)
  have wf22 := hts (.fieldLink RX6 22 "MenuPlanner$Use" "settings" "[I") (by decide +kernel)
  replace hl : lv_has ls 1 [(0, .ref h_this)] := hl
  refine lv_aload_n hx hb dX6_init_0 rfl (lv_at hl 0 rfl) ?_
  refine W.objInit hx hb hown wo wo2 wo3 rfl (by rw [hml]; exact hl.1) rfl dX6_init_1 (Nat.le_of_ble_eq_true rfl) (Nat.le_of_ble_eq_true rfl) ?_
  refine W.eq (g2 := F0 m 4 ls []) rfl ?_
  refine lv_aload_n hx hb dX6_init_4 rfl (lv_at hl 0 rfl) ?_
  refine lv_iconst (v := 0) hx hb dX6_init_5 (by decide) ?_
  refine va_put (D := D) (ci := 6) (v := .int 0) (ty := .int) (C := RX6) (T := TX6) (N := 4) hx hb hts hinX6 tyX6 tyX6_ok nmX6 hown hK hP hD hS 0 rfl rfl 0 (by decide) wf9 (fun _ h9 => h9) rfl (by decide +kernel) rfl rfl (Nat.le_of_ble_eq_true rfl) dX6_init_6 (fun H locs hP hD hS => ?_)
  replace hP : va_P D vwCl [(h_this, .inr (6, [.int 0, .null, .null, .null]))] H := hP
  replace hD : va_D A [(h_this, .inr (6, [.int 0, .null, .null, .null]))] := hD
  refine lv_aload_n hx hb dX6_init_9 rfl (lv_at hl 0 rfl) ?_
  refine lv_bipush (v := 40) hx hb dX6_init_10 (by decide) ?_
  refine n_newI (N' := 40) hx hb wa_I hK hP hD hS hA (by decide) (by decide) (by decide) (Nat.le_of_ble_eq_true rfl) (Nat.le_of_ble_eq_true rfl) dX6_init_12 (fun q1 H hP hD hS => ?_)
  replace hP : va_P D vwCl [(h_this, .inr (6, [.int 0, .null, .null, .null])), (q1, .inl (cy 0, 40, .inl (fun _ => 0)))] H := hP
  replace hD : va_D A [(h_this, .inr (6, [.int 0, .null, .null, .null])), (q1, .inl (cy 0, 40, .inl (fun _ => 0)))] := hD
  refine W.widen (k := 1) (n := 40) (by decide) (by decide) ?_
  refine va_putF (D := D) (ci := 6) (v := .ref q1) (ty := .array .int) (C := RX6) (T := TX6) (N := 4) hx hb hts hinX6 tyX6 tyX6_ok nmX6 hown hK hP hD hS 0 rfl rfl 1 (by decide) wf15 (fun _ h9 => h9) rfl hin0 rfl (by decide +kernel) rfl rfl (Nat.le_of_ble_eq_true rfl) dX6_init_14 (fun H locs hP hD hS => ?_)
  replace hP : va_P D vwCl [(h_this, .inr (6, [.int 0, .ref q1, .null, .null])), (q1, .inl (cy 0, 40, .inl (fun _ => 0)))] H := hP
  replace hD : va_D A [(h_this, .inr (6, [.int 0, .ref q1, .null, .null])), (q1, .inl (cy 0, 40, .inl (fun _ => 0)))] := hD
  refine lv_aload_n hx hb dX6_init_17 rfl (lv_at hl 0 rfl) ?_
  refine lv_bipush (v := 40) hx hb dX6_init_18 (by decide) ?_
  refine n_newI (N' := 40) hx hb wa_I hK hP hD hS hA (by decide) (by decide) (by decide) (Nat.le_of_ble_eq_true rfl) (Nat.le_of_ble_eq_true rfl) dX6_init_20 (fun q2 H hP hD hS => ?_)
  replace hP : va_P D vwCl [(h_this, .inr (6, [.int 0, .ref q1, .null, .null])), (q1, .inl (cy 0, 40, .inl (fun _ => 0))), (q2, .inl (cy 0, 40, .inl (fun _ => 0)))] H := hP
  replace hD : va_D A [(h_this, .inr (6, [.int 0, .ref q1, .null, .null])), (q1, .inl (cy 0, 40, .inl (fun _ => 0))), (q2, .inl (cy 0, 40, .inl (fun _ => 0)))] := hD
  refine W.widen (k := 2) (n := 80) (by decide) (by decide) ?_
  refine va_putF (D := D) (ci := 6) (v := .ref q2) (ty := .array .int) (C := RX6) (T := TX6) (N := 4) hx hb hts hinX6 tyX6 tyX6_ok nmX6 hown hK hP hD hS 0 rfl rfl 2 (by decide) wf19 (fun _ h9 => h9) rfl hin0 rfl (by decide +kernel) rfl rfl (Nat.le_of_ble_eq_true rfl) dX6_init_22 (fun H locs hP hD hS => ?_)
  replace hP : va_P D vwCl [(h_this, .inr (6, [.int 0, .ref q1, .ref q2, .null])), (q1, .inl (cy 0, 40, .inl (fun _ => 0))), (q2, .inl (cy 0, 40, .inl (fun _ => 0)))] H := hP
  replace hD : va_D A [(h_this, .inr (6, [.int 0, .ref q1, .ref q2, .null])), (q1, .inl (cy 0, 40, .inl (fun _ => 0))), (q2, .inl (cy 0, 40, .inl (fun _ => 0)))] := hD
  refine lv_aload_n hx hb dX6_init_25 rfl (lv_at hl 0 rfl) ?_
  refine lv_iconst (v := 4) hx hb dX6_init_26 (by decide) ?_
  refine n_newI (N' := 4) hx hb wa_I hK hP hD hS hA (by decide) (by decide) (by decide) (Nat.le_of_ble_eq_true rfl) (Nat.le_of_ble_eq_true rfl) dX6_init_27 (fun q3 H hP hD hS => ?_)
  replace hP : va_P D vwCl [(h_this, .inr (6, [.int 0, .ref q1, .ref q2, .null])), (q1, .inl (cy 0, 40, .inl (fun _ => 0))), (q2, .inl (cy 0, 40, .inl (fun _ => 0))), (q3, .inl (cy 0, 4, .inl (fun _ => 0)))] H := hP
  replace hD : va_D A [(h_this, .inr (6, [.int 0, .ref q1, .ref q2, .null])), (q1, .inl (cy 0, 40, .inl (fun _ => 0))), (q2, .inl (cy 0, 40, .inl (fun _ => 0))), (q3, .inl (cy 0, 4, .inl (fun _ => 0)))] := hD
  refine W.widen (k := 3) (n := 84) (by decide) (by decide) ?_
  refine lv_dup hx hb dX6_init_29 rfl ?_
  refine lv_iconst (v := 0) hx hb dX6_init_30 (by decide) ?_
  refine lv_iconst (v := 1) hx hb dX6_init_31 (by decide) ?_
  refine va_iast hx hb hK hP hD hS 3 0 rfl rfl (vp_in_iff.mpr (by decide)) dX6_init_32 (fun H locs hP hD hS => ?_)
  replace hP : va_P D vwCl [(h_this, .inr (6, [.int 0, .ref q1, .ref q2, .null])), (q1, .inl (cy 0, 40, .inl (fun _ => 0))), (q2, .inl (cy 0, 40, .inl (fun _ => 0))), (q3, .inl (cy 0, 4, .inl (upd (fun _ => 0) (Int32.toNatClampNeg 0) 1)))] H := hP
  replace hD : va_D A [(h_this, .inr (6, [.int 0, .ref q1, .ref q2, .null])), (q1, .inl (cy 0, 40, .inl (fun _ => 0))), (q2, .inl (cy 0, 40, .inl (fun _ => 0))), (q3, .inl (cy 0, 4, .inl (upd (fun _ => 0) (Int32.toNatClampNeg 0) 1)))] := hD
  refine lv_dup hx hb dX6_init_33 rfl ?_
  refine lv_iconst (v := 1) hx hb dX6_init_34 (by decide) ?_
  refine lv_iconst (v := 1) hx hb dX6_init_35 (by decide) ?_
  refine va_iast hx hb hK hP hD hS 3 0 rfl rfl (vp_in_iff.mpr (by decide)) dX6_init_36 (fun H locs hP hD hS => ?_)
  replace hP : va_P D vwCl [(h_this, .inr (6, [.int 0, .ref q1, .ref q2, .null])), (q1, .inl (cy 0, 40, .inl (fun _ => 0))), (q2, .inl (cy 0, 40, .inl (fun _ => 0))), (q3, .inl (cy 0, 4, .inl (upd (upd (fun _ => 0) (Int32.toNatClampNeg 0) 1) (Int32.toNatClampNeg 1) 1)))] H := hP
  replace hD : va_D A [(h_this, .inr (6, [.int 0, .ref q1, .ref q2, .null])), (q1, .inl (cy 0, 40, .inl (fun _ => 0))), (q2, .inl (cy 0, 40, .inl (fun _ => 0))), (q3, .inl (cy 0, 4, .inl (upd (upd (fun _ => 0) (Int32.toNatClampNeg 0) 1) (Int32.toNatClampNeg 1) 1)))] := hD
  refine lv_dup hx hb dX6_init_37 rfl ?_
  refine lv_iconst (v := 2) hx hb dX6_init_38 (by decide) ?_
  refine lv_iconst (v := 4) hx hb dX6_init_39 (by decide) ?_
  refine va_iast hx hb hK hP hD hS 3 0 rfl rfl (vp_in_iff.mpr (by decide)) dX6_init_40 (fun H locs hP hD hS => ?_)
  replace hP : va_P D vwCl [(h_this, .inr (6, [.int 0, .ref q1, .ref q2, .null])), (q1, .inl (cy 0, 40, .inl (fun _ => 0))), (q2, .inl (cy 0, 40, .inl (fun _ => 0))), (q3, .inl (cy 0, 4, .inl (upd (upd (upd (fun _ => 0) (Int32.toNatClampNeg 0) 1) (Int32.toNatClampNeg 1) 1) (Int32.toNatClampNeg 2) 4)))] H := hP
  replace hD : va_D A [(h_this, .inr (6, [.int 0, .ref q1, .ref q2, .null])), (q1, .inl (cy 0, 40, .inl (fun _ => 0))), (q2, .inl (cy 0, 40, .inl (fun _ => 0))), (q3, .inl (cy 0, 4, .inl (upd (upd (upd (fun _ => 0) (Int32.toNatClampNeg 0) 1) (Int32.toNatClampNeg 1) 1) (Int32.toNatClampNeg 2) 4)))] := hD
  refine lv_dup hx hb dX6_init_41 rfl ?_
  refine lv_iconst (v := 3) hx hb dX6_init_42 (by decide) ?_
  refine lv_iconst (v := 1) hx hb dX6_init_43 (by decide) ?_
  refine va_iast hx hb hK hP hD hS 3 0 rfl rfl (vp_in_iff.mpr (by decide)) dX6_init_44 (fun H locs hP hD hS => ?_)
  replace hP : va_P D vwCl [(h_this, .inr (6, [.int 0, .ref q1, .ref q2, .null])), (q1, .inl (cy 0, 40, .inl (fun _ => 0))), (q2, .inl (cy 0, 40, .inl (fun _ => 0))), (q3, .inl (cy 0, 4, .inl (upd (upd (upd (upd (fun _ => 0) (Int32.toNatClampNeg 0) 1) (Int32.toNatClampNeg 1) 1) (Int32.toNatClampNeg 2) 4) (Int32.toNatClampNeg 3) 1)))] H := hP
  replace hD : va_D A [(h_this, .inr (6, [.int 0, .ref q1, .ref q2, .null])), (q1, .inl (cy 0, 40, .inl (fun _ => 0))), (q2, .inl (cy 0, 40, .inl (fun _ => 0))), (q3, .inl (cy 0, 4, .inl (upd (upd (upd (upd (fun _ => 0) (Int32.toNatClampNeg 0) 1) (Int32.toNatClampNeg 1) 1) (Int32.toNatClampNeg 2) 4) (Int32.toNatClampNeg 3) 1)))] := hD
  refine va_putF (D := D) (ci := 6) (v := .ref q3) (ty := .array .int) (C := RX6) (T := TX6) (N := 4) hx hb hts hinX6 tyX6 tyX6_ok nmX6 hown hK hP hD hS 0 rfl rfl 3 (by decide) wf22 (fun _ h9 => h9) rfl hin0 rfl (by decide +kernel) rfl rfl (Nat.le_of_ble_eq_true rfl) dX6_init_45 (fun H locs hP hD hS => ?_)
  replace hP : va_P D vwCl [(h_this, .inr (6, [.int 0, .ref q1, .ref q2, .ref q3])), (q1, .inl (cy 0, 40, .inl (fun _ => 0))), (q2, .inl (cy 0, 40, .inl (fun _ => 0))), (q3, .inl (cy 0, 4, .inl (upd (upd (upd (upd (fun _ => 0) (Int32.toNatClampNeg 0) 1) (Int32.toNatClampNeg 1) 1) (Int32.toNatClampNeg 2) 4) (Int32.toNatClampNeg 3) 1)))] H := hP
  replace hD : va_D A [(h_this, .inr (6, [.int 0, .ref q1, .ref q2, .ref q3])), (q1, .inl (cy 0, 40, .inl (fun _ => 0))), (q2, .inl (cy 0, 40, .inl (fun _ => 0))), (q3, .inl (cy 0, 4, .inl (upd (upd (upd (upd (fun _ => 0) (Int32.toNatClampNeg 0) 1) (Int32.toNatClampNeg 1) 1) (Int32.toNatClampNeg 2) 4) (Int32.toNatClampNeg 3) 1)))] := hD
  exact rt_n (u := (fun k => ([q1, q2, q3] : List Nat).getD k 0)) (v := (fun _ => 0)) hx hb hr hlk hK hP hD hS dX6_init_48
