abbrev rm_X5_init : Room := { frames := 1, cells := 7, slots := 1064, locals := 12 }
set_option maxHeartbeats 4000000 in
set_option maxRecDepth 100000 in
theorem c_X5_init (l : Launch) (D : va_G) (cy : Nat → ClassId) (sz : Nat) (h_this : Nat) : MN l yX5_init wsX5_init rm_X5_init D cy (fun _ => True) [.ref h_this] sz [(h_this, .inr (5, [.int 0, .null, .null, .null, .null, .null, .null, .null]))] (fun u v => [(h_this, .inr (5, [.int 0, .ref (u 0), .ref (u 1), .ref (u 2), .ref (u 3), .ref (u 4), .ref (u 5), .ref (u 6)])), ((u 0), .inl (cy 0, 80, .inl (fun _ => 0))), ((u 1), .inl (cy 0, 80, .inl (fun _ => 0))), ((u 2), .inl (cy 0, 80, .inl (fun _ => 0))), ((u 3), .inl (cy 0, 720, .inl (fun _ => 0))), ((u 4), .inl (cy 0, 40, .inl (fun _ => 0))), ((u 5), .inl (cy 0, 40, .inl (fun _ => 0))), ((u 6), .inl (cy 0, 24, .inl (fun _ => 0)))]) := by
  refine MN.of (cc := cX5_init) (maxL := 1) (by decide) rfl rfl (Nat.le_of_ble_eq_true rfl) ?_
  intro p e s m below meth c A ls hx hb hml hown hts hlk hr hin0 hAO hK hA hP hD hS hl
  have wo := hts (.methodLink RX5 3 objectInit) (by decide +kernel)
  have wo2 := hts (.instanceMethod objectInit) (by decide +kernel)
  have wo3 := hts (.code objectInit ⟨#[0xb1]⟩ 1 none) (by decide +kernel)
  have wf9 := hts (.fieldLink RX5 9 "MenuPlanner$Tree" "lists" "I") (by decide +kernel)
  have hinX5 := (by decide +kernel : ∀ w ∈ u_ws RX5 TX5 8, w ∈ wsX5_init)
  have wa_I := hts (.arrayClass .int) (by decide +kernel)
  have wf15 := hts (.fieldLink RX5 15 "MenuPlanner$Tree" "sizes" "[I") (by decide +kernel)
  have wf19 := hts (.fieldLink RX5 19 "MenuPlanner$Tree" "above" "[I") (by decide +kernel)
  have wf22 := hts (.fieldLink RX5 22 "MenuPlanner$Tree" "placeAbove" "[I") (by decide +kernel)
  have wf25 := hts (.fieldLink RX5 25 "MenuPlanner$Tree" "items" "[I") (by decide +kernel)
  have wf28 := hts (.fieldLink RX5 28 "MenuPlanner$Tree" "home" "[I") (by decide +kernel)
  have wf31 := hts (.fieldLink RX5 31 "MenuPlanner$Tree" "placeHome" "[I") (by decide +kernel)
  have wf34 := hts (.fieldLink RX5 34 "MenuPlanner$Tree" "tally" "[I") (by decide +kernel)
  replace hl : lv_has ls 1 [(0, .ref h_this)] := hl
  refine lv_aload_n hx hb dX5_init_0 rfl (lv_at hl 0 rfl) ?_
  refine W.objInit hx hb hown wo wo2 wo3 rfl (by rw [hml]; exact hl.1) rfl dX5_init_1 (Nat.le_of_ble_eq_true rfl) (Nat.le_of_ble_eq_true rfl) ?_
  refine W.eq (g2 := F0 m 4 ls []) rfl ?_
  refine lv_aload_n hx hb dX5_init_4 rfl (lv_at hl 0 rfl) ?_
  refine lv_iconst (v := 0) hx hb dX5_init_5 (by decide) ?_
  refine va_put (D := D) (ci := 5) (v := .int 0) (ty := .int) (C := RX5) (T := TX5) (N := 8) hx hb hts hinX5 tyX5 tyX5_ok nmX5 hown hK hP hD hS 0 rfl rfl 0 (by decide) wf9 (fun _ h9 => h9) rfl (by decide +kernel) rfl rfl (Nat.le_of_ble_eq_true rfl) dX5_init_6 (fun H locs hP hD hS => ?_)
  replace hP : va_P D vwCl [(h_this, .inr (5, [.int 0, .null, .null, .null, .null, .null, .null, .null]))] H := hP
  replace hD : va_D A [(h_this, .inr (5, [.int 0, .null, .null, .null, .null, .null, .null, .null]))] := hD
  refine lv_aload_n hx hb dX5_init_9 rfl (lv_at hl 0 rfl) ?_
  refine lv_bipush (v := 80) hx hb dX5_init_10 (by decide) ?_
  refine n_newI (N' := 80) hx hb wa_I hK hP hD hS hA (by decide) (by decide) (by decide) (Nat.le_of_ble_eq_true rfl) (Nat.le_of_ble_eq_true rfl) dX5_init_12 (fun q1 H hP hD hS => ?_)
  replace hP : va_P D vwCl [(h_this, .inr (5, [.int 0, .null, .null, .null, .null, .null, .null, .null])), (q1, .inl (cy 0, 80, .inl (fun _ => 0)))] H := hP
  replace hD : va_D A [(h_this, .inr (5, [.int 0, .null, .null, .null, .null, .null, .null, .null])), (q1, .inl (cy 0, 80, .inl (fun _ => 0)))] := hD
  refine W.widen (k := 1) (n := 80) (by decide) (by decide) ?_
  refine va_putF (D := D) (ci := 5) (v := .ref q1) (ty := .array .int) (C := RX5) (T := TX5) (N := 8) hx hb hts hinX5 tyX5 tyX5_ok nmX5 hown hK hP hD hS 0 rfl rfl 1 (by decide) wf15 (fun _ h9 => h9) rfl hin0 rfl (by decide +kernel) rfl rfl (Nat.le_of_ble_eq_true rfl) dX5_init_14 (fun H locs hP hD hS => ?_)
  replace hP : va_P D vwCl [(h_this, .inr (5, [.int 0, .ref q1, .null, .null, .null, .null, .null, .null])), (q1, .inl (cy 0, 80, .inl (fun _ => 0)))] H := hP
  replace hD : va_D A [(h_this, .inr (5, [.int 0, .ref q1, .null, .null, .null, .null, .null, .null])), (q1, .inl (cy 0, 80, .inl (fun _ => 0)))] := hD
  refine lv_aload_n hx hb dX5_init_17 rfl (lv_at hl 0 rfl) ?_
  refine lv_bipush (v := 80) hx hb dX5_init_18 (by decide) ?_
  refine n_newI (N' := 80) hx hb wa_I hK hP hD hS hA (by decide) (by decide) (by decide) (Nat.le_of_ble_eq_true rfl) (Nat.le_of_ble_eq_true rfl) dX5_init_20 (fun q2 H hP hD hS => ?_)
  replace hP : va_P D vwCl [(h_this, .inr (5, [.int 0, .ref q1, .null, .null, .null, .null, .null, .null])), (q1, .inl (cy 0, 80, .inl (fun _ => 0))), (q2, .inl (cy 0, 80, .inl (fun _ => 0)))] H := hP
  replace hD : va_D A [(h_this, .inr (5, [.int 0, .ref q1, .null, .null, .null, .null, .null, .null])), (q1, .inl (cy 0, 80, .inl (fun _ => 0))), (q2, .inl (cy 0, 80, .inl (fun _ => 0)))] := hD
  refine W.widen (k := 2) (n := 160) (by decide) (by decide) ?_
  refine va_putF (D := D) (ci := 5) (v := .ref q2) (ty := .array .int) (C := RX5) (T := TX5) (N := 8) hx hb hts hinX5 tyX5 tyX5_ok nmX5 hown hK hP hD hS 0 rfl rfl 2 (by decide) wf19 (fun _ h9 => h9) rfl hin0 rfl (by decide +kernel) rfl rfl (Nat.le_of_ble_eq_true rfl) dX5_init_22 (fun H locs hP hD hS => ?_)
  replace hP : va_P D vwCl [(h_this, .inr (5, [.int 0, .ref q1, .ref q2, .null, .null, .null, .null, .null])), (q1, .inl (cy 0, 80, .inl (fun _ => 0))), (q2, .inl (cy 0, 80, .inl (fun _ => 0)))] H := hP
  replace hD : va_D A [(h_this, .inr (5, [.int 0, .ref q1, .ref q2, .null, .null, .null, .null, .null])), (q1, .inl (cy 0, 80, .inl (fun _ => 0))), (q2, .inl (cy 0, 80, .inl (fun _ => 0)))] := hD
  refine lv_aload_n hx hb dX5_init_25 rfl (lv_at hl 0 rfl) ?_
  refine lv_bipush (v := 80) hx hb dX5_init_26 (by decide) ?_
  refine n_newI (N' := 80) hx hb wa_I hK hP hD hS hA (by decide) (by decide) (by decide) (Nat.le_of_ble_eq_true rfl) (Nat.le_of_ble_eq_true rfl) dX5_init_28 (fun q3 H hP hD hS => ?_)
  replace hP : va_P D vwCl [(h_this, .inr (5, [.int 0, .ref q1, .ref q2, .null, .null, .null, .null, .null])), (q1, .inl (cy 0, 80, .inl (fun _ => 0))), (q2, .inl (cy 0, 80, .inl (fun _ => 0))), (q3, .inl (cy 0, 80, .inl (fun _ => 0)))] H := hP
  replace hD : va_D A [(h_this, .inr (5, [.int 0, .ref q1, .ref q2, .null, .null, .null, .null, .null])), (q1, .inl (cy 0, 80, .inl (fun _ => 0))), (q2, .inl (cy 0, 80, .inl (fun _ => 0))), (q3, .inl (cy 0, 80, .inl (fun _ => 0)))] := hD
  refine W.widen (k := 3) (n := 240) (by decide) (by decide) ?_
  refine va_putF (D := D) (ci := 5) (v := .ref q3) (ty := .array .int) (C := RX5) (T := TX5) (N := 8) hx hb hts hinX5 tyX5 tyX5_ok nmX5 hown hK hP hD hS 0 rfl rfl 3 (by decide) wf22 (fun _ h9 => h9) rfl hin0 rfl (by decide +kernel) rfl rfl (Nat.le_of_ble_eq_true rfl) dX5_init_30 (fun H locs hP hD hS => ?_)
  replace hP : va_P D vwCl [(h_this, .inr (5, [.int 0, .ref q1, .ref q2, .ref q3, .null, .null, .null, .null])), (q1, .inl (cy 0, 80, .inl (fun _ => 0))), (q2, .inl (cy 0, 80, .inl (fun _ => 0))), (q3, .inl (cy 0, 80, .inl (fun _ => 0)))] H := hP
  replace hD : va_D A [(h_this, .inr (5, [.int 0, .ref q1, .ref q2, .ref q3, .null, .null, .null, .null])), (q1, .inl (cy 0, 80, .inl (fun _ => 0))), (q2, .inl (cy 0, 80, .inl (fun _ => 0))), (q3, .inl (cy 0, 80, .inl (fun _ => 0)))] := hD
  refine lv_aload_n hx hb dX5_init_33 rfl (lv_at hl 0 rfl) ?_
  refine lv_sipush (v := 720) hx hb dX5_init_34 (by decide) ?_
  refine n_newI (N' := 720) hx hb wa_I hK hP hD hS hA (by decide) (by decide) (by decide) (Nat.le_of_ble_eq_true rfl) (Nat.le_of_ble_eq_true rfl) dX5_init_37 (fun q4 H hP hD hS => ?_)
  replace hP : va_P D vwCl [(h_this, .inr (5, [.int 0, .ref q1, .ref q2, .ref q3, .null, .null, .null, .null])), (q1, .inl (cy 0, 80, .inl (fun _ => 0))), (q2, .inl (cy 0, 80, .inl (fun _ => 0))), (q3, .inl (cy 0, 80, .inl (fun _ => 0))), (q4, .inl (cy 0, 720, .inl (fun _ => 0)))] H := hP
  replace hD : va_D A [(h_this, .inr (5, [.int 0, .ref q1, .ref q2, .ref q3, .null, .null, .null, .null])), (q1, .inl (cy 0, 80, .inl (fun _ => 0))), (q2, .inl (cy 0, 80, .inl (fun _ => 0))), (q3, .inl (cy 0, 80, .inl (fun _ => 0))), (q4, .inl (cy 0, 720, .inl (fun _ => 0)))] := hD
  refine W.widen (k := 4) (n := 960) (by decide) (by decide) ?_
  refine va_putF (D := D) (ci := 5) (v := .ref q4) (ty := .array .int) (C := RX5) (T := TX5) (N := 8) hx hb hts hinX5 tyX5 tyX5_ok nmX5 hown hK hP hD hS 0 rfl rfl 4 (by decide) wf25 (fun _ h9 => h9) rfl hin0 rfl (by decide +kernel) rfl rfl (Nat.le_of_ble_eq_true rfl) dX5_init_39 (fun H locs hP hD hS => ?_)
  replace hP : va_P D vwCl [(h_this, .inr (5, [.int 0, .ref q1, .ref q2, .ref q3, .ref q4, .null, .null, .null])), (q1, .inl (cy 0, 80, .inl (fun _ => 0))), (q2, .inl (cy 0, 80, .inl (fun _ => 0))), (q3, .inl (cy 0, 80, .inl (fun _ => 0))), (q4, .inl (cy 0, 720, .inl (fun _ => 0)))] H := hP
  replace hD : va_D A [(h_this, .inr (5, [.int 0, .ref q1, .ref q2, .ref q3, .ref q4, .null, .null, .null])), (q1, .inl (cy 0, 80, .inl (fun _ => 0))), (q2, .inl (cy 0, 80, .inl (fun _ => 0))), (q3, .inl (cy 0, 80, .inl (fun _ => 0))), (q4, .inl (cy 0, 720, .inl (fun _ => 0)))] := hD
  refine lv_aload_n hx hb dX5_init_42 rfl (lv_at hl 0 rfl) ?_
  refine lv_bipush (v := 40) hx hb dX5_init_43 (by decide) ?_
  refine n_newI (N' := 40) hx hb wa_I hK hP hD hS hA (by decide) (by decide) (by decide) (Nat.le_of_ble_eq_true rfl) (Nat.le_of_ble_eq_true rfl) dX5_init_45 (fun q5 H hP hD hS => ?_)
  replace hP : va_P D vwCl [(h_this, .inr (5, [.int 0, .ref q1, .ref q2, .ref q3, .ref q4, .null, .null, .null])), (q1, .inl (cy 0, 80, .inl (fun _ => 0))), (q2, .inl (cy 0, 80, .inl (fun _ => 0))), (q3, .inl (cy 0, 80, .inl (fun _ => 0))), (q4, .inl (cy 0, 720, .inl (fun _ => 0))), (q5, .inl (cy 0, 40, .inl (fun _ => 0)))] H := hP
  replace hD : va_D A [(h_this, .inr (5, [.int 0, .ref q1, .ref q2, .ref q3, .ref q4, .null, .null, .null])), (q1, .inl (cy 0, 80, .inl (fun _ => 0))), (q2, .inl (cy 0, 80, .inl (fun _ => 0))), (q3, .inl (cy 0, 80, .inl (fun _ => 0))), (q4, .inl (cy 0, 720, .inl (fun _ => 0))), (q5, .inl (cy 0, 40, .inl (fun _ => 0)))] := hD
  refine W.widen (k := 5) (n := 1000) (by decide) (by decide) ?_
  refine va_putF (D := D) (ci := 5) (v := .ref q5) (ty := .array .int) (C := RX5) (T := TX5) (N := 8) hx hb hts hinX5 tyX5 tyX5_ok nmX5 hown hK hP hD hS 0 rfl rfl 5 (by decide) wf28 (fun _ h9 => h9) rfl hin0 rfl (by decide +kernel) rfl rfl (Nat.le_of_ble_eq_true rfl) dX5_init_47 (fun H locs hP hD hS => ?_)
  replace hP : va_P D vwCl [(h_this, .inr (5, [.int 0, .ref q1, .ref q2, .ref q3, .ref q4, .ref q5, .null, .null])), (q1, .inl (cy 0, 80, .inl (fun _ => 0))), (q2, .inl (cy 0, 80, .inl (fun _ => 0))), (q3, .inl (cy 0, 80, .inl (fun _ => 0))), (q4, .inl (cy 0, 720, .inl (fun _ => 0))), (q5, .inl (cy 0, 40, .inl (fun _ => 0)))] H := hP
  replace hD : va_D A [(h_this, .inr (5, [.int 0, .ref q1, .ref q2, .ref q3, .ref q4, .ref q5, .null, .null])), (q1, .inl (cy 0, 80, .inl (fun _ => 0))), (q2, .inl (cy 0, 80, .inl (fun _ => 0))), (q3, .inl (cy 0, 80, .inl (fun _ => 0))), (q4, .inl (cy 0, 720, .inl (fun _ => 0))), (q5, .inl (cy 0, 40, .inl (fun _ => 0)))] := hD
  refine lv_aload_n hx hb dX5_init_50 rfl (lv_at hl 0 rfl) ?_
  refine lv_bipush (v := 40) hx hb dX5_init_51 (by decide) ?_
  refine n_newI (N' := 40) hx hb wa_I hK hP hD hS hA (by decide) (by decide) (by decide) (Nat.le_of_ble_eq_true rfl) (Nat.le_of_ble_eq_true rfl) dX5_init_53 (fun q6 H hP hD hS => ?_)
  replace hP : va_P D vwCl [(h_this, .inr (5, [.int 0, .ref q1, .ref q2, .ref q3, .ref q4, .ref q5, .null, .null])), (q1, .inl (cy 0, 80, .inl (fun _ => 0))), (q2, .inl (cy 0, 80, .inl (fun _ => 0))), (q3, .inl (cy 0, 80, .inl (fun _ => 0))), (q4, .inl (cy 0, 720, .inl (fun _ => 0))), (q5, .inl (cy 0, 40, .inl (fun _ => 0))), (q6, .inl (cy 0, 40, .inl (fun _ => 0)))] H := hP
  replace hD : va_D A [(h_this, .inr (5, [.int 0, .ref q1, .ref q2, .ref q3, .ref q4, .ref q5, .null, .null])), (q1, .inl (cy 0, 80, .inl (fun _ => 0))), (q2, .inl (cy 0, 80, .inl (fun _ => 0))), (q3, .inl (cy 0, 80, .inl (fun _ => 0))), (q4, .inl (cy 0, 720, .inl (fun _ => 0))), (q5, .inl (cy 0, 40, .inl (fun _ => 0))), (q6, .inl (cy 0, 40, .inl (fun _ => 0)))] := hD
  refine W.widen (k := 6) (n := 1040) (by decide) (by decide) ?_
  refine va_putF (D := D) (ci := 5) (v := .ref q6) (ty := .array .int) (C := RX5) (T := TX5) (N := 8) hx hb hts hinX5 tyX5 tyX5_ok nmX5 hown hK hP hD hS 0 rfl rfl 6 (by decide) wf31 (fun _ h9 => h9) rfl hin0 rfl (by decide +kernel) rfl rfl (Nat.le_of_ble_eq_true rfl) dX5_init_55 (fun H locs hP hD hS => ?_)
  replace hP : va_P D vwCl [(h_this, .inr (5, [.int 0, .ref q1, .ref q2, .ref q3, .ref q4, .ref q5, .ref q6, .null])), (q1, .inl (cy 0, 80, .inl (fun _ => 0))), (q2, .inl (cy 0, 80, .inl (fun _ => 0))), (q3, .inl (cy 0, 80, .inl (fun _ => 0))), (q4, .inl (cy 0, 720, .inl (fun _ => 0))), (q5, .inl (cy 0, 40, .inl (fun _ => 0))), (q6, .inl (cy 0, 40, .inl (fun _ => 0)))] H := hP
  replace hD : va_D A [(h_this, .inr (5, [.int 0, .ref q1, .ref q2, .ref q3, .ref q4, .ref q5, .ref q6, .null])), (q1, .inl (cy 0, 80, .inl (fun _ => 0))), (q2, .inl (cy 0, 80, .inl (fun _ => 0))), (q3, .inl (cy 0, 80, .inl (fun _ => 0))), (q4, .inl (cy 0, 720, .inl (fun _ => 0))), (q5, .inl (cy 0, 40, .inl (fun _ => 0))), (q6, .inl (cy 0, 40, .inl (fun _ => 0)))] := hD
  refine lv_aload_n hx hb dX5_init_58 rfl (lv_at hl 0 rfl) ?_
  refine lv_bipush (v := 24) hx hb dX5_init_59 (by decide) ?_
  refine n_newI (N' := 24) hx hb wa_I hK hP hD hS hA (by decide) (by decide) (by decide) (Nat.le_of_ble_eq_true rfl) (Nat.le_of_ble_eq_true rfl) dX5_init_61 (fun q7 H hP hD hS => ?_)
  replace hP : va_P D vwCl [(h_this, .inr (5, [.int 0, .ref q1, .ref q2, .ref q3, .ref q4, .ref q5, .ref q6, .null])), (q1, .inl (cy 0, 80, .inl (fun _ => 0))), (q2, .inl (cy 0, 80, .inl (fun _ => 0))), (q3, .inl (cy 0, 80, .inl (fun _ => 0))), (q4, .inl (cy 0, 720, .inl (fun _ => 0))), (q5, .inl (cy 0, 40, .inl (fun _ => 0))), (q6, .inl (cy 0, 40, .inl (fun _ => 0))), (q7, .inl (cy 0, 24, .inl (fun _ => 0)))] H := hP
  replace hD : va_D A [(h_this, .inr (5, [.int 0, .ref q1, .ref q2, .ref q3, .ref q4, .ref q5, .ref q6, .null])), (q1, .inl (cy 0, 80, .inl (fun _ => 0))), (q2, .inl (cy 0, 80, .inl (fun _ => 0))), (q3, .inl (cy 0, 80, .inl (fun _ => 0))), (q4, .inl (cy 0, 720, .inl (fun _ => 0))), (q5, .inl (cy 0, 40, .inl (fun _ => 0))), (q6, .inl (cy 0, 40, .inl (fun _ => 0))), (q7, .inl (cy 0, 24, .inl (fun _ => 0)))] := hD
  refine W.widen (k := 7) (n := 1064) (by decide) (by decide) ?_
  refine va_putF (D := D) (ci := 5) (v := .ref q7) (ty := .array .int) (C := RX5) (T := TX5) (N := 8) hx hb hts hinX5 tyX5 tyX5_ok nmX5 hown hK hP hD hS 0 rfl rfl 7 (by decide) wf34 (fun _ h9 => h9) rfl hin0 rfl (by decide +kernel) rfl rfl (Nat.le_of_ble_eq_true rfl) dX5_init_63 (fun H locs hP hD hS => ?_)
  replace hP : va_P D vwCl [(h_this, .inr (5, [.int 0, .ref q1, .ref q2, .ref q3, .ref q4, .ref q5, .ref q6, .ref q7])), (q1, .inl (cy 0, 80, .inl (fun _ => 0))), (q2, .inl (cy 0, 80, .inl (fun _ => 0))), (q3, .inl (cy 0, 80, .inl (fun _ => 0))), (q4, .inl (cy 0, 720, .inl (fun _ => 0))), (q5, .inl (cy 0, 40, .inl (fun _ => 0))), (q6, .inl (cy 0, 40, .inl (fun _ => 0))), (q7, .inl (cy 0, 24, .inl (fun _ => 0)))] H := hP
  replace hD : va_D A [(h_this, .inr (5, [.int 0, .ref q1, .ref q2, .ref q3, .ref q4, .ref q5, .ref q6, .ref q7])), (q1, .inl (cy 0, 80, .inl (fun _ => 0))), (q2, .inl (cy 0, 80, .inl (fun _ => 0))), (q3, .inl (cy 0, 80, .inl (fun _ => 0))), (q4, .inl (cy 0, 720, .inl (fun _ => 0))), (q5, .inl (cy 0, 40, .inl (fun _ => 0))), (q6, .inl (cy 0, 40, .inl (fun _ => 0))), (q7, .inl (cy 0, 24, .inl (fun _ => 0)))] := hD
  exact rt_n (u := (fun k => ([q1, q2, q3, q4, q5, q6, q7] : List Nat).getD k 0)) (v := (fun _ => 0)) hx hb hr hlk hK hP hD hS dX5_init_66
