abbrev rm_X2_init : Room := { frames := 1, cells := 2, slots := 80, locals := 12 }
set_option maxHeartbeats 4000000 in
set_option maxRecDepth 100000 in
theorem c_X2_init (l : Launch) (D : va_G) (cy : Nat → ClassId) (sz : Nat) (h_this : Nat) : MN l yX2_init wsX2_init rm_X2_init D cy (fun _ => True) [.ref h_this] sz [(h_this, .inr (2, [.int 0, .int 0, .null, .int 0, .null, .int 0]))] (fun u v => [(h_this, .inr (2, [.int 0, .int (-1), .ref (u 0), .int 0, .ref (u 1), .int 0])), ((u 0), .inl (cy 0, 40, .inl (fun _ => 0))), ((u 1), .inl (cy 3, 40, .inl (fun _ => 0)))]) := by
  refine MN.of (cc := cX2_init) (maxL := 1) (by decide) rfl rfl (Nat.le_of_ble_eq_true rfl) ?_
  intro p e s m below meth c A ls hx hb hml hown hts hlk hr hin0 hAO hK hA hP hD hS hl
  have wo := hts (.methodLink RX2 3 objectInit) (by decide +kernel)
  have wo2 := hts (.instanceMethod objectInit) (by decide +kernel)
  have wo3 := hts (.code objectInit ⟨#[0xb1]⟩ 1 none) (by decide +kernel)
  have wf9 := hts (.fieldLink RX2 9 "MenuPlanner$Reader" "faultNumber" "I") (by decide +kernel)
  have hinX2 := (by decide +kernel : ∀ w ∈ u_ws RX2 TX2 6, w ∈ wsX2_init)
  have wf15 := hts (.fieldLink RX2 15 "MenuPlanner$Reader" "faultPlace" "I") (by decide +kernel)
  have wa_I := hts (.arrayClass .int) (by decide +kernel)
  have wf18 := hts (.fieldLink RX2 18 "MenuPlanner$Reader" "open" "[I") (by decide +kernel)
  have wf22 := hts (.fieldLink RX2 22 "MenuPlanner$Reader" "depth" "I") (by decide +kernel)
  have wa_Z := hts (.arrayClass .boolean) (by decide +kernel)
  have wf25 := hts (.fieldLink RX2 25 "MenuPlanner$Reader" "seen" "[Z") (by decide +kernel)
  have wf29 := hts (.fieldLink RX2 29 "MenuPlanner$Reader" "seenCount" "I") (by decide +kernel)
  replace hl : lv_has ls 1 [(0, .ref h_this)] := hl
  refine lv_aload_n hx hb dX2_init_0 rfl (lv_at hl 0 rfl) ?_
  refine W.objInit hx hb hown wo wo2 wo3 rfl (by rw [hml]; exact hl.1) rfl dX2_init_1 (Nat.le_of_ble_eq_true rfl) (Nat.le_of_ble_eq_true rfl) ?_
  refine W.eq (g2 := F0 m 4 ls []) rfl ?_
  refine lv_aload_n hx hb dX2_init_4 rfl (lv_at hl 0 rfl) ?_
  refine lv_iconst (v := 0) hx hb dX2_init_5 (by decide) ?_
  refine va_put (D := D) (ci := 2) (v := .int 0) (ty := .int) (C := RX2) (T := TX2) (N := 6) hx hb hts hinX2 tyX2 tyX2_ok nmX2 hown hK hP hD hS 0 rfl rfl 0 (by decide) wf9 (fun _ h9 => h9) rfl (by decide +kernel) rfl rfl (Nat.le_of_ble_eq_true rfl) dX2_init_6 (fun H locs hP hD hS => ?_)
  replace hP : va_P D vwCl [(h_this, .inr (2, [.int 0, .int 0, .null, .int 0, .null, .int 0]))] H := hP
  replace hD : va_D A [(h_this, .inr (2, [.int 0, .int 0, .null, .int 0, .null, .int 0]))] := hD
  refine lv_aload_n hx hb dX2_init_9 rfl (lv_at hl 0 rfl) ?_
  refine lv_iconst (v := (-1)) hx hb dX2_init_10 (by decide) ?_
  refine va_put (D := D) (ci := 2) (v := .int (-1)) (ty := .int) (C := RX2) (T := TX2) (N := 6) hx hb hts hinX2 tyX2 tyX2_ok nmX2 hown hK hP hD hS 0 rfl rfl 1 (by decide) wf15 (fun _ h9 => h9) rfl (by decide +kernel) rfl rfl (Nat.le_of_ble_eq_true rfl) dX2_init_11 (fun H locs hP hD hS => ?_)
  replace hP : va_P D vwCl [(h_this, .inr (2, [.int 0, .int (-1), .null, .int 0, .null, .int 0]))] H := hP
  replace hD : va_D A [(h_this, .inr (2, [.int 0, .int (-1), .null, .int 0, .null, .int 0]))] := hD
  refine lv_aload_n hx hb dX2_init_14 rfl (lv_at hl 0 rfl) ?_
  refine lv_bipush (v := 40) hx hb dX2_init_15 (by decide) ?_
  refine n_newI (N' := 40) hx hb wa_I hK hP hD hS hA (by decide) (by decide) (by decide) (Nat.le_of_ble_eq_true rfl) (Nat.le_of_ble_eq_true rfl) dX2_init_17 (fun q1 H hP hD hS => ?_)
  replace hP : va_P D vwCl [(h_this, .inr (2, [.int 0, .int (-1), .null, .int 0, .null, .int 0])), (q1, .inl (cy 0, 40, .inl (fun _ => 0)))] H := hP
  replace hD : va_D A [(h_this, .inr (2, [.int 0, .int (-1), .null, .int 0, .null, .int 0])), (q1, .inl (cy 0, 40, .inl (fun _ => 0)))] := hD
  refine W.widen (k := 1) (n := 40) (by decide) (by decide) ?_
  refine va_putF (D := D) (ci := 2) (v := .ref q1) (ty := .array .int) (C := RX2) (T := TX2) (N := 6) hx hb hts hinX2 tyX2 tyX2_ok nmX2 hown hK hP hD hS 0 rfl rfl 2 (by decide) wf18 (fun _ h9 => h9) rfl hin0 rfl (by decide +kernel) rfl rfl (Nat.le_of_ble_eq_true rfl) dX2_init_19 (fun H locs hP hD hS => ?_)
  replace hP : va_P D vwCl [(h_this, .inr (2, [.int 0, .int (-1), .ref q1, .int 0, .null, .int 0])), (q1, .inl (cy 0, 40, .inl (fun _ => 0)))] H := hP
  replace hD : va_D A [(h_this, .inr (2, [.int 0, .int (-1), .ref q1, .int 0, .null, .int 0])), (q1, .inl (cy 0, 40, .inl (fun _ => 0)))] := hD
  refine lv_aload_n hx hb dX2_init_22 rfl (lv_at hl 0 rfl) ?_
  refine lv_iconst (v := 0) hx hb dX2_init_23 (by decide) ?_
  refine va_put (D := D) (ci := 2) (v := .int 0) (ty := .int) (C := RX2) (T := TX2) (N := 6) hx hb hts hinX2 tyX2 tyX2_ok nmX2 hown hK hP hD hS 0 rfl rfl 3 (by decide) wf22 (fun _ h9 => h9) rfl (by decide +kernel) rfl rfl (Nat.le_of_ble_eq_true rfl) dX2_init_24 (fun H locs hP hD hS => ?_)
  replace hP : va_P D vwCl [(h_this, .inr (2, [.int 0, .int (-1), .ref q1, .int 0, .null, .int 0])), (q1, .inl (cy 0, 40, .inl (fun _ => 0)))] H := hP
  replace hD : va_D A [(h_this, .inr (2, [.int 0, .int (-1), .ref q1, .int 0, .null, .int 0])), (q1, .inl (cy 0, 40, .inl (fun _ => 0)))] := hD
  refine lv_aload_n hx hb dX2_init_27 rfl (lv_at hl 0 rfl) ?_
  refine lv_bipush (v := 40) hx hb dX2_init_28 (by decide) ?_
  refine n_newZ (N' := 40) hx hb wa_Z hK hP hD hS hA (by decide) (by decide) (by decide) (Nat.le_of_ble_eq_true rfl) (Nat.le_of_ble_eq_true rfl) dX2_init_30 (fun q2 H hP hD hS => ?_)
  replace hP : va_P D vwCl [(h_this, .inr (2, [.int 0, .int (-1), .ref q1, .int 0, .null, .int 0])), (q1, .inl (cy 0, 40, .inl (fun _ => 0))), (q2, .inl (cy 3, 40, .inl (fun _ => 0)))] H := hP
  replace hD : va_D A [(h_this, .inr (2, [.int 0, .int (-1), .ref q1, .int 0, .null, .int 0])), (q1, .inl (cy 0, 40, .inl (fun _ => 0))), (q2, .inl (cy 3, 40, .inl (fun _ => 0)))] := hD
  refine W.widen (k := 2) (n := 80) (by decide) (by decide) ?_
  refine va_putF (D := D) (ci := 2) (v := .ref q2) (ty := .array .boolean) (C := RX2) (T := TX2) (N := 6) hx hb hts hinX2 tyX2 tyX2_ok nmX2 hown hK hP hD hS 0 rfl rfl 4 (by decide) wf25 (fun _ h9 => h9) rfl hin0 rfl (by decide +kernel) rfl rfl (Nat.le_of_ble_eq_true rfl) dX2_init_32 (fun H locs hP hD hS => ?_)
  replace hP : va_P D vwCl [(h_this, .inr (2, [.int 0, .int (-1), .ref q1, .int 0, .ref q2, .int 0])), (q1, .inl (cy 0, 40, .inl (fun _ => 0))), (q2, .inl (cy 3, 40, .inl (fun _ => 0)))] H := hP
  replace hD : va_D A [(h_this, .inr (2, [.int 0, .int (-1), .ref q1, .int 0, .ref q2, .int 0])), (q1, .inl (cy 0, 40, .inl (fun _ => 0))), (q2, .inl (cy 3, 40, .inl (fun _ => 0)))] := hD
  refine lv_aload_n hx hb dX2_init_35 rfl (lv_at hl 0 rfl) ?_
  refine lv_iconst (v := 0) hx hb dX2_init_36 (by decide) ?_
  refine va_put (D := D) (ci := 2) (v := .int 0) (ty := .int) (C := RX2) (T := TX2) (N := 6) hx hb hts hinX2 tyX2 tyX2_ok nmX2 hown hK hP hD hS 0 rfl rfl 5 (by decide) wf29 (fun _ h9 => h9) rfl (by decide +kernel) rfl rfl (Nat.le_of_ble_eq_true rfl) dX2_init_37 (fun H locs hP hD hS => ?_)
  replace hP : va_P D vwCl [(h_this, .inr (2, [.int 0, .int (-1), .ref q1, .int 0, .ref q2, .int 0])), (q1, .inl (cy 0, 40, .inl (fun _ => 0))), (q2, .inl (cy 3, 40, .inl (fun _ => 0)))] H := hP
  replace hD : va_D A [(h_this, .inr (2, [.int 0, .int (-1), .ref q1, .int 0, .ref q2, .int 0])), (q1, .inl (cy 0, 40, .inl (fun _ => 0))), (q2, .inl (cy 3, 40, .inl (fun _ => 0)))] := hD
  exact rt_n (u := (fun k => ([q1, q2] : List Nat).getD k 0)) (v := (fun _ => 0)) hx hb hr hlk hK hP hD hS dX2_init_40
