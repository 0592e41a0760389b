abbrev rm_X1_init : Room := { frames := 1, cells := 1, slots := 189, locals := 12 }
set_option maxHeartbeats 4000000 in
set_option maxRecDepth 100000 in
theorem c_X1_init (l : Launch) (D : va_G) (cy : Nat → ClassId) (sz : Nat) (h_this : Nat) : MN l yX1_init wsX1_init rm_X1_init D cy (fun _ => True) [.ref h_this] sz [(h_this, .inr (1, [.null, .int 0]))] (fun u v => [(h_this, .inr (1, [.ref (u 0), .int 0])), ((u 0), .inl (cy 2, 189, .inl (fun _ => 0)))]) := by
  refine MN.of (cc := cX1_init) (maxL := 1) (by decide) rfl rfl (Nat.le_of_ble_eq_true rfl) ?_
  intro p e s m below meth c A ls hx hb hml hown hts hlk hr hin0 hAO hK hA hP hD hS hl
  have wo := hts (.methodLink RX1 3 objectInit) (by decide +kernel)
  have wo2 := hts (.instanceMethod objectInit) (by decide +kernel)
  have wo3 := hts (.code objectInit ⟨#[0xb1]⟩ 1 none) (by decide +kernel)
  have wa_B := hts (.arrayClass .byte) (by decide +kernel)
  have wf11 := hts (.fieldLink RX1 11 "MenuPlanner$Page" "bytes" "[B") (by decide +kernel)
  have hinX1 := (by decide +kernel : ∀ w ∈ u_ws RX1 TX1 2, w ∈ wsX1_init)
  have wf15 := hts (.fieldLink RX1 15 "MenuPlanner$Page" "length" "I") (by decide +kernel)
  replace hl : lv_has ls 1 [(0, .ref h_this)] := hl
  refine lv_aload_n hx hb dX1_init_0 rfl (lv_at hl 0 rfl) ?_
  refine W.objInit hx hb hown wo wo2 wo3 rfl (by rw [hml]; exact hl.1) rfl dX1_init_1 (Nat.le_of_ble_eq_true rfl) (Nat.le_of_ble_eq_true rfl) ?_
  refine W.eq (g2 := F0 m 4 ls []) rfl ?_
  refine lv_aload_n hx hb dX1_init_4 rfl (lv_at hl 0 rfl) ?_
  refine lv_sipush (v := 189) hx hb dX1_init_5 (by decide) ?_
  refine n_newB (N' := 189) hx hb wa_B hK hP hD hS hA (by decide) (by decide) (by decide) (Nat.le_of_ble_eq_true rfl) (Nat.le_of_ble_eq_true rfl) dX1_init_8 (fun q1 H hP hD hS => ?_)
  replace hP : va_P D vwCl [(h_this, .inr (1, [.null, .int 0])), (q1, .inl (cy 2, 189, .inl (fun _ => 0)))] H := hP
  replace hD : va_D A [(h_this, .inr (1, [.null, .int 0])), (q1, .inl (cy 2, 189, .inl (fun _ => 0)))] := hD
  refine W.widen (k := 1) (n := 189) (by decide) (by decide) ?_
  refine va_putF (D := D) (ci := 1) (v := .ref q1) (ty := .array .byte) (C := RX1) (T := TX1) (N := 2) hx hb hts hinX1 tyX1 tyX1_ok nmX1 hown hK hP hD hS 0 rfl rfl 0 (by decide) wf11 (fun _ h9 => h9) rfl hin0 rfl (by decide +kernel) rfl rfl (Nat.le_of_ble_eq_true rfl) dX1_init_10 (fun H locs hP hD hS => ?_)
  replace hP : va_P D vwCl [(h_this, .inr (1, [.ref q1, .int 0])), (q1, .inl (cy 2, 189, .inl (fun _ => 0)))] H := hP
  replace hD : va_D A [(h_this, .inr (1, [.ref q1, .int 0])), (q1, .inl (cy 2, 189, .inl (fun _ => 0)))] := hD
  refine lv_aload_n hx hb dX1_init_13 rfl (lv_at hl 0 rfl) ?_
  refine lv_iconst (v := 0) hx hb dX1_init_14 (by decide) ?_
  refine va_put (D := D) (ci := 1) (v := .int 0) (ty := .int) (C := RX1) (T := TX1) (N := 2) hx hb hts hinX1 tyX1 tyX1_ok nmX1 hown hK hP hD hS 0 rfl rfl 1 (by decide) wf15 (fun _ h9 => h9) rfl (by decide +kernel) rfl rfl (Nat.le_of_ble_eq_true rfl) dX1_init_15 (fun H locs hP hD hS => ?_)
  replace hP : va_P D vwCl [(h_this, .inr (1, [.ref q1, .int 0])), (q1, .inl (cy 2, 189, .inl (fun _ => 0)))] H := hP
  replace hD : va_D A [(h_this, .inr (1, [.ref q1, .int 0])), (q1, .inl (cy 2, 189, .inl (fun _ => 0)))] := hD
  exact rt_n (u := (fun k => ([q1] : List Nat).getD k 0)) (v := (fun _ => 0)) hx hb hr hlk hK hP hD hS dX1_init_18
