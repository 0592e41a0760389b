abbrev rm_X1_put : Room := { frames := 0, cells := 0, slots := 0, locals := 0 }
set_option maxHeartbeats 4000000 in
set_option maxRecDepth 100000 in
theorem c_X1_put (l : Launch) (D : va_G) (cy : Nat → ClassId) (h_this h_bytes : Nat)    (sz : Nat) (f_length : Int32) (g_bytes : Nat → Int32) (a1 : Int32)  (o_f_length : Int32) (o_g_bytes : Nat → Int32) (hf : f_X1_put f_length g_bytes a1 = some (o_f_length, o_g_bytes)) : MV l yX1_put wsX1_put rm_X1_put D cy [.ref h_this, .int a1] sz [(h_this, .inr (1, [.ref h_bytes, .int f_length])), (h_bytes, .inl (cy 2, 189, .inl g_bytes))] [(h_this, .inr (1, [.ref h_bytes, .int o_f_length])), (h_bytes, .inl (cy 2, 189, .inl o_g_bytes))] := by
  refine MV.of (cc := cX1_put) (maxL := 2) (ret := none) (by decide) rfl (Nat.le_of_ble_eq_true rfl) ?_
  intro p e s m below meth c A ls hx hb hml hown hts hlk hr hK hA hP hD hS hl
  have h := hf
  unfold f_X1_put at h
  have wf15 := hts (.fieldLink RX1 15 "MenuPlanner$Page" "length" "I") (by decide +kernel)
  have hinX1 := (by decide +kernel : ∀ w ∈ u_ws RX1 TX1 2, w ∈ wsX1_put)
  have wf11 := hts (.fieldLink RX1 11 "MenuPlanner$Page" "bytes" "[B") (by decide +kernel)
  replace hl : lv_has ls 2 [(0, .ref h_this), (1, .int a1)] := hl
  clear hf
  refine lv_aload_n hx hb dX1_put_0 rfl (lv_at hl 0 rfl) ?_
  refine va_get (D := D) (ci := 1) (v := .int f_length) (C := RX1) (T := TX1) (N := 2) hx hb hts hinX1 hown hK hP 0 rfl rfl 1 (by decide) wf15 (fun _ h9 => h9) rfl dX1_put_1 ?_
  refine lv_sipush (v := 189) hx hb dX1_put_4 (by decide) ?_
  refine lv_icmp_ge (tgt := 31) hx hb dX1_put_7 (by decide) (fun hc => ?_) (fun hc => ?_)
  · replace h := it_1 h hc
    obtain ⟨e0, e1⟩ := ret2 h
    subst e0
    subst e1
    exact rt_v hx hb hr hlk hK hP hD hS dX1_put_31
  · replace h := it_0 h hc
    refine lv_aload_n hx hb dX1_put_10 rfl (lv_at hl 0 rfl) ?_
    refine va_get (D := D) (ci := 1) (v := .ref h_bytes) (C := RX1) (T := TX1) (N := 2) hx hb hts hinX1 hown hK hP 0 rfl rfl 0 (by decide) wf11 (fun _ h9 => h9) rfl dX1_put_11 ?_
    refine lv_aload_n hx hb dX1_put_14 rfl (lv_at hl 0 rfl) ?_
    refine va_get (D := D) (ci := 1) (v := .int f_length) (C := RX1) (T := TX1) (N := 2) hx hb hts hinX1 hown hK hP 0 rfl rfl 1 (by decide) wf15 (fun _ h9 => h9) rfl dX1_put_15 ?_
    refine lv_iload_n hx hb dX1_put_18 rfl (lv_at hl 1 rfl) ?_
    refine lv_i2b hx hb dX1_put_19 rfl ?_
    have hi := gi_1 h; replace h := gi_2 h
    refine va_bast hx hb hK hP hD hS 1 2 rfl rfl hi dX1_put_20 (fun H locs hP hD hS => ?_)
    replace hP : va_P D vwCl [(h_this, .inr (1, [.ref h_bytes, .int f_length])), (h_bytes, .inl (cy 2, 189, .inl (upd g_bytes (Int32.toNatClampNeg f_length) (vp_nar .byte (Int8.toInt32 (Int32.toInt8 a1))))))] H := hP
    replace hD : va_D A [(h_this, .inr (1, [.ref h_bytes, .int f_length])), (h_bytes, .inl (cy 2, 189, .inl (upd g_bytes (Int32.toNatClampNeg f_length) (vp_nar .byte (Int8.toInt32 (Int32.toInt8 a1))))))] := hD
    refine lv_aload_n hx hb dX1_put_21 rfl (lv_at hl 0 rfl) ?_
    refine lv_dup hx hb dX1_put_22 rfl ?_
    refine va_get (D := D) (ci := 1) (v := .int f_length) (C := RX1) (T := TX1) (N := 2) hx hb hts hinX1 hown hK hP 0 rfl rfl 1 (by decide) wf15 (fun _ h9 => h9) rfl dX1_put_23 ?_
    refine lv_iconst (v := 1) hx hb dX1_put_26 (by decide) ?_
    refine lv_iadd hx hb dX1_put_27 ?_
    refine va_put (D := D) (ci := 1) (v := .int (f_length + 1)) (ty := .int) (C := RX1) (T := TX1) (N := 2) hx hb hts hinX1 tyX1 tyX1_ok nmX1 hown hK hP hD hS 0 rfl rfl 1 (by decide) wf15 (fun _ h9 => h9) rfl (by decide +kernel) rfl rfl (Nat.le_of_ble_eq_true rfl) dX1_put_28 (fun H locs hP hD hS => ?_)
    replace hP : va_P D vwCl [(h_this, .inr (1, [.ref h_bytes, .int (f_length + 1)])), (h_bytes, .inl (cy 2, 189, .inl (upd g_bytes (Int32.toNatClampNeg f_length) (vp_nar .byte (Int8.toInt32 (Int32.toInt8 a1))))))] H := hP
    replace hD : va_D A [(h_this, .inr (1, [.ref h_bytes, .int (f_length + 1)])), (h_bytes, .inl (cy 2, 189, .inl (upd g_bytes (Int32.toNatClampNeg f_length) (vp_nar .byte (Int8.toInt32 (Int32.toInt8 a1))))))] := hD
    obtain ⟨e0, e1⟩ := ret2 h
    subst e0
    subst e1
    exact rt_v hx hb hr hlk hK hP hD hS dX1_put_31
abbrev rm_X1_putNumber : Room := { frames := 1, cells := 0, slots := 0, locals := 21 }
set_option maxHeartbeats 4000000 in
set_option maxRecDepth 100000 in
theorem c_X1_putNumber (l : Launch) (D : va_G) (cy : Nat → ClassId) (h_this h_bytes : Nat)    (sz : Nat) (f_length : Int32) (g_bytes : Nat → Int32) (a1 : Int32)  (o_f_length : Int32) (o_g_bytes : Nat → Int32) (hf : f_X1_putNumber f_length g_bytes a1 = some (o_f_length, o_g_bytes)) : MV l yX1_putNumber wsX1_putNumber rm_X1_putNumber D cy [.ref h_this, .int a1] sz [(h_this, .inr (1, [.ref h_bytes, .int f_length])), (h_bytes, .inl (cy 2, 189, .inl g_bytes))] [(h_this, .inr (1, [.ref h_bytes, .int o_f_length])), (h_bytes, .inl (cy 2, 189, .inl o_g_bytes))] := by
  refine MV.of (cc := cX1_putNumber) (maxL := 2) (ret := none) (by decide) rfl (Nat.le_of_ble_eq_true rfl) ?_
  intro p e s m below meth c A ls hx hb hml hown hts hlk hr hK hA hP hD hS hl
  have h := hf
  unfold f_X1_putNumber at h
  replace hl : lv_has ls 2 [(0, .ref h_this), (1, .int a1)] := hl
  have L17 : ∀ (f_length : Int32) (g_bytes : Nat → Int32) (x1 : Int32), f_X1_putNumber_L17 f_length g_bytes x1 = some (o_f_length, o_g_bytes) → ∀ (H : Heap) (locs : List Loc) (ls : Array Slot), va_P D vwCl [(h_this, .inr (1, [.ref h_bytes, .int f_length])), (h_bytes, .inl (cy 2, 189, .inl g_bytes))] H → va_D A [(h_this, .inr (1, [.ref h_bytes, .int f_length])), (h_bytes, .inl (cy 2, 189, .inl g_bytes))] → va_S A s.heap H locs → lv_has ls 2 [(0, .ref h_this), (1, .int x1)] → W p l e rm_X1_putNumber s m ([.ref h_this, .int a1]).toArray below meth c H locs 0 0 (MQ below (QV D cy A [(h_this, .inr (1, [.ref h_bytes, .int o_f_length])), (h_bytes, .inl (cy 2, 189, .inl o_g_bytes))]) ([.ref h_this, .int a1]).toArray s 0 0 A) (F0 m 17 ls []) := by
    intro f_length g_bytes x1 h H locs ls hP hD hS hl
    unfold f_X1_putNumber_L17 at h
    refine lv_aload_n hx hb dX1_putNumber_17 rfl (lv_at hl 0 rfl) ?_
    refine lv_bipush (v := 48) hx hb dX1_putNumber_18 (by decide) ?_
    refine lv_iload_n hx hb dX1_putNumber_20 rfl (lv_at hl 1 rfl) ?_
    refine lv_bipush (v := 10) hx hb dX1_putNumber_21 (by decide) ?_
    refine lv_irem hx hb dX1_putNumber_23 (by decide) ?_
    refine lv_iadd hx hb dX1_putNumber_24 ?_
    obtain ⟨f_length_1, g_bytes_2, hu, h⟩ := ob2_1 h
    refine cl_Vv (As := [.int (48 + (x1 - x1 / 10 * 10))]) (rest := []) [0, 1] [] [0, 1] [] [(h_this, .inr (1, [.ref h_bytes, .int f_length_1])), (h_bytes, .inl (cy 2, 189, .inl g_bytes_2))] 1 ⟨hx, hb, hml, hown, hts⟩ (c_X1_put (l := l) (D := D) (cy := cy) (sz := _) (h_bytes := h_bytes) (h_this := h_this) (f_length := f_length) (g_bytes := g_bytes) (a1 := (48 + (x1 - x1 / 10 * 10))) (o_f_length := f_length_1) (o_g_bytes := g_bytes_2) (hf := hu)) (cwV 1 hts gX1_putNumber_X1_put rfl rfl rfl (by decide +kernel) ⟨Nat.le_of_ble_eq_true rfl, Nat.le_of_ble_eq_true rfl⟩) hK hP hD hS hA rfl rfl rfl rfl (by decide) rfl rfl rfl rfl rfl rfl rfl rfl hl.1 rfl (Nat.le_of_ble_eq_true rfl) dX1_putNumber_25 ⟨Nat.zero_le _, Nat.zero_le _⟩ (fun H locs hP hD hS => ?_)
    obtain ⟨e0, e1⟩ := ret2 h
    subst e0
    subst e1
    exact rt_v hx hb hr hlk hK hP hD hS dX1_putNumber_28
  clear hf
  refine lv_iload_n hx hb dX1_putNumber_0 rfl (lv_at hl 1 rfl) ?_
  refine lv_bipush (v := 10) hx hb dX1_putNumber_1 (by decide) ?_
  refine lv_icmp_lt (tgt := 17) hx hb dX1_putNumber_3 (by decide) (fun hc => ?_) (fun hc => ?_)
  · replace h := it_1 h hc
    exact L17 _ _ _ h _ _ _ hP hD hS (lv_sub hl [0, 1] rfl)
  · replace h := it_0 h hc
    refine lv_aload_n hx hb dX1_putNumber_6 rfl (lv_at hl 0 rfl) ?_
    refine lv_bipush (v := 48) hx hb dX1_putNumber_7 (by decide) ?_
    refine lv_iload_n hx hb dX1_putNumber_9 rfl (lv_at hl 1 rfl) ?_
    refine lv_bipush (v := 10) hx hb dX1_putNumber_10 (by decide) ?_
    refine lv_idiv hx hb dX1_putNumber_12 (by decide) ?_
    refine lv_iadd hx hb dX1_putNumber_13 ?_
    obtain ⟨f_length_3, g_bytes_4, hu, h⟩ := ob2_1 h
    refine cl_Vv (As := [.int (48 + (a1 / 10))]) (rest := []) [0, 1] [] [0, 1] [] [(h_this, .inr (1, [.ref h_bytes, .int f_length_3])), (h_bytes, .inl (cy 2, 189, .inl g_bytes_4))] 1 ⟨hx, hb, hml, hown, hts⟩ (c_X1_put (l := l) (D := D) (cy := cy) (sz := _) (h_bytes := h_bytes) (h_this := h_this) (f_length := f_length) (g_bytes := g_bytes) (a1 := (48 + (a1 / 10))) (o_f_length := f_length_3) (o_g_bytes := g_bytes_4) (hf := hu)) (cwV 1 hts gX1_putNumber_X1_put rfl rfl rfl (by decide +kernel) ⟨Nat.le_of_ble_eq_true rfl, Nat.le_of_ble_eq_true rfl⟩) hK hP hD hS hA rfl rfl rfl rfl (by decide) rfl rfl rfl rfl rfl rfl rfl rfl hl.1 rfl (Nat.le_of_ble_eq_true rfl) dX1_putNumber_14 ⟨Nat.zero_le _, Nat.zero_le _⟩ (fun H locs hP hD hS => ?_)
    exact L17 _ _ _ h _ _ _ hP hD hS (lv_sub hl [0, 1] rfl)
abbrev rm_X1_write : Room := { frames := 2, cells := 0, slots := 0, locals := 42 }
set_option maxHeartbeats 4000000 in
set_option maxRecDepth 100000 in
theorem c_X1_write (l : Launch) (D : va_G) (cy : Nat → ClassId) (h_this h_bytes h_p1 h_p1_sizes h_p1_above h_p1_placeAbove h_p1_items h_p1_home h_p1_placeHome h_p1_tally : Nat)    (sz : Nat) (f_length : Int32) (g_bytes : Nat → Int32) (f_p1_lists : Int32) (g_p1_sizes : Nat → Int32) (g_p1_above : Nat → Int32) (g_p1_placeAbove : Nat → Int32) (g_p1_items : Nat → Int32)   (o_f_length : Int32) (o_g_bytes : Nat → Int32) (hf : f_X1_write g_p1_sizes g_p1_above g_p1_placeAbove g_p1_items f_length g_bytes = some (o_f_length, o_g_bytes)) : MV l yX1_write wsX1_write rm_X1_write D cy [.ref h_this, .ref h_p1] sz [(h_this, .inr (1, [.ref h_bytes, .int f_length])), (h_bytes, .inl (cy 2, 189, .inl g_bytes)), (h_p1, .inr (5, [.int f_p1_lists, .ref h_p1_sizes, .ref h_p1_above, .ref h_p1_placeAbove, .ref h_p1_items, .ref h_p1_home, .ref h_p1_placeHome, .ref h_p1_tally])), (h_p1_sizes, .inl (cy 0, 80, .inl g_p1_sizes)), (h_p1_above, .inl (cy 0, 80, .inl g_p1_above)), (h_p1_placeAbove, .inl (cy 0, 80, .inl g_p1_placeAbove)), (h_p1_items, .inl (cy 0, 720, .inl g_p1_items))] [(h_this, .inr (1, [.ref h_bytes, .int o_f_length])), (h_bytes, .inl (cy 2, 189, .inl o_g_bytes)), (h_p1, .inr (5, [.int f_p1_lists, .ref h_p1_sizes, .ref h_p1_above, .ref h_p1_placeAbove, .ref h_p1_items, .ref h_p1_home, .ref h_p1_placeHome, .ref h_p1_tally])), (h_p1_sizes, .inl (cy 0, 80, .inl g_p1_sizes)), (h_p1_above, .inl (cy 0, 80, .inl g_p1_above)), (h_p1_placeAbove, .inl (cy 0, 80, .inl g_p1_placeAbove)), (h_p1_items, .inl (cy 0, 720, .inl g_p1_items))] := by
  refine MV.of (cc := cX1_write) (maxL := 6) (ret := none) (by decide) rfl (Nat.le_of_ble_eq_true rfl) ?_
  intro p e s m below meth c A ls hx hb hml hown hts hlk hr hK hA hP hD hS hl
  have h := hf
  unfold f_X1_write at h
  have wf23 := hts (.fieldLink RX1 23 "MenuPlanner$Tree" "sizes" "[I") (by decide +kernel)
  have hinX5 := (by decide +kernel : ∀ w ∈ u_ws RX5 TX5 8, w ∈ wsX1_write)
  have wf29 := hts (.fieldLink RX1 29 "MenuPlanner$Tree" "placeAbove" "[I") (by decide +kernel)
  have wf32 := hts (.fieldLink RX1 32 "MenuPlanner$Tree" "above" "[I") (by decide +kernel)
  have wf15 := hts (.fieldLink RX1 15 "MenuPlanner$Page" "length" "I") (by decide +kernel)
  have hinX1 := (by decide +kernel : ∀ w ∈ u_ws RX1 TX1 2, w ∈ wsX1_write)
  replace hl : lv_has ls 6 [(0, .ref h_this), (1, .ref h_p1)] := hl
  have L18 : ∀ (n : Nat) (f_length : Int32) (g_bytes : Nat → Int32) (x2 : Int32) (x3 : Int32) (x4 : Int32), f_X1_write_L18 g_p1_sizes g_p1_above g_p1_placeAbove g_p1_items n f_length g_bytes x2 x3 x4 = some (o_f_length, o_g_bytes) → ∀ (H : Heap) (locs : List Loc) (ls : Array Slot), va_P D vwCl [(h_this, .inr (1, [.ref h_bytes, .int f_length])), (h_bytes, .inl (cy 2, 189, .inl g_bytes)), (h_p1, .inr (5, [.int f_p1_lists, .ref h_p1_sizes, .ref h_p1_above, .ref h_p1_placeAbove, .ref h_p1_items, .ref h_p1_home, .ref h_p1_placeHome, .ref h_p1_tally])), (h_p1_sizes, .inl (cy 0, 80, .inl g_p1_sizes)), (h_p1_above, .inl (cy 0, 80, .inl g_p1_above)), (h_p1_placeAbove, .inl (cy 0, 80, .inl g_p1_placeAbove)), (h_p1_items, .inl (cy 0, 720, .inl g_p1_items))] H → va_D A [(h_this, .inr (1, [.ref h_bytes, .int f_length])), (h_bytes, .inl (cy 2, 189, .inl g_bytes)), (h_p1, .inr (5, [.int f_p1_lists, .ref h_p1_sizes, .ref h_p1_above, .ref h_p1_placeAbove, .ref h_p1_items, .ref h_p1_home, .ref h_p1_placeHome, .ref h_p1_tally])), (h_p1_sizes, .inl (cy 0, 80, .inl g_p1_sizes)), (h_p1_above, .inl (cy 0, 80, .inl g_p1_above)), (h_p1_placeAbove, .inl (cy 0, 80, .inl g_p1_placeAbove)), (h_p1_items, .inl (cy 0, 720, .inl g_p1_items))] → va_S A s.heap H locs → lv_has ls 6 [(0, .ref h_this), (1, .ref h_p1), (2, .int x2), (3, .int x3), (4, .int x4)] → W p l e rm_X1_write s m ([.ref h_this, .ref h_p1]).toArray below meth c H locs 0 0 (MQ below (QV D cy A [(h_this, .inr (1, [.ref h_bytes, .int o_f_length])), (h_bytes, .inl (cy 2, 189, .inl o_g_bytes)), (h_p1, .inr (5, [.int f_p1_lists, .ref h_p1_sizes, .ref h_p1_above, .ref h_p1_placeAbove, .ref h_p1_items, .ref h_p1_home, .ref h_p1_placeHome, .ref h_p1_tally])), (h_p1_sizes, .inl (cy 0, 80, .inl g_p1_sizes)), (h_p1_above, .inl (cy 0, 80, .inl g_p1_above)), (h_p1_placeAbove, .inl (cy 0, 80, .inl g_p1_placeAbove)), (h_p1_items, .inl (cy 0, 720, .inl g_p1_items))]) ([.ref h_this, .ref h_p1]).toArray s 0 0 A) (F0 m 18 ls []) := by
    intro n
    induction n with
    | zero => intro f_length g_bytes x2 x3 x4 h; exact absurd (show (none : Option _) = some _ from h) (by intro q; cases q)
    | succ n18 ih18 =>
      intro f_length g_bytes x2 x3 x4 h H locs ls hP hD hS hl
      replace h : f_X1_write_L18_F g_p1_sizes g_p1_above g_p1_placeAbove g_p1_items (f_X1_write_L18 g_p1_sizes g_p1_above g_p1_placeAbove g_p1_items n18) f_length g_bytes x2 x3 x4 = some (o_f_length, o_g_bytes) := h
      unfold f_X1_write_L18_F at h
      have L115 : ∀ (f_length : Int32) (g_bytes : Nat → Int32) (x2 : Int32) (x3 : Int32) (x4 : Int32), f_X1_write_L115 (f_X1_write_L18 g_p1_sizes g_p1_above g_p1_placeAbove g_p1_items n18) f_length g_bytes x2 x3 x4 = some (o_f_length, o_g_bytes) → ∀ (H : Heap) (locs : List Loc) (ls : Array Slot), va_P D vwCl [(h_this, .inr (1, [.ref h_bytes, .int f_length])), (h_bytes, .inl (cy 2, 189, .inl g_bytes)), (h_p1, .inr (5, [.int f_p1_lists, .ref h_p1_sizes, .ref h_p1_above, .ref h_p1_placeAbove, .ref h_p1_items, .ref h_p1_home, .ref h_p1_placeHome, .ref h_p1_tally])), (h_p1_sizes, .inl (cy 0, 80, .inl g_p1_sizes)), (h_p1_above, .inl (cy 0, 80, .inl g_p1_above)), (h_p1_placeAbove, .inl (cy 0, 80, .inl g_p1_placeAbove)), (h_p1_items, .inl (cy 0, 720, .inl g_p1_items))] H → va_D A [(h_this, .inr (1, [.ref h_bytes, .int f_length])), (h_bytes, .inl (cy 2, 189, .inl g_bytes)), (h_p1, .inr (5, [.int f_p1_lists, .ref h_p1_sizes, .ref h_p1_above, .ref h_p1_placeAbove, .ref h_p1_items, .ref h_p1_home, .ref h_p1_placeHome, .ref h_p1_tally])), (h_p1_sizes, .inl (cy 0, 80, .inl g_p1_sizes)), (h_p1_above, .inl (cy 0, 80, .inl g_p1_above)), (h_p1_placeAbove, .inl (cy 0, 80, .inl g_p1_placeAbove)), (h_p1_items, .inl (cy 0, 720, .inl g_p1_items))] → va_S A s.heap H locs → lv_has ls 6 [(0, .ref h_this), (1, .ref h_p1), (2, .int x2), (3, .int x3), (4, .int x4)] → W p l e rm_X1_write s m ([.ref h_this, .ref h_p1]).toArray below meth c H locs 0 0 (MQ below (QV D cy A [(h_this, .inr (1, [.ref h_bytes, .int o_f_length])), (h_bytes, .inl (cy 2, 189, .inl o_g_bytes)), (h_p1, .inr (5, [.int f_p1_lists, .ref h_p1_sizes, .ref h_p1_above, .ref h_p1_placeAbove, .ref h_p1_items, .ref h_p1_home, .ref h_p1_placeHome, .ref h_p1_tally])), (h_p1_sizes, .inl (cy 0, 80, .inl g_p1_sizes)), (h_p1_above, .inl (cy 0, 80, .inl g_p1_above)), (h_p1_placeAbove, .inl (cy 0, 80, .inl g_p1_placeAbove)), (h_p1_items, .inl (cy 0, 720, .inl g_p1_items))]) ([.ref h_this, .ref h_p1]).toArray s 0 0 A) (F0 m 115 ls []) := by
        intro f_length g_bytes x2 x3 x4 h H locs ls hP hD hS hl
        unfold f_X1_write_L115 at h
        refine lv_iinc (v := (x4 + 1)) (lv' := [(4, .int (x4 + 1)), (0, .ref h_this), (1, .ref h_p1), (2, .int x2), (3, .int x3)]) hx hb dX1_write_115 hl (k := 4) rfl rfl (by decide) rfl (fun ls hl => ?_)
        refine lv_goto (tgt := 18) hx hb dX1_write_118 (by decide) ?_
        exact ih18 _ _ _ _ _ h _ _ _ hP hD hS (lv_sub hl [1, 2, 3, 4, 0] rfl)
      have L77 : ∀ (f_length : Int32) (g_bytes : Nat → Int32) (x2 : Int32) (x3 : Int32) (x4 : Int32), f_X1_write_L77 g_p1_items (f_X1_write_L18 g_p1_sizes g_p1_above g_p1_placeAbove g_p1_items n18) f_length g_bytes x2 x3 x4 = some (o_f_length, o_g_bytes) → ∀ (H : Heap) (locs : List Loc) (ls : Array Slot), va_P D vwCl [(h_this, .inr (1, [.ref h_bytes, .int f_length])), (h_bytes, .inl (cy 2, 189, .inl g_bytes)), (h_p1, .inr (5, [.int f_p1_lists, .ref h_p1_sizes, .ref h_p1_above, .ref h_p1_placeAbove, .ref h_p1_items, .ref h_p1_home, .ref h_p1_placeHome, .ref h_p1_tally])), (h_p1_sizes, .inl (cy 0, 80, .inl g_p1_sizes)), (h_p1_above, .inl (cy 0, 80, .inl g_p1_above)), (h_p1_placeAbove, .inl (cy 0, 80, .inl g_p1_placeAbove)), (h_p1_items, .inl (cy 0, 720, .inl g_p1_items))] H → va_D A [(h_this, .inr (1, [.ref h_bytes, .int f_length])), (h_bytes, .inl (cy 2, 189, .inl g_bytes)), (h_p1, .inr (5, [.int f_p1_lists, .ref h_p1_sizes, .ref h_p1_above, .ref h_p1_placeAbove, .ref h_p1_items, .ref h_p1_home, .ref h_p1_placeHome, .ref h_p1_tally])), (h_p1_sizes, .inl (cy 0, 80, .inl g_p1_sizes)), (h_p1_above, .inl (cy 0, 80, .inl g_p1_above)), (h_p1_placeAbove, .inl (cy 0, 80, .inl g_p1_placeAbove)), (h_p1_items, .inl (cy 0, 720, .inl g_p1_items))] → va_S A s.heap H locs → lv_has ls 6 [(0, .ref h_this), (1, .ref h_p1), (2, .int x2), (3, .int x3), (4, .int x4)] → W p l e rm_X1_write s m ([.ref h_this, .ref h_p1]).toArray below meth c H locs 0 0 (MQ below (QV D cy A [(h_this, .inr (1, [.ref h_bytes, .int o_f_length])), (h_bytes, .inl (cy 2, 189, .inl o_g_bytes)), (h_p1, .inr (5, [.int f_p1_lists, .ref h_p1_sizes, .ref h_p1_above, .ref h_p1_placeAbove, .ref h_p1_items, .ref h_p1_home, .ref h_p1_placeHome, .ref h_p1_tally])), (h_p1_sizes, .inl (cy 0, 80, .inl g_p1_sizes)), (h_p1_above, .inl (cy 0, 80, .inl g_p1_above)), (h_p1_placeAbove, .inl (cy 0, 80, .inl g_p1_placeAbove)), (h_p1_items, .inl (cy 0, 720, .inl g_p1_items))]) ([.ref h_this, .ref h_p1]).toArray s 0 0 A) (F0 m 77 ls []) := by
        intro f_length g_bytes x2 x3 x4 h H locs ls hP hD hS hl
        unfold f_X1_write_L77 at h
        refine lv_aload_n hx hb dX1_write_77 rfl (lv_at hl 1 rfl) ?_
        refine lv_iload_n hx hb dX1_write_78 rfl (lv_at hl 2 rfl) ?_
        refine lv_iload_n hx hb dX1_write_79 rfl (lv_at hl 3 rfl) ?_
        obtain ⟨r_1, hu, h⟩ := ob_1 h
        refine cl_Vi (As := [.int x2, .int x3]) (rest := []) [2, 6] [0, 1, 3, 4, 5] [0, 1, 5, 2, 3, 4, 6] [(h_this, .inr (1, [.ref h_bytes, .int f_length])), (h_bytes, .inl (cy 2, 189, .inl g_bytes)), (h_p1_sizes, .inl (cy 0, 80, .inl g_p1_sizes)), (h_p1_above, .inl (cy 0, 80, .inl g_p1_above)), (h_p1_placeAbove, .inl (cy 0, 80, .inl g_p1_placeAbove))] [(h_this, .inr (1, [.ref h_bytes, .int f_length])), (h_bytes, .inl (cy 2, 189, .inl g_bytes)), (h_p1, .inr (5, [.int f_p1_lists, .ref h_p1_sizes, .ref h_p1_above, .ref h_p1_placeAbove, .ref h_p1_items, .ref h_p1_home, .ref h_p1_placeHome, .ref h_p1_tally])), (h_p1_sizes, .inl (cy 0, 80, .inl g_p1_sizes)), (h_p1_above, .inl (cy 0, 80, .inl g_p1_above)), (h_p1_placeAbove, .inl (cy 0, 80, .inl g_p1_placeAbove)), (h_p1_items, .inl (cy 0, 720, .inl g_p1_items))] 5 ⟨hx, hb, hml, hown, hts⟩ (c_X5_itemAt (l := l) (D := D) (cy := cy) (sz := _) (h_this := h_p1) (h_items := h_p1_items) (h_sizes := h_p1_sizes) (h_above := h_p1_above) (h_placeAbove := h_p1_placeAbove) (h_home := h_p1_home) (h_placeHome := h_p1_placeHome) (h_tally := h_p1_tally) (f_lists := f_p1_lists) (g_items := g_p1_items) (a1 := x2) (a2 := x3) (r0 := r_1) (hf := hu)) (cwV 2 hts gX1_write_X5_itemAt rfl rfl rfl (by decide +kernel) ⟨Nat.le_of_ble_eq_true rfl, Nat.le_of_ble_eq_true rfl⟩) hK hP hD hS hA rfl rfl rfl rfl (by decide) rfl rfl rfl rfl rfl rfl rfl rfl hl.1 rfl (Nat.le_of_ble_eq_true rfl) dX1_write_80 ⟨Nat.zero_le _, Nat.zero_le _⟩ (fun H locs hP hD hS => ?_)
        refine lv_istore (lv' := [(5, .int r_1), (0, .ref h_this), (1, .ref h_p1), (2, .int x2), (3, .int x3), (4, .int x4)]) hx hb dX1_write_83 hl (by decide) rfl (fun ls hl => ?_)
        refine lv_iload hx hb dX1_write_85 (lv_at hl 0 rfl) ?_
        refine lv_if_lt (tgt := 102) hx hb dX1_write_87 (by decide) (fun hc => ?_) (fun hc => ?_)
        · replace h := it_1 h hc
          refine lv_aload_n hx hb dX1_write_102 rfl (lv_at hl 1 rfl) ?_
          refine lv_bipush (v := 40) hx hb dX1_write_103 (by decide) ?_
          obtain ⟨f_length_2, g_bytes_3, hu, h⟩ := ob2_1 h
          refine cl_Vv (As := [.int 40]) (rest := []) [0, 1] [2, 3, 4, 5, 6] [5, 6, 0, 1, 2, 3, 4] [(h_p1, .inr (5, [.int f_p1_lists, .ref h_p1_sizes, .ref h_p1_above, .ref h_p1_placeAbove, .ref h_p1_items, .ref h_p1_home, .ref h_p1_placeHome, .ref h_p1_tally])), (h_p1_sizes, .inl (cy 0, 80, .inl g_p1_sizes)), (h_p1_above, .inl (cy 0, 80, .inl g_p1_above)), (h_p1_placeAbove, .inl (cy 0, 80, .inl g_p1_placeAbove)), (h_p1_items, .inl (cy 0, 720, .inl g_p1_items))] [(h_this, .inr (1, [.ref h_bytes, .int f_length_2])), (h_bytes, .inl (cy 2, 189, .inl g_bytes_3)), (h_p1, .inr (5, [.int f_p1_lists, .ref h_p1_sizes, .ref h_p1_above, .ref h_p1_placeAbove, .ref h_p1_items, .ref h_p1_home, .ref h_p1_placeHome, .ref h_p1_tally])), (h_p1_sizes, .inl (cy 0, 80, .inl g_p1_sizes)), (h_p1_above, .inl (cy 0, 80, .inl g_p1_above)), (h_p1_placeAbove, .inl (cy 0, 80, .inl g_p1_placeAbove)), (h_p1_items, .inl (cy 0, 720, .inl g_p1_items))] 1 ⟨hx, hb, hml, hown, hts⟩ (c_X1_put (l := l) (D := D) (cy := cy) (sz := _) (h_bytes := h_bytes) (h_this := h_this) (f_length := f_length) (g_bytes := g_bytes) (a1 := 40) (o_f_length := f_length_2) (o_g_bytes := g_bytes_3) (hf := hu)) (cwV 1 hts gX1_write_X1_put rfl rfl rfl (by decide +kernel) ⟨Nat.le_of_ble_eq_true rfl, Nat.le_of_ble_eq_true rfl⟩) hK hP hD hS hA rfl rfl rfl rfl (by decide) rfl rfl rfl rfl rfl rfl rfl rfl hl.1 rfl (Nat.le_of_ble_eq_true rfl) dX1_write_105 ⟨Nat.zero_le _, Nat.zero_le _⟩ (fun H locs hP hD hS => ?_)
          refine lv_iload hx hb dX1_write_108 (lv_at hl 0 rfl) ?_
          refine lv_iconst (v := (-1)) hx hb dX1_write_110 (by decide) ?_
          refine lv_ixor hx hb dX1_write_111 ?_
          refine lv_istore_n (lv' := [(2, .int (r_1 ^^^ (-1))), (5, .int r_1), (0, .ref h_this), (1, .ref h_p1), (3, .int x3), (4, .int x4)]) hx hb dX1_write_112 rfl hl (by decide) rfl (fun ls hl => ?_)
          refine lv_iconst (v := 1) hx hb dX1_write_113 (by decide) ?_
          refine lv_istore_n (lv' := [(3, .int 1), (2, .int (r_1 ^^^ (-1))), (5, .int r_1), (0, .ref h_this), (1, .ref h_p1), (4, .int x4)]) hx hb dX1_write_114 rfl hl (by decide) rfl (fun ls hl => ?_)
          exact L115 _ _ _ _ _ h _ _ _ hP hD hS (lv_sub hl [3, 4, 1, 0, 5] rfl)
        · replace h := it_0 h hc
          refine lv_aload_n hx hb dX1_write_90 rfl (lv_at hl 1 rfl) ?_
          refine lv_iload hx hb dX1_write_91 (lv_at hl 0 rfl) ?_
          obtain ⟨f_length_4, g_bytes_5, hu, h⟩ := ob2_1 h
          refine cl_Vv (As := [.int r_1]) (rest := []) [0, 1] [2, 3, 4, 5, 6] [5, 6, 0, 1, 2, 3, 4] [(h_p1, .inr (5, [.int f_p1_lists, .ref h_p1_sizes, .ref h_p1_above, .ref h_p1_placeAbove, .ref h_p1_items, .ref h_p1_home, .ref h_p1_placeHome, .ref h_p1_tally])), (h_p1_sizes, .inl (cy 0, 80, .inl g_p1_sizes)), (h_p1_above, .inl (cy 0, 80, .inl g_p1_above)), (h_p1_placeAbove, .inl (cy 0, 80, .inl g_p1_placeAbove)), (h_p1_items, .inl (cy 0, 720, .inl g_p1_items))] [(h_this, .inr (1, [.ref h_bytes, .int f_length_4])), (h_bytes, .inl (cy 2, 189, .inl g_bytes_5)), (h_p1, .inr (5, [.int f_p1_lists, .ref h_p1_sizes, .ref h_p1_above, .ref h_p1_placeAbove, .ref h_p1_items, .ref h_p1_home, .ref h_p1_placeHome, .ref h_p1_tally])), (h_p1_sizes, .inl (cy 0, 80, .inl g_p1_sizes)), (h_p1_above, .inl (cy 0, 80, .inl g_p1_above)), (h_p1_placeAbove, .inl (cy 0, 80, .inl g_p1_placeAbove)), (h_p1_items, .inl (cy 0, 720, .inl g_p1_items))] 1 ⟨hx, hb, hml, hown, hts⟩ (c_X1_putNumber (l := l) (D := D) (cy := cy) (sz := _) (h_bytes := h_bytes) (h_this := h_this) (f_length := f_length) (g_bytes := g_bytes) (a1 := r_1) (o_f_length := f_length_4) (o_g_bytes := g_bytes_5) (hf := hu)) (cwV 1 hts gX1_write_X1_putNumber rfl rfl rfl (by decide +kernel) ⟨Nat.le_of_ble_eq_true rfl, Nat.le_of_ble_eq_true rfl⟩) hK hP hD hS hA rfl rfl rfl rfl (by decide) rfl rfl rfl rfl rfl rfl rfl rfl hl.1 rfl (Nat.le_of_ble_eq_true rfl) dX1_write_93 ⟨Nat.zero_le _, Nat.zero_le _⟩ (fun H locs hP hD hS => ?_)
          refine lv_iinc (v := (x3 + 1)) (lv' := [(3, .int (x3 + 1)), (5, .int r_1), (0, .ref h_this), (1, .ref h_p1), (2, .int x2), (4, .int x4)]) hx hb dX1_write_96 hl (k := 4) rfl rfl (by decide) rfl (fun ls hl => ?_)
          refine lv_goto (tgt := 115) hx hb dX1_write_99 (by decide) ?_
          exact L115 _ _ _ _ _ h _ _ _ hP hD hS (lv_sub hl [2, 3, 4, 0, 5] rfl)
      refine lv_iload hx hb dX1_write_18 (lv_at hl 4 rfl) ?_
      refine lv_sipush (v := 160) hx hb dX1_write_20 (by decide) ?_
      refine lv_icmp_ge (tgt := 121) hx hb dX1_write_23 (by decide) (fun hc => ?_) (fun hc => ?_)
      · replace h := it_1 h hc
        obtain ⟨e0, e1⟩ := ret2 h
        subst e0
        subst e1
        exact rt_v hx hb hr hlk hK hP hD hS dX1_write_121
      · replace h := it_0 h hc
        refine lv_iload_n hx hb dX1_write_26 rfl (lv_at hl 2 rfl) ?_
        refine lv_iconst (v := (-1)) hx hb dX1_write_27 (by decide) ?_
        refine lv_icmp_eq (tgt := 121) hx hb dX1_write_28 (by decide) (fun hc => ?_) (fun hc => ?_)
        · replace h := it_1 h hc
          obtain ⟨e0, e1⟩ := ret2 h
          subst e0
          subst e1
          exact rt_v hx hb hr hlk hK hP hD hS dX1_write_121
        · replace h := it_0 h hc
          refine lv_iload_n hx hb dX1_write_31 rfl (lv_at hl 3 rfl) ?_
          refine lv_aload_n hx hb dX1_write_32 rfl (lv_at hl 1 rfl) ?_
          refine va_get (D := D) (ci := 5) (v := .ref h_p1_sizes) (C := RX5) (T := TX5) (N := 8) hx hb hts hinX5 hown hK hP 2 rfl rfl 1 (by decide) wf23 (fun _ h9 => h9) rfl dX1_write_33 ?_
          refine lv_iload_n hx hb dX1_write_36 rfl (lv_at hl 2 rfl) ?_
          have hi := gi_1 h; replace h := gi_2 h
          refine va_iald hx hb hK hP 3 0 rfl rfl hi dX1_write_37 ?_
          refine lv_icmp_le (tgt := 66) hx hb dX1_write_38 (by decide) (fun hc => ?_) (fun hc => ?_)
          · replace h := it_1 h hc
            refine lv_iload_n hx hb dX1_write_66 rfl (lv_at hl 3 rfl) ?_
            refine lv_iconst (v := 1) hx hb dX1_write_67 (by decide) ?_
            refine lv_icmp_le (tgt := 77) hx hb dX1_write_68 (by decide) (fun hc => ?_) (fun hc => ?_)
            · replace h := it_1 h hc
              exact L77 _ _ _ _ _ h _ _ _ hP hD hS (lv_sub hl [0, 1, 2, 3, 4] rfl)
            · replace h := it_0 h hc
              refine lv_aload_n hx hb dX1_write_71 rfl (lv_at hl 0 rfl) ?_
              refine lv_bipush (v := 32) hx hb dX1_write_72 (by decide) ?_
              obtain ⟨f_length_6, g_bytes_7, hu, h⟩ := ob2_1 h
              refine cl_Vv (As := [.int 32]) (rest := []) [0, 1] [2, 3, 4, 5, 6] [5, 6, 0, 1, 2, 3, 4] [(h_p1, .inr (5, [.int f_p1_lists, .ref h_p1_sizes, .ref h_p1_above, .ref h_p1_placeAbove, .ref h_p1_items, .ref h_p1_home, .ref h_p1_placeHome, .ref h_p1_tally])), (h_p1_sizes, .inl (cy 0, 80, .inl g_p1_sizes)), (h_p1_above, .inl (cy 0, 80, .inl g_p1_above)), (h_p1_placeAbove, .inl (cy 0, 80, .inl g_p1_placeAbove)), (h_p1_items, .inl (cy 0, 720, .inl g_p1_items))] [(h_this, .inr (1, [.ref h_bytes, .int f_length_6])), (h_bytes, .inl (cy 2, 189, .inl g_bytes_7)), (h_p1, .inr (5, [.int f_p1_lists, .ref h_p1_sizes, .ref h_p1_above, .ref h_p1_placeAbove, .ref h_p1_items, .ref h_p1_home, .ref h_p1_placeHome, .ref h_p1_tally])), (h_p1_sizes, .inl (cy 0, 80, .inl g_p1_sizes)), (h_p1_above, .inl (cy 0, 80, .inl g_p1_above)), (h_p1_placeAbove, .inl (cy 0, 80, .inl g_p1_placeAbove)), (h_p1_items, .inl (cy 0, 720, .inl g_p1_items))] 1 ⟨hx, hb, hml, hown, hts⟩ (c_X1_put (l := l) (D := D) (cy := cy) (sz := _) (h_bytes := h_bytes) (h_this := h_this) (f_length := f_length) (g_bytes := g_bytes) (a1 := 32) (o_f_length := f_length_6) (o_g_bytes := g_bytes_7) (hf := hu)) (cwV 1 hts gX1_write_X1_put rfl rfl rfl (by decide +kernel) ⟨Nat.le_of_ble_eq_true rfl, Nat.le_of_ble_eq_true rfl⟩) hK hP hD hS hA rfl rfl rfl rfl (by decide) rfl rfl rfl rfl rfl rfl rfl rfl hl.1 rfl (Nat.le_of_ble_eq_true rfl) dX1_write_74 ⟨Nat.zero_le _, Nat.zero_le _⟩ (fun H locs hP hD hS => ?_)
              exact L77 _ _ _ _ _ h _ _ _ hP hD hS (lv_sub hl [0, 1, 2, 3, 4] rfl)
          · replace h := it_0 h hc
            refine lv_aload_n hx hb dX1_write_41 rfl (lv_at hl 0 rfl) ?_
            refine lv_bipush (v := 41) hx hb dX1_write_42 (by decide) ?_
            obtain ⟨f_length_8, g_bytes_9, hu, h⟩ := ob2_1 h
            refine cl_Vv (As := [.int 41]) (rest := []) [0, 1] [2, 3, 4, 5, 6] [5, 6, 0, 1, 2, 3, 4] [(h_p1, .inr (5, [.int f_p1_lists, .ref h_p1_sizes, .ref h_p1_above, .ref h_p1_placeAbove, .ref h_p1_items, .ref h_p1_home, .ref h_p1_placeHome, .ref h_p1_tally])), (h_p1_sizes, .inl (cy 0, 80, .inl g_p1_sizes)), (h_p1_above, .inl (cy 0, 80, .inl g_p1_above)), (h_p1_placeAbove, .inl (cy 0, 80, .inl g_p1_placeAbove)), (h_p1_items, .inl (cy 0, 720, .inl g_p1_items))] [(h_this, .inr (1, [.ref h_bytes, .int f_length_8])), (h_bytes, .inl (cy 2, 189, .inl g_bytes_9)), (h_p1, .inr (5, [.int f_p1_lists, .ref h_p1_sizes, .ref h_p1_above, .ref h_p1_placeAbove, .ref h_p1_items, .ref h_p1_home, .ref h_p1_placeHome, .ref h_p1_tally])), (h_p1_sizes, .inl (cy 0, 80, .inl g_p1_sizes)), (h_p1_above, .inl (cy 0, 80, .inl g_p1_above)), (h_p1_placeAbove, .inl (cy 0, 80, .inl g_p1_placeAbove)), (h_p1_items, .inl (cy 0, 720, .inl g_p1_items))] 1 ⟨hx, hb, hml, hown, hts⟩ (c_X1_put (l := l) (D := D) (cy := cy) (sz := _) (h_bytes := h_bytes) (h_this := h_this) (f_length := f_length) (g_bytes := g_bytes) (a1 := 41) (o_f_length := f_length_8) (o_g_bytes := g_bytes_9) (hf := hu)) (cwV 1 hts gX1_write_X1_put rfl rfl rfl (by decide +kernel) ⟨Nat.le_of_ble_eq_true rfl, Nat.le_of_ble_eq_true rfl⟩) hK hP hD hS hA rfl rfl rfl rfl (by decide) rfl rfl rfl rfl rfl rfl rfl rfl hl.1 rfl (Nat.le_of_ble_eq_true rfl) dX1_write_44 ⟨Nat.zero_le _, Nat.zero_le _⟩ (fun H locs hP hD hS => ?_)
            refine lv_aload_n hx hb dX1_write_47 rfl (lv_at hl 1 rfl) ?_
            refine va_get (D := D) (ci := 5) (v := .ref h_p1_placeAbove) (C := RX5) (T := TX5) (N := 8) hx hb hts hinX5 hown hK hP 2 rfl rfl 3 (by decide) wf29 (fun _ h9 => h9) rfl dX1_write_48 ?_
            refine lv_iload_n hx hb dX1_write_51 rfl (lv_at hl 2 rfl) ?_
            have hi := gi_1 h; replace h := gi_2 h
            refine va_iald hx hb hK hP 5 0 rfl rfl hi dX1_write_52 ?_
            refine lv_iconst (v := 1) hx hb dX1_write_53 (by decide) ?_
            refine lv_iadd hx hb dX1_write_54 ?_
            refine lv_istore_n (lv' := [(3, .int ((g_p1_placeAbove (Int32.toNatClampNeg x2)) + 1)), (0, .ref h_this), (1, .ref h_p1), (2, .int x2), (4, .int x4)]) hx hb dX1_write_55 rfl hl (by decide) rfl (fun ls hl => ?_)
            refine lv_aload_n hx hb dX1_write_56 rfl (lv_at hl 2 rfl) ?_
            refine va_get (D := D) (ci := 5) (v := .ref h_p1_above) (C := RX5) (T := TX5) (N := 8) hx hb hts hinX5 hown hK hP 2 rfl rfl 2 (by decide) wf32 (fun _ h9 => h9) rfl dX1_write_57 ?_
            refine lv_iload_n hx hb dX1_write_60 rfl (lv_at hl 3 rfl) ?_
            have hi := gi_1 h; replace h := gi_2 h
            refine va_iald hx hb hK hP 4 0 rfl rfl hi dX1_write_61 ?_
            refine lv_istore_n (lv' := [(2, .int (g_p1_above (Int32.toNatClampNeg x2))), (3, .int ((g_p1_placeAbove (Int32.toNatClampNeg x2)) + 1)), (0, .ref h_this), (1, .ref h_p1), (4, .int x4)]) hx hb dX1_write_62 rfl hl (by decide) rfl (fun ls hl => ?_)
            refine lv_goto (tgt := 115) hx hb dX1_write_63 (by decide) ?_
            exact L115 _ _ _ _ _ h _ _ _ hP hD hS (lv_sub hl [2, 3, 0, 1, 4] rfl)
  clear hf
  refine lv_aload_n hx hb dX1_write_0 rfl (lv_at hl 0 rfl) ?_
  refine lv_iconst (v := 0) hx hb dX1_write_1 (by decide) ?_
  refine va_put (D := D) (ci := 1) (v := .int 0) (ty := .int) (C := RX1) (T := TX1) (N := 2) hx hb hts hinX1 tyX1 tyX1_ok nmX1 hown hK hP hD hS 0 rfl rfl 1 (by decide) wf15 (fun _ h9 => h9) rfl (by decide +kernel) rfl rfl (Nat.le_of_ble_eq_true rfl) dX1_write_2 (fun H locs hP hD hS => ?_)
  replace hP : va_P D vwCl [(h_this, .inr (1, [.ref h_bytes, .int 0])), (h_bytes, .inl (cy 2, 189, .inl g_bytes)), (h_p1, .inr (5, [.int f_p1_lists, .ref h_p1_sizes, .ref h_p1_above, .ref h_p1_placeAbove, .ref h_p1_items, .ref h_p1_home, .ref h_p1_placeHome, .ref h_p1_tally])), (h_p1_sizes, .inl (cy 0, 80, .inl g_p1_sizes)), (h_p1_above, .inl (cy 0, 80, .inl g_p1_above)), (h_p1_placeAbove, .inl (cy 0, 80, .inl g_p1_placeAbove)), (h_p1_items, .inl (cy 0, 720, .inl g_p1_items))] H := hP
  replace hD : va_D A [(h_this, .inr (1, [.ref h_bytes, .int 0])), (h_bytes, .inl (cy 2, 189, .inl g_bytes)), (h_p1, .inr (5, [.int f_p1_lists, .ref h_p1_sizes, .ref h_p1_above, .ref h_p1_placeAbove, .ref h_p1_items, .ref h_p1_home, .ref h_p1_placeHome, .ref h_p1_tally])), (h_p1_sizes, .inl (cy 0, 80, .inl g_p1_sizes)), (h_p1_above, .inl (cy 0, 80, .inl g_p1_above)), (h_p1_placeAbove, .inl (cy 0, 80, .inl g_p1_placeAbove)), (h_p1_items, .inl (cy 0, 720, .inl g_p1_items))] := hD
  refine lv_aload_n hx hb dX1_write_5 rfl (lv_at hl 0 rfl) ?_
  refine lv_bipush (v := 40) hx hb dX1_write_6 (by decide) ?_
  obtain ⟨f_length_10, g_bytes_11, hu, h⟩ := ob2_1 h
  refine cl_Vv (As := [.int 40]) (rest := []) [0, 1] [2, 3, 4, 5, 6] [5, 6, 0, 1, 2, 3, 4] [(h_p1, .inr (5, [.int f_p1_lists, .ref h_p1_sizes, .ref h_p1_above, .ref h_p1_placeAbove, .ref h_p1_items, .ref h_p1_home, .ref h_p1_placeHome, .ref h_p1_tally])), (h_p1_sizes, .inl (cy 0, 80, .inl g_p1_sizes)), (h_p1_above, .inl (cy 0, 80, .inl g_p1_above)), (h_p1_placeAbove, .inl (cy 0, 80, .inl g_p1_placeAbove)), (h_p1_items, .inl (cy 0, 720, .inl g_p1_items))] [(h_this, .inr (1, [.ref h_bytes, .int f_length_10])), (h_bytes, .inl (cy 2, 189, .inl g_bytes_11)), (h_p1, .inr (5, [.int f_p1_lists, .ref h_p1_sizes, .ref h_p1_above, .ref h_p1_placeAbove, .ref h_p1_items, .ref h_p1_home, .ref h_p1_placeHome, .ref h_p1_tally])), (h_p1_sizes, .inl (cy 0, 80, .inl g_p1_sizes)), (h_p1_above, .inl (cy 0, 80, .inl g_p1_above)), (h_p1_placeAbove, .inl (cy 0, 80, .inl g_p1_placeAbove)), (h_p1_items, .inl (cy 0, 720, .inl g_p1_items))] 1 ⟨hx, hb, hml, hown, hts⟩ (c_X1_put (l := l) (D := D) (cy := cy) (sz := _) (h_bytes := h_bytes) (h_this := h_this) (f_length := 0) (g_bytes := g_bytes) (a1 := 40) (o_f_length := f_length_10) (o_g_bytes := g_bytes_11) (hf := hu)) (cwV 1 hts gX1_write_X1_put rfl rfl rfl (by decide +kernel) ⟨Nat.le_of_ble_eq_true rfl, Nat.le_of_ble_eq_true rfl⟩) hK hP hD hS hA rfl rfl rfl rfl (by decide) rfl rfl rfl rfl rfl rfl rfl rfl hl.1 rfl (Nat.le_of_ble_eq_true rfl) dX1_write_8 ⟨Nat.zero_le _, Nat.zero_le _⟩ (fun H locs hP hD hS => ?_)
  refine lv_iconst (v := 0) hx hb dX1_write_11 (by decide) ?_
  refine lv_istore_n (lv' := [(2, .int 0), (0, .ref h_this), (1, .ref h_p1)]) hx hb dX1_write_12 rfl hl (by decide) rfl (fun ls hl => ?_)
  refine lv_iconst (v := 1) hx hb dX1_write_13 (by decide) ?_
  refine lv_istore_n (lv' := [(3, .int 1), (2, .int 0), (0, .ref h_this), (1, .ref h_p1)]) hx hb dX1_write_14 rfl hl (by decide) rfl (fun ls hl => ?_)
  refine lv_iconst (v := 0) hx hb dX1_write_15 (by decide) ?_
  refine lv_istore (lv' := [(4, .int 0), (3, .int 1), (2, .int 0), (0, .ref h_this), (1, .ref h_p1)]) hx hb dX1_write_16 hl (by decide) rfl (fun ls hl => ?_)
  exact L18 FU _ _ _ _ _ h _ _ _ hP hD hS (lv_sub hl [3, 4, 2, 1, 0] rfl)
abbrev rm_X2_refuse : Room := { frames := 0, cells := 0, slots := 0, locals := 0 }
set_option maxHeartbeats 4000000 in
set_option maxRecDepth 100000 in
theorem c_X2_refuse (l : Launch) (D : va_G) (cy : Nat → ClassId) (h_this h_open h_seen : Nat)    (sz : Nat) (f_faultNumber : Int32) (f_faultPlace : Int32) (f_depth : Int32) (f_seenCount : Int32) (a1 : Int32) (a2 : Int32)  (o_f_faultNumber : Int32) (o_f_faultPlace : Int32) (hf : f_X2_refuse f_faultNumber f_faultPlace a1 a2 = some (o_f_faultNumber, o_f_faultPlace)) : MV l yX2_refuse wsX2_refuse rm_X2_refuse D cy [.ref h_this, .int a1, .int a2] sz [(h_this, .inr (2, [.int f_faultNumber, .int f_faultPlace, .ref h_open, .int f_depth, .ref h_seen, .int f_seenCount]))] [(h_this, .inr (2, [.int o_f_faultNumber, .int o_f_faultPlace, .ref h_open, .int f_depth, .ref h_seen, .int f_seenCount]))] := by
  refine MV.of (cc := cX2_refuse) (maxL := 3) (ret := none) (by decide) rfl (Nat.le_of_ble_eq_true rfl) ?_
  intro p e s m below meth c A ls hx hb hml hown hts hlk hr hK hA hP hD hS hl
  have h := hf
  unfold f_X2_refuse at h
  have wf9 := hts (.fieldLink RX2 9 "MenuPlanner$Reader" "faultNumber" "I") (by decide +kernel)
  have hinX2 := (by decide +kernel : ∀ w ∈ u_ws RX2 TX2 6, w ∈ wsX2_refuse)
  have wf15 := hts (.fieldLink RX2 15 "MenuPlanner$Reader" "faultPlace" "I") (by decide +kernel)
  replace hl : lv_has ls 3 [(0, .ref h_this), (1, .int a1), (2, .int a2)] := hl
  clear hf
  refine lv_aload_n hx hb dX2_refuse_0 rfl (lv_at hl 0 rfl) ?_
  refine lv_iload_n hx hb dX2_refuse_1 rfl (lv_at hl 1 rfl) ?_
  refine va_put (D := D) (ci := 2) (v := .int a1) (ty := .int) (C := RX2) (T := TX2) (N := 6) hx hb hts hinX2 tyX2 tyX2_ok nmX2 hown hK hP hD hS 0 rfl rfl 0 (by decide) wf9 (fun _ h9 => h9) rfl (by decide +kernel) rfl rfl (Nat.le_of_ble_eq_true rfl) dX2_refuse_2 (fun H locs hP hD hS => ?_)
  replace hP : va_P D vwCl [(h_this, .inr (2, [.int a1, .int f_faultPlace, .ref h_open, .int f_depth, .ref h_seen, .int f_seenCount]))] H := hP
  replace hD : va_D A [(h_this, .inr (2, [.int a1, .int f_faultPlace, .ref h_open, .int f_depth, .ref h_seen, .int f_seenCount]))] := hD
  refine lv_aload_n hx hb dX2_refuse_5 rfl (lv_at hl 0 rfl) ?_
  refine lv_iload_n hx hb dX2_refuse_6 rfl (lv_at hl 2 rfl) ?_
  refine va_put (D := D) (ci := 2) (v := .int a2) (ty := .int) (C := RX2) (T := TX2) (N := 6) hx hb hts hinX2 tyX2 tyX2_ok nmX2 hown hK hP hD hS 0 rfl rfl 1 (by decide) wf15 (fun _ h9 => h9) rfl (by decide +kernel) rfl rfl (Nat.le_of_ble_eq_true rfl) dX2_refuse_7 (fun H locs hP hD hS => ?_)
  replace hP : va_P D vwCl [(h_this, .inr (2, [.int a1, .int a2, .ref h_open, .int f_depth, .ref h_seen, .int f_seenCount]))] H := hP
  replace hD : va_D A [(h_this, .inr (2, [.int a1, .int a2, .ref h_open, .int f_depth, .ref h_seen, .int f_seenCount]))] := hD
  obtain ⟨e0, e1⟩ := ret2 h
  subst e0
  subst e1
  exact rt_v hx hb hr hlk hK hP hD hS dX2_refuse_10
abbrev rm_X2_closeList : Room := { frames := 1, cells := 0, slots := 0, locals := 22 }
set_option maxHeartbeats 4000000 in
set_option maxRecDepth 100000 in
theorem c_X2_closeList (l : Launch) (D : va_G) (cy : Nat → ClassId) (h_this h_open h_seen h_p2 h_p2_sizes h_p2_above h_p2_placeAbove h_p2_items h_p2_home h_p2_placeHome h_p2_tally : Nat)    (sz : Nat) (f_faultNumber : Int32) (f_faultPlace : Int32) (f_depth : Int32) (f_seenCount : Int32) (g_open : Nat → Int32) (f_p2_lists : Int32) (g_p2_sizes : Nat → Int32) (a1 : Int32)  (o_f_faultNumber : Int32) (o_f_faultPlace : Int32) (o_f_depth : Int32) (hf : f_X2_closeList g_open g_p2_sizes f_faultNumber f_faultPlace f_depth a1 = some (o_f_faultNumber, o_f_faultPlace, o_f_depth)) : MV l yX2_closeList wsX2_closeList rm_X2_closeList D cy [.ref h_this, .int a1, .ref h_p2] sz [(h_this, .inr (2, [.int f_faultNumber, .int f_faultPlace, .ref h_open, .int f_depth, .ref h_seen, .int f_seenCount])), (h_open, .inl (cy 0, 40, .inl g_open)), (h_p2, .inr (5, [.int f_p2_lists, .ref h_p2_sizes, .ref h_p2_above, .ref h_p2_placeAbove, .ref h_p2_items, .ref h_p2_home, .ref h_p2_placeHome, .ref h_p2_tally])), (h_p2_sizes, .inl (cy 0, 80, .inl g_p2_sizes))] [(h_this, .inr (2, [.int o_f_faultNumber, .int o_f_faultPlace, .ref h_open, .int o_f_depth, .ref h_seen, .int f_seenCount])), (h_open, .inl (cy 0, 40, .inl g_open)), (h_p2, .inr (5, [.int f_p2_lists, .ref h_p2_sizes, .ref h_p2_above, .ref h_p2_placeAbove, .ref h_p2_items, .ref h_p2_home, .ref h_p2_placeHome, .ref h_p2_tally])), (h_p2_sizes, .inl (cy 0, 80, .inl g_p2_sizes))] := by
  refine MV.of (cc := cX2_closeList) (maxL := 4) (ret := none) (by decide) rfl (Nat.le_of_ble_eq_true rfl) ?_
  intro p e s m below meth c A ls hx hb hml hown hts hlk hr hK hA hP hD hS hl
  have h := hf
  unfold f_X2_closeList at h
  have wf22 := hts (.fieldLink RX2 22 "MenuPlanner$Reader" "depth" "I") (by decide +kernel)
  have hinX2 := (by decide +kernel : ∀ w ∈ u_ws RX2 TX2 6, w ∈ wsX2_closeList)
  have wf95 := hts (.fieldLink RX2 95 "MenuPlanner$Tree" "sizes" "[I") (by decide +kernel)
  have hinX5 := (by decide +kernel : ∀ w ∈ u_ws RX5 TX5 8, w ∈ wsX2_closeList)
  have wf18 := hts (.fieldLink RX2 18 "MenuPlanner$Reader" "open" "[I") (by decide +kernel)
  replace hl : lv_has ls 4 [(0, .ref h_this), (1, .int a1), (2, .ref h_p2)] := hl
  have L63 : ∀ (f_faultNumber : Int32) (f_faultPlace : Int32) (f_depth : Int32), f_X2_closeList_L63 f_faultNumber f_faultPlace f_depth = some (o_f_faultNumber, o_f_faultPlace, o_f_depth) → ∀ (H : Heap) (locs : List Loc) (ls : Array Slot), va_P D vwCl [(h_this, .inr (2, [.int f_faultNumber, .int f_faultPlace, .ref h_open, .int f_depth, .ref h_seen, .int f_seenCount])), (h_open, .inl (cy 0, 40, .inl g_open)), (h_p2, .inr (5, [.int f_p2_lists, .ref h_p2_sizes, .ref h_p2_above, .ref h_p2_placeAbove, .ref h_p2_items, .ref h_p2_home, .ref h_p2_placeHome, .ref h_p2_tally])), (h_p2_sizes, .inl (cy 0, 80, .inl g_p2_sizes))] H → va_D A [(h_this, .inr (2, [.int f_faultNumber, .int f_faultPlace, .ref h_open, .int f_depth, .ref h_seen, .int f_seenCount])), (h_open, .inl (cy 0, 40, .inl g_open)), (h_p2, .inr (5, [.int f_p2_lists, .ref h_p2_sizes, .ref h_p2_above, .ref h_p2_placeAbove, .ref h_p2_items, .ref h_p2_home, .ref h_p2_placeHome, .ref h_p2_tally])), (h_p2_sizes, .inl (cy 0, 80, .inl g_p2_sizes))] → va_S A s.heap H locs → lv_has ls 4 [(0, .ref h_this)] → W p l e rm_X2_closeList s m ([.ref h_this, .int a1, .ref h_p2]).toArray below meth c H locs 0 0 (MQ below (QV D cy A [(h_this, .inr (2, [.int o_f_faultNumber, .int o_f_faultPlace, .ref h_open, .int o_f_depth, .ref h_seen, .int f_seenCount])), (h_open, .inl (cy 0, 40, .inl g_open)), (h_p2, .inr (5, [.int f_p2_lists, .ref h_p2_sizes, .ref h_p2_above, .ref h_p2_placeAbove, .ref h_p2_items, .ref h_p2_home, .ref h_p2_placeHome, .ref h_p2_tally])), (h_p2_sizes, .inl (cy 0, 80, .inl g_p2_sizes))]) ([.ref h_this, .int a1, .ref h_p2]).toArray s 0 0 A) (F0 m 63 ls []) := by
    intro f_faultNumber f_faultPlace f_depth h H locs ls hP hD hS hl
    unfold f_X2_closeList_L63 at h
    refine lv_aload_n hx hb dX2_closeList_63 rfl (lv_at hl 0 rfl) ?_
    refine lv_dup hx hb dX2_closeList_64 rfl ?_
    refine va_get (D := D) (ci := 2) (v := .int f_depth) (C := RX2) (T := TX2) (N := 6) hx hb hts hinX2 hown hK hP 0 rfl rfl 3 (by decide) wf22 (fun _ h9 => h9) rfl dX2_closeList_65 ?_
    refine lv_iconst (v := 1) hx hb dX2_closeList_68 (by decide) ?_
    refine lv_isub hx hb dX2_closeList_69 ?_
    refine va_put (D := D) (ci := 2) (v := .int (f_depth - 1)) (ty := .int) (C := RX2) (T := TX2) (N := 6) hx hb hts hinX2 tyX2 tyX2_ok nmX2 hown hK hP hD hS 0 rfl rfl 3 (by decide) wf22 (fun _ h9 => h9) rfl (by decide +kernel) rfl rfl (Nat.le_of_ble_eq_true rfl) dX2_closeList_70 (fun H locs hP hD hS => ?_)
    replace hP : va_P D vwCl [(h_this, .inr (2, [.int f_faultNumber, .int f_faultPlace, .ref h_open, .int (f_depth - 1), .ref h_seen, .int f_seenCount])), (h_open, .inl (cy 0, 40, .inl g_open)), (h_p2, .inr (5, [.int f_p2_lists, .ref h_p2_sizes, .ref h_p2_above, .ref h_p2_placeAbove, .ref h_p2_items, .ref h_p2_home, .ref h_p2_placeHome, .ref h_p2_tally])), (h_p2_sizes, .inl (cy 0, 80, .inl g_p2_sizes))] H := hP
    replace hD : va_D A [(h_this, .inr (2, [.int f_faultNumber, .int f_faultPlace, .ref h_open, .int (f_depth - 1), .ref h_seen, .int f_seenCount])), (h_open, .inl (cy 0, 40, .inl g_open)), (h_p2, .inr (5, [.int f_p2_lists, .ref h_p2_sizes, .ref h_p2_above, .ref h_p2_placeAbove, .ref h_p2_items, .ref h_p2_home, .ref h_p2_placeHome, .ref h_p2_tally])), (h_p2_sizes, .inl (cy 0, 80, .inl g_p2_sizes))] := hD
    obtain ⟨e0, e1, e2⟩ := ret3 h
    subst e0
    subst e1
    subst e2
    exact rt_v hx hb hr hlk hK hP hD hS dX2_closeList_73
  have L27 : ∀ (f_faultNumber : Int32) (f_faultPlace : Int32) (f_depth : Int32) (x1 : Int32) (s0 : Int32), f_X2_closeList_L27 f_faultNumber f_faultPlace f_depth x1 s0 = some (o_f_faultNumber, o_f_faultPlace, o_f_depth) → ∀ (H : Heap) (locs : List Loc) (ls : Array Slot), va_P D vwCl [(h_this, .inr (2, [.int f_faultNumber, .int f_faultPlace, .ref h_open, .int f_depth, .ref h_seen, .int f_seenCount])), (h_open, .inl (cy 0, 40, .inl g_open)), (h_p2, .inr (5, [.int f_p2_lists, .ref h_p2_sizes, .ref h_p2_above, .ref h_p2_placeAbove, .ref h_p2_items, .ref h_p2_home, .ref h_p2_placeHome, .ref h_p2_tally])), (h_p2_sizes, .inl (cy 0, 80, .inl g_p2_sizes))] H → va_D A [(h_this, .inr (2, [.int f_faultNumber, .int f_faultPlace, .ref h_open, .int f_depth, .ref h_seen, .int f_seenCount])), (h_open, .inl (cy 0, 40, .inl g_open)), (h_p2, .inr (5, [.int f_p2_lists, .ref h_p2_sizes, .ref h_p2_above, .ref h_p2_placeAbove, .ref h_p2_items, .ref h_p2_home, .ref h_p2_placeHome, .ref h_p2_tally])), (h_p2_sizes, .inl (cy 0, 80, .inl g_p2_sizes))] → va_S A s.heap H locs → lv_has ls 4 [(0, .ref h_this), (1, .int x1)] → W p l e rm_X2_closeList s m ([.ref h_this, .int a1, .ref h_p2]).toArray below meth c H locs 0 0 (MQ below (QV D cy A [(h_this, .inr (2, [.int o_f_faultNumber, .int o_f_faultPlace, .ref h_open, .int o_f_depth, .ref h_seen, .int f_seenCount])), (h_open, .inl (cy 0, 40, .inl g_open)), (h_p2, .inr (5, [.int f_p2_lists, .ref h_p2_sizes, .ref h_p2_above, .ref h_p2_placeAbove, .ref h_p2_items, .ref h_p2_home, .ref h_p2_placeHome, .ref h_p2_tally])), (h_p2_sizes, .inl (cy 0, 80, .inl g_p2_sizes))]) ([.ref h_this, .int a1, .ref h_p2]).toArray s 0 0 A) (F0 m 27 ls [.int s0]) := by
    intro f_faultNumber f_faultPlace f_depth x1 s0 h H locs ls hP hD hS hl
    unfold f_X2_closeList_L27 at h
    refine lv_istore_n (lv' := [(3, .int s0), (0, .ref h_this), (1, .int x1)]) hx hb dX2_closeList_27 rfl hl (by decide) rfl (fun ls hl => ?_)
    refine lv_iload_n hx hb dX2_closeList_28 rfl (lv_at hl 0 rfl) ?_
    refine lv_if_ne (tgt := 41) hx hb dX2_closeList_29 (by decide) (fun hc => ?_) (fun hc => ?_)
    · replace h := it_0 h hc
      refine lv_iload_n hx hb dX2_closeList_41 rfl (lv_at hl 0 rfl) ?_
      refine lv_iconst (v := 1) hx hb dX2_closeList_42 (by decide) ?_
      refine lv_icmp_ne (tgt := 63) hx hb dX2_closeList_43 (by decide) (fun hc => ?_) (fun hc => ?_)
      · replace h := it_0 h hc
        exact L63 _ _ _ h _ _ _ hP hD hS (lv_sub hl [1] rfl)
      · replace h := it_1 h hc
        refine lv_aload_n hx hb dX2_closeList_46 rfl (lv_at hl 1 rfl) ?_
        refine va_get (D := D) (ci := 2) (v := .int f_depth) (C := RX2) (T := TX2) (N := 6) hx hb hts hinX2 hown hK hP 0 rfl rfl 3 (by decide) wf22 (fun _ h9 => h9) rfl dX2_closeList_47 ?_
        refine lv_iconst (v := 1) hx hb dX2_closeList_50 (by decide) ?_
        refine lv_icmp_le (tgt := 63) hx hb dX2_closeList_51 (by decide) (fun hc => ?_) (fun hc => ?_)
        · replace h := it_1 h hc
          exact L63 _ _ _ h _ _ _ hP hD hS (lv_sub hl [1] rfl)
        · replace h := it_0 h hc
          refine lv_aload_n hx hb dX2_closeList_54 rfl (lv_at hl 1 rfl) ?_
          refine lv_iconst (v := 5) hx hb dX2_closeList_55 (by decide) ?_
          refine lv_iload_n hx hb dX2_closeList_56 rfl (lv_at hl 2 rfl) ?_
          obtain ⟨f_faultNumber_1, f_faultPlace_2, hu, h⟩ := ob2_1 h
          refine cl_Vv (As := [.int 5, .int x1]) (rest := []) [0] [1, 2, 3] [3, 0, 1, 2] [(h_open, .inl (cy 0, 40, .inl g_open)), (h_p2, .inr (5, [.int f_p2_lists, .ref h_p2_sizes, .ref h_p2_above, .ref h_p2_placeAbove, .ref h_p2_items, .ref h_p2_home, .ref h_p2_placeHome, .ref h_p2_tally])), (h_p2_sizes, .inl (cy 0, 80, .inl g_p2_sizes))] [(h_this, .inr (2, [.int f_faultNumber_1, .int f_faultPlace_2, .ref h_open, .int f_depth, .ref h_seen, .int f_seenCount])), (h_open, .inl (cy 0, 40, .inl g_open)), (h_p2, .inr (5, [.int f_p2_lists, .ref h_p2_sizes, .ref h_p2_above, .ref h_p2_placeAbove, .ref h_p2_items, .ref h_p2_home, .ref h_p2_placeHome, .ref h_p2_tally])), (h_p2_sizes, .inl (cy 0, 80, .inl g_p2_sizes))] 2 ⟨hx, hb, hml, hown, hts⟩ (c_X2_refuse (l := l) (D := D) (cy := cy) (sz := _) (h_this := h_this) (h_open := h_open) (h_seen := h_seen) (f_faultNumber := f_faultNumber) (f_faultPlace := f_faultPlace) (f_depth := f_depth) (f_seenCount := f_seenCount) (a1 := 5) (a2 := x1) (o_f_faultNumber := f_faultNumber_1) (o_f_faultPlace := f_faultPlace_2) (hf := hu)) (cwV 2 hts gX2_closeList_X2_refuse rfl rfl rfl (by decide +kernel) ⟨Nat.le_of_ble_eq_true rfl, Nat.le_of_ble_eq_true rfl⟩) hK hP hD hS hA rfl rfl rfl rfl (by decide) rfl rfl rfl rfl rfl rfl rfl rfl hl.1 rfl (Nat.le_of_ble_eq_true rfl) dX2_closeList_57 ⟨Nat.zero_le _, Nat.zero_le _⟩ (fun H locs hP hD hS => ?_)
          refine lv_goto (tgt := 73) hx hb dX2_closeList_60 (by decide) ?_
          obtain ⟨e0, e1, e2⟩ := ret3 h
          subst e0
          subst e1
          subst e2
          exact rt_v hx hb hr hlk hK hP hD hS dX2_closeList_73
    · replace h := it_1 h hc
      refine lv_aload_n hx hb dX2_closeList_32 rfl (lv_at hl 1 rfl) ?_
      refine lv_iconst (v := 1) hx hb dX2_closeList_33 (by decide) ?_
      refine lv_iload_n hx hb dX2_closeList_34 rfl (lv_at hl 2 rfl) ?_
      obtain ⟨f_faultNumber_3, f_faultPlace_4, hu, h⟩ := ob2_1 h
      refine cl_Vv (As := [.int 1, .int x1]) (rest := []) [0] [1, 2, 3] [3, 0, 1, 2] [(h_open, .inl (cy 0, 40, .inl g_open)), (h_p2, .inr (5, [.int f_p2_lists, .ref h_p2_sizes, .ref h_p2_above, .ref h_p2_placeAbove, .ref h_p2_items, .ref h_p2_home, .ref h_p2_placeHome, .ref h_p2_tally])), (h_p2_sizes, .inl (cy 0, 80, .inl g_p2_sizes))] [(h_this, .inr (2, [.int f_faultNumber_3, .int f_faultPlace_4, .ref h_open, .int f_depth, .ref h_seen, .int f_seenCount])), (h_open, .inl (cy 0, 40, .inl g_open)), (h_p2, .inr (5, [.int f_p2_lists, .ref h_p2_sizes, .ref h_p2_above, .ref h_p2_placeAbove, .ref h_p2_items, .ref h_p2_home, .ref h_p2_placeHome, .ref h_p2_tally])), (h_p2_sizes, .inl (cy 0, 80, .inl g_p2_sizes))] 2 ⟨hx, hb, hml, hown, hts⟩ (c_X2_refuse (l := l) (D := D) (cy := cy) (sz := _) (h_this := h_this) (h_open := h_open) (h_seen := h_seen) (f_faultNumber := f_faultNumber) (f_faultPlace := f_faultPlace) (f_depth := f_depth) (f_seenCount := f_seenCount) (a1 := 1) (a2 := x1) (o_f_faultNumber := f_faultNumber_3) (o_f_faultPlace := f_faultPlace_4) (hf := hu)) (cwV 2 hts gX2_closeList_X2_refuse rfl rfl rfl (by decide +kernel) ⟨Nat.le_of_ble_eq_true rfl, Nat.le_of_ble_eq_true rfl⟩) hK hP hD hS hA rfl rfl rfl rfl (by decide) rfl rfl rfl rfl rfl rfl rfl rfl hl.1 rfl (Nat.le_of_ble_eq_true rfl) dX2_closeList_35 ⟨Nat.zero_le _, Nat.zero_le _⟩ (fun H locs hP hD hS => ?_)
      refine lv_goto (tgt := 73) hx hb dX2_closeList_38 (by decide) ?_
      obtain ⟨e0, e1, e2⟩ := ret3 h
      subst e0
      subst e1
      subst e2
      exact rt_v hx hb hr hlk hK hP hD hS dX2_closeList_73
  clear hf
  refine lv_aload_n hx hb dX2_closeList_0 rfl (lv_at hl 0 rfl) ?_
  refine va_get (D := D) (ci := 2) (v := .int f_depth) (C := RX2) (T := TX2) (N := 6) hx hb hts hinX2 hown hK hP 0 rfl rfl 3 (by decide) wf22 (fun _ h9 => h9) rfl dX2_closeList_1 ?_
  refine lv_if_ne (tgt := 11) hx hb dX2_closeList_4 (by decide) (fun hc => ?_) (fun hc => ?_)
  · replace h := it_0 h hc
    refine lv_aload_n hx hb dX2_closeList_11 rfl (lv_at hl 2 rfl) ?_
    refine va_get (D := D) (ci := 5) (v := .ref h_p2_sizes) (C := RX5) (T := TX5) (N := 8) hx hb hts hinX5 hown hK hP 2 rfl rfl 1 (by decide) wf95 (fun _ h9 => h9) rfl dX2_closeList_12 ?_
    refine lv_aload_n hx hb dX2_closeList_15 rfl (lv_at hl 0 rfl) ?_
    refine va_get (D := D) (ci := 2) (v := .ref h_open) (C := RX2) (T := TX2) (N := 6) hx hb hts hinX2 hown hK hP 0 rfl rfl 2 (by decide) wf18 (fun _ h9 => h9) rfl dX2_closeList_16 ?_
    refine lv_aload_n hx hb dX2_closeList_19 rfl (lv_at hl 0 rfl) ?_
    refine va_get (D := D) (ci := 2) (v := .int f_depth) (C := RX2) (T := TX2) (N := 6) hx hb hts hinX2 hown hK hP 0 rfl rfl 3 (by decide) wf22 (fun _ h9 => h9) rfl dX2_closeList_20 ?_
    refine lv_iconst (v := 1) hx hb dX2_closeList_23 (by decide) ?_
    refine lv_isub hx hb dX2_closeList_24 ?_
    have hi := gi_1 h; replace h := gi_2 h
    refine va_iald hx hb hK hP 1 0 rfl rfl hi dX2_closeList_25 ?_
    have hi := gi_1 h; replace h := gi_2 h
    refine va_iald hx hb hK hP 3 0 rfl rfl hi dX2_closeList_26 ?_
    exact L27 _ _ _ _ _ h _ _ _ hP hD hS (lv_sub hl [0, 1] rfl)
  · replace h := it_1 h hc
    refine lv_iconst (v := 0) hx hb dX2_closeList_7 (by decide) ?_
    refine lv_goto (tgt := 27) hx hb dX2_closeList_8 (by decide) ?_
    exact L27 _ _ _ _ _ h _ _ _ hP hD hS (lv_sub hl [0, 1] rfl)
abbrev rm_X2_isDigit : Room := { frames := 0, cells := 0, slots := 0, locals := 0 }
set_option maxHeartbeats 4000000 in
set_option maxRecDepth 100000 in
theorem c_X2_isDigit (l : Launch) (D : va_G) (cy : Nat → ClassId)     (sz : Nat)  (a0 : Int32) (r0 : Int32)  (hf : f_X2_isDigit a0 = some r0) : MI l yX2_isDigit wsX2_isDigit rm_X2_isDigit D cy [.int a0] sz [] r0 [] := by
  refine MI.of (cc := cX2_isDigit) (maxL := 1) (ret := (some .boolean)) (by decide) rfl (Nat.le_of_ble_eq_true rfl) ?_
  intro p e s m below meth c A ls hx hb hml hown hts hlk hr hK hA hP hD hS hl
  have h := hf
  unfold f_X2_isDigit at h
  replace hl : lv_has ls 1 [(0, .int a0)] := hl
  clear hf
  refine lv_iload_n hx hb dX2_isDigit_0 rfl (lv_at hl 0 rfl) ?_
  refine lv_bipush (v := 48) hx hb dX2_isDigit_1 (by decide) ?_
  refine lv_icmp_lt (tgt := 16) hx hb dX2_isDigit_3 (by decide) (fun hc => ?_) (fun hc => ?_)
  · replace h := it_1 h hc
    refine lv_iconst (v := 0) hx hb dX2_isDigit_16 (by decide) ?_
    have e0 := ret1 h
    subst e0
    exact rt_i hx hb hr hlk rfl hK hP hD hS dX2_isDigit_17
  · replace h := it_0 h hc
    refine lv_iload_n hx hb dX2_isDigit_6 rfl (lv_at hl 0 rfl) ?_
    refine lv_bipush (v := 57) hx hb dX2_isDigit_7 (by decide) ?_
    refine lv_icmp_gt (tgt := 16) hx hb dX2_isDigit_9 (by decide) (fun hc => ?_) (fun hc => ?_)
    · replace h := it_1 h hc
      refine lv_iconst (v := 0) hx hb dX2_isDigit_16 (by decide) ?_
      have e0 := ret1 h
      subst e0
      exact rt_i hx hb hr hlk rfl hK hP hD hS dX2_isDigit_17
    · replace h := it_0 h hc
      refine lv_iconst (v := 1) hx hb dX2_isDigit_12 (by decide) ?_
      refine lv_goto (tgt := 17) hx hb dX2_isDigit_13 (by decide) ?_
      have e0 := ret1 h
      subst e0
      exact rt_i hx hb hr hlk rfl hK hP hD hS dX2_isDigit_17
abbrev rm_X2_numberAt : Room := { frames := 1, cells := 0, slots := 0, locals := 20 }
set_option maxHeartbeats 4000000 in
set_option maxRecDepth 100000 in
theorem c_X2_numberAt (l : Launch) (D : va_G) (cy : Nat → ClassId) (h_p0 : Nat)    (sz : Nat) (g_p0 : Nat → Int32) (a1 : Int32) (a2 : Int32) (r0 : Int32)  (hf : f_X2_numberAt g_p0 a1 a2 = some r0) : MI l yX2_numberAt wsX2_numberAt rm_X2_numberAt D cy [.ref h_p0, .int a1, .int a2] sz [(h_p0, .inl (cy 2, 400, .inl g_p0))] r0 [(h_p0, .inl (cy 2, 400, .inl g_p0))] := by
  refine MI.of (cc := cX2_numberAt) (maxL := 5) (ret := (some .int)) (by decide) rfl (Nat.le_of_ble_eq_true rfl) ?_
  intro p e s m below meth c A ls hx hb hml hown hts hlk hr hK hA hP hD hS hl
  have h := hf
  unfold f_X2_numberAt at h
  replace hl : lv_has ls 5 [(0, .ref h_p0), (1, .int a1), (2, .int a2)] := hl
  have L5 : ∀ (n : Nat) (x2 : Int32) (x3 : Int32) (x4 : Int32), f_X2_numberAt_L5 g_p0 n x2 x3 x4 = some r0 → ∀ (H : Heap) (locs : List Loc) (ls : Array Slot), va_P D vwCl [(h_p0, .inl (cy 2, 400, .inl g_p0))] H → va_D A [(h_p0, .inl (cy 2, 400, .inl g_p0))] → va_S A s.heap H locs → lv_has ls 5 [(0, .ref h_p0), (2, .int x2), (3, .int x3), (4, .int x4)] → W p l e rm_X2_numberAt s m ([.ref h_p0, .int a1, .int a2]).toArray below meth c H locs 0 0 (MQ below (QI D cy A r0 [(h_p0, .inl (cy 2, 400, .inl g_p0))]) ([.ref h_p0, .int a1, .int a2]).toArray s 0 0 A) (F0 m 5 ls []) := by
    intro n
    induction n with
    | zero => intro x2 x3 x4 h; exact absurd (show (none : Option _) = some _ from h) (by intro q; cases q)
    | succ n5 ih5 =>
      intro x2 x3 x4 h H locs ls hP hD hS hl
      replace h : f_X2_numberAt_L5_F g_p0 (f_X2_numberAt_L5 g_p0 n5) x2 x3 x4 = some r0 := h
      unfold f_X2_numberAt_L5_F at h
      have L40 : ∀ (x2 : Int32) (x3 : Int32) (x4 : Int32), f_X2_numberAt_L40 (f_X2_numberAt_L5 g_p0 n5) x2 x3 x4 = some r0 → ∀ (H : Heap) (locs : List Loc) (ls : Array Slot), va_P D vwCl [(h_p0, .inl (cy 2, 400, .inl g_p0))] H → va_D A [(h_p0, .inl (cy 2, 400, .inl g_p0))] → va_S A s.heap H locs → lv_has ls 5 [(0, .ref h_p0), (2, .int x2), (3, .int x3), (4, .int x4)] → W p l e rm_X2_numberAt s m ([.ref h_p0, .int a1, .int a2]).toArray below meth c H locs 0 0 (MQ below (QI D cy A r0 [(h_p0, .inl (cy 2, 400, .inl g_p0))]) ([.ref h_p0, .int a1, .int a2]).toArray s 0 0 A) (F0 m 40 ls []) := by
        intro x2 x3 x4 h H locs ls hP hD hS hl
        unfold f_X2_numberAt_L40 at h
        refine lv_iinc (v := (x4 + 1)) (lv' := [(4, .int (x4 + 1)), (0, .ref h_p0), (2, .int x2), (3, .int x3)]) hx hb dX2_numberAt_40 hl (k := 3) rfl rfl (by decide) rfl (fun ls hl => ?_)
        refine lv_goto (tgt := 5) hx hb dX2_numberAt_43 (by decide) ?_
        exact ih5 _ _ _ h _ _ _ hP hD hS (lv_sub hl [1, 2, 3, 0] rfl)
      refine lv_iload hx hb dX2_numberAt_5 (lv_at hl 3 rfl) ?_
      refine lv_iload_n hx hb dX2_numberAt_7 rfl (lv_at hl 1 rfl) ?_
      refine lv_icmp_ge (tgt := 46) hx hb dX2_numberAt_8 (by decide) (fun hc => ?_) (fun hc => ?_)
      · replace h := it_1 h hc
        refine lv_iload_n hx hb dX2_numberAt_46 rfl (lv_at hl 2 rfl) ?_
        have e0 := ret1 h
        subst e0
        exact rt_i hx hb hr hlk rfl hK hP hD hS dX2_numberAt_47
      · replace h := it_0 h hc
        refine lv_aload_n hx hb dX2_numberAt_11 rfl (lv_at hl 0 rfl) ?_
        refine lv_iload hx hb dX2_numberAt_12 (lv_at hl 3 rfl) ?_
        have hi := gi_1 h; replace h := gi_2 h
        refine va_bald hx hb hK hP 0 2 rfl rfl hi dX2_numberAt_14 ?_
        obtain ⟨r_1, hu, h⟩ := ob_1 h
        refine cl_Si (As := [.int (g_p0 (Int32.toNatClampNeg x4))]) (rest := []) [] [0] [0] [(h_p0, .inl (cy 2, 400, .inl g_p0))] [(h_p0, .inl (cy 2, 400, .inl g_p0))] ⟨hx, hb, hml, hown, hts⟩ (c_X2_isDigit (l := l) (D := D) (cy := cy) (sz := _) (a0 := (g_p0 (Int32.toNatClampNeg x4))) (r0 := r_1) (hf := hu)) (va_cwS 1 hts gX2_numberAt_X2_isDigit rfl rfl rfl (by decide +kernel) ⟨Nat.le_of_ble_eq_true rfl, Nat.le_of_ble_eq_true rfl⟩) hK hP hD hS hA rfl rfl rfl rfl (by decide) rfl rfl rfl rfl rfl hl.1 rfl (Nat.le_of_ble_eq_true rfl) dX2_numberAt_15 ⟨Nat.zero_le _, Nat.zero_le _⟩ (fun H locs hP hD hS => ?_)
        refine lv_if_eq (tgt := 46) hx hb dX2_numberAt_18 (by decide) (fun hc => ?_) (fun hc => ?_)
        · replace h := it_1 h hc
          refine lv_iload_n hx hb dX2_numberAt_46 rfl (lv_at hl 2 rfl) ?_
          have e0 := ret1 h
          subst e0
          exact rt_i hx hb hr hlk rfl hK hP hD hS dX2_numberAt_47
        · replace h := it_0 h hc
          refine lv_iload_n hx hb dX2_numberAt_21 rfl (lv_at hl 2 rfl) ?_
          refine lv_bipush (v := 40) hx hb dX2_numberAt_22 (by decide) ?_
          refine lv_icmp_ge (tgt := 40) hx hb dX2_numberAt_24 (by decide) (fun hc => ?_) (fun hc => ?_)
          · replace h := it_1 h hc
            exact L40 _ _ _ h _ _ _ hP hD hS (lv_sub hl [0, 1, 2, 3] rfl)
          · replace h := it_0 h hc
            refine lv_iload_n hx hb dX2_numberAt_27 rfl (lv_at hl 2 rfl) ?_
            refine lv_bipush (v := 10) hx hb dX2_numberAt_28 (by decide) ?_
            refine lv_imul hx hb dX2_numberAt_30 ?_
            refine lv_aload_n hx hb dX2_numberAt_31 rfl (lv_at hl 0 rfl) ?_
            refine lv_iload hx hb dX2_numberAt_32 (lv_at hl 3 rfl) ?_
            have hi := gi_1 h; replace h := gi_2 h
            refine va_bald hx hb hK hP 0 2 rfl rfl hi dX2_numberAt_34 ?_
            refine lv_bipush (v := 48) hx hb dX2_numberAt_35 (by decide) ?_
            refine lv_isub hx hb dX2_numberAt_37 ?_
            refine lv_iadd hx hb dX2_numberAt_38 ?_
            refine lv_istore_n (lv' := [(3, .int ((x3 * 10) + ((g_p0 (Int32.toNatClampNeg x4)) - 48))), (0, .ref h_p0), (2, .int x2), (4, .int x4)]) hx hb dX2_numberAt_39 rfl hl (by decide) rfl (fun ls hl => ?_)
            exact L40 _ _ _ h _ _ _ hP hD hS (lv_sub hl [1, 2, 0, 3] rfl)
  clear hf
  refine lv_iconst (v := 0) hx hb dX2_numberAt_0 (by decide) ?_
  refine lv_istore_n (lv' := [(3, .int 0), (0, .ref h_p0), (1, .int a1), (2, .int a2)]) hx hb dX2_numberAt_1 rfl hl (by decide) rfl (fun ls hl => ?_)
  refine lv_iload_n hx hb dX2_numberAt_2 rfl (lv_at hl 2 rfl) ?_
  refine lv_istore (lv' := [(4, .int a1), (3, .int 0), (0, .ref h_p0), (1, .int a1), (2, .int a2)]) hx hb dX2_numberAt_3 hl (by decide) rfl (fun ls hl => ?_)
  exact L5 FU _ _ _ h _ _ _ hP hD hS (lv_sub hl [2, 4, 1, 0] rfl)
abbrev rm_X2_isFull : Room := { frames := 0, cells := 0, slots := 0, locals := 0 }
set_option maxHeartbeats 4000000 in
set_option maxRecDepth 100000 in
theorem c_X2_isFull (l : Launch) (D : va_G) (cy : Nat → ClassId) (h_this h_open h_seen h_p1 h_p1_counts h_p1_words h_p1_settings h_p2 h_p2_sizes h_p2_above h_p2_placeAbove h_p2_items h_p2_home h_p2_placeHome h_p2_tally : Nat)    (sz : Nat) (f_faultNumber : Int32) (f_faultPlace : Int32) (f_depth : Int32) (f_seenCount : Int32) (g_open : Nat → Int32) (f_p1_size : Int32) (g_p1_settings : Nat → Int32) (f_p2_lists : Int32) (g_p2_sizes : Nat → Int32)  (r0 : Int32)  (hf : f_X2_isFull f_depth g_open g_p1_settings g_p2_sizes = some r0) : MI l yX2_isFull wsX2_isFull rm_X2_isFull D cy [.ref h_this, .ref h_p1, .ref h_p2] sz [(h_this, .inr (2, [.int f_faultNumber, .int f_faultPlace, .ref h_open, .int f_depth, .ref h_seen, .int f_seenCount])), (h_open, .inl (cy 0, 40, .inl g_open)), (h_p1, .inr (6, [.int f_p1_size, .ref h_p1_counts, .ref h_p1_words, .ref h_p1_settings])), (h_p1_settings, .inl (cy 0, 4, .inl g_p1_settings)), (h_p2, .inr (5, [.int f_p2_lists, .ref h_p2_sizes, .ref h_p2_above, .ref h_p2_placeAbove, .ref h_p2_items, .ref h_p2_home, .ref h_p2_placeHome, .ref h_p2_tally])), (h_p2_sizes, .inl (cy 0, 80, .inl g_p2_sizes))] r0 [(h_this, .inr (2, [.int f_faultNumber, .int f_faultPlace, .ref h_open, .int f_depth, .ref h_seen, .int f_seenCount])), (h_open, .inl (cy 0, 40, .inl g_open)), (h_p1, .inr (6, [.int f_p1_size, .ref h_p1_counts, .ref h_p1_words, .ref h_p1_settings])), (h_p1_settings, .inl (cy 0, 4, .inl g_p1_settings)), (h_p2, .inr (5, [.int f_p2_lists, .ref h_p2_sizes, .ref h_p2_above, .ref h_p2_placeAbove, .ref h_p2_items, .ref h_p2_home, .ref h_p2_placeHome, .ref h_p2_tally])), (h_p2_sizes, .inl (cy 0, 80, .inl g_p2_sizes))] := by
  refine MI.of (cc := cX2_isFull) (maxL := 3) (ret := (some .boolean)) (by decide) rfl (Nat.le_of_ble_eq_true rfl) ?_
  intro p e s m below meth c A ls hx hb hml hown hts hlk hr hK hA hP hD hS hl
  have h := hf
  unfold f_X2_isFull at h
  have wf95 := hts (.fieldLink RX2 95 "MenuPlanner$Tree" "sizes" "[I") (by decide +kernel)
  have hinX5 := (by decide +kernel : ∀ w ∈ u_ws RX5 TX5 8, w ∈ wsX2_isFull)
  have wf18 := hts (.fieldLink RX2 18 "MenuPlanner$Reader" "open" "[I") (by decide +kernel)
  have hinX2 := (by decide +kernel : ∀ w ∈ u_ws RX2 TX2 6, w ∈ wsX2_isFull)
  have wf22 := hts (.fieldLink RX2 22 "MenuPlanner$Reader" "depth" "I") (by decide +kernel)
  have wf98 := hts (.fieldLink RX2 98 "MenuPlanner$Use" "settings" "[I") (by decide +kernel)
  have hinX6 := (by decide +kernel : ∀ w ∈ u_ws RX6 TX6 4, w ∈ wsX2_isFull)
  replace hl : lv_has ls 3 [(0, .ref h_this), (1, .ref h_p1), (2, .ref h_p2)] := hl
  clear hf
  refine lv_aload_n hx hb dX2_isFull_0 rfl (lv_at hl 2 rfl) ?_
  refine va_get (D := D) (ci := 5) (v := .ref h_p2_sizes) (C := RX5) (T := TX5) (N := 8) hx hb hts hinX5 hown hK hP 4 rfl rfl 1 (by decide) wf95 (fun _ h9 => h9) rfl dX2_isFull_1 ?_
  refine lv_aload_n hx hb dX2_isFull_4 rfl (lv_at hl 0 rfl) ?_
  refine va_get (D := D) (ci := 2) (v := .ref h_open) (C := RX2) (T := TX2) (N := 6) hx hb hts hinX2 hown hK hP 0 rfl rfl 2 (by decide) wf18 (fun _ h9 => h9) rfl dX2_isFull_5 ?_
  refine lv_aload_n hx hb dX2_isFull_8 rfl (lv_at hl 0 rfl) ?_
  refine va_get (D := D) (ci := 2) (v := .int f_depth) (C := RX2) (T := TX2) (N := 6) hx hb hts hinX2 hown hK hP 0 rfl rfl 3 (by decide) wf22 (fun _ h9 => h9) rfl dX2_isFull_9 ?_
  refine lv_iconst (v := 1) hx hb dX2_isFull_12 (by decide) ?_
  refine lv_isub hx hb dX2_isFull_13 ?_
  have hi := gi_1 h; replace h := gi_2 h
  refine va_iald hx hb hK hP 1 0 rfl rfl hi dX2_isFull_14 ?_
  have hi := gi_1 h; replace h := gi_2 h
  refine va_iald hx hb hK hP 5 0 rfl rfl hi dX2_isFull_15 ?_
  refine lv_aload_n hx hb dX2_isFull_16 rfl (lv_at hl 1 rfl) ?_
  refine va_get (D := D) (ci := 6) (v := .ref h_p1_settings) (C := RX6) (T := TX6) (N := 4) hx hb hts hinX6 hown hK hP 2 rfl rfl 3 (by decide) wf98 (fun _ h9 => h9) rfl dX2_isFull_17 ?_
  refine lv_iconst (v := 2) hx hb dX2_isFull_20 (by decide) ?_
  have hi : vp_in 2 4 := vp_in_iff.mpr (by decide)
  refine va_iald hx hb hK hP 3 0 rfl rfl hi dX2_isFull_21 ?_
  refine lv_icmp_lt (tgt := 29) hx hb dX2_isFull_22 (by decide) (fun hc => ?_) (fun hc => ?_)
  · replace h := it_1 h hc
    refine lv_iconst (v := 0) hx hb dX2_isFull_29 (by decide) ?_
    have e0 := ret1 h
    subst e0
    exact rt_i hx hb hr hlk rfl hK hP hD hS dX2_isFull_30
  · replace h := it_0 h hc
    refine lv_iconst (v := 1) hx hb dX2_isFull_25 (by decide) ?_
    refine lv_goto (tgt := 30) hx hb dX2_isFull_26 (by decide) ?_
    have e0 := ret1 h
    subst e0
    exact rt_i hx hb hr hlk rfl hK hP hD hS dX2_isFull_30
abbrev rm_X2_openMenu : Room := { frames := 2, cells := 0, slots := 0, locals := 44 }
set_option maxHeartbeats 4000000 in
set_option maxRecDepth 100000 in
theorem c_X2_openMenu (l : Launch) (D : va_G) (cy : Nat → ClassId) (h_this h_open h_seen h_p2 h_p2_counts h_p2_words h_p2_settings h_p3 h_p3_sizes h_p3_above h_p3_placeAbove h_p3_items h_p3_home h_p3_placeHome h_p3_tally : Nat)    (sz : Nat) (f_faultNumber : Int32) (f_faultPlace : Int32) (f_depth : Int32) (f_seenCount : Int32) (g_open : Nat → Int32) (f_p2_size : Int32) (g_p2_settings : Nat → Int32) (f_p3_lists : Int32) (g_p3_sizes : Nat → Int32) (g_p3_above : Nat → Int32) (g_p3_placeAbove : Nat → Int32) (g_p3_items : Nat → Int32) (a1 : Int32)  (o_f_faultNumber : Int32) (o_f_faultPlace : Int32) (o_f_depth : Int32) (o_g_open : Nat → Int32) (o_f_p3_lists : Int32) (o_g_p3_sizes : Nat → Int32) (o_g_p3_above : Nat → Int32) (o_g_p3_placeAbove : Nat → Int32) (o_g_p3_items : Nat → Int32) (hf : f_X2_openMenu g_p2_settings f_faultNumber f_faultPlace f_depth g_open f_p3_lists g_p3_sizes g_p3_above g_p3_placeAbove g_p3_items a1 = some (o_f_faultNumber, o_f_faultPlace, o_f_depth, o_g_open, o_f_p3_lists, o_g_p3_sizes, o_g_p3_above, o_g_p3_placeAbove, o_g_p3_items)) : MV l yX2_openMenu wsX2_openMenu rm_X2_openMenu D cy [.ref h_this, .int a1, .ref h_p2, .ref h_p3] sz [(h_this, .inr (2, [.int f_faultNumber, .int f_faultPlace, .ref h_open, .int f_depth, .ref h_seen, .int f_seenCount])), (h_open, .inl (cy 0, 40, .inl g_open)), (h_p2, .inr (6, [.int f_p2_size, .ref h_p2_counts, .ref h_p2_words, .ref h_p2_settings])), (h_p2_settings, .inl (cy 0, 4, .inl g_p2_settings)), (h_p3, .inr (5, [.int f_p3_lists, .ref h_p3_sizes, .ref h_p3_above, .ref h_p3_placeAbove, .ref h_p3_items, .ref h_p3_home, .ref h_p3_placeHome, .ref h_p3_tally])), (h_p3_sizes, .inl (cy 0, 80, .inl g_p3_sizes)), (h_p3_above, .inl (cy 0, 80, .inl g_p3_above)), (h_p3_placeAbove, .inl (cy 0, 80, .inl g_p3_placeAbove)), (h_p3_items, .inl (cy 0, 720, .inl g_p3_items))] [(h_this, .inr (2, [.int o_f_faultNumber, .int o_f_faultPlace, .ref h_open, .int o_f_depth, .ref h_seen, .int f_seenCount])), (h_open, .inl (cy 0, 40, .inl o_g_open)), (h_p2, .inr (6, [.int f_p2_size, .ref h_p2_counts, .ref h_p2_words, .ref h_p2_settings])), (h_p2_settings, .inl (cy 0, 4, .inl g_p2_settings)), (h_p3, .inr (5, [.int o_f_p3_lists, .ref h_p3_sizes, .ref h_p3_above, .ref h_p3_placeAbove, .ref h_p3_items, .ref h_p3_home, .ref h_p3_placeHome, .ref h_p3_tally])), (h_p3_sizes, .inl (cy 0, 80, .inl o_g_p3_sizes)), (h_p3_above, .inl (cy 0, 80, .inl o_g_p3_above)), (h_p3_placeAbove, .inl (cy 0, 80, .inl o_g_p3_placeAbove)), (h_p3_items, .inl (cy 0, 720, .inl o_g_p3_items))] := by
  refine MV.of (cc := cX2_openMenu) (maxL := 5) (ret := none) (by decide) rfl (Nat.le_of_ble_eq_true rfl) ?_
  intro p e s m below meth c A ls hx hb hml hown hts hlk hr hK hA hP hD hS hl
  have h := hf
  unfold f_X2_openMenu at h
  have wf22 := hts (.fieldLink RX2 22 "MenuPlanner$Reader" "depth" "I") (by decide +kernel)
  have hinX2 := (by decide +kernel : ∀ w ∈ u_ws RX2 TX2 6, w ∈ wsX2_openMenu)
  have wf18 := hts (.fieldLink RX2 18 "MenuPlanner$Reader" "open" "[I") (by decide +kernel)
  replace hl : lv_has ls 5 [(0, .ref h_this), (1, .int a1), (2, .ref h_p2), (3, .ref h_p3)] := hl
  have L18 : ∀ (f_faultNumber : Int32) (f_faultPlace : Int32) (f_depth : Int32) (g_open : Nat → Int32) (f_p3_lists : Int32) (g_p3_sizes : Nat → Int32) (g_p3_above : Nat → Int32) (g_p3_placeAbove : Nat → Int32) (g_p3_items : Nat → Int32) (x1 : Int32), f_X2_openMenu_L18 f_faultNumber f_faultPlace f_depth g_open f_p3_lists g_p3_sizes g_p3_above g_p3_placeAbove g_p3_items x1 = some (o_f_faultNumber, o_f_faultPlace, o_f_depth, o_g_open, o_f_p3_lists, o_g_p3_sizes, o_g_p3_above, o_g_p3_placeAbove, o_g_p3_items) → ∀ (H : Heap) (locs : List Loc) (ls : Array Slot), va_P D vwCl [(h_this, .inr (2, [.int f_faultNumber, .int f_faultPlace, .ref h_open, .int f_depth, .ref h_seen, .int f_seenCount])), (h_open, .inl (cy 0, 40, .inl g_open)), (h_p2, .inr (6, [.int f_p2_size, .ref h_p2_counts, .ref h_p2_words, .ref h_p2_settings])), (h_p2_settings, .inl (cy 0, 4, .inl g_p2_settings)), (h_p3, .inr (5, [.int f_p3_lists, .ref h_p3_sizes, .ref h_p3_above, .ref h_p3_placeAbove, .ref h_p3_items, .ref h_p3_home, .ref h_p3_placeHome, .ref h_p3_tally])), (h_p3_sizes, .inl (cy 0, 80, .inl g_p3_sizes)), (h_p3_above, .inl (cy 0, 80, .inl g_p3_above)), (h_p3_placeAbove, .inl (cy 0, 80, .inl g_p3_placeAbove)), (h_p3_items, .inl (cy 0, 720, .inl g_p3_items))] H → va_D A [(h_this, .inr (2, [.int f_faultNumber, .int f_faultPlace, .ref h_open, .int f_depth, .ref h_seen, .int f_seenCount])), (h_open, .inl (cy 0, 40, .inl g_open)), (h_p2, .inr (6, [.int f_p2_size, .ref h_p2_counts, .ref h_p2_words, .ref h_p2_settings])), (h_p2_settings, .inl (cy 0, 4, .inl g_p2_settings)), (h_p3, .inr (5, [.int f_p3_lists, .ref h_p3_sizes, .ref h_p3_above, .ref h_p3_placeAbove, .ref h_p3_items, .ref h_p3_home, .ref h_p3_placeHome, .ref h_p3_tally])), (h_p3_sizes, .inl (cy 0, 80, .inl g_p3_sizes)), (h_p3_above, .inl (cy 0, 80, .inl g_p3_above)), (h_p3_placeAbove, .inl (cy 0, 80, .inl g_p3_placeAbove)), (h_p3_items, .inl (cy 0, 720, .inl g_p3_items))] → va_S A s.heap H locs → lv_has ls 5 [(0, .ref h_this), (1, .int x1)] → W p l e rm_X2_openMenu s m ([.ref h_this, .int a1, .ref h_p2, .ref h_p3]).toArray below meth c H locs 0 0 (MQ below (QV D cy A [(h_this, .inr (2, [.int o_f_faultNumber, .int o_f_faultPlace, .ref h_open, .int o_f_depth, .ref h_seen, .int f_seenCount])), (h_open, .inl (cy 0, 40, .inl o_g_open)), (h_p2, .inr (6, [.int f_p2_size, .ref h_p2_counts, .ref h_p2_words, .ref h_p2_settings])), (h_p2_settings, .inl (cy 0, 4, .inl g_p2_settings)), (h_p3, .inr (5, [.int o_f_p3_lists, .ref h_p3_sizes, .ref h_p3_above, .ref h_p3_placeAbove, .ref h_p3_items, .ref h_p3_home, .ref h_p3_placeHome, .ref h_p3_tally])), (h_p3_sizes, .inl (cy 0, 80, .inl o_g_p3_sizes)), (h_p3_above, .inl (cy 0, 80, .inl o_g_p3_above)), (h_p3_placeAbove, .inl (cy 0, 80, .inl o_g_p3_placeAbove)), (h_p3_items, .inl (cy 0, 720, .inl o_g_p3_items))]) ([.ref h_this, .int a1, .ref h_p2, .ref h_p3]).toArray s 0 0 A) (F0 m 18 ls []) := by
    intro f_faultNumber f_faultPlace f_depth g_open f_p3_lists g_p3_sizes g_p3_above g_p3_placeAbove g_p3_items x1 h H locs ls hP hD hS hl
    unfold f_X2_openMenu_L18 at h
    refine lv_aload_n hx hb dX2_openMenu_18 rfl (lv_at hl 0 rfl) ?_
    refine lv_iconst (v := 4) hx hb dX2_openMenu_19 (by decide) ?_
    refine lv_iload_n hx hb dX2_openMenu_20 rfl (lv_at hl 1 rfl) ?_
    obtain ⟨f_faultNumber_1, f_faultPlace_2, hu, h⟩ := ob2_1 h
    refine cl_Vv (As := [.int 4, .int x1]) (rest := []) [0] [1, 2, 3, 4, 5, 6, 7, 8] [8, 0, 1, 2, 3, 4, 5, 6, 7] [(h_open, .inl (cy 0, 40, .inl g_open)), (h_p2, .inr (6, [.int f_p2_size, .ref h_p2_counts, .ref h_p2_words, .ref h_p2_settings])), (h_p2_settings, .inl (cy 0, 4, .inl g_p2_settings)), (h_p3, .inr (5, [.int f_p3_lists, .ref h_p3_sizes, .ref h_p3_above, .ref h_p3_placeAbove, .ref h_p3_items, .ref h_p3_home, .ref h_p3_placeHome, .ref h_p3_tally])), (h_p3_sizes, .inl (cy 0, 80, .inl g_p3_sizes)), (h_p3_above, .inl (cy 0, 80, .inl g_p3_above)), (h_p3_placeAbove, .inl (cy 0, 80, .inl g_p3_placeAbove)), (h_p3_items, .inl (cy 0, 720, .inl g_p3_items))] [(h_this, .inr (2, [.int f_faultNumber_1, .int f_faultPlace_2, .ref h_open, .int f_depth, .ref h_seen, .int f_seenCount])), (h_open, .inl (cy 0, 40, .inl g_open)), (h_p2, .inr (6, [.int f_p2_size, .ref h_p2_counts, .ref h_p2_words, .ref h_p2_settings])), (h_p2_settings, .inl (cy 0, 4, .inl g_p2_settings)), (h_p3, .inr (5, [.int f_p3_lists, .ref h_p3_sizes, .ref h_p3_above, .ref h_p3_placeAbove, .ref h_p3_items, .ref h_p3_home, .ref h_p3_placeHome, .ref h_p3_tally])), (h_p3_sizes, .inl (cy 0, 80, .inl g_p3_sizes)), (h_p3_above, .inl (cy 0, 80, .inl g_p3_above)), (h_p3_placeAbove, .inl (cy 0, 80, .inl g_p3_placeAbove)), (h_p3_items, .inl (cy 0, 720, .inl g_p3_items))] 2 ⟨hx, hb, hml, hown, hts⟩ (c_X2_refuse (l := l) (D := D) (cy := cy) (sz := _) (h_this := h_this) (h_open := h_open) (h_seen := h_seen) (f_faultNumber := f_faultNumber) (f_faultPlace := f_faultPlace) (f_depth := f_depth) (f_seenCount := f_seenCount) (a1 := 4) (a2 := x1) (o_f_faultNumber := f_faultNumber_1) (o_f_faultPlace := f_faultPlace_2) (hf := hu)) (cwV 2 hts gX2_openMenu_X2_refuse rfl rfl rfl (by decide +kernel) ⟨Nat.le_of_ble_eq_true rfl, Nat.le_of_ble_eq_true rfl⟩) hK hP hD hS hA rfl rfl rfl rfl (by decide) rfl rfl rfl rfl rfl rfl rfl rfl hl.1 rfl (Nat.le_of_ble_eq_true rfl) dX2_openMenu_21 ⟨Nat.zero_le _, Nat.zero_le _⟩ (fun H locs hP hD hS => ?_)
    obtain ⟨e0, e1, e2, e3, e4, e5, e6, e7, e8⟩ := ret9 h
    subst e0
    subst e1
    subst e2
    subst e3
    subst e4
    subst e5
    subst e6
    subst e7
    subst e8
    exact rt_v hx hb hr hlk hK hP hD hS dX2_openMenu_24
  clear hf
  refine lv_aload_n hx hb dX2_openMenu_0 rfl (lv_at hl 0 rfl) ?_
  refine va_get (D := D) (ci := 2) (v := .int f_depth) (C := RX2) (T := TX2) (N := 6) hx hb hts hinX2 hown hK hP 0 rfl rfl 3 (by decide) wf22 (fun _ h9 => h9) rfl dX2_openMenu_1 ?_
  refine lv_bipush (v := 40) hx hb dX2_openMenu_4 (by decide) ?_
  refine lv_icmp_ge (tgt := 18) hx hb dX2_openMenu_6 (by decide) (fun hc => ?_) (fun hc => ?_)
  · replace h := it_1 h hc
    exact L18 _ _ _ _ _ _ _ _ _ _ h _ _ _ hP hD hS (lv_sub hl [0, 1] rfl)
  · replace h := it_0 h hc
    refine lv_aload_n hx hb dX2_openMenu_9 rfl (lv_at hl 0 rfl) ?_
    refine lv_aload_n hx hb dX2_openMenu_10 rfl (lv_at hl 2 rfl) ?_
    refine lv_aload_n hx hb dX2_openMenu_11 rfl (lv_at hl 3 rfl) ?_
    obtain ⟨r_3, hu, h⟩ := ob_1 h
    refine cl_Vi (As := [.ref h_p2, .ref h_p3]) (rest := []) [0, 1, 2, 3, 4, 5] [6, 7, 8] [3, 4, 5, 6, 7, 8, 0, 1, 2] [(h_p3_above, .inl (cy 0, 80, .inl g_p3_above)), (h_p3_placeAbove, .inl (cy 0, 80, .inl g_p3_placeAbove)), (h_p3_items, .inl (cy 0, 720, .inl g_p3_items))] [(h_this, .inr (2, [.int f_faultNumber, .int f_faultPlace, .ref h_open, .int f_depth, .ref h_seen, .int f_seenCount])), (h_open, .inl (cy 0, 40, .inl g_open)), (h_p2, .inr (6, [.int f_p2_size, .ref h_p2_counts, .ref h_p2_words, .ref h_p2_settings])), (h_p2_settings, .inl (cy 0, 4, .inl g_p2_settings)), (h_p3, .inr (5, [.int f_p3_lists, .ref h_p3_sizes, .ref h_p3_above, .ref h_p3_placeAbove, .ref h_p3_items, .ref h_p3_home, .ref h_p3_placeHome, .ref h_p3_tally])), (h_p3_sizes, .inl (cy 0, 80, .inl g_p3_sizes)), (h_p3_above, .inl (cy 0, 80, .inl g_p3_above)), (h_p3_placeAbove, .inl (cy 0, 80, .inl g_p3_placeAbove)), (h_p3_items, .inl (cy 0, 720, .inl g_p3_items))] 2 ⟨hx, hb, hml, hown, hts⟩ (c_X2_isFull (l := l) (D := D) (cy := cy) (sz := _) (h_p1_settings := h_p2_settings) (h_p2 := h_p3) (h_p1 := h_p2) (h_this := h_this) (h_p2_sizes := h_p3_sizes) (h_open := h_open) (h_p2_above := h_p3_above) (h_p2_placeAbove := h_p3_placeAbove) (h_p2_items := h_p3_items) (h_p2_home := h_p3_home) (h_p2_placeHome := h_p3_placeHome) (h_p2_tally := h_p3_tally) (h_p1_counts := h_p2_counts) (h_p1_words := h_p2_words) (h_seen := h_seen) (f_faultNumber := f_faultNumber) (f_faultPlace := f_faultPlace) (f_depth := f_depth) (f_seenCount := f_seenCount) (g_open := g_open) (f_p1_size := f_p2_size) (g_p1_settings := g_p2_settings) (f_p2_lists := f_p3_lists) (g_p2_sizes := g_p3_sizes) (r0 := r_3) (hf := hu)) (cwV 2 hts gX2_openMenu_X2_isFull rfl rfl rfl (by decide +kernel) ⟨Nat.le_of_ble_eq_true rfl, Nat.le_of_ble_eq_true rfl⟩) hK hP hD hS hA rfl rfl rfl rfl (by decide) rfl rfl rfl rfl rfl rfl rfl rfl hl.1 rfl (Nat.le_of_ble_eq_true rfl) dX2_openMenu_12 ⟨Nat.zero_le _, Nat.zero_le _⟩ (fun H locs hP hD hS => ?_)
    refine lv_if_eq (tgt := 25) hx hb dX2_openMenu_15 (by decide) (fun hc => ?_) (fun hc => ?_)
    · replace h := it_1 h hc
      refine lv_aload_n hx hb dX2_openMenu_25 rfl (lv_at hl 3 rfl) ?_
      refine lv_aload_n hx hb dX2_openMenu_26 rfl (lv_at hl 0 rfl) ?_
      refine va_get (D := D) (ci := 2) (v := .ref h_open) (C := RX2) (T := TX2) (N := 6) hx hb hts hinX2 hown hK hP 0 rfl rfl 2 (by decide) wf18 (fun _ h9 => h9) rfl dX2_openMenu_27 ?_
      refine lv_aload_n hx hb dX2_openMenu_30 rfl (lv_at hl 0 rfl) ?_
      refine va_get (D := D) (ci := 2) (v := .int f_depth) (C := RX2) (T := TX2) (N := 6) hx hb hts hinX2 hown hK hP 0 rfl rfl 3 (by decide) wf22 (fun _ h9 => h9) rfl dX2_openMenu_31 ?_
      refine lv_iconst (v := 1) hx hb dX2_openMenu_34 (by decide) ?_
      refine lv_isub hx hb dX2_openMenu_35 ?_
      have hi := gi_1 h; replace h := gi_2 h
      refine va_iald hx hb hK hP 1 0 rfl rfl hi dX2_openMenu_36 ?_
      obtain ⟨r_9, f_p3_lists_4, g_p3_sizes_5, g_p3_above_6, g_p3_placeAbove_7, g_p3_items_8, hu, h⟩ := ob6_1 h
      refine cl_Vi (As := [.int (g_open (Int32.toNatClampNeg (f_depth - 1)))]) (rest := []) [4, 5, 6, 7, 8] [0, 1, 2, 3] [0, 1, 2, 3, 4, 5, 6, 7, 8] [(h_this, .inr (2, [.int f_faultNumber, .int f_faultPlace, .ref h_open, .int f_depth, .ref h_seen, .int f_seenCount])), (h_open, .inl (cy 0, 40, .inl g_open)), (h_p2, .inr (6, [.int f_p2_size, .ref h_p2_counts, .ref h_p2_words, .ref h_p2_settings])), (h_p2_settings, .inl (cy 0, 4, .inl g_p2_settings))] [(h_this, .inr (2, [.int f_faultNumber, .int f_faultPlace, .ref h_open, .int f_depth, .ref h_seen, .int f_seenCount])), (h_open, .inl (cy 0, 40, .inl g_open)), (h_p2, .inr (6, [.int f_p2_size, .ref h_p2_counts, .ref h_p2_words, .ref h_p2_settings])), (h_p2_settings, .inl (cy 0, 4, .inl g_p2_settings)), (h_p3, .inr (5, [.int f_p3_lists_4, .ref h_p3_sizes, .ref h_p3_above, .ref h_p3_placeAbove, .ref h_p3_items, .ref h_p3_home, .ref h_p3_placeHome, .ref h_p3_tally])), (h_p3_sizes, .inl (cy 0, 80, .inl g_p3_sizes_5)), (h_p3_above, .inl (cy 0, 80, .inl g_p3_above_6)), (h_p3_placeAbove, .inl (cy 0, 80, .inl g_p3_placeAbove_7)), (h_p3_items, .inl (cy 0, 720, .inl g_p3_items_8))] 5 ⟨hx, hb, hml, hown, hts⟩ (c_X5_addMenu (l := l) (D := D) (cy := cy) (sz := _) (h_sizes := h_p3_sizes) (h_placeAbove := h_p3_placeAbove) (h_this := h_p3) (h_above := h_p3_above) (h_items := h_p3_items) (h_home := h_p3_home) (h_placeHome := h_p3_placeHome) (h_tally := h_p3_tally) (f_lists := f_p3_lists) (g_sizes := g_p3_sizes) (g_above := g_p3_above) (g_placeAbove := g_p3_placeAbove) (g_items := g_p3_items) (a1 := (g_open (Int32.toNatClampNeg (f_depth - 1)))) (r0 := r_9) (o_f_lists := f_p3_lists_4) (o_g_sizes := g_p3_sizes_5) (o_g_above := g_p3_above_6) (o_g_placeAbove := g_p3_placeAbove_7) (o_g_items := g_p3_items_8) (hf := hu)) (cwV 1 hts gX2_openMenu_X5_addMenu rfl rfl rfl (by decide +kernel) ⟨Nat.le_of_ble_eq_true rfl, Nat.le_of_ble_eq_true rfl⟩) hK hP hD hS hA rfl rfl rfl rfl (by decide) rfl rfl rfl rfl rfl rfl rfl rfl hl.1 rfl (Nat.le_of_ble_eq_true rfl) dX2_openMenu_37 ⟨Nat.zero_le _, Nat.zero_le _⟩ (fun H locs hP hD hS => ?_)
      refine lv_istore (lv' := [(4, .int r_9), (0, .ref h_this), (1, .int a1), (2, .ref h_p2), (3, .ref h_p3)]) hx hb dX2_openMenu_40 hl (by decide) rfl (fun ls hl => ?_)
      refine lv_iload hx hb dX2_openMenu_42 (lv_at hl 0 rfl) ?_
      refine lv_iconst (v := (-1)) hx hb dX2_openMenu_44 (by decide) ?_
      refine lv_icmp_ne (tgt := 55) hx hb dX2_openMenu_45 (by decide) (fun hc => ?_) (fun hc => ?_)
      · replace h := it_0 h hc
        refine lv_aload_n hx hb dX2_openMenu_55 rfl (lv_at hl 1 rfl) ?_
        refine va_get (D := D) (ci := 2) (v := .ref h_open) (C := RX2) (T := TX2) (N := 6) hx hb hts hinX2 hown hK hP 0 rfl rfl 2 (by decide) wf18 (fun _ h9 => h9) rfl dX2_openMenu_56 ?_
        refine lv_aload_n hx hb dX2_openMenu_59 rfl (lv_at hl 1 rfl) ?_
        refine va_get (D := D) (ci := 2) (v := .int f_depth) (C := RX2) (T := TX2) (N := 6) hx hb hts hinX2 hown hK hP 0 rfl rfl 3 (by decide) wf22 (fun _ h9 => h9) rfl dX2_openMenu_60 ?_
        refine lv_iload hx hb dX2_openMenu_63 (lv_at hl 0 rfl) ?_
        have hi := gi_1 h; replace h := gi_2 h
        refine va_iast hx hb hK hP hD hS 1 0 rfl rfl hi dX2_openMenu_65 (fun H locs hP hD hS => ?_)
        replace hP : va_P D vwCl [(h_this, .inr (2, [.int f_faultNumber, .int f_faultPlace, .ref h_open, .int f_depth, .ref h_seen, .int f_seenCount])), (h_open, .inl (cy 0, 40, .inl (upd g_open (Int32.toNatClampNeg f_depth) r_9))), (h_p2, .inr (6, [.int f_p2_size, .ref h_p2_counts, .ref h_p2_words, .ref h_p2_settings])), (h_p2_settings, .inl (cy 0, 4, .inl g_p2_settings)), (h_p3, .inr (5, [.int f_p3_lists_4, .ref h_p3_sizes, .ref h_p3_above, .ref h_p3_placeAbove, .ref h_p3_items, .ref h_p3_home, .ref h_p3_placeHome, .ref h_p3_tally])), (h_p3_sizes, .inl (cy 0, 80, .inl g_p3_sizes_5)), (h_p3_above, .inl (cy 0, 80, .inl g_p3_above_6)), (h_p3_placeAbove, .inl (cy 0, 80, .inl g_p3_placeAbove_7)), (h_p3_items, .inl (cy 0, 720, .inl g_p3_items_8))] H := hP
        replace hD : va_D A [(h_this, .inr (2, [.int f_faultNumber, .int f_faultPlace, .ref h_open, .int f_depth, .ref h_seen, .int f_seenCount])), (h_open, .inl (cy 0, 40, .inl (upd g_open (Int32.toNatClampNeg f_depth) r_9))), (h_p2, .inr (6, [.int f_p2_size, .ref h_p2_counts, .ref h_p2_words, .ref h_p2_settings])), (h_p2_settings, .inl (cy 0, 4, .inl g_p2_settings)), (h_p3, .inr (5, [.int f_p3_lists_4, .ref h_p3_sizes, .ref h_p3_above, .ref h_p3_placeAbove, .ref h_p3_items, .ref h_p3_home, .ref h_p3_placeHome, .ref h_p3_tally])), (h_p3_sizes, .inl (cy 0, 80, .inl g_p3_sizes_5)), (h_p3_above, .inl (cy 0, 80, .inl g_p3_above_6)), (h_p3_placeAbove, .inl (cy 0, 80, .inl g_p3_placeAbove_7)), (h_p3_items, .inl (cy 0, 720, .inl g_p3_items_8))] := hD
        refine lv_aload_n hx hb dX2_openMenu_66 rfl (lv_at hl 1 rfl) ?_
        refine lv_dup hx hb dX2_openMenu_67 rfl ?_
        refine va_get (D := D) (ci := 2) (v := .int f_depth) (C := RX2) (T := TX2) (N := 6) hx hb hts hinX2 hown hK hP 0 rfl rfl 3 (by decide) wf22 (fun _ h9 => h9) rfl dX2_openMenu_68 ?_
        refine lv_iconst (v := 1) hx hb dX2_openMenu_71 (by decide) ?_
        refine lv_iadd hx hb dX2_openMenu_72 ?_
        refine va_put (D := D) (ci := 2) (v := .int (f_depth + 1)) (ty := .int) (C := RX2) (T := TX2) (N := 6) hx hb hts hinX2 tyX2 tyX2_ok nmX2 hown hK hP hD hS 0 rfl rfl 3 (by decide) wf22 (fun _ h9 => h9) rfl (by decide +kernel) rfl rfl (Nat.le_of_ble_eq_true rfl) dX2_openMenu_73 (fun H locs hP hD hS => ?_)
        replace hP : va_P D vwCl [(h_this, .inr (2, [.int f_faultNumber, .int f_faultPlace, .ref h_open, .int (f_depth + 1), .ref h_seen, .int f_seenCount])), (h_open, .inl (cy 0, 40, .inl (upd g_open (Int32.toNatClampNeg f_depth) r_9))), (h_p2, .inr (6, [.int f_p2_size, .ref h_p2_counts, .ref h_p2_words, .ref h_p2_settings])), (h_p2_settings, .inl (cy 0, 4, .inl g_p2_settings)), (h_p3, .inr (5, [.int f_p3_lists_4, .ref h_p3_sizes, .ref h_p3_above, .ref h_p3_placeAbove, .ref h_p3_items, .ref h_p3_home, .ref h_p3_placeHome, .ref h_p3_tally])), (h_p3_sizes, .inl (cy 0, 80, .inl g_p3_sizes_5)), (h_p3_above, .inl (cy 0, 80, .inl g_p3_above_6)), (h_p3_placeAbove, .inl (cy 0, 80, .inl g_p3_placeAbove_7)), (h_p3_items, .inl (cy 0, 720, .inl g_p3_items_8))] H := hP
        replace hD : va_D A [(h_this, .inr (2, [.int f_faultNumber, .int f_faultPlace, .ref h_open, .int (f_depth + 1), .ref h_seen, .int f_seenCount])), (h_open, .inl (cy 0, 40, .inl (upd g_open (Int32.toNatClampNeg f_depth) r_9))), (h_p2, .inr (6, [.int f_p2_size, .ref h_p2_counts, .ref h_p2_words, .ref h_p2_settings])), (h_p2_settings, .inl (cy 0, 4, .inl g_p2_settings)), (h_p3, .inr (5, [.int f_p3_lists_4, .ref h_p3_sizes, .ref h_p3_above, .ref h_p3_placeAbove, .ref h_p3_items, .ref h_p3_home, .ref h_p3_placeHome, .ref h_p3_tally])), (h_p3_sizes, .inl (cy 0, 80, .inl g_p3_sizes_5)), (h_p3_above, .inl (cy 0, 80, .inl g_p3_above_6)), (h_p3_placeAbove, .inl (cy 0, 80, .inl g_p3_placeAbove_7)), (h_p3_items, .inl (cy 0, 720, .inl g_p3_items_8))] := hD
        obtain ⟨e0, e1, e2, e3, e4, e5, e6, e7, e8⟩ := ret9 h
        subst e0
        subst e1
        subst e2
        subst e3
        subst e4
        subst e5
        subst e6
        subst e7
        subst e8
        exact rt_v hx hb hr hlk hK hP hD hS dX2_openMenu_76
      · replace h := it_1 h hc
        refine lv_aload_n hx hb dX2_openMenu_48 rfl (lv_at hl 1 rfl) ?_
        refine lv_iconst (v := 4) hx hb dX2_openMenu_49 (by decide) ?_
        refine lv_iload_n hx hb dX2_openMenu_50 rfl (lv_at hl 2 rfl) ?_
        obtain ⟨f_faultNumber_10, f_faultPlace_11, hu, h⟩ := ob2_1 h
        refine cl_Vv (As := [.int 4, .int a1]) (rest := []) [0] [1, 2, 3, 4, 5, 6, 7, 8] [8, 0, 1, 2, 3, 4, 5, 6, 7] [(h_open, .inl (cy 0, 40, .inl g_open)), (h_p2, .inr (6, [.int f_p2_size, .ref h_p2_counts, .ref h_p2_words, .ref h_p2_settings])), (h_p2_settings, .inl (cy 0, 4, .inl g_p2_settings)), (h_p3, .inr (5, [.int f_p3_lists_4, .ref h_p3_sizes, .ref h_p3_above, .ref h_p3_placeAbove, .ref h_p3_items, .ref h_p3_home, .ref h_p3_placeHome, .ref h_p3_tally])), (h_p3_sizes, .inl (cy 0, 80, .inl g_p3_sizes_5)), (h_p3_above, .inl (cy 0, 80, .inl g_p3_above_6)), (h_p3_placeAbove, .inl (cy 0, 80, .inl g_p3_placeAbove_7)), (h_p3_items, .inl (cy 0, 720, .inl g_p3_items_8))] [(h_this, .inr (2, [.int f_faultNumber_10, .int f_faultPlace_11, .ref h_open, .int f_depth, .ref h_seen, .int f_seenCount])), (h_open, .inl (cy 0, 40, .inl g_open)), (h_p2, .inr (6, [.int f_p2_size, .ref h_p2_counts, .ref h_p2_words, .ref h_p2_settings])), (h_p2_settings, .inl (cy 0, 4, .inl g_p2_settings)), (h_p3, .inr (5, [.int f_p3_lists_4, .ref h_p3_sizes, .ref h_p3_above, .ref h_p3_placeAbove, .ref h_p3_items, .ref h_p3_home, .ref h_p3_placeHome, .ref h_p3_tally])), (h_p3_sizes, .inl (cy 0, 80, .inl g_p3_sizes_5)), (h_p3_above, .inl (cy 0, 80, .inl g_p3_above_6)), (h_p3_placeAbove, .inl (cy 0, 80, .inl g_p3_placeAbove_7)), (h_p3_items, .inl (cy 0, 720, .inl g_p3_items_8))] 2 ⟨hx, hb, hml, hown, hts⟩ (c_X2_refuse (l := l) (D := D) (cy := cy) (sz := _) (h_this := h_this) (h_open := h_open) (h_seen := h_seen) (f_faultNumber := f_faultNumber) (f_faultPlace := f_faultPlace) (f_depth := f_depth) (f_seenCount := f_seenCount) (a1 := 4) (a2 := a1) (o_f_faultNumber := f_faultNumber_10) (o_f_faultPlace := f_faultPlace_11) (hf := hu)) (cwV 2 hts gX2_openMenu_X2_refuse rfl rfl rfl (by decide +kernel) ⟨Nat.le_of_ble_eq_true rfl, Nat.le_of_ble_eq_true rfl⟩) hK hP hD hS hA rfl rfl rfl rfl (by decide) rfl rfl rfl rfl rfl rfl rfl rfl hl.1 rfl (Nat.le_of_ble_eq_true rfl) dX2_openMenu_51 ⟨Nat.zero_le _, Nat.zero_le _⟩ (fun H locs hP hD hS => ?_)
        obtain ⟨e0, e1, e2, e3, e4, e5, e6, e7, e8⟩ := ret9 h
        subst e0
        subst e1
        subst e2
        subst e3
        subst e4
        subst e5
        subst e6
        subst e7
        subst e8
        exact rt_v hx hb hr hlk hK hP hD hS dX2_openMenu_54
    · replace h := it_0 h hc
      exact L18 _ _ _ _ _ _ _ _ _ _ h _ _ _ hP hD hS (lv_sub hl [0, 1] rfl)
abbrev rm_X2_openList : Room := { frames := 3, cells := 0, slots := 0, locals := 68 }
set_option maxHeartbeats 4000000 in
set_option maxRecDepth 100000 in
theorem c_X2_openList (l : Launch) (D : va_G) (cy : Nat → ClassId) (h_this h_open h_seen h_p2 h_p2_counts h_p2_words h_p2_settings h_p3 h_p3_sizes h_p3_above h_p3_placeAbove h_p3_items h_p3_home h_p3_placeHome h_p3_tally : Nat)    (sz : Nat) (f_faultNumber : Int32) (f_faultPlace : Int32) (f_depth : Int32) (f_seenCount : Int32) (g_open : Nat → Int32) (f_p2_size : Int32) (g_p2_settings : Nat → Int32) (f_p3_lists : Int32) (g_p3_sizes : Nat → Int32) (g_p3_above : Nat → Int32) (g_p3_placeAbove : Nat → Int32) (g_p3_items : Nat → Int32) (a1 : Int32)  (o_f_faultNumber : Int32) (o_f_faultPlace : Int32) (o_f_depth : Int32) (o_g_open : Nat → Int32) (o_f_p3_lists : Int32) (o_g_p3_sizes : Nat → Int32) (o_g_p3_above : Nat → Int32) (o_g_p3_placeAbove : Nat → Int32) (o_g_p3_items : Nat → Int32) (hf : f_X2_openList g_p2_settings f_faultNumber f_faultPlace f_depth g_open f_p3_lists g_p3_sizes g_p3_above g_p3_placeAbove g_p3_items a1 = some (o_f_faultNumber, o_f_faultPlace, o_f_depth, o_g_open, o_f_p3_lists, o_g_p3_sizes, o_g_p3_above, o_g_p3_placeAbove, o_g_p3_items)) : MV l yX2_openList wsX2_openList rm_X2_openList D cy [.ref h_this, .int a1, .ref h_p2, .ref h_p3] sz [(h_this, .inr (2, [.int f_faultNumber, .int f_faultPlace, .ref h_open, .int f_depth, .ref h_seen, .int f_seenCount])), (h_open, .inl (cy 0, 40, .inl g_open)), (h_p2, .inr (6, [.int f_p2_size, .ref h_p2_counts, .ref h_p2_words, .ref h_p2_settings])), (h_p2_settings, .inl (cy 0, 4, .inl g_p2_settings)), (h_p3, .inr (5, [.int f_p3_lists, .ref h_p3_sizes, .ref h_p3_above, .ref h_p3_placeAbove, .ref h_p3_items, .ref h_p3_home, .ref h_p3_placeHome, .ref h_p3_tally])), (h_p3_sizes, .inl (cy 0, 80, .inl g_p3_sizes)), (h_p3_above, .inl (cy 0, 80, .inl g_p3_above)), (h_p3_placeAbove, .inl (cy 0, 80, .inl g_p3_placeAbove)), (h_p3_items, .inl (cy 0, 720, .inl g_p3_items))] [(h_this, .inr (2, [.int o_f_faultNumber, .int o_f_faultPlace, .ref h_open, .int o_f_depth, .ref h_seen, .int f_seenCount])), (h_open, .inl (cy 0, 40, .inl o_g_open)), (h_p2, .inr (6, [.int f_p2_size, .ref h_p2_counts, .ref h_p2_words, .ref h_p2_settings])), (h_p2_settings, .inl (cy 0, 4, .inl g_p2_settings)), (h_p3, .inr (5, [.int o_f_p3_lists, .ref h_p3_sizes, .ref h_p3_above, .ref h_p3_placeAbove, .ref h_p3_items, .ref h_p3_home, .ref h_p3_placeHome, .ref h_p3_tally])), (h_p3_sizes, .inl (cy 0, 80, .inl o_g_p3_sizes)), (h_p3_above, .inl (cy 0, 80, .inl o_g_p3_above)), (h_p3_placeAbove, .inl (cy 0, 80, .inl o_g_p3_placeAbove)), (h_p3_items, .inl (cy 0, 720, .inl o_g_p3_items))] := by
  refine MV.of (cc := cX2_openList) (maxL := 4) (ret := none) (by decide) rfl (Nat.le_of_ble_eq_true rfl) ?_
  intro p e s m below meth c A ls hx hb hml hown hts hlk hr hK hA hP hD hS hl
  have h := hf
  unfold f_X2_openList at h
  have wf22 := hts (.fieldLink RX2 22 "MenuPlanner$Reader" "depth" "I") (by decide +kernel)
  have hinX2 := (by decide +kernel : ∀ w ∈ u_ws RX2 TX2 6, w ∈ wsX2_openList)
  have wf18 := hts (.fieldLink RX2 18 "MenuPlanner$Reader" "open" "[I") (by decide +kernel)
  replace hl : lv_has ls 4 [(0, .ref h_this), (1, .int a1), (2, .ref h_p2), (3, .ref h_p3)] := hl
  clear hf
  refine lv_aload_n hx hb dX2_openList_0 rfl (lv_at hl 0 rfl) ?_
  refine va_get (D := D) (ci := 2) (v := .int f_depth) (C := RX2) (T := TX2) (N := 6) hx hb hts hinX2 hown hK hP 0 rfl rfl 3 (by decide) wf22 (fun _ h9 => h9) rfl dX2_openList_1 ?_
  refine lv_if_le (tgt := 17) hx hb dX2_openList_4 (by decide) (fun hc => ?_) (fun hc => ?_)
  · replace h := it_1 h hc
    refine lv_aload_n hx hb dX2_openList_17 rfl (lv_at hl 3 rfl) ?_
    obtain ⟨r_1, hu, h⟩ := ob_1 h
    refine cl_Vi (As := []) (rest := []) [4] [0, 1, 2, 3, 5, 6, 7, 8] [0, 1, 2, 3, 8, 4, 5, 6, 7] [(h_this, .inr (2, [.int f_faultNumber, .int f_faultPlace, .ref h_open, .int f_depth, .ref h_seen, .int f_seenCount])), (h_open, .inl (cy 0, 40, .inl g_open)), (h_p2, .inr (6, [.int f_p2_size, .ref h_p2_counts, .ref h_p2_words, .ref h_p2_settings])), (h_p2_settings, .inl (cy 0, 4, .inl g_p2_settings)), (h_p3_sizes, .inl (cy 0, 80, .inl g_p3_sizes)), (h_p3_above, .inl (cy 0, 80, .inl g_p3_above)), (h_p3_placeAbove, .inl (cy 0, 80, .inl g_p3_placeAbove)), (h_p3_items, .inl (cy 0, 720, .inl g_p3_items))] [(h_this, .inr (2, [.int f_faultNumber, .int f_faultPlace, .ref h_open, .int f_depth, .ref h_seen, .int f_seenCount])), (h_open, .inl (cy 0, 40, .inl g_open)), (h_p2, .inr (6, [.int f_p2_size, .ref h_p2_counts, .ref h_p2_words, .ref h_p2_settings])), (h_p2_settings, .inl (cy 0, 4, .inl g_p2_settings)), (h_p3, .inr (5, [.int f_p3_lists, .ref h_p3_sizes, .ref h_p3_above, .ref h_p3_placeAbove, .ref h_p3_items, .ref h_p3_home, .ref h_p3_placeHome, .ref h_p3_tally])), (h_p3_sizes, .inl (cy 0, 80, .inl g_p3_sizes)), (h_p3_above, .inl (cy 0, 80, .inl g_p3_above)), (h_p3_placeAbove, .inl (cy 0, 80, .inl g_p3_placeAbove)), (h_p3_items, .inl (cy 0, 720, .inl g_p3_items))] 5 ⟨hx, hb, hml, hown, hts⟩ (c_X5_exists (l := l) (D := D) (cy := cy) (sz := _) (h_this := h_p3) (h_sizes := h_p3_sizes) (h_above := h_p3_above) (h_placeAbove := h_p3_placeAbove) (h_items := h_p3_items) (h_home := h_p3_home) (h_placeHome := h_p3_placeHome) (h_tally := h_p3_tally) (f_lists := f_p3_lists) (r0 := r_1) (hf := hu)) (cwV 0 hts gX2_openList_X5_exists rfl rfl rfl (by decide +kernel) ⟨Nat.le_of_ble_eq_true rfl, Nat.le_of_ble_eq_true rfl⟩) hK hP hD hS hA rfl rfl rfl rfl (by decide) rfl rfl rfl rfl rfl rfl rfl rfl hl.1 rfl (Nat.le_of_ble_eq_true rfl) dX2_openList_18 ⟨Nat.zero_le _, Nat.zero_le _⟩ (fun H locs hP hD hS => ?_)
    refine lv_if_eq (tgt := 33) hx hb dX2_openList_21 (by decide) (fun hc => ?_) (fun hc => ?_)
    · replace h := it_1 h hc
      refine lv_aload_n hx hb dX2_openList_33 rfl (lv_at hl 3 rfl) ?_
      obtain ⟨f_p3_lists_2, g_p3_sizes_3, g_p3_above_4, g_p3_placeAbove_5, hu, h⟩ := ob4_1 h
      refine cl_Vv (As := []) (rest := []) [4, 5, 6, 7] [0, 1, 2, 3, 8] [0, 1, 2, 3, 5, 6, 7, 8, 4] [(h_this, .inr (2, [.int f_faultNumber, .int f_faultPlace, .ref h_open, .int f_depth, .ref h_seen, .int f_seenCount])), (h_open, .inl (cy 0, 40, .inl g_open)), (h_p2, .inr (6, [.int f_p2_size, .ref h_p2_counts, .ref h_p2_words, .ref h_p2_settings])), (h_p2_settings, .inl (cy 0, 4, .inl g_p2_settings)), (h_p3_items, .inl (cy 0, 720, .inl g_p3_items))] [(h_this, .inr (2, [.int f_faultNumber, .int f_faultPlace, .ref h_open, .int f_depth, .ref h_seen, .int f_seenCount])), (h_open, .inl (cy 0, 40, .inl g_open)), (h_p2, .inr (6, [.int f_p2_size, .ref h_p2_counts, .ref h_p2_words, .ref h_p2_settings])), (h_p2_settings, .inl (cy 0, 4, .inl g_p2_settings)), (h_p3, .inr (5, [.int f_p3_lists_2, .ref h_p3_sizes, .ref h_p3_above, .ref h_p3_placeAbove, .ref h_p3_items, .ref h_p3_home, .ref h_p3_placeHome, .ref h_p3_tally])), (h_p3_sizes, .inl (cy 0, 80, .inl g_p3_sizes_3)), (h_p3_above, .inl (cy 0, 80, .inl g_p3_above_4)), (h_p3_placeAbove, .inl (cy 0, 80, .inl g_p3_placeAbove_5)), (h_p3_items, .inl (cy 0, 720, .inl g_p3_items))] 5 ⟨hx, hb, hml, hown, hts⟩ (c_X5_begin (l := l) (D := D) (cy := cy) (sz := _) (h_sizes := h_p3_sizes) (h_placeAbove := h_p3_placeAbove) (h_this := h_p3) (h_above := h_p3_above) (h_items := h_p3_items) (h_home := h_p3_home) (h_placeHome := h_p3_placeHome) (h_tally := h_p3_tally) (f_lists := f_p3_lists) (g_sizes := g_p3_sizes) (g_above := g_p3_above) (g_placeAbove := g_p3_placeAbove) (o_f_lists := f_p3_lists_2) (o_g_sizes := g_p3_sizes_3) (o_g_above := g_p3_above_4) (o_g_placeAbove := g_p3_placeAbove_5) (hf := hu)) (cwV 0 hts gX2_openList_X5_begin rfl rfl rfl (by decide +kernel) ⟨Nat.le_of_ble_eq_true rfl, Nat.le_of_ble_eq_true rfl⟩) hK hP hD hS hA rfl rfl rfl rfl (by decide) rfl rfl rfl rfl rfl rfl rfl rfl hl.1 rfl (Nat.le_of_ble_eq_true rfl) dX2_openList_34 ⟨Nat.zero_le _, Nat.zero_le _⟩ (fun H locs hP hD hS => ?_)
      refine lv_aload_n hx hb dX2_openList_37 rfl (lv_at hl 0 rfl) ?_
      refine va_get (D := D) (ci := 2) (v := .ref h_open) (C := RX2) (T := TX2) (N := 6) hx hb hts hinX2 hown hK hP 0 rfl rfl 2 (by decide) wf18 (fun _ h9 => h9) rfl dX2_openList_38 ?_
      refine lv_iconst (v := 0) hx hb dX2_openList_41 (by decide) ?_
      refine lv_iconst (v := 0) hx hb dX2_openList_42 (by decide) ?_
      have hi : vp_in 0 40 := vp_in_iff.mpr (by decide)
      refine va_iast hx hb hK hP hD hS 1 0 rfl rfl hi dX2_openList_43 (fun H locs hP hD hS => ?_)
      replace hP : va_P D vwCl [(h_this, .inr (2, [.int f_faultNumber, .int f_faultPlace, .ref h_open, .int f_depth, .ref h_seen, .int f_seenCount])), (h_open, .inl (cy 0, 40, .inl (upd g_open (Int32.toNatClampNeg 0) 0))), (h_p2, .inr (6, [.int f_p2_size, .ref h_p2_counts, .ref h_p2_words, .ref h_p2_settings])), (h_p2_settings, .inl (cy 0, 4, .inl g_p2_settings)), (h_p3, .inr (5, [.int f_p3_lists_2, .ref h_p3_sizes, .ref h_p3_above, .ref h_p3_placeAbove, .ref h_p3_items, .ref h_p3_home, .ref h_p3_placeHome, .ref h_p3_tally])), (h_p3_sizes, .inl (cy 0, 80, .inl g_p3_sizes_3)), (h_p3_above, .inl (cy 0, 80, .inl g_p3_above_4)), (h_p3_placeAbove, .inl (cy 0, 80, .inl g_p3_placeAbove_5)), (h_p3_items, .inl (cy 0, 720, .inl g_p3_items))] H := hP
      replace hD : va_D A [(h_this, .inr (2, [.int f_faultNumber, .int f_faultPlace, .ref h_open, .int f_depth, .ref h_seen, .int f_seenCount])), (h_open, .inl (cy 0, 40, .inl (upd g_open (Int32.toNatClampNeg 0) 0))), (h_p2, .inr (6, [.int f_p2_size, .ref h_p2_counts, .ref h_p2_words, .ref h_p2_settings])), (h_p2_settings, .inl (cy 0, 4, .inl g_p2_settings)), (h_p3, .inr (5, [.int f_p3_lists_2, .ref h_p3_sizes, .ref h_p3_above, .ref h_p3_placeAbove, .ref h_p3_items, .ref h_p3_home, .ref h_p3_placeHome, .ref h_p3_tally])), (h_p3_sizes, .inl (cy 0, 80, .inl g_p3_sizes_3)), (h_p3_above, .inl (cy 0, 80, .inl g_p3_above_4)), (h_p3_placeAbove, .inl (cy 0, 80, .inl g_p3_placeAbove_5)), (h_p3_items, .inl (cy 0, 720, .inl g_p3_items))] := hD
      refine lv_aload_n hx hb dX2_openList_44 rfl (lv_at hl 0 rfl) ?_
      refine lv_iconst (v := 1) hx hb dX2_openList_45 (by decide) ?_
      refine va_put (D := D) (ci := 2) (v := .int 1) (ty := .int) (C := RX2) (T := TX2) (N := 6) hx hb hts hinX2 tyX2 tyX2_ok nmX2 hown hK hP hD hS 0 rfl rfl 3 (by decide) wf22 (fun _ h9 => h9) rfl (by decide +kernel) rfl rfl (Nat.le_of_ble_eq_true rfl) dX2_openList_46 (fun H locs hP hD hS => ?_)
      replace hP : va_P D vwCl [(h_this, .inr (2, [.int f_faultNumber, .int f_faultPlace, .ref h_open, .int 1, .ref h_seen, .int f_seenCount])), (h_open, .inl (cy 0, 40, .inl (upd g_open (Int32.toNatClampNeg 0) 0))), (h_p2, .inr (6, [.int f_p2_size, .ref h_p2_counts, .ref h_p2_words, .ref h_p2_settings])), (h_p2_settings, .inl (cy 0, 4, .inl g_p2_settings)), (h_p3, .inr (5, [.int f_p3_lists_2, .ref h_p3_sizes, .ref h_p3_above, .ref h_p3_placeAbove, .ref h_p3_items, .ref h_p3_home, .ref h_p3_placeHome, .ref h_p3_tally])), (h_p3_sizes, .inl (cy 0, 80, .inl g_p3_sizes_3)), (h_p3_above, .inl (cy 0, 80, .inl g_p3_above_4)), (h_p3_placeAbove, .inl (cy 0, 80, .inl g_p3_placeAbove_5)), (h_p3_items, .inl (cy 0, 720, .inl g_p3_items))] H := hP
      replace hD : va_D A [(h_this, .inr (2, [.int f_faultNumber, .int f_faultPlace, .ref h_open, .int 1, .ref h_seen, .int f_seenCount])), (h_open, .inl (cy 0, 40, .inl (upd g_open (Int32.toNatClampNeg 0) 0))), (h_p2, .inr (6, [.int f_p2_size, .ref h_p2_counts, .ref h_p2_words, .ref h_p2_settings])), (h_p2_settings, .inl (cy 0, 4, .inl g_p2_settings)), (h_p3, .inr (5, [.int f_p3_lists_2, .ref h_p3_sizes, .ref h_p3_above, .ref h_p3_placeAbove, .ref h_p3_items, .ref h_p3_home, .ref h_p3_placeHome, .ref h_p3_tally])), (h_p3_sizes, .inl (cy 0, 80, .inl g_p3_sizes_3)), (h_p3_above, .inl (cy 0, 80, .inl g_p3_above_4)), (h_p3_placeAbove, .inl (cy 0, 80, .inl g_p3_placeAbove_5)), (h_p3_items, .inl (cy 0, 720, .inl g_p3_items))] := hD
      obtain ⟨e0, e1, e2, e3, e4, e5, e6, e7, e8⟩ := ret9 h
      subst e0
      subst e1
      subst e2
      subst e3
      subst e4
      subst e5
      subst e6
      subst e7
      subst e8
      exact rt_v hx hb hr hlk hK hP hD hS dX2_openList_49
    · replace h := it_0 h hc
      refine lv_aload_n hx hb dX2_openList_24 rfl (lv_at hl 0 rfl) ?_
      refine lv_iconst (v := 1) hx hb dX2_openList_25 (by decide) ?_
      refine lv_iload_n hx hb dX2_openList_26 rfl (lv_at hl 1 rfl) ?_
      obtain ⟨f_faultNumber_6, f_faultPlace_7, hu, h⟩ := ob2_1 h
      refine cl_Vv (As := [.int 1, .int a1]) (rest := []) [0] [1, 2, 3, 4, 5, 6, 7, 8] [8, 0, 1, 2, 3, 4, 5, 6, 7] [(h_open, .inl (cy 0, 40, .inl g_open)), (h_p2, .inr (6, [.int f_p2_size, .ref h_p2_counts, .ref h_p2_words, .ref h_p2_settings])), (h_p2_settings, .inl (cy 0, 4, .inl g_p2_settings)), (h_p3, .inr (5, [.int f_p3_lists, .ref h_p3_sizes, .ref h_p3_above, .ref h_p3_placeAbove, .ref h_p3_items, .ref h_p3_home, .ref h_p3_placeHome, .ref h_p3_tally])), (h_p3_sizes, .inl (cy 0, 80, .inl g_p3_sizes)), (h_p3_above, .inl (cy 0, 80, .inl g_p3_above)), (h_p3_placeAbove, .inl (cy 0, 80, .inl g_p3_placeAbove)), (h_p3_items, .inl (cy 0, 720, .inl g_p3_items))] [(h_this, .inr (2, [.int f_faultNumber_6, .int f_faultPlace_7, .ref h_open, .int f_depth, .ref h_seen, .int f_seenCount])), (h_open, .inl (cy 0, 40, .inl g_open)), (h_p2, .inr (6, [.int f_p2_size, .ref h_p2_counts, .ref h_p2_words, .ref h_p2_settings])), (h_p2_settings, .inl (cy 0, 4, .inl g_p2_settings)), (h_p3, .inr (5, [.int f_p3_lists, .ref h_p3_sizes, .ref h_p3_above, .ref h_p3_placeAbove, .ref h_p3_items, .ref h_p3_home, .ref h_p3_placeHome, .ref h_p3_tally])), (h_p3_sizes, .inl (cy 0, 80, .inl g_p3_sizes)), (h_p3_above, .inl (cy 0, 80, .inl g_p3_above)), (h_p3_placeAbove, .inl (cy 0, 80, .inl g_p3_placeAbove)), (h_p3_items, .inl (cy 0, 720, .inl g_p3_items))] 2 ⟨hx, hb, hml, hown, hts⟩ (c_X2_refuse (l := l) (D := D) (cy := cy) (sz := _) (h_this := h_this) (h_open := h_open) (h_seen := h_seen) (f_faultNumber := f_faultNumber) (f_faultPlace := f_faultPlace) (f_depth := f_depth) (f_seenCount := f_seenCount) (a1 := 1) (a2 := a1) (o_f_faultNumber := f_faultNumber_6) (o_f_faultPlace := f_faultPlace_7) (hf := hu)) (cwV 2 hts gX2_openList_X2_refuse rfl rfl rfl (by decide +kernel) ⟨Nat.le_of_ble_eq_true rfl, Nat.le_of_ble_eq_true rfl⟩) hK hP hD hS hA rfl rfl rfl rfl (by decide) rfl rfl rfl rfl rfl rfl rfl rfl hl.1 rfl (Nat.le_of_ble_eq_true rfl) dX2_openList_27 ⟨Nat.zero_le _, Nat.zero_le _⟩ (fun H locs hP hD hS => ?_)
      refine lv_goto (tgt := 49) hx hb dX2_openList_30 (by decide) ?_
      obtain ⟨e0, e1, e2, e3, e4, e5, e6, e7, e8⟩ := ret9 h
      subst e0
      subst e1
      subst e2
      subst e3
      subst e4
      subst e5
      subst e6
      subst e7
      subst e8
      exact rt_v hx hb hr hlk hK hP hD hS dX2_openList_49
  · replace h := it_0 h hc
    refine lv_aload_n hx hb dX2_openList_7 rfl (lv_at hl 0 rfl) ?_
    refine lv_iload_n hx hb dX2_openList_8 rfl (lv_at hl 1 rfl) ?_
    refine lv_aload_n hx hb dX2_openList_9 rfl (lv_at hl 2 rfl) ?_
    refine lv_aload_n hx hb dX2_openList_10 rfl (lv_at hl 3 rfl) ?_
    obtain ⟨f_faultNumber_8, f_faultPlace_9, f_depth_10, g_open_11, f_p3_lists_12, g_p3_sizes_13, g_p3_above_14, g_p3_placeAbove_15, g_p3_items_16, hu, h⟩ := ob9_1 h
    refine cl_Vv (As := [.int a1, .ref h_p2, .ref h_p3]) (rest := []) [0, 1, 2, 3, 4, 5, 6, 7, 8] [] [0, 1, 2, 3, 4, 5, 6, 7, 8] [] [(h_this, .inr (2, [.int f_faultNumber_8, .int f_faultPlace_9, .ref h_open, .int f_depth_10, .ref h_seen, .int f_seenCount])), (h_open, .inl (cy 0, 40, .inl g_open_11)), (h_p2, .inr (6, [.int f_p2_size, .ref h_p2_counts, .ref h_p2_words, .ref h_p2_settings])), (h_p2_settings, .inl (cy 0, 4, .inl g_p2_settings)), (h_p3, .inr (5, [.int f_p3_lists_12, .ref h_p3_sizes, .ref h_p3_above, .ref h_p3_placeAbove, .ref h_p3_items, .ref h_p3_home, .ref h_p3_placeHome, .ref h_p3_tally])), (h_p3_sizes, .inl (cy 0, 80, .inl g_p3_sizes_13)), (h_p3_above, .inl (cy 0, 80, .inl g_p3_above_14)), (h_p3_placeAbove, .inl (cy 0, 80, .inl g_p3_placeAbove_15)), (h_p3_items, .inl (cy 0, 720, .inl g_p3_items_16))] 2 ⟨hx, hb, hml, hown, hts⟩ (c_X2_openMenu (l := l) (D := D) (cy := cy) (sz := _) (h_p2 := h_p2) (h_p3 := h_p3) (h_p3_sizes := h_p3_sizes) (h_this := h_this) (h_p2_settings := h_p2_settings) (h_p3_placeAbove := h_p3_placeAbove) (h_p3_above := h_p3_above) (h_p3_items := h_p3_items) (h_open := h_open) (h_p2_counts := h_p2_counts) (h_p2_words := h_p2_words) (h_seen := h_seen) (h_p3_home := h_p3_home) (h_p3_placeHome := h_p3_placeHome) (h_p3_tally := h_p3_tally) (f_faultNumber := f_faultNumber) (f_faultPlace := f_faultPlace) (f_depth := f_depth) (f_seenCount := f_seenCount) (g_open := g_open) (f_p2_size := f_p2_size) (g_p2_settings := g_p2_settings) (f_p3_lists := f_p3_lists) (g_p3_sizes := g_p3_sizes) (g_p3_above := g_p3_above) (g_p3_placeAbove := g_p3_placeAbove) (g_p3_items := g_p3_items) (a1 := a1) (o_f_faultNumber := f_faultNumber_8) (o_f_faultPlace := f_faultPlace_9) (o_f_depth := f_depth_10) (o_g_open := g_open_11) (o_f_p3_lists := f_p3_lists_12) (o_g_p3_sizes := g_p3_sizes_13) (o_g_p3_above := g_p3_above_14) (o_g_p3_placeAbove := g_p3_placeAbove_15) (o_g_p3_items := g_p3_items_16) (hf := hu)) (cwV 3 hts gX2_openList_X2_openMenu rfl rfl rfl (by decide +kernel) ⟨Nat.le_of_ble_eq_true rfl, Nat.le_of_ble_eq_true rfl⟩) hK hP hD hS hA rfl rfl rfl rfl (by decide) rfl rfl rfl rfl rfl rfl rfl rfl hl.1 rfl (Nat.le_of_ble_eq_true rfl) dX2_openList_11 ⟨Nat.zero_le _, Nat.zero_le _⟩ (fun H locs hP hD hS => ?_)
    refine lv_goto (tgt := 49) hx hb dX2_openList_14 (by decide) ?_
    obtain ⟨e0, e1, e2, e3, e4, e5, e6, e7, e8⟩ := ret9 h
    subst e0
    subst e1
    subst e2
    subst e3
    subst e4
    subst e5
    subst e6
    subst e7
    subst e8
    exact rt_v hx hb hr hlk hK hP hD hS dX2_openList_49
abbrev rm_X2_readNumber : Room := { frames := 2, cells := 0, slots := 0, locals := 44 }
set_option maxHeartbeats 4000000 in
set_option maxRecDepth 100000 in
theorem c_X2_readNumber (l : Launch) (D : va_G) (cy : Nat → ClassId) (h_this h_open h_seen h_p3 h_p3_counts h_p3_words h_p3_settings h_p4 h_p4_sizes h_p4_above h_p4_placeAbove h_p4_items h_p4_home h_p4_placeHome h_p4_tally : Nat)    (sz : Nat) (f_faultNumber : Int32) (f_faultPlace : Int32) (f_depth : Int32) (f_seenCount : Int32) (g_open : Nat → Int32) (g_seen : Nat → Int32) (f_p3_size : Int32) (g_p3_settings : Nat → Int32) (f_p4_lists : Int32) (g_p4_sizes : Nat → Int32) (g_p4_items : Nat → Int32) (g_p4_home : Nat → Int32) (g_p4_placeHome : Nat → Int32) (a1 : Int32) (a2 : Int32)  (o_f_faultNumber : Int32) (o_f_faultPlace : Int32) (o_f_seenCount : Int32) (o_g_seen : Nat → Int32) (o_g_p4_sizes : Nat → Int32) (o_g_p4_items : Nat → Int32) (o_g_p4_home : Nat → Int32) (o_g_p4_placeHome : Nat → Int32) (hf : f_X2_readNumber f_depth g_open f_p3_size g_p3_settings f_faultNumber f_faultPlace f_seenCount g_seen g_p4_sizes g_p4_items g_p4_home g_p4_placeHome a1 a2 = some (o_f_faultNumber, o_f_faultPlace, o_f_seenCount, o_g_seen, o_g_p4_sizes, o_g_p4_items, o_g_p4_home, o_g_p4_placeHome)) : MV l yX2_readNumber wsX2_readNumber rm_X2_readNumber D cy [.ref h_this, .int a1, .int a2, .ref h_p3, .ref h_p4] sz [(h_this, .inr (2, [.int f_faultNumber, .int f_faultPlace, .ref h_open, .int f_depth, .ref h_seen, .int f_seenCount])), (h_open, .inl (cy 0, 40, .inl g_open)), (h_seen, .inl (cy 3, 40, .inl g_seen)), (h_p3, .inr (6, [.int f_p3_size, .ref h_p3_counts, .ref h_p3_words, .ref h_p3_settings])), (h_p3_settings, .inl (cy 0, 4, .inl g_p3_settings)), (h_p4, .inr (5, [.int f_p4_lists, .ref h_p4_sizes, .ref h_p4_above, .ref h_p4_placeAbove, .ref h_p4_items, .ref h_p4_home, .ref h_p4_placeHome, .ref h_p4_tally])), (h_p4_sizes, .inl (cy 0, 80, .inl g_p4_sizes)), (h_p4_items, .inl (cy 0, 720, .inl g_p4_items)), (h_p4_home, .inl (cy 0, 40, .inl g_p4_home)), (h_p4_placeHome, .inl (cy 0, 40, .inl g_p4_placeHome))] [(h_this, .inr (2, [.int o_f_faultNumber, .int o_f_faultPlace, .ref h_open, .int f_depth, .ref h_seen, .int o_f_seenCount])), (h_open, .inl (cy 0, 40, .inl g_open)), (h_seen, .inl (cy 3, 40, .inl o_g_seen)), (h_p3, .inr (6, [.int f_p3_size, .ref h_p3_counts, .ref h_p3_words, .ref h_p3_settings])), (h_p3_settings, .inl (cy 0, 4, .inl g_p3_settings)), (h_p4, .inr (5, [.int f_p4_lists, .ref h_p4_sizes, .ref h_p4_above, .ref h_p4_placeAbove, .ref h_p4_items, .ref h_p4_home, .ref h_p4_placeHome, .ref h_p4_tally])), (h_p4_sizes, .inl (cy 0, 80, .inl o_g_p4_sizes)), (h_p4_items, .inl (cy 0, 720, .inl o_g_p4_items)), (h_p4_home, .inl (cy 0, 40, .inl o_g_p4_home)), (h_p4_placeHome, .inl (cy 0, 40, .inl o_g_p4_placeHome))] := by
  refine MV.of (cc := cX2_readNumber) (maxL := 5) (ret := none) (by decide) rfl (Nat.le_of_ble_eq_true rfl) ?_
  intro p e s m below meth c A ls hx hb hml hown hts hlk hr hK hA hP hD hS hl
  have h := hf
  unfold f_X2_readNumber at h
  have wf22 := hts (.fieldLink RX2 22 "MenuPlanner$Reader" "depth" "I") (by decide +kernel)
  have hinX2 := (by decide +kernel : ∀ w ∈ u_ws RX2 TX2 6, w ∈ wsX2_readNumber)
  have wf68 := hts (.fieldLink RX2 68 "MenuPlanner$Use" "size" "I") (by decide +kernel)
  have hinX6 := (by decide +kernel : ∀ w ∈ u_ws RX6 TX6 4, w ∈ wsX2_readNumber)
  have wf25 := hts (.fieldLink RX2 25 "MenuPlanner$Reader" "seen" "[Z") (by decide +kernel)
  have wf18 := hts (.fieldLink RX2 18 "MenuPlanner$Reader" "open" "[I") (by decide +kernel)
  have wf29 := hts (.fieldLink RX2 29 "MenuPlanner$Reader" "seenCount" "I") (by decide +kernel)
  replace hl : lv_has ls 5 [(0, .ref h_this), (1, .int a1), (2, .int a2), (3, .ref h_p3), (4, .ref h_p4)] := hl
  have L81 : ∀ (f_faultNumber : Int32) (f_faultPlace : Int32) (f_seenCount : Int32) (g_seen : Nat → Int32) (g_p4_sizes : Nat → Int32) (g_p4_items : Nat → Int32) (g_p4_home : Nat → Int32) (g_p4_placeHome : Nat → Int32) (x2 : Int32), f_X2_readNumber_L81 f_faultNumber f_faultPlace f_seenCount g_seen g_p4_sizes g_p4_items g_p4_home g_p4_placeHome x2 = some (o_f_faultNumber, o_f_faultPlace, o_f_seenCount, o_g_seen, o_g_p4_sizes, o_g_p4_items, o_g_p4_home, o_g_p4_placeHome) → ∀ (H : Heap) (locs : List Loc) (ls : Array Slot), va_P D vwCl [(h_this, .inr (2, [.int f_faultNumber, .int f_faultPlace, .ref h_open, .int f_depth, .ref h_seen, .int f_seenCount])), (h_open, .inl (cy 0, 40, .inl g_open)), (h_seen, .inl (cy 3, 40, .inl g_seen)), (h_p3, .inr (6, [.int f_p3_size, .ref h_p3_counts, .ref h_p3_words, .ref h_p3_settings])), (h_p3_settings, .inl (cy 0, 4, .inl g_p3_settings)), (h_p4, .inr (5, [.int f_p4_lists, .ref h_p4_sizes, .ref h_p4_above, .ref h_p4_placeAbove, .ref h_p4_items, .ref h_p4_home, .ref h_p4_placeHome, .ref h_p4_tally])), (h_p4_sizes, .inl (cy 0, 80, .inl g_p4_sizes)), (h_p4_items, .inl (cy 0, 720, .inl g_p4_items)), (h_p4_home, .inl (cy 0, 40, .inl g_p4_home)), (h_p4_placeHome, .inl (cy 0, 40, .inl g_p4_placeHome))] H → va_D A [(h_this, .inr (2, [.int f_faultNumber, .int f_faultPlace, .ref h_open, .int f_depth, .ref h_seen, .int f_seenCount])), (h_open, .inl (cy 0, 40, .inl g_open)), (h_seen, .inl (cy 3, 40, .inl g_seen)), (h_p3, .inr (6, [.int f_p3_size, .ref h_p3_counts, .ref h_p3_words, .ref h_p3_settings])), (h_p3_settings, .inl (cy 0, 4, .inl g_p3_settings)), (h_p4, .inr (5, [.int f_p4_lists, .ref h_p4_sizes, .ref h_p4_above, .ref h_p4_placeAbove, .ref h_p4_items, .ref h_p4_home, .ref h_p4_placeHome, .ref h_p4_tally])), (h_p4_sizes, .inl (cy 0, 80, .inl g_p4_sizes)), (h_p4_items, .inl (cy 0, 720, .inl g_p4_items)), (h_p4_home, .inl (cy 0, 40, .inl g_p4_home)), (h_p4_placeHome, .inl (cy 0, 40, .inl g_p4_placeHome))] → va_S A s.heap H locs → lv_has ls 5 [(0, .ref h_this), (2, .int x2)] → W p l e rm_X2_readNumber s m ([.ref h_this, .int a1, .int a2, .ref h_p3, .ref h_p4]).toArray below meth c H locs 0 0 (MQ below (QV D cy A [(h_this, .inr (2, [.int o_f_faultNumber, .int o_f_faultPlace, .ref h_open, .int f_depth, .ref h_seen, .int o_f_seenCount])), (h_open, .inl (cy 0, 40, .inl g_open)), (h_seen, .inl (cy 3, 40, .inl o_g_seen)), (h_p3, .inr (6, [.int f_p3_size, .ref h_p3_counts, .ref h_p3_words, .ref h_p3_settings])), (h_p3_settings, .inl (cy 0, 4, .inl g_p3_settings)), (h_p4, .inr (5, [.int f_p4_lists, .ref h_p4_sizes, .ref h_p4_above, .ref h_p4_placeAbove, .ref h_p4_items, .ref h_p4_home, .ref h_p4_placeHome, .ref h_p4_tally])), (h_p4_sizes, .inl (cy 0, 80, .inl o_g_p4_sizes)), (h_p4_items, .inl (cy 0, 720, .inl o_g_p4_items)), (h_p4_home, .inl (cy 0, 40, .inl o_g_p4_home)), (h_p4_placeHome, .inl (cy 0, 40, .inl o_g_p4_placeHome))]) ([.ref h_this, .int a1, .int a2, .ref h_p3, .ref h_p4]).toArray s 0 0 A) (F0 m 81 ls []) := by
    intro f_faultNumber f_faultPlace f_seenCount g_seen g_p4_sizes g_p4_items g_p4_home g_p4_placeHome x2 h H locs ls hP hD hS hl
    unfold f_X2_readNumber_L81 at h
    refine lv_aload_n hx hb dX2_readNumber_81 rfl (lv_at hl 0 rfl) ?_
    refine lv_iconst (v := 4) hx hb dX2_readNumber_82 (by decide) ?_
    refine lv_iload_n hx hb dX2_readNumber_83 rfl (lv_at hl 1 rfl) ?_
    obtain ⟨f_faultNumber_1, f_faultPlace_2, hu, h⟩ := ob2_1 h
    refine cl_Vv (As := [.int 4, .int x2]) (rest := []) [0] [1, 2, 3, 4, 5, 6, 7, 8, 9] [9, 0, 1, 2, 3, 4, 5, 6, 7, 8] [(h_open, .inl (cy 0, 40, .inl g_open)), (h_seen, .inl (cy 3, 40, .inl g_seen)), (h_p3, .inr (6, [.int f_p3_size, .ref h_p3_counts, .ref h_p3_words, .ref h_p3_settings])), (h_p3_settings, .inl (cy 0, 4, .inl g_p3_settings)), (h_p4, .inr (5, [.int f_p4_lists, .ref h_p4_sizes, .ref h_p4_above, .ref h_p4_placeAbove, .ref h_p4_items, .ref h_p4_home, .ref h_p4_placeHome, .ref h_p4_tally])), (h_p4_sizes, .inl (cy 0, 80, .inl g_p4_sizes)), (h_p4_items, .inl (cy 0, 720, .inl g_p4_items)), (h_p4_home, .inl (cy 0, 40, .inl g_p4_home)), (h_p4_placeHome, .inl (cy 0, 40, .inl g_p4_placeHome))] [(h_this, .inr (2, [.int f_faultNumber_1, .int f_faultPlace_2, .ref h_open, .int f_depth, .ref h_seen, .int f_seenCount])), (h_open, .inl (cy 0, 40, .inl g_open)), (h_seen, .inl (cy 3, 40, .inl g_seen)), (h_p3, .inr (6, [.int f_p3_size, .ref h_p3_counts, .ref h_p3_words, .ref h_p3_settings])), (h_p3_settings, .inl (cy 0, 4, .inl g_p3_settings)), (h_p4, .inr (5, [.int f_p4_lists, .ref h_p4_sizes, .ref h_p4_above, .ref h_p4_placeAbove, .ref h_p4_items, .ref h_p4_home, .ref h_p4_placeHome, .ref h_p4_tally])), (h_p4_sizes, .inl (cy 0, 80, .inl g_p4_sizes)), (h_p4_items, .inl (cy 0, 720, .inl g_p4_items)), (h_p4_home, .inl (cy 0, 40, .inl g_p4_home)), (h_p4_placeHome, .inl (cy 0, 40, .inl g_p4_placeHome))] 2 ⟨hx, hb, hml, hown, hts⟩ (c_X2_refuse (l := l) (D := D) (cy := cy) (sz := _) (h_this := h_this) (h_open := h_open) (h_seen := h_seen) (f_faultNumber := f_faultNumber) (f_faultPlace := f_faultPlace) (f_depth := f_depth) (f_seenCount := f_seenCount) (a1 := 4) (a2 := x2) (o_f_faultNumber := f_faultNumber_1) (o_f_faultPlace := f_faultPlace_2) (hf := hu)) (cwV 2 hts gX2_readNumber_X2_refuse rfl rfl rfl (by decide +kernel) ⟨Nat.le_of_ble_eq_true rfl, Nat.le_of_ble_eq_true rfl⟩) hK hP hD hS hA rfl rfl rfl rfl (by decide) rfl rfl rfl rfl rfl rfl rfl rfl hl.1 rfl (Nat.le_of_ble_eq_true rfl) dX2_readNumber_84 ⟨Nat.zero_le _, Nat.zero_le _⟩ (fun H locs hP hD hS => ?_)
    refine lv_goto (tgt := 107) hx hb dX2_readNumber_87 (by decide) ?_
    obtain ⟨e0, e1, e2, e3, e4, e5, e6, e7⟩ := ret8 h
    subst e0
    subst e1
    subst e2
    subst e3
    subst e4
    subst e5
    subst e6
    subst e7
    exact rt_v hx hb hr hlk hK hP hD hS dX2_readNumber_107
  clear hf
  refine lv_aload_n hx hb dX2_readNumber_0 rfl (lv_at hl 0 rfl) ?_
  refine va_get (D := D) (ci := 2) (v := .int f_depth) (C := RX2) (T := TX2) (N := 6) hx hb hts hinX2 hown hK hP 0 rfl rfl 3 (by decide) wf22 (fun _ h9 => h9) rfl dX2_readNumber_1 ?_
  refine lv_if_ne (tgt := 16) hx hb dX2_readNumber_4 (by decide) (fun hc => ?_) (fun hc => ?_)
  · replace h := it_0 h hc
    refine lv_iload_n hx hb dX2_readNumber_16 rfl (lv_at hl 1 rfl) ?_
    refine lv_aload_n hx hb dX2_readNumber_17 rfl (lv_at hl 3 rfl) ?_
    refine va_get (D := D) (ci := 6) (v := .int f_p3_size) (C := RX6) (T := TX6) (N := 4) hx hb hts hinX6 hown hK hP 3 rfl rfl 0 (by decide) wf68 (fun _ h9 => h9) rfl dX2_readNumber_18 ?_
    refine lv_icmp_lt (tgt := 33) hx hb dX2_readNumber_21 (by decide) (fun hc => ?_) (fun hc => ?_)
    · replace h := it_1 h hc
      refine lv_aload_n hx hb dX2_readNumber_33 rfl (lv_at hl 0 rfl) ?_
      refine va_get (D := D) (ci := 2) (v := .ref h_seen) (C := RX2) (T := TX2) (N := 6) hx hb hts hinX2 hown hK hP 0 rfl rfl 4 (by decide) wf25 (fun _ h9 => h9) rfl dX2_readNumber_34 ?_
      refine lv_iload_n hx hb dX2_readNumber_37 rfl (lv_at hl 1 rfl) ?_
      have hi := gi_1 h; replace h := gi_2 h
      refine va_zald hx hb hK hP 2 3 rfl rfl hi dX2_readNumber_38 ?_
      refine lv_if_eq (tgt := 51) hx hb dX2_readNumber_39 (by decide) (fun hc => ?_) (fun hc => ?_)
      · replace h := it_1 h hc
        refine lv_aload_n hx hb dX2_readNumber_51 rfl (lv_at hl 0 rfl) ?_
        refine lv_aload_n hx hb dX2_readNumber_52 rfl (lv_at hl 3 rfl) ?_
        refine lv_aload hx hb dX2_readNumber_53 (lv_at hl 4 rfl) ?_
        obtain ⟨r_3, hu, h⟩ := ob_1 h
        refine cl_Vi (As := [.ref h_p3, .ref h_p4]) (rest := []) [0, 1, 3, 4, 5, 6] [2, 7, 8, 9] [4, 5, 0, 6, 7, 8, 9, 1, 2, 3] [(h_seen, .inl (cy 3, 40, .inl g_seen)), (h_p4_items, .inl (cy 0, 720, .inl g_p4_items)), (h_p4_home, .inl (cy 0, 40, .inl g_p4_home)), (h_p4_placeHome, .inl (cy 0, 40, .inl g_p4_placeHome))] [(h_this, .inr (2, [.int f_faultNumber, .int f_faultPlace, .ref h_open, .int f_depth, .ref h_seen, .int f_seenCount])), (h_open, .inl (cy 0, 40, .inl g_open)), (h_seen, .inl (cy 3, 40, .inl g_seen)), (h_p3, .inr (6, [.int f_p3_size, .ref h_p3_counts, .ref h_p3_words, .ref h_p3_settings])), (h_p3_settings, .inl (cy 0, 4, .inl g_p3_settings)), (h_p4, .inr (5, [.int f_p4_lists, .ref h_p4_sizes, .ref h_p4_above, .ref h_p4_placeAbove, .ref h_p4_items, .ref h_p4_home, .ref h_p4_placeHome, .ref h_p4_tally])), (h_p4_sizes, .inl (cy 0, 80, .inl g_p4_sizes)), (h_p4_items, .inl (cy 0, 720, .inl g_p4_items)), (h_p4_home, .inl (cy 0, 40, .inl g_p4_home)), (h_p4_placeHome, .inl (cy 0, 40, .inl g_p4_placeHome))] 2 ⟨hx, hb, hml, hown, hts⟩ (c_X2_isFull (l := l) (D := D) (cy := cy) (sz := _) (h_p1_settings := h_p3_settings) (h_p2 := h_p4) (h_p1 := h_p3) (h_this := h_this) (h_p2_sizes := h_p4_sizes) (h_open := h_open) (h_p2_above := h_p4_above) (h_p2_placeAbove := h_p4_placeAbove) (h_p2_items := h_p4_items) (h_p2_home := h_p4_home) (h_p2_placeHome := h_p4_placeHome) (h_p2_tally := h_p4_tally) (h_p1_counts := h_p3_counts) (h_p1_words := h_p3_words) (h_seen := h_seen) (f_faultNumber := f_faultNumber) (f_faultPlace := f_faultPlace) (f_depth := f_depth) (f_seenCount := f_seenCount) (g_open := g_open) (f_p1_size := f_p3_size) (g_p1_settings := g_p3_settings) (f_p2_lists := f_p4_lists) (g_p2_sizes := g_p4_sizes) (r0 := r_3) (hf := hu)) (cwV 2 hts gX2_readNumber_X2_isFull rfl rfl rfl (by decide +kernel) ⟨Nat.le_of_ble_eq_true rfl, Nat.le_of_ble_eq_true rfl⟩) hK hP hD hS hA rfl rfl rfl rfl (by decide) rfl rfl rfl rfl rfl rfl rfl rfl hl.1 rfl (Nat.le_of_ble_eq_true rfl) dX2_readNumber_55 ⟨Nat.zero_le _, Nat.zero_le _⟩ (fun H locs hP hD hS => ?_)
        refine lv_if_ne (tgt := 81) hx hb dX2_readNumber_58 (by decide) (fun hc => ?_) (fun hc => ?_)
        · replace h := it_0 h hc
          exact L81 _ _ _ _ _ _ _ _ _ h _ _ _ hP hD hS (lv_sub hl [0, 2] rfl)
        · replace h := it_1 h hc
          refine lv_aload hx hb dX2_readNumber_61 (lv_at hl 4 rfl) ?_
          refine lv_aload_n hx hb dX2_readNumber_63 rfl (lv_at hl 0 rfl) ?_
          refine va_get (D := D) (ci := 2) (v := .ref h_open) (C := RX2) (T := TX2) (N := 6) hx hb hts hinX2 hown hK hP 0 rfl rfl 2 (by decide) wf18 (fun _ h9 => h9) rfl dX2_readNumber_64 ?_
          refine lv_aload_n hx hb dX2_readNumber_67 rfl (lv_at hl 0 rfl) ?_
          refine va_get (D := D) (ci := 2) (v := .int f_depth) (C := RX2) (T := TX2) (N := 6) hx hb hts hinX2 hown hK hP 0 rfl rfl 3 (by decide) wf22 (fun _ h9 => h9) rfl dX2_readNumber_68 ?_
          refine lv_iconst (v := 1) hx hb dX2_readNumber_71 (by decide) ?_
          refine lv_isub hx hb dX2_readNumber_72 ?_
          have hi := gi_1 h; replace h := gi_2 h
          refine va_iald hx hb hK hP 1 0 rfl rfl hi dX2_readNumber_73 ?_
          refine lv_iload_n hx hb dX2_readNumber_74 rfl (lv_at hl 1 rfl) ?_
          obtain ⟨r_8, g_p4_sizes_4, g_p4_items_5, g_p4_home_6, g_p4_placeHome_7, hu, h⟩ := ob5_1 h
          refine cl_Vi (As := [.int (g_open (Int32.toNatClampNeg (f_depth - 1))), .int a1]) (rest := []) [5, 6, 7, 8, 9] [0, 1, 2, 3, 4] [0, 1, 2, 3, 4, 5, 6, 7, 8, 9] [(h_this, .inr (2, [.int f_faultNumber, .int f_faultPlace, .ref h_open, .int f_depth, .ref h_seen, .int f_seenCount])), (h_open, .inl (cy 0, 40, .inl g_open)), (h_seen, .inl (cy 3, 40, .inl g_seen)), (h_p3, .inr (6, [.int f_p3_size, .ref h_p3_counts, .ref h_p3_words, .ref h_p3_settings])), (h_p3_settings, .inl (cy 0, 4, .inl g_p3_settings))] [(h_this, .inr (2, [.int f_faultNumber, .int f_faultPlace, .ref h_open, .int f_depth, .ref h_seen, .int f_seenCount])), (h_open, .inl (cy 0, 40, .inl g_open)), (h_seen, .inl (cy 3, 40, .inl g_seen)), (h_p3, .inr (6, [.int f_p3_size, .ref h_p3_counts, .ref h_p3_words, .ref h_p3_settings])), (h_p3_settings, .inl (cy 0, 4, .inl g_p3_settings)), (h_p4, .inr (5, [.int f_p4_lists, .ref h_p4_sizes, .ref h_p4_above, .ref h_p4_placeAbove, .ref h_p4_items, .ref h_p4_home, .ref h_p4_placeHome, .ref h_p4_tally])), (h_p4_sizes, .inl (cy 0, 80, .inl g_p4_sizes_4)), (h_p4_items, .inl (cy 0, 720, .inl g_p4_items_5)), (h_p4_home, .inl (cy 0, 40, .inl g_p4_home_6)), (h_p4_placeHome, .inl (cy 0, 40, .inl g_p4_placeHome_7))] 5 ⟨hx, hb, hml, hown, hts⟩ (c_X5_addCommand (l := l) (D := D) (cy := cy) (sz := _) (h_sizes := h_p4_sizes) (h_home := h_p4_home) (h_this := h_p4) (h_placeHome := h_p4_placeHome) (h_items := h_p4_items) (h_above := h_p4_above) (h_placeAbove := h_p4_placeAbove) (h_tally := h_p4_tally) (f_lists := f_p4_lists) (g_sizes := g_p4_sizes) (g_items := g_p4_items) (g_home := g_p4_home) (g_placeHome := g_p4_placeHome) (a1 := (g_open (Int32.toNatClampNeg (f_depth - 1)))) (a2 := a1) (r0 := r_8) (o_g_sizes := g_p4_sizes_4) (o_g_items := g_p4_items_5) (o_g_home := g_p4_home_6) (o_g_placeHome := g_p4_placeHome_7) (hf := hu)) (cwV 2 hts gX2_readNumber_X5_addCommand rfl rfl rfl (by decide +kernel) ⟨Nat.le_of_ble_eq_true rfl, Nat.le_of_ble_eq_true rfl⟩) hK hP hD hS hA rfl rfl rfl rfl (by decide) rfl rfl rfl rfl rfl rfl rfl rfl hl.1 rfl (Nat.le_of_ble_eq_true rfl) dX2_readNumber_75 ⟨Nat.zero_le _, Nat.zero_le _⟩ (fun H locs hP hD hS => ?_)
          refine lv_if_ne (tgt := 90) hx hb dX2_readNumber_78 (by decide) (fun hc => ?_) (fun hc => ?_)
          · replace h := it_0 h hc
            refine lv_aload_n hx hb dX2_readNumber_90 rfl (lv_at hl 0 rfl) ?_
            refine va_get (D := D) (ci := 2) (v := .ref h_seen) (C := RX2) (T := TX2) (N := 6) hx hb hts hinX2 hown hK hP 0 rfl rfl 4 (by decide) wf25 (fun _ h9 => h9) rfl dX2_readNumber_91 ?_
            refine lv_iload_n hx hb dX2_readNumber_94 rfl (lv_at hl 1 rfl) ?_
            refine lv_iconst (v := 1) hx hb dX2_readNumber_95 (by decide) ?_
            have hi := gi_1 h; replace h := gi_2 h
            refine va_zast hx hb hK hP hD hS 2 3 rfl rfl hi dX2_readNumber_96 (fun H locs hP hD hS => ?_)
            replace hP : va_P D vwCl [(h_this, .inr (2, [.int f_faultNumber, .int f_faultPlace, .ref h_open, .int f_depth, .ref h_seen, .int f_seenCount])), (h_open, .inl (cy 0, 40, .inl g_open)), (h_seen, .inl (cy 3, 40, .inl (upd g_seen (Int32.toNatClampNeg a1) (vp_nar .boolean 1)))), (h_p3, .inr (6, [.int f_p3_size, .ref h_p3_counts, .ref h_p3_words, .ref h_p3_settings])), (h_p3_settings, .inl (cy 0, 4, .inl g_p3_settings)), (h_p4, .inr (5, [.int f_p4_lists, .ref h_p4_sizes, .ref h_p4_above, .ref h_p4_placeAbove, .ref h_p4_items, .ref h_p4_home, .ref h_p4_placeHome, .ref h_p4_tally])), (h_p4_sizes, .inl (cy 0, 80, .inl g_p4_sizes_4)), (h_p4_items, .inl (cy 0, 720, .inl g_p4_items_5)), (h_p4_home, .inl (cy 0, 40, .inl g_p4_home_6)), (h_p4_placeHome, .inl (cy 0, 40, .inl g_p4_placeHome_7))] H := hP
            replace hD : va_D A [(h_this, .inr (2, [.int f_faultNumber, .int f_faultPlace, .ref h_open, .int f_depth, .ref h_seen, .int f_seenCount])), (h_open, .inl (cy 0, 40, .inl g_open)), (h_seen, .inl (cy 3, 40, .inl (upd g_seen (Int32.toNatClampNeg a1) (vp_nar .boolean 1)))), (h_p3, .inr (6, [.int f_p3_size, .ref h_p3_counts, .ref h_p3_words, .ref h_p3_settings])), (h_p3_settings, .inl (cy 0, 4, .inl g_p3_settings)), (h_p4, .inr (5, [.int f_p4_lists, .ref h_p4_sizes, .ref h_p4_above, .ref h_p4_placeAbove, .ref h_p4_items, .ref h_p4_home, .ref h_p4_placeHome, .ref h_p4_tally])), (h_p4_sizes, .inl (cy 0, 80, .inl g_p4_sizes_4)), (h_p4_items, .inl (cy 0, 720, .inl g_p4_items_5)), (h_p4_home, .inl (cy 0, 40, .inl g_p4_home_6)), (h_p4_placeHome, .inl (cy 0, 40, .inl g_p4_placeHome_7))] := hD
            refine lv_aload_n hx hb dX2_readNumber_97 rfl (lv_at hl 0 rfl) ?_
            refine lv_dup hx hb dX2_readNumber_98 rfl ?_
            refine va_get (D := D) (ci := 2) (v := .int f_seenCount) (C := RX2) (T := TX2) (N := 6) hx hb hts hinX2 hown hK hP 0 rfl rfl 5 (by decide) wf29 (fun _ h9 => h9) rfl dX2_readNumber_99 ?_
            refine lv_iconst (v := 1) hx hb dX2_readNumber_102 (by decide) ?_
            refine lv_iadd hx hb dX2_readNumber_103 ?_
            refine va_put (D := D) (ci := 2) (v := .int (f_seenCount + 1)) (ty := .int) (C := RX2) (T := TX2) (N := 6) hx hb hts hinX2 tyX2 tyX2_ok nmX2 hown hK hP hD hS 0 rfl rfl 5 (by decide) wf29 (fun _ h9 => h9) rfl (by decide +kernel) rfl rfl (Nat.le_of_ble_eq_true rfl) dX2_readNumber_104 (fun H locs hP hD hS => ?_)
            replace hP : va_P D vwCl [(h_this, .inr (2, [.int f_faultNumber, .int f_faultPlace, .ref h_open, .int f_depth, .ref h_seen, .int (f_seenCount + 1)])), (h_open, .inl (cy 0, 40, .inl g_open)), (h_seen, .inl (cy 3, 40, .inl (upd g_seen (Int32.toNatClampNeg a1) (vp_nar .boolean 1)))), (h_p3, .inr (6, [.int f_p3_size, .ref h_p3_counts, .ref h_p3_words, .ref h_p3_settings])), (h_p3_settings, .inl (cy 0, 4, .inl g_p3_settings)), (h_p4, .inr (5, [.int f_p4_lists, .ref h_p4_sizes, .ref h_p4_above, .ref h_p4_placeAbove, .ref h_p4_items, .ref h_p4_home, .ref h_p4_placeHome, .ref h_p4_tally])), (h_p4_sizes, .inl (cy 0, 80, .inl g_p4_sizes_4)), (h_p4_items, .inl (cy 0, 720, .inl g_p4_items_5)), (h_p4_home, .inl (cy 0, 40, .inl g_p4_home_6)), (h_p4_placeHome, .inl (cy 0, 40, .inl g_p4_placeHome_7))] H := hP
            replace hD : va_D A [(h_this, .inr (2, [.int f_faultNumber, .int f_faultPlace, .ref h_open, .int f_depth, .ref h_seen, .int (f_seenCount + 1)])), (h_open, .inl (cy 0, 40, .inl g_open)), (h_seen, .inl (cy 3, 40, .inl (upd g_seen (Int32.toNatClampNeg a1) (vp_nar .boolean 1)))), (h_p3, .inr (6, [.int f_p3_size, .ref h_p3_counts, .ref h_p3_words, .ref h_p3_settings])), (h_p3_settings, .inl (cy 0, 4, .inl g_p3_settings)), (h_p4, .inr (5, [.int f_p4_lists, .ref h_p4_sizes, .ref h_p4_above, .ref h_p4_placeAbove, .ref h_p4_items, .ref h_p4_home, .ref h_p4_placeHome, .ref h_p4_tally])), (h_p4_sizes, .inl (cy 0, 80, .inl g_p4_sizes_4)), (h_p4_items, .inl (cy 0, 720, .inl g_p4_items_5)), (h_p4_home, .inl (cy 0, 40, .inl g_p4_home_6)), (h_p4_placeHome, .inl (cy 0, 40, .inl g_p4_placeHome_7))] := hD
            obtain ⟨e0, e1, e2, e3, e4, e5, e6, e7⟩ := ret8 h
            subst e0
            subst e1
            subst e2
            subst e3
            subst e4
            subst e5
            subst e6
            subst e7
            exact rt_v hx hb hr hlk hK hP hD hS dX2_readNumber_107
          · replace h := it_1 h hc
            exact L81 _ _ _ _ _ _ _ _ _ h _ _ _ hP hD hS (lv_sub hl [0, 2] rfl)
      · replace h := it_0 h hc
        refine lv_aload_n hx hb dX2_readNumber_42 rfl (lv_at hl 0 rfl) ?_
        refine lv_iconst (v := 3) hx hb dX2_readNumber_43 (by decide) ?_
        refine lv_iload_n hx hb dX2_readNumber_44 rfl (lv_at hl 2 rfl) ?_
        obtain ⟨f_faultNumber_9, f_faultPlace_10, hu, h⟩ := ob2_1 h
        refine cl_Vv (As := [.int 3, .int a2]) (rest := []) [0] [1, 2, 3, 4, 5, 6, 7, 8, 9] [9, 0, 1, 2, 3, 4, 5, 6, 7, 8] [(h_open, .inl (cy 0, 40, .inl g_open)), (h_seen, .inl (cy 3, 40, .inl g_seen)), (h_p3, .inr (6, [.int f_p3_size, .ref h_p3_counts, .ref h_p3_words, .ref h_p3_settings])), (h_p3_settings, .inl (cy 0, 4, .inl g_p3_settings)), (h_p4, .inr (5, [.int f_p4_lists, .ref h_p4_sizes, .ref h_p4_above, .ref h_p4_placeAbove, .ref h_p4_items, .ref h_p4_home, .ref h_p4_placeHome, .ref h_p4_tally])), (h_p4_sizes, .inl (cy 0, 80, .inl g_p4_sizes)), (h_p4_items, .inl (cy 0, 720, .inl g_p4_items)), (h_p4_home, .inl (cy 0, 40, .inl g_p4_home)), (h_p4_placeHome, .inl (cy 0, 40, .inl g_p4_placeHome))] [(h_this, .inr (2, [.int f_faultNumber_9, .int f_faultPlace_10, .ref h_open, .int f_depth, .ref h_seen, .int f_seenCount])), (h_open, .inl (cy 0, 40, .inl g_open)), (h_seen, .inl (cy 3, 40, .inl g_seen)), (h_p3, .inr (6, [.int f_p3_size, .ref h_p3_counts, .ref h_p3_words, .ref h_p3_settings])), (h_p3_settings, .inl (cy 0, 4, .inl g_p3_settings)), (h_p4, .inr (5, [.int f_p4_lists, .ref h_p4_sizes, .ref h_p4_above, .ref h_p4_placeAbove, .ref h_p4_items, .ref h_p4_home, .ref h_p4_placeHome, .ref h_p4_tally])), (h_p4_sizes, .inl (cy 0, 80, .inl g_p4_sizes)), (h_p4_items, .inl (cy 0, 720, .inl g_p4_items)), (h_p4_home, .inl (cy 0, 40, .inl g_p4_home)), (h_p4_placeHome, .inl (cy 0, 40, .inl g_p4_placeHome))] 2 ⟨hx, hb, hml, hown, hts⟩ (c_X2_refuse (l := l) (D := D) (cy := cy) (sz := _) (h_this := h_this) (h_open := h_open) (h_seen := h_seen) (f_faultNumber := f_faultNumber) (f_faultPlace := f_faultPlace) (f_depth := f_depth) (f_seenCount := f_seenCount) (a1 := 3) (a2 := a2) (o_f_faultNumber := f_faultNumber_9) (o_f_faultPlace := f_faultPlace_10) (hf := hu)) (cwV 2 hts gX2_readNumber_X2_refuse rfl rfl rfl (by decide +kernel) ⟨Nat.le_of_ble_eq_true rfl, Nat.le_of_ble_eq_true rfl⟩) hK hP hD hS hA rfl rfl rfl rfl (by decide) rfl rfl rfl rfl rfl rfl rfl rfl hl.1 rfl (Nat.le_of_ble_eq_true rfl) dX2_readNumber_45 ⟨Nat.zero_le _, Nat.zero_le _⟩ (fun H locs hP hD hS => ?_)
        refine lv_goto (tgt := 107) hx hb dX2_readNumber_48 (by decide) ?_
        obtain ⟨e0, e1, e2, e3, e4, e5, e6, e7⟩ := ret8 h
        subst e0
        subst e1
        subst e2
        subst e3
        subst e4
        subst e5
        subst e6
        subst e7
        exact rt_v hx hb hr hlk hK hP hD hS dX2_readNumber_107
    · replace h := it_0 h hc
      refine lv_aload_n hx hb dX2_readNumber_24 rfl (lv_at hl 0 rfl) ?_
      refine lv_iconst (v := 2) hx hb dX2_readNumber_25 (by decide) ?_
      refine lv_iload_n hx hb dX2_readNumber_26 rfl (lv_at hl 2 rfl) ?_
      obtain ⟨f_faultNumber_11, f_faultPlace_12, hu, h⟩ := ob2_1 h
      refine cl_Vv (As := [.int 2, .int a2]) (rest := []) [0] [1, 2, 3, 4, 5, 6, 7, 8, 9] [9, 0, 1, 2, 3, 4, 5, 6, 7, 8] [(h_open, .inl (cy 0, 40, .inl g_open)), (h_seen, .inl (cy 3, 40, .inl g_seen)), (h_p3, .inr (6, [.int f_p3_size, .ref h_p3_counts, .ref h_p3_words, .ref h_p3_settings])), (h_p3_settings, .inl (cy 0, 4, .inl g_p3_settings)), (h_p4, .inr (5, [.int f_p4_lists, .ref h_p4_sizes, .ref h_p4_above, .ref h_p4_placeAbove, .ref h_p4_items, .ref h_p4_home, .ref h_p4_placeHome, .ref h_p4_tally])), (h_p4_sizes, .inl (cy 0, 80, .inl g_p4_sizes)), (h_p4_items, .inl (cy 0, 720, .inl g_p4_items)), (h_p4_home, .inl (cy 0, 40, .inl g_p4_home)), (h_p4_placeHome, .inl (cy 0, 40, .inl g_p4_placeHome))] [(h_this, .inr (2, [.int f_faultNumber_11, .int f_faultPlace_12, .ref h_open, .int f_depth, .ref h_seen, .int f_seenCount])), (h_open, .inl (cy 0, 40, .inl g_open)), (h_seen, .inl (cy 3, 40, .inl g_seen)), (h_p3, .inr (6, [.int f_p3_size, .ref h_p3_counts, .ref h_p3_words, .ref h_p3_settings])), (h_p3_settings, .inl (cy 0, 4, .inl g_p3_settings)), (h_p4, .inr (5, [.int f_p4_lists, .ref h_p4_sizes, .ref h_p4_above, .ref h_p4_placeAbove, .ref h_p4_items, .ref h_p4_home, .ref h_p4_placeHome, .ref h_p4_tally])), (h_p4_sizes, .inl (cy 0, 80, .inl g_p4_sizes)), (h_p4_items, .inl (cy 0, 720, .inl g_p4_items)), (h_p4_home, .inl (cy 0, 40, .inl g_p4_home)), (h_p4_placeHome, .inl (cy 0, 40, .inl g_p4_placeHome))] 2 ⟨hx, hb, hml, hown, hts⟩ (c_X2_refuse (l := l) (D := D) (cy := cy) (sz := _) (h_this := h_this) (h_open := h_open) (h_seen := h_seen) (f_faultNumber := f_faultNumber) (f_faultPlace := f_faultPlace) (f_depth := f_depth) (f_seenCount := f_seenCount) (a1 := 2) (a2 := a2) (o_f_faultNumber := f_faultNumber_11) (o_f_faultPlace := f_faultPlace_12) (hf := hu)) (cwV 2 hts gX2_readNumber_X2_refuse rfl rfl rfl (by decide +kernel) ⟨Nat.le_of_ble_eq_true rfl, Nat.le_of_ble_eq_true rfl⟩) hK hP hD hS hA rfl rfl rfl rfl (by decide) rfl rfl rfl rfl rfl rfl rfl rfl hl.1 rfl (Nat.le_of_ble_eq_true rfl) dX2_readNumber_27 ⟨Nat.zero_le _, Nat.zero_le _⟩ (fun H locs hP hD hS => ?_)
      refine lv_goto (tgt := 107) hx hb dX2_readNumber_30 (by decide) ?_
      obtain ⟨e0, e1, e2, e3, e4, e5, e6, e7⟩ := ret8 h
      subst e0
      subst e1
      subst e2
      subst e3
      subst e4
      subst e5
      subst e6
      subst e7
      exact rt_v hx hb hr hlk hK hP hD hS dX2_readNumber_107
  · replace h := it_1 h hc
    refine lv_aload_n hx hb dX2_readNumber_7 rfl (lv_at hl 0 rfl) ?_
    refine lv_iconst (v := 1) hx hb dX2_readNumber_8 (by decide) ?_
    refine lv_iload_n hx hb dX2_readNumber_9 rfl (lv_at hl 2 rfl) ?_
    obtain ⟨f_faultNumber_13, f_faultPlace_14, hu, h⟩ := ob2_1 h
    refine cl_Vv (As := [.int 1, .int a2]) (rest := []) [0] [1, 2, 3, 4, 5, 6, 7, 8, 9] [9, 0, 1, 2, 3, 4, 5, 6, 7, 8] [(h_open, .inl (cy 0, 40, .inl g_open)), (h_seen, .inl (cy 3, 40, .inl g_seen)), (h_p3, .inr (6, [.int f_p3_size, .ref h_p3_counts, .ref h_p3_words, .ref h_p3_settings])), (h_p3_settings, .inl (cy 0, 4, .inl g_p3_settings)), (h_p4, .inr (5, [.int f_p4_lists, .ref h_p4_sizes, .ref h_p4_above, .ref h_p4_placeAbove, .ref h_p4_items, .ref h_p4_home, .ref h_p4_placeHome, .ref h_p4_tally])), (h_p4_sizes, .inl (cy 0, 80, .inl g_p4_sizes)), (h_p4_items, .inl (cy 0, 720, .inl g_p4_items)), (h_p4_home, .inl (cy 0, 40, .inl g_p4_home)), (h_p4_placeHome, .inl (cy 0, 40, .inl g_p4_placeHome))] [(h_this, .inr (2, [.int f_faultNumber_13, .int f_faultPlace_14, .ref h_open, .int f_depth, .ref h_seen, .int f_seenCount])), (h_open, .inl (cy 0, 40, .inl g_open)), (h_seen, .inl (cy 3, 40, .inl g_seen)), (h_p3, .inr (6, [.int f_p3_size, .ref h_p3_counts, .ref h_p3_words, .ref h_p3_settings])), (h_p3_settings, .inl (cy 0, 4, .inl g_p3_settings)), (h_p4, .inr (5, [.int f_p4_lists, .ref h_p4_sizes, .ref h_p4_above, .ref h_p4_placeAbove, .ref h_p4_items, .ref h_p4_home, .ref h_p4_placeHome, .ref h_p4_tally])), (h_p4_sizes, .inl (cy 0, 80, .inl g_p4_sizes)), (h_p4_items, .inl (cy 0, 720, .inl g_p4_items)), (h_p4_home, .inl (cy 0, 40, .inl g_p4_home)), (h_p4_placeHome, .inl (cy 0, 40, .inl g_p4_placeHome))] 2 ⟨hx, hb, hml, hown, hts⟩ (c_X2_refuse (l := l) (D := D) (cy := cy) (sz := _) (h_this := h_this) (h_open := h_open) (h_seen := h_seen) (f_faultNumber := f_faultNumber) (f_faultPlace := f_faultPlace) (f_depth := f_depth) (f_seenCount := f_seenCount) (a1 := 1) (a2 := a2) (o_f_faultNumber := f_faultNumber_13) (o_f_faultPlace := f_faultPlace_14) (hf := hu)) (cwV 2 hts gX2_readNumber_X2_refuse rfl rfl rfl (by decide +kernel) ⟨Nat.le_of_ble_eq_true rfl, Nat.le_of_ble_eq_true rfl⟩) hK hP hD hS hA rfl rfl rfl rfl (by decide) rfl rfl rfl rfl rfl rfl rfl rfl hl.1 rfl (Nat.le_of_ble_eq_true rfl) dX2_readNumber_10 ⟨Nat.zero_le _, Nat.zero_le _⟩ (fun H locs hP hD hS => ?_)
    refine lv_goto (tgt := 107) hx hb dX2_readNumber_13 (by decide) ?_
    obtain ⟨e0, e1, e2, e3, e4, e5, e6, e7⟩ := ret8 h
    subst e0
    subst e1
    subst e2
    subst e3
    subst e4
    subst e5
    subst e6
    subst e7
    exact rt_v hx hb hr hlk hK hP hD hS dX2_readNumber_107
abbrev rm_X2_readByte : Room := { frames := 4, cells := 0, slots := 0, locals := 91 }
set_option maxHeartbeats 4000000 in
set_option maxRecDepth 100000 in
theorem c_X2_readByte (l : Launch) (D : va_G) (cy : Nat → ClassId) (h_this h_open h_seen h_p1 h_p4 h_p4_counts h_p4_words h_p4_settings h_p5 h_p5_sizes h_p5_above h_p5_placeAbove h_p5_items h_p5_home h_p5_placeHome h_p5_tally : Nat)    (sz : Nat) (f_faultNumber : Int32) (f_faultPlace : Int32) (f_depth : Int32) (f_seenCount : Int32) (g_open : Nat → Int32) (g_seen : Nat → Int32) (g_p1 : Nat → Int32) (f_p4_size : Int32) (g_p4_settings : Nat → Int32) (f_p5_lists : Int32) (g_p5_sizes : Nat → Int32) (g_p5_above : Nat → Int32) (g_p5_placeAbove : Nat → Int32) (g_p5_items : Nat → Int32) (g_p5_home : Nat → Int32) (g_p5_placeHome : Nat → Int32) (a2 : Int32) (a3 : Int32)  (o_f_faultNumber : Int32) (o_f_faultPlace : Int32) (o_f_depth : Int32) (o_f_seenCount : Int32) (o_g_open : Nat → Int32) (o_g_seen : Nat → Int32) (o_f_p5_lists : Int32) (o_g_p5_sizes : Nat → Int32) (o_g_p5_above : Nat → Int32) (o_g_p5_placeAbove : Nat → Int32) (o_g_p5_items : Nat → Int32) (o_g_p5_home : Nat → Int32) (o_g_p5_placeHome : Nat → Int32) (hf : f_X2_readByte g_p1 f_p4_size g_p4_settings f_faultNumber f_faultPlace f_depth f_seenCount g_open g_seen f_p5_lists g_p5_sizes g_p5_above g_p5_placeAbove g_p5_items g_p5_home g_p5_placeHome a2 a3 = some (o_f_faultNumber, o_f_faultPlace, o_f_depth, o_f_seenCount, o_g_open, o_g_seen, o_f_p5_lists, o_g_p5_sizes, o_g_p5_above, o_g_p5_placeAbove, o_g_p5_items, o_g_p5_home, o_g_p5_placeHome)) : MV l yX2_readByte wsX2_readByte rm_X2_readByte D cy [.ref h_this, .ref h_p1, .int a2, .int a3, .ref h_p4, .ref h_p5] sz [(h_this, .inr (2, [.int f_faultNumber, .int f_faultPlace, .ref h_open, .int f_depth, .ref h_seen, .int f_seenCount])), (h_open, .inl (cy 0, 40, .inl g_open)), (h_seen, .inl (cy 3, 40, .inl g_seen)), (h_p1, .inl (cy 2, 400, .inl g_p1)), (h_p4, .inr (6, [.int f_p4_size, .ref h_p4_counts, .ref h_p4_words, .ref h_p4_settings])), (h_p4_settings, .inl (cy 0, 4, .inl g_p4_settings)), (h_p5, .inr (5, [.int f_p5_lists, .ref h_p5_sizes, .ref h_p5_above, .ref h_p5_placeAbove, .ref h_p5_items, .ref h_p5_home, .ref h_p5_placeHome, .ref h_p5_tally])), (h_p5_sizes, .inl (cy 0, 80, .inl g_p5_sizes)), (h_p5_above, .inl (cy 0, 80, .inl g_p5_above)), (h_p5_placeAbove, .inl (cy 0, 80, .inl g_p5_placeAbove)), (h_p5_items, .inl (cy 0, 720, .inl g_p5_items)), (h_p5_home, .inl (cy 0, 40, .inl g_p5_home)), (h_p5_placeHome, .inl (cy 0, 40, .inl g_p5_placeHome))] [(h_this, .inr (2, [.int o_f_faultNumber, .int o_f_faultPlace, .ref h_open, .int o_f_depth, .ref h_seen, .int o_f_seenCount])), (h_open, .inl (cy 0, 40, .inl o_g_open)), (h_seen, .inl (cy 3, 40, .inl o_g_seen)), (h_p1, .inl (cy 2, 400, .inl g_p1)), (h_p4, .inr (6, [.int f_p4_size, .ref h_p4_counts, .ref h_p4_words, .ref h_p4_settings])), (h_p4_settings, .inl (cy 0, 4, .inl g_p4_settings)), (h_p5, .inr (5, [.int o_f_p5_lists, .ref h_p5_sizes, .ref h_p5_above, .ref h_p5_placeAbove, .ref h_p5_items, .ref h_p5_home, .ref h_p5_placeHome, .ref h_p5_tally])), (h_p5_sizes, .inl (cy 0, 80, .inl o_g_p5_sizes)), (h_p5_above, .inl (cy 0, 80, .inl o_g_p5_above)), (h_p5_placeAbove, .inl (cy 0, 80, .inl o_g_p5_placeAbove)), (h_p5_items, .inl (cy 0, 720, .inl o_g_p5_items)), (h_p5_home, .inl (cy 0, 40, .inl o_g_p5_home)), (h_p5_placeHome, .inl (cy 0, 40, .inl o_g_p5_placeHome))] := by
  refine MV.of (cc := cX2_readByte) (maxL := 7) (ret := none) (by decide) rfl (Nat.le_of_ble_eq_true rfl) ?_
  intro p e s m below meth c A ls hx hb hml hown hts hlk hr hK hA hP hD hS hl
  have h := hf
  unfold f_X2_readByte at h
  replace hl : lv_has ls 7 [(0, .ref h_this), (1, .ref h_p1), (2, .int a2), (3, .int a3), (4, .ref h_p4), (5, .ref h_p5)] := hl
  have L28 : ∀ (f_faultNumber : Int32) (f_faultPlace : Int32) (f_depth : Int32) (f_seenCount : Int32) (g_open : Nat → Int32) (g_seen : Nat → Int32) (f_p5_lists : Int32) (g_p5_sizes : Nat → Int32) (g_p5_above : Nat → Int32) (g_p5_placeAbove : Nat → Int32) (g_p5_items : Nat → Int32) (g_p5_home : Nat → Int32) (g_p5_placeHome : Nat → Int32) (x2 : Int32) (x3 : Int32), f_X2_readByte_L28 g_p1 f_p4_size g_p4_settings f_faultNumber f_faultPlace f_depth f_seenCount g_open g_seen f_p5_lists g_p5_sizes g_p5_above g_p5_placeAbove g_p5_items g_p5_home g_p5_placeHome x2 x3 = some (o_f_faultNumber, o_f_faultPlace, o_f_depth, o_f_seenCount, o_g_open, o_g_seen, o_f_p5_lists, o_g_p5_sizes, o_g_p5_above, o_g_p5_placeAbove, o_g_p5_items, o_g_p5_home, o_g_p5_placeHome) → ∀ (H : Heap) (locs : List Loc) (ls : Array Slot), va_P D vwCl [(h_this, .inr (2, [.int f_faultNumber, .int f_faultPlace, .ref h_open, .int f_depth, .ref h_seen, .int f_seenCount])), (h_open, .inl (cy 0, 40, .inl g_open)), (h_seen, .inl (cy 3, 40, .inl g_seen)), (h_p1, .inl (cy 2, 400, .inl g_p1)), (h_p4, .inr (6, [.int f_p4_size, .ref h_p4_counts, .ref h_p4_words, .ref h_p4_settings])), (h_p4_settings, .inl (cy 0, 4, .inl g_p4_settings)), (h_p5, .inr (5, [.int f_p5_lists, .ref h_p5_sizes, .ref h_p5_above, .ref h_p5_placeAbove, .ref h_p5_items, .ref h_p5_home, .ref h_p5_placeHome, .ref h_p5_tally])), (h_p5_sizes, .inl (cy 0, 80, .inl g_p5_sizes)), (h_p5_above, .inl (cy 0, 80, .inl g_p5_above)), (h_p5_placeAbove, .inl (cy 0, 80, .inl g_p5_placeAbove)), (h_p5_items, .inl (cy 0, 720, .inl g_p5_items)), (h_p5_home, .inl (cy 0, 40, .inl g_p5_home)), (h_p5_placeHome, .inl (cy 0, 40, .inl g_p5_placeHome))] H → va_D A [(h_this, .inr (2, [.int f_faultNumber, .int f_faultPlace, .ref h_open, .int f_depth, .ref h_seen, .int f_seenCount])), (h_open, .inl (cy 0, 40, .inl g_open)), (h_seen, .inl (cy 3, 40, .inl g_seen)), (h_p1, .inl (cy 2, 400, .inl g_p1)), (h_p4, .inr (6, [.int f_p4_size, .ref h_p4_counts, .ref h_p4_words, .ref h_p4_settings])), (h_p4_settings, .inl (cy 0, 4, .inl g_p4_settings)), (h_p5, .inr (5, [.int f_p5_lists, .ref h_p5_sizes, .ref h_p5_above, .ref h_p5_placeAbove, .ref h_p5_items, .ref h_p5_home, .ref h_p5_placeHome, .ref h_p5_tally])), (h_p5_sizes, .inl (cy 0, 80, .inl g_p5_sizes)), (h_p5_above, .inl (cy 0, 80, .inl g_p5_above)), (h_p5_placeAbove, .inl (cy 0, 80, .inl g_p5_placeAbove)), (h_p5_items, .inl (cy 0, 720, .inl g_p5_items)), (h_p5_home, .inl (cy 0, 40, .inl g_p5_home)), (h_p5_placeHome, .inl (cy 0, 40, .inl g_p5_placeHome))] → va_S A s.heap H locs → lv_has ls 7 [(0, .ref h_this), (1, .ref h_p1), (2, .int x2), (3, .int x3), (4, .ref h_p4), (5, .ref h_p5)] → W p l e rm_X2_readByte s m ([.ref h_this, .ref h_p1, .int a2, .int a3, .ref h_p4, .ref h_p5]).toArray below meth c H locs 0 0 (MQ below (QV D cy A [(h_this, .inr (2, [.int o_f_faultNumber, .int o_f_faultPlace, .ref h_open, .int o_f_depth, .ref h_seen, .int o_f_seenCount])), (h_open, .inl (cy 0, 40, .inl o_g_open)), (h_seen, .inl (cy 3, 40, .inl o_g_seen)), (h_p1, .inl (cy 2, 400, .inl g_p1)), (h_p4, .inr (6, [.int f_p4_size, .ref h_p4_counts, .ref h_p4_words, .ref h_p4_settings])), (h_p4_settings, .inl (cy 0, 4, .inl g_p4_settings)), (h_p5, .inr (5, [.int o_f_p5_lists, .ref h_p5_sizes, .ref h_p5_above, .ref h_p5_placeAbove, .ref h_p5_items, .ref h_p5_home, .ref h_p5_placeHome, .ref h_p5_tally])), (h_p5_sizes, .inl (cy 0, 80, .inl o_g_p5_sizes)), (h_p5_above, .inl (cy 0, 80, .inl o_g_p5_above)), (h_p5_placeAbove, .inl (cy 0, 80, .inl o_g_p5_placeAbove)), (h_p5_items, .inl (cy 0, 720, .inl o_g_p5_items)), (h_p5_home, .inl (cy 0, 40, .inl o_g_p5_home)), (h_p5_placeHome, .inl (cy 0, 40, .inl o_g_p5_placeHome))]) ([.ref h_this, .ref h_p1, .int a2, .int a3, .ref h_p4, .ref h_p5]).toArray s 0 0 A) (F0 m 28 ls []) := by
    intro f_faultNumber f_faultPlace f_depth f_seenCount g_open g_seen f_p5_lists g_p5_sizes g_p5_above g_p5_placeAbove g_p5_items g_p5_home g_p5_placeHome x2 x3 h H locs ls hP hD hS hl
    unfold f_X2_readByte_L28 at h
    refine lv_aload_n hx hb dX2_readByte_28 rfl (lv_at hl 0 rfl) ?_
    refine lv_aload_n hx hb dX2_readByte_29 rfl (lv_at hl 1 rfl) ?_
    refine lv_iload_n hx hb dX2_readByte_30 rfl (lv_at hl 2 rfl) ?_
    refine lv_iload_n hx hb dX2_readByte_31 rfl (lv_at hl 3 rfl) ?_
    obtain ⟨r_1, hu, h⟩ := ob_1 h
    refine cl_Si (As := [.ref h_p1, .int x2, .int x3]) (rest := [.ref h_this]) [3] [0, 1, 2, 4, 5, 6, 7, 8, 9, 10, 11, 12] [0, 1, 2, 12, 3, 4, 5, 6, 7, 8, 9, 10, 11] [(h_this, .inr (2, [.int f_faultNumber, .int f_faultPlace, .ref h_open, .int f_depth, .ref h_seen, .int f_seenCount])), (h_open, .inl (cy 0, 40, .inl g_open)), (h_seen, .inl (cy 3, 40, .inl g_seen)), (h_p4, .inr (6, [.int f_p4_size, .ref h_p4_counts, .ref h_p4_words, .ref h_p4_settings])), (h_p4_settings, .inl (cy 0, 4, .inl g_p4_settings)), (h_p5, .inr (5, [.int f_p5_lists, .ref h_p5_sizes, .ref h_p5_above, .ref h_p5_placeAbove, .ref h_p5_items, .ref h_p5_home, .ref h_p5_placeHome, .ref h_p5_tally])), (h_p5_sizes, .inl (cy 0, 80, .inl g_p5_sizes)), (h_p5_above, .inl (cy 0, 80, .inl g_p5_above)), (h_p5_placeAbove, .inl (cy 0, 80, .inl g_p5_placeAbove)), (h_p5_items, .inl (cy 0, 720, .inl g_p5_items)), (h_p5_home, .inl (cy 0, 40, .inl g_p5_home)), (h_p5_placeHome, .inl (cy 0, 40, .inl g_p5_placeHome))] [(h_this, .inr (2, [.int f_faultNumber, .int f_faultPlace, .ref h_open, .int f_depth, .ref h_seen, .int f_seenCount])), (h_open, .inl (cy 0, 40, .inl g_open)), (h_seen, .inl (cy 3, 40, .inl g_seen)), (h_p1, .inl (cy 2, 400, .inl g_p1)), (h_p4, .inr (6, [.int f_p4_size, .ref h_p4_counts, .ref h_p4_words, .ref h_p4_settings])), (h_p4_settings, .inl (cy 0, 4, .inl g_p4_settings)), (h_p5, .inr (5, [.int f_p5_lists, .ref h_p5_sizes, .ref h_p5_above, .ref h_p5_placeAbove, .ref h_p5_items, .ref h_p5_home, .ref h_p5_placeHome, .ref h_p5_tally])), (h_p5_sizes, .inl (cy 0, 80, .inl g_p5_sizes)), (h_p5_above, .inl (cy 0, 80, .inl g_p5_above)), (h_p5_placeAbove, .inl (cy 0, 80, .inl g_p5_placeAbove)), (h_p5_items, .inl (cy 0, 720, .inl g_p5_items)), (h_p5_home, .inl (cy 0, 40, .inl g_p5_home)), (h_p5_placeHome, .inl (cy 0, 40, .inl g_p5_placeHome))] ⟨hx, hb, hml, hown, hts⟩ (c_X2_numberAt (l := l) (D := D) (cy := cy) (sz := _) (h_p0 := h_p1) (g_p0 := g_p1) (a1 := x2) (a2 := x3) (r0 := r_1) (hf := hu)) (va_cwS 3 hts gX2_readByte_X2_numberAt rfl rfl rfl (by decide +kernel) ⟨Nat.le_of_ble_eq_true rfl, Nat.le_of_ble_eq_true rfl⟩) hK hP hD hS hA rfl rfl rfl rfl (by decide) rfl rfl rfl rfl rfl hl.1 rfl (Nat.le_of_ble_eq_true rfl) dX2_readByte_32 ⟨Nat.zero_le _, Nat.zero_le _⟩ (fun H locs hP hD hS => ?_)
    refine lv_iload_n hx hb dX2_readByte_35 rfl (lv_at hl 2 rfl) ?_
    refine lv_aload hx hb dX2_readByte_36 (lv_at hl 4 rfl) ?_
    refine lv_aload hx hb dX2_readByte_38 (lv_at hl 5 rfl) ?_
    obtain ⟨f_faultNumber_2, f_faultPlace_3, f_seenCount_4, g_seen_5, g_p5_sizes_6, g_p5_items_7, g_p5_home_8, g_p5_placeHome_9, hu, h⟩ := ob8_1 h
    refine cl_Vv (As := [.int r_1, .int x2, .ref h_p4, .ref h_p5]) (rest := []) [0, 1, 2, 4, 5, 6, 7, 10, 11, 12] [3, 8, 9] [3, 4, 5, 0, 6, 7, 8, 9, 1, 2, 10, 11, 12] [(h_p1, .inl (cy 2, 400, .inl g_p1)), (h_p5_above, .inl (cy 0, 80, .inl g_p5_above)), (h_p5_placeAbove, .inl (cy 0, 80, .inl g_p5_placeAbove))] [(h_this, .inr (2, [.int f_faultNumber_2, .int f_faultPlace_3, .ref h_open, .int f_depth, .ref h_seen, .int f_seenCount_4])), (h_open, .inl (cy 0, 40, .inl g_open)), (h_seen, .inl (cy 3, 40, .inl g_seen_5)), (h_p1, .inl (cy 2, 400, .inl g_p1)), (h_p4, .inr (6, [.int f_p4_size, .ref h_p4_counts, .ref h_p4_words, .ref h_p4_settings])), (h_p4_settings, .inl (cy 0, 4, .inl g_p4_settings)), (h_p5, .inr (5, [.int f_p5_lists, .ref h_p5_sizes, .ref h_p5_above, .ref h_p5_placeAbove, .ref h_p5_items, .ref h_p5_home, .ref h_p5_placeHome, .ref h_p5_tally])), (h_p5_sizes, .inl (cy 0, 80, .inl g_p5_sizes_6)), (h_p5_above, .inl (cy 0, 80, .inl g_p5_above)), (h_p5_placeAbove, .inl (cy 0, 80, .inl g_p5_placeAbove)), (h_p5_items, .inl (cy 0, 720, .inl g_p5_items_7)), (h_p5_home, .inl (cy 0, 40, .inl g_p5_home_8)), (h_p5_placeHome, .inl (cy 0, 40, .inl g_p5_placeHome_9))] 2 ⟨hx, hb, hml, hown, hts⟩ (c_X2_readNumber (l := l) (D := D) (cy := cy) (sz := _) (h_seen := h_seen) (h_p4_home := h_p5_home) (h_p3 := h_p4) (h_p4_placeHome := h_p5_placeHome) (h_p4_sizes := h_p5_sizes) (h_this := h_this) (h_p4 := h_p5) (h_p4_items := h_p5_items) (h_p3_settings := h_p4_settings) (h_open := h_open) (h_p4_above := h_p5_above) (h_p4_placeAbove := h_p5_placeAbove) (h_p4_tally := h_p5_tally) (h_p3_counts := h_p4_counts) (h_p3_words := h_p4_words) (f_faultNumber := f_faultNumber) (f_faultPlace := f_faultPlace) (f_depth := f_depth) (f_seenCount := f_seenCount) (g_open := g_open) (g_seen := g_seen) (f_p3_size := f_p4_size) (g_p3_settings := g_p4_settings) (f_p4_lists := f_p5_lists) (g_p4_sizes := g_p5_sizes) (g_p4_items := g_p5_items) (g_p4_home := g_p5_home) (g_p4_placeHome := g_p5_placeHome) (a1 := r_1) (a2 := x2) (o_f_faultNumber := f_faultNumber_2) (o_f_faultPlace := f_faultPlace_3) (o_f_seenCount := f_seenCount_4) (o_g_seen := g_seen_5) (o_g_p4_sizes := g_p5_sizes_6) (o_g_p4_items := g_p5_items_7) (o_g_p4_home := g_p5_home_8) (o_g_p4_placeHome := g_p5_placeHome_9) (hf := hu)) (cwV 4 hts gX2_readByte_X2_readNumber rfl rfl rfl (by decide +kernel) ⟨Nat.le_of_ble_eq_true rfl, Nat.le_of_ble_eq_true rfl⟩) hK hP hD hS hA rfl rfl rfl rfl (by decide) rfl rfl rfl rfl rfl rfl rfl rfl hl.1 rfl (Nat.le_of_ble_eq_true rfl) dX2_readByte_40 ⟨Nat.zero_le _, Nat.zero_le _⟩ (fun H locs hP hD hS => ?_)
    refine lv_goto (tgt := 95) hx hb dX2_readByte_43 (by decide) ?_
    obtain ⟨e0, e1, e2, e3, e4, e5, e6, e7, e8, e9, e10, e11, e12⟩ := ret13 h
    subst e0
    subst e1
    subst e2
    subst e3
    subst e4
    subst e5
    subst e6
    subst e7
    subst e8
    subst e9
    subst e10
    subst e11
    subst e12
    exact rt_v hx hb hr hlk hK hP hD hS dX2_readByte_95
  clear hf
  refine lv_aload_n hx hb dX2_readByte_0 rfl (lv_at hl 1 rfl) ?_
  refine lv_iload_n hx hb dX2_readByte_1 rfl (lv_at hl 2 rfl) ?_
  have hi := gi_1 h; replace h := gi_2 h
  refine va_bald hx hb hK hP 3 2 rfl rfl hi dX2_readByte_2 ?_
  refine lv_istore (lv' := [(6, .int (g_p1 (Int32.toNatClampNeg a2))), (0, .ref h_this), (1, .ref h_p1), (2, .int a2), (3, .int a3), (4, .ref h_p4), (5, .ref h_p5)]) hx hb dX2_readByte_3 hl (by decide) rfl (fun ls hl => ?_)
  refine lv_iload hx hb dX2_readByte_5 (lv_at hl 0 rfl) ?_
  obtain ⟨r_10, hu, h⟩ := ob_1 h
  refine cl_Si (As := [.int (g_p1 (Int32.toNatClampNeg a2))]) (rest := []) [] [0, 1, 2, 3, 4, 5, 6, 7, 8, 9, 10, 11, 12] [0, 1, 2, 3, 4, 5, 6, 7, 8, 9, 10, 11, 12] [(h_this, .inr (2, [.int f_faultNumber, .int f_faultPlace, .ref h_open, .int f_depth, .ref h_seen, .int f_seenCount])), (h_open, .inl (cy 0, 40, .inl g_open)), (h_seen, .inl (cy 3, 40, .inl g_seen)), (h_p1, .inl (cy 2, 400, .inl g_p1)), (h_p4, .inr (6, [.int f_p4_size, .ref h_p4_counts, .ref h_p4_words, .ref h_p4_settings])), (h_p4_settings, .inl (cy 0, 4, .inl g_p4_settings)), (h_p5, .inr (5, [.int f_p5_lists, .ref h_p5_sizes, .ref h_p5_above, .ref h_p5_placeAbove, .ref h_p5_items, .ref h_p5_home, .ref h_p5_placeHome, .ref h_p5_tally])), (h_p5_sizes, .inl (cy 0, 80, .inl g_p5_sizes)), (h_p5_above, .inl (cy 0, 80, .inl g_p5_above)), (h_p5_placeAbove, .inl (cy 0, 80, .inl g_p5_placeAbove)), (h_p5_items, .inl (cy 0, 720, .inl g_p5_items)), (h_p5_home, .inl (cy 0, 40, .inl g_p5_home)), (h_p5_placeHome, .inl (cy 0, 40, .inl g_p5_placeHome))] [(h_this, .inr (2, [.int f_faultNumber, .int f_faultPlace, .ref h_open, .int f_depth, .ref h_seen, .int f_seenCount])), (h_open, .inl (cy 0, 40, .inl g_open)), (h_seen, .inl (cy 3, 40, .inl g_seen)), (h_p1, .inl (cy 2, 400, .inl g_p1)), (h_p4, .inr (6, [.int f_p4_size, .ref h_p4_counts, .ref h_p4_words, .ref h_p4_settings])), (h_p4_settings, .inl (cy 0, 4, .inl g_p4_settings)), (h_p5, .inr (5, [.int f_p5_lists, .ref h_p5_sizes, .ref h_p5_above, .ref h_p5_placeAbove, .ref h_p5_items, .ref h_p5_home, .ref h_p5_placeHome, .ref h_p5_tally])), (h_p5_sizes, .inl (cy 0, 80, .inl g_p5_sizes)), (h_p5_above, .inl (cy 0, 80, .inl g_p5_above)), (h_p5_placeAbove, .inl (cy 0, 80, .inl g_p5_placeAbove)), (h_p5_items, .inl (cy 0, 720, .inl g_p5_items)), (h_p5_home, .inl (cy 0, 40, .inl g_p5_home)), (h_p5_placeHome, .inl (cy 0, 40, .inl g_p5_placeHome))] ⟨hx, hb, hml, hown, hts⟩ (c_X2_isDigit (l := l) (D := D) (cy := cy) (sz := _) (a0 := (g_p1 (Int32.toNatClampNeg a2))) (r0 := r_10) (hf := hu)) (va_cwS 1 hts gX2_readByte_X2_isDigit rfl rfl rfl (by decide +kernel) ⟨Nat.le_of_ble_eq_true rfl, Nat.le_of_ble_eq_true rfl⟩) hK hP hD hS hA rfl rfl rfl rfl (by decide) rfl rfl rfl rfl rfl hl.1 rfl (Nat.le_of_ble_eq_true rfl) dX2_readByte_7 ⟨Nat.zero_le _, Nat.zero_le _⟩ (fun H locs hP hD hS => ?_)
  refine lv_if_eq (tgt := 46) hx hb dX2_readByte_10 (by decide) (fun hc => ?_) (fun hc => ?_)
  · replace h := it_1 h hc
    refine lv_iload hx hb dX2_readByte_46 (lv_at hl 0 rfl) ?_
    refine lv_bipush (v := 40) hx hb dX2_readByte_48 (by decide) ?_
    refine lv_icmp_ne (tgt := 65) hx hb dX2_readByte_50 (by decide) (fun hc => ?_) (fun hc => ?_)
    · replace h := it_0 h hc
      refine lv_iload hx hb dX2_readByte_65 (lv_at hl 0 rfl) ?_
      refine lv_bipush (v := 41) hx hb dX2_readByte_67 (by decide) ?_
      refine lv_icmp_ne (tgt := 82) hx hb dX2_readByte_69 (by decide) (fun hc => ?_) (fun hc => ?_)
      · replace h := it_0 h hc
        refine lv_iload hx hb dX2_readByte_82 (lv_at hl 0 rfl) ?_
        refine lv_bipush (v := 32) hx hb dX2_readByte_84 (by decide) ?_
        refine lv_icmp_eq (tgt := 95) hx hb dX2_readByte_86 (by decide) (fun hc => ?_) (fun hc => ?_)
        · replace h := it_1 h hc
          obtain ⟨e0, e1, e2, e3, e4, e5, e6, e7, e8, e9, e10, e11, e12⟩ := ret13 h
          subst e0
          subst e1
          subst e2
          subst e3
          subst e4
          subst e5
          subst e6
          subst e7
          subst e8
          subst e9
          subst e10
          subst e11
          subst e12
          exact rt_v hx hb hr hlk hK hP hD hS dX2_readByte_95
        · replace h := it_0 h hc
          refine lv_aload_n hx hb dX2_readByte_89 rfl (lv_at hl 1 rfl) ?_
          refine lv_iconst (v := 1) hx hb dX2_readByte_90 (by decide) ?_
          refine lv_iload_n hx hb dX2_readByte_91 rfl (lv_at hl 3 rfl) ?_
          obtain ⟨f_faultNumber_11, f_faultPlace_12, hu, h⟩ := ob2_1 h
          refine cl_Vv (As := [.int 1, .int a2]) (rest := []) [0] [1, 2, 3, 4, 5, 6, 7, 8, 9, 10, 11, 12] [12, 0, 1, 2, 3, 4, 5, 6, 7, 8, 9, 10, 11] [(h_open, .inl (cy 0, 40, .inl g_open)), (h_seen, .inl (cy 3, 40, .inl g_seen)), (h_p1, .inl (cy 2, 400, .inl g_p1)), (h_p4, .inr (6, [.int f_p4_size, .ref h_p4_counts, .ref h_p4_words, .ref h_p4_settings])), (h_p4_settings, .inl (cy 0, 4, .inl g_p4_settings)), (h_p5, .inr (5, [.int f_p5_lists, .ref h_p5_sizes, .ref h_p5_above, .ref h_p5_placeAbove, .ref h_p5_items, .ref h_p5_home, .ref h_p5_placeHome, .ref h_p5_tally])), (h_p5_sizes, .inl (cy 0, 80, .inl g_p5_sizes)), (h_p5_above, .inl (cy 0, 80, .inl g_p5_above)), (h_p5_placeAbove, .inl (cy 0, 80, .inl g_p5_placeAbove)), (h_p5_items, .inl (cy 0, 720, .inl g_p5_items)), (h_p5_home, .inl (cy 0, 40, .inl g_p5_home)), (h_p5_placeHome, .inl (cy 0, 40, .inl g_p5_placeHome))] [(h_this, .inr (2, [.int f_faultNumber_11, .int f_faultPlace_12, .ref h_open, .int f_depth, .ref h_seen, .int f_seenCount])), (h_open, .inl (cy 0, 40, .inl g_open)), (h_seen, .inl (cy 3, 40, .inl g_seen)), (h_p1, .inl (cy 2, 400, .inl g_p1)), (h_p4, .inr (6, [.int f_p4_size, .ref h_p4_counts, .ref h_p4_words, .ref h_p4_settings])), (h_p4_settings, .inl (cy 0, 4, .inl g_p4_settings)), (h_p5, .inr (5, [.int f_p5_lists, .ref h_p5_sizes, .ref h_p5_above, .ref h_p5_placeAbove, .ref h_p5_items, .ref h_p5_home, .ref h_p5_placeHome, .ref h_p5_tally])), (h_p5_sizes, .inl (cy 0, 80, .inl g_p5_sizes)), (h_p5_above, .inl (cy 0, 80, .inl g_p5_above)), (h_p5_placeAbove, .inl (cy 0, 80, .inl g_p5_placeAbove)), (h_p5_items, .inl (cy 0, 720, .inl g_p5_items)), (h_p5_home, .inl (cy 0, 40, .inl g_p5_home)), (h_p5_placeHome, .inl (cy 0, 40, .inl g_p5_placeHome))] 2 ⟨hx, hb, hml, hown, hts⟩ (c_X2_refuse (l := l) (D := D) (cy := cy) (sz := _) (h_this := h_this) (h_open := h_open) (h_seen := h_seen) (f_faultNumber := f_faultNumber) (f_faultPlace := f_faultPlace) (f_depth := f_depth) (f_seenCount := f_seenCount) (a1 := 1) (a2 := a2) (o_f_faultNumber := f_faultNumber_11) (o_f_faultPlace := f_faultPlace_12) (hf := hu)) (cwV 2 hts gX2_readByte_X2_refuse rfl rfl rfl (by decide +kernel) ⟨Nat.le_of_ble_eq_true rfl, Nat.le_of_ble_eq_true rfl⟩) hK hP hD hS hA rfl rfl rfl rfl (by decide) rfl rfl rfl rfl rfl rfl rfl rfl hl.1 rfl (Nat.le_of_ble_eq_true rfl) dX2_readByte_92 ⟨Nat.zero_le _, Nat.zero_le _⟩ (fun H locs hP hD hS => ?_)
          obtain ⟨e0, e1, e2, e3, e4, e5, e6, e7, e8, e9, e10, e11, e12⟩ := ret13 h
          subst e0
          subst e1
          subst e2
          subst e3
          subst e4
          subst e5
          subst e6
          subst e7
          subst e8
          subst e9
          subst e10
          subst e11
          subst e12
          exact rt_v hx hb hr hlk hK hP hD hS dX2_readByte_95
      · replace h := it_1 h hc
        refine lv_aload_n hx hb dX2_readByte_72 rfl (lv_at hl 1 rfl) ?_
        refine lv_iload_n hx hb dX2_readByte_73 rfl (lv_at hl 3 rfl) ?_
        refine lv_aload hx hb dX2_readByte_74 (lv_at hl 6 rfl) ?_
        obtain ⟨f_faultNumber_13, f_faultPlace_14, f_depth_15, hu, h⟩ := ob3_1 h
        refine cl_Vv (As := [.int a2, .ref h_p5]) (rest := []) [0, 1, 6, 7] [2, 3, 4, 5, 8, 9, 10, 11, 12] [9, 10, 0, 1, 2, 3, 11, 12, 4, 5, 6, 7, 8] [(h_seen, .inl (cy 3, 40, .inl g_seen)), (h_p1, .inl (cy 2, 400, .inl g_p1)), (h_p4, .inr (6, [.int f_p4_size, .ref h_p4_counts, .ref h_p4_words, .ref h_p4_settings])), (h_p4_settings, .inl (cy 0, 4, .inl g_p4_settings)), (h_p5_above, .inl (cy 0, 80, .inl g_p5_above)), (h_p5_placeAbove, .inl (cy 0, 80, .inl g_p5_placeAbove)), (h_p5_items, .inl (cy 0, 720, .inl g_p5_items)), (h_p5_home, .inl (cy 0, 40, .inl g_p5_home)), (h_p5_placeHome, .inl (cy 0, 40, .inl g_p5_placeHome))] [(h_this, .inr (2, [.int f_faultNumber_13, .int f_faultPlace_14, .ref h_open, .int f_depth_15, .ref h_seen, .int f_seenCount])), (h_open, .inl (cy 0, 40, .inl g_open)), (h_seen, .inl (cy 3, 40, .inl g_seen)), (h_p1, .inl (cy 2, 400, .inl g_p1)), (h_p4, .inr (6, [.int f_p4_size, .ref h_p4_counts, .ref h_p4_words, .ref h_p4_settings])), (h_p4_settings, .inl (cy 0, 4, .inl g_p4_settings)), (h_p5, .inr (5, [.int f_p5_lists, .ref h_p5_sizes, .ref h_p5_above, .ref h_p5_placeAbove, .ref h_p5_items, .ref h_p5_home, .ref h_p5_placeHome, .ref h_p5_tally])), (h_p5_sizes, .inl (cy 0, 80, .inl g_p5_sizes)), (h_p5_above, .inl (cy 0, 80, .inl g_p5_above)), (h_p5_placeAbove, .inl (cy 0, 80, .inl g_p5_placeAbove)), (h_p5_items, .inl (cy 0, 720, .inl g_p5_items)), (h_p5_home, .inl (cy 0, 40, .inl g_p5_home)), (h_p5_placeHome, .inl (cy 0, 40, .inl g_p5_placeHome))] 2 ⟨hx, hb, hml, hown, hts⟩ (c_X2_closeList (l := l) (D := D) (cy := cy) (sz := _) (h_p2 := h_p5) (h_this := h_this) (h_open := h_open) (h_p2_sizes := h_p5_sizes) (h_p2_above := h_p5_above) (h_p2_placeAbove := h_p5_placeAbove) (h_p2_items := h_p5_items) (h_p2_home := h_p5_home) (h_p2_placeHome := h_p5_placeHome) (h_p2_tally := h_p5_tally) (h_seen := h_seen) (f_faultNumber := f_faultNumber) (f_faultPlace := f_faultPlace) (f_depth := f_depth) (f_seenCount := f_seenCount) (g_open := g_open) (f_p2_lists := f_p5_lists) (g_p2_sizes := g_p5_sizes) (a1 := a2) (o_f_faultNumber := f_faultNumber_13) (o_f_faultPlace := f_faultPlace_14) (o_f_depth := f_depth_15) (hf := hu)) (cwV 2 hts gX2_readByte_X2_closeList rfl rfl rfl (by decide +kernel) ⟨Nat.le_of_ble_eq_true rfl, Nat.le_of_ble_eq_true rfl⟩) hK hP hD hS hA rfl rfl rfl rfl (by decide) rfl rfl rfl rfl rfl rfl rfl rfl hl.1 rfl (Nat.le_of_ble_eq_true rfl) dX2_readByte_76 ⟨Nat.zero_le _, Nat.zero_le _⟩ (fun H locs hP hD hS => ?_)
        refine lv_goto (tgt := 95) hx hb dX2_readByte_79 (by decide) ?_
        obtain ⟨e0, e1, e2, e3, e4, e5, e6, e7, e8, e9, e10, e11, e12⟩ := ret13 h
        subst e0
        subst e1
        subst e2
        subst e3
        subst e4
        subst e5
        subst e6
        subst e7
        subst e8
        subst e9
        subst e10
        subst e11
        subst e12
        exact rt_v hx hb hr hlk hK hP hD hS dX2_readByte_95
    · replace h := it_1 h hc
      refine lv_aload_n hx hb dX2_readByte_53 rfl (lv_at hl 1 rfl) ?_
      refine lv_iload_n hx hb dX2_readByte_54 rfl (lv_at hl 3 rfl) ?_
      refine lv_aload hx hb dX2_readByte_55 (lv_at hl 5 rfl) ?_
      refine lv_aload hx hb dX2_readByte_57 (lv_at hl 6 rfl) ?_
      obtain ⟨f_faultNumber_16, f_faultPlace_17, f_depth_18, g_open_19, f_p5_lists_20, g_p5_sizes_21, g_p5_above_22, g_p5_placeAbove_23, g_p5_items_24, hu, h⟩ := ob9_1 h
      refine cl_Vv (As := [.int a2, .ref h_p4, .ref h_p5]) (rest := []) [0, 1, 4, 5, 6, 7, 8, 9, 10] [2, 3, 11, 12] [4, 5, 0, 1, 6, 7, 8, 9, 10, 11, 12, 2, 3] [(h_seen, .inl (cy 3, 40, .inl g_seen)), (h_p1, .inl (cy 2, 400, .inl g_p1)), (h_p5_home, .inl (cy 0, 40, .inl g_p5_home)), (h_p5_placeHome, .inl (cy 0, 40, .inl g_p5_placeHome))] [(h_this, .inr (2, [.int f_faultNumber_16, .int f_faultPlace_17, .ref h_open, .int f_depth_18, .ref h_seen, .int f_seenCount])), (h_open, .inl (cy 0, 40, .inl g_open_19)), (h_seen, .inl (cy 3, 40, .inl g_seen)), (h_p1, .inl (cy 2, 400, .inl g_p1)), (h_p4, .inr (6, [.int f_p4_size, .ref h_p4_counts, .ref h_p4_words, .ref h_p4_settings])), (h_p4_settings, .inl (cy 0, 4, .inl g_p4_settings)), (h_p5, .inr (5, [.int f_p5_lists_20, .ref h_p5_sizes, .ref h_p5_above, .ref h_p5_placeAbove, .ref h_p5_items, .ref h_p5_home, .ref h_p5_placeHome, .ref h_p5_tally])), (h_p5_sizes, .inl (cy 0, 80, .inl g_p5_sizes_21)), (h_p5_above, .inl (cy 0, 80, .inl g_p5_above_22)), (h_p5_placeAbove, .inl (cy 0, 80, .inl g_p5_placeAbove_23)), (h_p5_items, .inl (cy 0, 720, .inl g_p5_items_24)), (h_p5_home, .inl (cy 0, 40, .inl g_p5_home)), (h_p5_placeHome, .inl (cy 0, 40, .inl g_p5_placeHome))] 2 ⟨hx, hb, hml, hown, hts⟩ (c_X2_openList (l := l) (D := D) (cy := cy) (sz := _) (h_p2 := h_p4) (h_p3 := h_p5) (h_p3_sizes := h_p5_sizes) (h_this := h_this) (h_p2_settings := h_p4_settings) (h_p3_placeAbove := h_p5_placeAbove) (h_p3_above := h_p5_above) (h_p3_items := h_p5_items) (h_open := h_open) (h_p2_counts := h_p4_counts) (h_p2_words := h_p4_words) (h_seen := h_seen) (h_p3_home := h_p5_home) (h_p3_placeHome := h_p5_placeHome) (h_p3_tally := h_p5_tally) (f_faultNumber := f_faultNumber) (f_faultPlace := f_faultPlace) (f_depth := f_depth) (f_seenCount := f_seenCount) (g_open := g_open) (f_p2_size := f_p4_size) (g_p2_settings := g_p4_settings) (f_p3_lists := f_p5_lists) (g_p3_sizes := g_p5_sizes) (g_p3_above := g_p5_above) (g_p3_placeAbove := g_p5_placeAbove) (g_p3_items := g_p5_items) (a1 := a2) (o_f_faultNumber := f_faultNumber_16) (o_f_faultPlace := f_faultPlace_17) (o_f_depth := f_depth_18) (o_g_open := g_open_19) (o_f_p3_lists := f_p5_lists_20) (o_g_p3_sizes := g_p5_sizes_21) (o_g_p3_above := g_p5_above_22) (o_g_p3_placeAbove := g_p5_placeAbove_23) (o_g_p3_items := g_p5_items_24) (hf := hu)) (cwV 3 hts gX2_readByte_X2_openList rfl rfl rfl (by decide +kernel) ⟨Nat.le_of_ble_eq_true rfl, Nat.le_of_ble_eq_true rfl⟩) hK hP hD hS hA rfl rfl rfl rfl (by decide) rfl rfl rfl rfl rfl rfl rfl rfl hl.1 rfl (Nat.le_of_ble_eq_true rfl) dX2_readByte_59 ⟨Nat.zero_le _, Nat.zero_le _⟩ (fun H locs hP hD hS => ?_)
      refine lv_goto (tgt := 95) hx hb dX2_readByte_62 (by decide) ?_
      obtain ⟨e0, e1, e2, e3, e4, e5, e6, e7, e8, e9, e10, e11, e12⟩ := ret13 h
      subst e0
      subst e1
      subst e2
      subst e3
      subst e4
      subst e5
      subst e6
      subst e7
      subst e8
      subst e9
      subst e10
      subst e11
      subst e12
      exact rt_v hx hb hr hlk hK hP hD hS dX2_readByte_95
  · replace h := it_0 h hc
    refine lv_iload_n hx hb dX2_readByte_13 rfl (lv_at hl 3 rfl) ?_
    refine lv_if_eq (tgt := 28) hx hb dX2_readByte_14 (by decide) (fun hc => ?_) (fun hc => ?_)
    · replace h := it_1 h hc
      exact L28 _ _ _ _ _ _ _ _ _ _ _ _ _ _ _ h _ _ _ hP hD hS (lv_sub hl [1, 2, 3, 4, 5, 6] rfl)
    · replace h := it_0 h hc
      refine lv_aload_n hx hb dX2_readByte_17 rfl (lv_at hl 2 rfl) ?_
      refine lv_iload_n hx hb dX2_readByte_18 rfl (lv_at hl 3 rfl) ?_
      refine lv_iconst (v := 1) hx hb dX2_readByte_19 (by decide) ?_
      refine lv_isub hx hb dX2_readByte_20 ?_
      have hi := gi_1 h; replace h := gi_2 h
      refine va_bald hx hb hK hP 3 2 rfl rfl hi dX2_readByte_21 ?_
      obtain ⟨r_25, hu, h⟩ := ob_1 h
      refine cl_Si (As := [.int (g_p1 (Int32.toNatClampNeg (a2 - 1)))]) (rest := []) [] [0, 1, 2, 3, 4, 5, 6, 7, 8, 9, 10, 11, 12] [0, 1, 2, 3, 4, 5, 6, 7, 8, 9, 10, 11, 12] [(h_this, .inr (2, [.int f_faultNumber, .int f_faultPlace, .ref h_open, .int f_depth, .ref h_seen, .int f_seenCount])), (h_open, .inl (cy 0, 40, .inl g_open)), (h_seen, .inl (cy 3, 40, .inl g_seen)), (h_p1, .inl (cy 2, 400, .inl g_p1)), (h_p4, .inr (6, [.int f_p4_size, .ref h_p4_counts, .ref h_p4_words, .ref h_p4_settings])), (h_p4_settings, .inl (cy 0, 4, .inl g_p4_settings)), (h_p5, .inr (5, [.int f_p5_lists, .ref h_p5_sizes, .ref h_p5_above, .ref h_p5_placeAbove, .ref h_p5_items, .ref h_p5_home, .ref h_p5_placeHome, .ref h_p5_tally])), (h_p5_sizes, .inl (cy 0, 80, .inl g_p5_sizes)), (h_p5_above, .inl (cy 0, 80, .inl g_p5_above)), (h_p5_placeAbove, .inl (cy 0, 80, .inl g_p5_placeAbove)), (h_p5_items, .inl (cy 0, 720, .inl g_p5_items)), (h_p5_home, .inl (cy 0, 40, .inl g_p5_home)), (h_p5_placeHome, .inl (cy 0, 40, .inl g_p5_placeHome))] [(h_this, .inr (2, [.int f_faultNumber, .int f_faultPlace, .ref h_open, .int f_depth, .ref h_seen, .int f_seenCount])), (h_open, .inl (cy 0, 40, .inl g_open)), (h_seen, .inl (cy 3, 40, .inl g_seen)), (h_p1, .inl (cy 2, 400, .inl g_p1)), (h_p4, .inr (6, [.int f_p4_size, .ref h_p4_counts, .ref h_p4_words, .ref h_p4_settings])), (h_p4_settings, .inl (cy 0, 4, .inl g_p4_settings)), (h_p5, .inr (5, [.int f_p5_lists, .ref h_p5_sizes, .ref h_p5_above, .ref h_p5_placeAbove, .ref h_p5_items, .ref h_p5_home, .ref h_p5_placeHome, .ref h_p5_tally])), (h_p5_sizes, .inl (cy 0, 80, .inl g_p5_sizes)), (h_p5_above, .inl (cy 0, 80, .inl g_p5_above)), (h_p5_placeAbove, .inl (cy 0, 80, .inl g_p5_placeAbove)), (h_p5_items, .inl (cy 0, 720, .inl g_p5_items)), (h_p5_home, .inl (cy 0, 40, .inl g_p5_home)), (h_p5_placeHome, .inl (cy 0, 40, .inl g_p5_placeHome))] ⟨hx, hb, hml, hown, hts⟩ (c_X2_isDigit (l := l) (D := D) (cy := cy) (sz := _) (a0 := (g_p1 (Int32.toNatClampNeg (a2 - 1)))) (r0 := r_25) (hf := hu)) (va_cwS 1 hts gX2_readByte_X2_isDigit rfl rfl rfl (by decide +kernel) ⟨Nat.le_of_ble_eq_true rfl, Nat.le_of_ble_eq_true rfl⟩) hK hP hD hS hA rfl rfl rfl rfl (by decide) rfl rfl rfl rfl rfl hl.1 rfl (Nat.le_of_ble_eq_true rfl) dX2_readByte_22 ⟨Nat.zero_le _, Nat.zero_le _⟩ (fun H locs hP hD hS => ?_)
      refine lv_if_ne (tgt := 95) hx hb dX2_readByte_25 (by decide) (fun hc => ?_) (fun hc => ?_)
      · replace h := it_0 h hc
        obtain ⟨e0, e1, e2, e3, e4, e5, e6, e7, e8, e9, e10, e11, e12⟩ := ret13 h
        subst e0
        subst e1
        subst e2
        subst e3
        subst e4
        subst e5
        subst e6
        subst e7
        subst e8
        subst e9
        subst e10
        subst e11
        subst e12
        exact rt_v hx hb hr hlk hK hP hD hS dX2_readByte_95
      · replace h := it_1 h hc
        exact L28 _ _ _ _ _ _ _ _ _ _ _ _ _ _ _ h _ _ _ hP hD hS (lv_sub hl [1, 2, 3, 4, 5, 6] rfl)
abbrev rm_X2_readEnd : Room := { frames := 1, cells := 0, slots := 0, locals := 22 }
set_option maxHeartbeats 4000000 in
set_option maxRecDepth 100000 in
theorem c_X2_readEnd (l : Launch) (D : va_G) (cy : Nat → ClassId) (h_this h_open h_seen h_p2 h_p2_counts h_p2_words h_p2_settings h_p3 h_p3_sizes h_p3_above h_p3_placeAbove h_p3_items h_p3_home h_p3_placeHome h_p3_tally : Nat)    (sz : Nat) (f_faultNumber : Int32) (f_faultPlace : Int32) (f_depth : Int32) (f_seenCount : Int32) (f_p2_size : Int32) (f_p3_lists : Int32) (a1 : Int32)  (o_f_faultNumber : Int32) (o_f_faultPlace : Int32) (hf : f_X2_readEnd f_depth f_seenCount f_p2_size f_p3_lists f_faultNumber f_faultPlace a1 = some (o_f_faultNumber, o_f_faultPlace)) : MV l yX2_readEnd wsX2_readEnd rm_X2_readEnd D cy [.ref h_this, .int a1, .ref h_p2, .ref h_p3] sz [(h_this, .inr (2, [.int f_faultNumber, .int f_faultPlace, .ref h_open, .int f_depth, .ref h_seen, .int f_seenCount])), (h_p2, .inr (6, [.int f_p2_size, .ref h_p2_counts, .ref h_p2_words, .ref h_p2_settings])), (h_p3, .inr (5, [.int f_p3_lists, .ref h_p3_sizes, .ref h_p3_above, .ref h_p3_placeAbove, .ref h_p3_items, .ref h_p3_home, .ref h_p3_placeHome, .ref h_p3_tally]))] [(h_this, .inr (2, [.int o_f_faultNumber, .int o_f_faultPlace, .ref h_open, .int f_depth, .ref h_seen, .int f_seenCount])), (h_p2, .inr (6, [.int f_p2_size, .ref h_p2_counts, .ref h_p2_words, .ref h_p2_settings])), (h_p3, .inr (5, [.int f_p3_lists, .ref h_p3_sizes, .ref h_p3_above, .ref h_p3_placeAbove, .ref h_p3_items, .ref h_p3_home, .ref h_p3_placeHome, .ref h_p3_tally]))] := by
  refine MV.of (cc := cX2_readEnd) (maxL := 4) (ret := none) (by decide) rfl (Nat.le_of_ble_eq_true rfl) ?_
  intro p e s m below meth c A ls hx hb hml hown hts hlk hr hK hA hP hD hS hl
  have h := hf
  unfold f_X2_readEnd at h
  have wf22 := hts (.fieldLink RX2 22 "MenuPlanner$Reader" "depth" "I") (by decide +kernel)
  have hinX2 := (by decide +kernel : ∀ w ∈ u_ws RX2 TX2 6, w ∈ wsX2_readEnd)
  have wf29 := hts (.fieldLink RX2 29 "MenuPlanner$Reader" "seenCount" "I") (by decide +kernel)
  have wf68 := hts (.fieldLink RX2 68 "MenuPlanner$Use" "size" "I") (by decide +kernel)
  have hinX6 := (by decide +kernel : ∀ w ∈ u_ws RX6 TX6 4, w ∈ wsX2_readEnd)
  replace hl : lv_has ls 4 [(0, .ref h_this), (1, .int a1), (2, .ref h_p2), (3, .ref h_p3)] := hl
  have L14 : ∀ (f_faultNumber : Int32) (f_faultPlace : Int32) (x1 : Int32), f_X2_readEnd_L14 f_faultNumber f_faultPlace x1 = some (o_f_faultNumber, o_f_faultPlace) → ∀ (H : Heap) (locs : List Loc) (ls : Array Slot), va_P D vwCl [(h_this, .inr (2, [.int f_faultNumber, .int f_faultPlace, .ref h_open, .int f_depth, .ref h_seen, .int f_seenCount])), (h_p2, .inr (6, [.int f_p2_size, .ref h_p2_counts, .ref h_p2_words, .ref h_p2_settings])), (h_p3, .inr (5, [.int f_p3_lists, .ref h_p3_sizes, .ref h_p3_above, .ref h_p3_placeAbove, .ref h_p3_items, .ref h_p3_home, .ref h_p3_placeHome, .ref h_p3_tally]))] H → va_D A [(h_this, .inr (2, [.int f_faultNumber, .int f_faultPlace, .ref h_open, .int f_depth, .ref h_seen, .int f_seenCount])), (h_p2, .inr (6, [.int f_p2_size, .ref h_p2_counts, .ref h_p2_words, .ref h_p2_settings])), (h_p3, .inr (5, [.int f_p3_lists, .ref h_p3_sizes, .ref h_p3_above, .ref h_p3_placeAbove, .ref h_p3_items, .ref h_p3_home, .ref h_p3_placeHome, .ref h_p3_tally]))] → va_S A s.heap H locs → lv_has ls 4 [(0, .ref h_this), (1, .int x1)] → W p l e rm_X2_readEnd s m ([.ref h_this, .int a1, .ref h_p2, .ref h_p3]).toArray below meth c H locs 0 0 (MQ below (QV D cy A [(h_this, .inr (2, [.int o_f_faultNumber, .int o_f_faultPlace, .ref h_open, .int f_depth, .ref h_seen, .int f_seenCount])), (h_p2, .inr (6, [.int f_p2_size, .ref h_p2_counts, .ref h_p2_words, .ref h_p2_settings])), (h_p3, .inr (5, [.int f_p3_lists, .ref h_p3_sizes, .ref h_p3_above, .ref h_p3_placeAbove, .ref h_p3_items, .ref h_p3_home, .ref h_p3_placeHome, .ref h_p3_tally]))]) ([.ref h_this, .int a1, .ref h_p2, .ref h_p3]).toArray s 0 0 A) (F0 m 14 ls []) := by
    intro f_faultNumber f_faultPlace x1 h H locs ls hP hD hS hl
    unfold f_X2_readEnd_L14 at h
    refine lv_aload_n hx hb dX2_readEnd_14 rfl (lv_at hl 0 rfl) ?_
    refine lv_iconst (v := 1) hx hb dX2_readEnd_15 (by decide) ?_
    refine lv_iload_n hx hb dX2_readEnd_16 rfl (lv_at hl 1 rfl) ?_
    obtain ⟨f_faultNumber_1, f_faultPlace_2, hu, h⟩ := ob2_1 h
    refine cl_Vv (As := [.int 1, .int x1]) (rest := []) [0] [1, 2] [2, 0, 1] [(h_p2, .inr (6, [.int f_p2_size, .ref h_p2_counts, .ref h_p2_words, .ref h_p2_settings])), (h_p3, .inr (5, [.int f_p3_lists, .ref h_p3_sizes, .ref h_p3_above, .ref h_p3_placeAbove, .ref h_p3_items, .ref h_p3_home, .ref h_p3_placeHome, .ref h_p3_tally]))] [(h_this, .inr (2, [.int f_faultNumber_1, .int f_faultPlace_2, .ref h_open, .int f_depth, .ref h_seen, .int f_seenCount])), (h_p2, .inr (6, [.int f_p2_size, .ref h_p2_counts, .ref h_p2_words, .ref h_p2_settings])), (h_p3, .inr (5, [.int f_p3_lists, .ref h_p3_sizes, .ref h_p3_above, .ref h_p3_placeAbove, .ref h_p3_items, .ref h_p3_home, .ref h_p3_placeHome, .ref h_p3_tally]))] 2 ⟨hx, hb, hml, hown, hts⟩ (c_X2_refuse (l := l) (D := D) (cy := cy) (sz := _) (h_this := h_this) (h_open := h_open) (h_seen := h_seen) (f_faultNumber := f_faultNumber) (f_faultPlace := f_faultPlace) (f_depth := f_depth) (f_seenCount := f_seenCount) (a1 := 1) (a2 := x1) (o_f_faultNumber := f_faultNumber_1) (o_f_faultPlace := f_faultPlace_2) (hf := hu)) (cwV 2 hts gX2_readEnd_X2_refuse rfl rfl rfl (by decide +kernel) ⟨Nat.le_of_ble_eq_true rfl, Nat.le_of_ble_eq_true rfl⟩) hK hP hD hS hA rfl rfl rfl rfl (by decide) rfl rfl rfl rfl rfl rfl rfl rfl hl.1 rfl (Nat.le_of_ble_eq_true rfl) dX2_readEnd_17 ⟨Nat.zero_le _, Nat.zero_le _⟩ (fun H locs hP hD hS => ?_)
    refine lv_goto (tgt := 41) hx hb dX2_readEnd_20 (by decide) ?_
    obtain ⟨e0, e1⟩ := ret2 h
    subst e0
    subst e1
    exact rt_v hx hb hr hlk hK hP hD hS dX2_readEnd_41
  clear hf
  refine lv_aload_n hx hb dX2_readEnd_0 rfl (lv_at hl 0 rfl) ?_
  refine va_get (D := D) (ci := 2) (v := .int f_depth) (C := RX2) (T := TX2) (N := 6) hx hb hts hinX2 hown hK hP 0 rfl rfl 3 (by decide) wf22 (fun _ h9 => h9) rfl dX2_readEnd_1 ?_
  refine lv_if_gt (tgt := 14) hx hb dX2_readEnd_4 (by decide) (fun hc => ?_) (fun hc => ?_)
  · replace h := it_1 h hc
    exact L14 _ _ _ h _ _ _ hP hD hS (lv_sub hl [0, 1] rfl)
  · replace h := it_0 h hc
    refine lv_aload_n hx hb dX2_readEnd_7 rfl (lv_at hl 3 rfl) ?_
    obtain ⟨r_3, hu, h⟩ := ob_1 h
    refine cl_Vi (As := []) (rest := []) [2] [0, 1] [0, 1, 2] [(h_this, .inr (2, [.int f_faultNumber, .int f_faultPlace, .ref h_open, .int f_depth, .ref h_seen, .int f_seenCount])), (h_p2, .inr (6, [.int f_p2_size, .ref h_p2_counts, .ref h_p2_words, .ref h_p2_settings]))] [(h_this, .inr (2, [.int f_faultNumber, .int f_faultPlace, .ref h_open, .int f_depth, .ref h_seen, .int f_seenCount])), (h_p2, .inr (6, [.int f_p2_size, .ref h_p2_counts, .ref h_p2_words, .ref h_p2_settings])), (h_p3, .inr (5, [.int f_p3_lists, .ref h_p3_sizes, .ref h_p3_above, .ref h_p3_placeAbove, .ref h_p3_items, .ref h_p3_home, .ref h_p3_placeHome, .ref h_p3_tally]))] 5 ⟨hx, hb, hml, hown, hts⟩ (c_X5_exists (l := l) (D := D) (cy := cy) (sz := _) (h_this := h_p3) (h_sizes := h_p3_sizes) (h_above := h_p3_above) (h_placeAbove := h_p3_placeAbove) (h_items := h_p3_items) (h_home := h_p3_home) (h_placeHome := h_p3_placeHome) (h_tally := h_p3_tally) (f_lists := f_p3_lists) (r0 := r_3) (hf := hu)) (cwV 0 hts gX2_readEnd_X5_exists rfl rfl rfl (by decide +kernel) ⟨Nat.le_of_ble_eq_true rfl, Nat.le_of_ble_eq_true rfl⟩) hK hP hD hS hA rfl rfl rfl rfl (by decide) rfl rfl rfl rfl rfl rfl rfl rfl hl.1 rfl (Nat.le_of_ble_eq_true rfl) dX2_readEnd_8 ⟨Nat.zero_le _, Nat.zero_le _⟩ (fun H locs hP hD hS => ?_)
    refine lv_if_ne (tgt := 23) hx hb dX2_readEnd_11 (by decide) (fun hc => ?_) (fun hc => ?_)
    · replace h := it_0 h hc
      refine lv_aload_n hx hb dX2_readEnd_23 rfl (lv_at hl 0 rfl) ?_
      refine va_get (D := D) (ci := 2) (v := .int f_seenCount) (C := RX2) (T := TX2) (N := 6) hx hb hts hinX2 hown hK hP 0 rfl rfl 5 (by decide) wf29 (fun _ h9 => h9) rfl dX2_readEnd_24 ?_
      refine lv_aload_n hx hb dX2_readEnd_27 rfl (lv_at hl 2 rfl) ?_
      refine va_get (D := D) (ci := 6) (v := .int f_p2_size) (C := RX6) (T := TX6) (N := 4) hx hb hts hinX6 hown hK hP 1 rfl rfl 0 (by decide) wf68 (fun _ h9 => h9) rfl dX2_readEnd_28 ?_
      refine lv_icmp_ge (tgt := 41) hx hb dX2_readEnd_31 (by decide) (fun hc => ?_) (fun hc => ?_)
      · replace h := it_1 h hc
        obtain ⟨e0, e1⟩ := ret2 h
        subst e0
        subst e1
        exact rt_v hx hb hr hlk hK hP hD hS dX2_readEnd_41
      · replace h := it_0 h hc
        refine lv_aload_n hx hb dX2_readEnd_34 rfl (lv_at hl 0 rfl) ?_
        refine lv_bipush (v := 6) hx hb dX2_readEnd_35 (by decide) ?_
        refine lv_iload_n hx hb dX2_readEnd_37 rfl (lv_at hl 1 rfl) ?_
        obtain ⟨f_faultNumber_4, f_faultPlace_5, hu, h⟩ := ob2_1 h
        refine cl_Vv (As := [.int 6, .int a1]) (rest := []) [0] [1, 2] [2, 0, 1] [(h_p2, .inr (6, [.int f_p2_size, .ref h_p2_counts, .ref h_p2_words, .ref h_p2_settings])), (h_p3, .inr (5, [.int f_p3_lists, .ref h_p3_sizes, .ref h_p3_above, .ref h_p3_placeAbove, .ref h_p3_items, .ref h_p3_home, .ref h_p3_placeHome, .ref h_p3_tally]))] [(h_this, .inr (2, [.int f_faultNumber_4, .int f_faultPlace_5, .ref h_open, .int f_depth, .ref h_seen, .int f_seenCount])), (h_p2, .inr (6, [.int f_p2_size, .ref h_p2_counts, .ref h_p2_words, .ref h_p2_settings])), (h_p3, .inr (5, [.int f_p3_lists, .ref h_p3_sizes, .ref h_p3_above, .ref h_p3_placeAbove, .ref h_p3_items, .ref h_p3_home, .ref h_p3_placeHome, .ref h_p3_tally]))] 2 ⟨hx, hb, hml, hown, hts⟩ (c_X2_refuse (l := l) (D := D) (cy := cy) (sz := _) (h_this := h_this) (h_open := h_open) (h_seen := h_seen) (f_faultNumber := f_faultNumber) (f_faultPlace := f_faultPlace) (f_depth := f_depth) (f_seenCount := f_seenCount) (a1 := 6) (a2 := a1) (o_f_faultNumber := f_faultNumber_4) (o_f_faultPlace := f_faultPlace_5) (hf := hu)) (cwV 2 hts gX2_readEnd_X2_refuse rfl rfl rfl (by decide +kernel) ⟨Nat.le_of_ble_eq_true rfl, Nat.le_of_ble_eq_true rfl⟩) hK hP hD hS hA rfl rfl rfl rfl (by decide) rfl rfl rfl rfl rfl rfl rfl rfl hl.1 rfl (Nat.le_of_ble_eq_true rfl) dX2_readEnd_38 ⟨Nat.zero_le _, Nat.zero_le _⟩ (fun H locs hP hD hS => ?_)
        obtain ⟨e0, e1⟩ := ret2 h
        subst e0
        subst e1
        exact rt_v hx hb hr hlk hK hP hD hS dX2_readEnd_41
    · replace h := it_1 h hc
      exact L14 _ _ _ h _ _ _ hP hD hS (lv_sub hl [0, 1] rfl)
abbrev rm_X2_readTree : Room := { frames := 5, cells := 0, slots := 0, locals := 117 }
set_option maxHeartbeats 4000000 in
set_option maxRecDepth 100000 in
theorem c_X2_readTree (l : Launch) (D : va_G) (cy : Nat → ClassId) (h_this h_open h_seen h_p1 h_p3 h_p3_counts h_p3_words h_p3_settings h_p4 h_p4_sizes h_p4_above h_p4_placeAbove h_p4_items h_p4_home h_p4_placeHome h_p4_tally : Nat)    (sz : Nat) (f_faultNumber : Int32) (f_faultPlace : Int32) (f_depth : Int32) (f_seenCount : Int32) (g_open : Nat → Int32) (g_seen : Nat → Int32) (g_p1 : Nat → Int32) (f_p3_size : Int32) (g_p3_settings : Nat → Int32) (f_p4_lists : Int32) (g_p4_sizes : Nat → Int32) (g_p4_above : Nat → Int32) (g_p4_placeAbove : Nat → Int32) (g_p4_items : Nat → Int32) (g_p4_home : Nat → Int32) (g_p4_placeHome : Nat → Int32) (a2 : Int32)  (o_f_faultNumber : Int32) (o_f_faultPlace : Int32) (o_f_depth : Int32) (o_f_seenCount : Int32) (o_g_open : Nat → Int32) (o_g_seen : Nat → Int32) (o_f_p4_lists : Int32) (o_g_p4_sizes : Nat → Int32) (o_g_p4_above : Nat → Int32) (o_g_p4_placeAbove : Nat → Int32) (o_g_p4_items : Nat → Int32) (o_g_p4_home : Nat → Int32) (o_g_p4_placeHome : Nat → Int32) (hf : f_X2_readTree g_p1 f_p3_size g_p3_settings f_faultNumber f_faultPlace f_depth f_seenCount g_open g_seen f_p4_lists g_p4_sizes g_p4_above g_p4_placeAbove g_p4_items g_p4_home g_p4_placeHome a2 = some (o_f_faultNumber, o_f_faultPlace, o_f_depth, o_f_seenCount, o_g_open, o_g_seen, o_f_p4_lists, o_g_p4_sizes, o_g_p4_above, o_g_p4_placeAbove, o_g_p4_items, o_g_p4_home, o_g_p4_placeHome)) : MV l yX2_readTree wsX2_readTree rm_X2_readTree D cy [.ref h_this, .ref h_p1, .int a2, .ref h_p3, .ref h_p4] sz [(h_this, .inr (2, [.int f_faultNumber, .int f_faultPlace, .ref h_open, .int f_depth, .ref h_seen, .int f_seenCount])), (h_open, .inl (cy 0, 40, .inl g_open)), (h_seen, .inl (cy 3, 40, .inl g_seen)), (h_p1, .inl (cy 2, 400, .inl g_p1)), (h_p3, .inr (6, [.int f_p3_size, .ref h_p3_counts, .ref h_p3_words, .ref h_p3_settings])), (h_p3_settings, .inl (cy 0, 4, .inl g_p3_settings)), (h_p4, .inr (5, [.int f_p4_lists, .ref h_p4_sizes, .ref h_p4_above, .ref h_p4_placeAbove, .ref h_p4_items, .ref h_p4_home, .ref h_p4_placeHome, .ref h_p4_tally])), (h_p4_sizes, .inl (cy 0, 80, .inl g_p4_sizes)), (h_p4_above, .inl (cy 0, 80, .inl g_p4_above)), (h_p4_placeAbove, .inl (cy 0, 80, .inl g_p4_placeAbove)), (h_p4_items, .inl (cy 0, 720, .inl g_p4_items)), (h_p4_home, .inl (cy 0, 40, .inl g_p4_home)), (h_p4_placeHome, .inl (cy 0, 40, .inl g_p4_placeHome))] [(h_this, .inr (2, [.int o_f_faultNumber, .int o_f_faultPlace, .ref h_open, .int o_f_depth, .ref h_seen, .int o_f_seenCount])), (h_open, .inl (cy 0, 40, .inl o_g_open)), (h_seen, .inl (cy 3, 40, .inl o_g_seen)), (h_p1, .inl (cy 2, 400, .inl g_p1)), (h_p3, .inr (6, [.int f_p3_size, .ref h_p3_counts, .ref h_p3_words, .ref h_p3_settings])), (h_p3_settings, .inl (cy 0, 4, .inl g_p3_settings)), (h_p4, .inr (5, [.int o_f_p4_lists, .ref h_p4_sizes, .ref h_p4_above, .ref h_p4_placeAbove, .ref h_p4_items, .ref h_p4_home, .ref h_p4_placeHome, .ref h_p4_tally])), (h_p4_sizes, .inl (cy 0, 80, .inl o_g_p4_sizes)), (h_p4_above, .inl (cy 0, 80, .inl o_g_p4_above)), (h_p4_placeAbove, .inl (cy 0, 80, .inl o_g_p4_placeAbove)), (h_p4_items, .inl (cy 0, 720, .inl o_g_p4_items)), (h_p4_home, .inl (cy 0, 40, .inl o_g_p4_home)), (h_p4_placeHome, .inl (cy 0, 40, .inl o_g_p4_placeHome))] := by
  refine MV.of (cc := cX2_readTree) (maxL := 6) (ret := none) (by decide) rfl (Nat.le_of_ble_eq_true rfl) ?_
  intro p e s m below meth c A ls hx hb hml hown hts hlk hr hK hA hP hD hS hl
  have h := hf
  unfold f_X2_readTree at h
  have wf9 := hts (.fieldLink RX2 9 "MenuPlanner$Reader" "faultNumber" "I") (by decide +kernel)
  have hinX2 := (by decide +kernel : ∀ w ∈ u_ws RX2 TX2 6, w ∈ wsX2_readTree)
  have wf25 := hts (.fieldLink RX2 25 "MenuPlanner$Reader" "seen" "[Z") (by decide +kernel)
  have wf15 := hts (.fieldLink RX2 15 "MenuPlanner$Reader" "faultPlace" "I") (by decide +kernel)
  have wf22 := hts (.fieldLink RX2 22 "MenuPlanner$Reader" "depth" "I") (by decide +kernel)
  have wf29 := hts (.fieldLink RX2 29 "MenuPlanner$Reader" "seenCount" "I") (by decide +kernel)
  replace hl : lv_has ls 6 [(0, .ref h_this), (1, .ref h_p1), (2, .int a2), (3, .ref h_p3), (4, .ref h_p4)] := hl
  have L82 : ∀ (f_faultNumber : Int32) (f_faultPlace : Int32) (f_depth : Int32) (f_seenCount : Int32) (g_open : Nat → Int32) (g_seen : Nat → Int32) (f_p4_lists : Int32) (g_p4_sizes : Nat → Int32) (g_p4_above : Nat → Int32) (g_p4_placeAbove : Nat → Int32) (g_p4_items : Nat → Int32) (g_p4_home : Nat → Int32) (g_p4_placeHome : Nat → Int32) (x2 : Int32), f_X2_readTree_L82 f_p3_size f_faultNumber f_faultPlace f_depth f_seenCount g_open g_seen f_p4_lists g_p4_sizes g_p4_above g_p4_placeAbove g_p4_items g_p4_home g_p4_placeHome x2 = some (o_f_faultNumber, o_f_faultPlace, o_f_depth, o_f_seenCount, o_g_open, o_g_seen, o_f_p4_lists, o_g_p4_sizes, o_g_p4_above, o_g_p4_placeAbove, o_g_p4_items, o_g_p4_home, o_g_p4_placeHome) → ∀ (H : Heap) (locs : List Loc) (ls : Array Slot), va_P D vwCl [(h_this, .inr (2, [.int f_faultNumber, .int f_faultPlace, .ref h_open, .int f_depth, .ref h_seen, .int f_seenCount])), (h_open, .inl (cy 0, 40, .inl g_open)), (h_seen, .inl (cy 3, 40, .inl g_seen)), (h_p1, .inl (cy 2, 400, .inl g_p1)), (h_p3, .inr (6, [.int f_p3_size, .ref h_p3_counts, .ref h_p3_words, .ref h_p3_settings])), (h_p3_settings, .inl (cy 0, 4, .inl g_p3_settings)), (h_p4, .inr (5, [.int f_p4_lists, .ref h_p4_sizes, .ref h_p4_above, .ref h_p4_placeAbove, .ref h_p4_items, .ref h_p4_home, .ref h_p4_placeHome, .ref h_p4_tally])), (h_p4_sizes, .inl (cy 0, 80, .inl g_p4_sizes)), (h_p4_above, .inl (cy 0, 80, .inl g_p4_above)), (h_p4_placeAbove, .inl (cy 0, 80, .inl g_p4_placeAbove)), (h_p4_items, .inl (cy 0, 720, .inl g_p4_items)), (h_p4_home, .inl (cy 0, 40, .inl g_p4_home)), (h_p4_placeHome, .inl (cy 0, 40, .inl g_p4_placeHome))] H → va_D A [(h_this, .inr (2, [.int f_faultNumber, .int f_faultPlace, .ref h_open, .int f_depth, .ref h_seen, .int f_seenCount])), (h_open, .inl (cy 0, 40, .inl g_open)), (h_seen, .inl (cy 3, 40, .inl g_seen)), (h_p1, .inl (cy 2, 400, .inl g_p1)), (h_p3, .inr (6, [.int f_p3_size, .ref h_p3_counts, .ref h_p3_words, .ref h_p3_settings])), (h_p3_settings, .inl (cy 0, 4, .inl g_p3_settings)), (h_p4, .inr (5, [.int f_p4_lists, .ref h_p4_sizes, .ref h_p4_above, .ref h_p4_placeAbove, .ref h_p4_items, .ref h_p4_home, .ref h_p4_placeHome, .ref h_p4_tally])), (h_p4_sizes, .inl (cy 0, 80, .inl g_p4_sizes)), (h_p4_above, .inl (cy 0, 80, .inl g_p4_above)), (h_p4_placeAbove, .inl (cy 0, 80, .inl g_p4_placeAbove)), (h_p4_items, .inl (cy 0, 720, .inl g_p4_items)), (h_p4_home, .inl (cy 0, 40, .inl g_p4_home)), (h_p4_placeHome, .inl (cy 0, 40, .inl g_p4_placeHome))] → va_S A s.heap H locs → lv_has ls 6 [(0, .ref h_this), (2, .int x2), (3, .ref h_p3), (4, .ref h_p4)] → W p l e rm_X2_readTree s m ([.ref h_this, .ref h_p1, .int a2, .ref h_p3, .ref h_p4]).toArray below meth c H locs 0 0 (MQ below (QV D cy A [(h_this, .inr (2, [.int o_f_faultNumber, .int o_f_faultPlace, .ref h_open, .int o_f_depth, .ref h_seen, .int o_f_seenCount])), (h_open, .inl (cy 0, 40, .inl o_g_open)), (h_seen, .inl (cy 3, 40, .inl o_g_seen)), (h_p1, .inl (cy 2, 400, .inl g_p1)), (h_p3, .inr (6, [.int f_p3_size, .ref h_p3_counts, .ref h_p3_words, .ref h_p3_settings])), (h_p3_settings, .inl (cy 0, 4, .inl g_p3_settings)), (h_p4, .inr (5, [.int o_f_p4_lists, .ref h_p4_sizes, .ref h_p4_above, .ref h_p4_placeAbove, .ref h_p4_items, .ref h_p4_home, .ref h_p4_placeHome, .ref h_p4_tally])), (h_p4_sizes, .inl (cy 0, 80, .inl o_g_p4_sizes)), (h_p4_above, .inl (cy 0, 80, .inl o_g_p4_above)), (h_p4_placeAbove, .inl (cy 0, 80, .inl o_g_p4_placeAbove)), (h_p4_items, .inl (cy 0, 720, .inl o_g_p4_items)), (h_p4_home, .inl (cy 0, 40, .inl o_g_p4_home)), (h_p4_placeHome, .inl (cy 0, 40, .inl o_g_p4_placeHome))]) ([.ref h_this, .ref h_p1, .int a2, .ref h_p3, .ref h_p4]).toArray s 0 0 A) (F0 m 82 ls []) := by
    intro f_faultNumber f_faultPlace f_depth f_seenCount g_open g_seen f_p4_lists g_p4_sizes g_p4_above g_p4_placeAbove g_p4_items g_p4_home g_p4_placeHome x2 h H locs ls hP hD hS hl
    unfold f_X2_readTree_L82 at h
    refine lv_aload_n hx hb dX2_readTree_82 rfl (lv_at hl 0 rfl) ?_
    refine va_get (D := D) (ci := 2) (v := .int f_faultNumber) (C := RX2) (T := TX2) (N := 6) hx hb hts hinX2 hown hK hP 0 rfl rfl 0 (by decide) wf9 (fun _ h9 => h9) rfl dX2_readTree_83 ?_
    refine lv_if_ne (tgt := 97) hx hb dX2_readTree_86 (by decide) (fun hc => ?_) (fun hc => ?_)
    · replace h := it_0 h hc
      obtain ⟨e0, e1, e2, e3, e4, e5, e6, e7, e8, e9, e10, e11, e12⟩ := ret13 h
      subst e0
      subst e1
      subst e2
      subst e3
      subst e4
      subst e5
      subst e6
      subst e7
      subst e8
      subst e9
      subst e10
      subst e11
      subst e12
      exact rt_v hx hb hr hlk hK hP hD hS dX2_readTree_97
    · replace h := it_1 h hc
      refine lv_aload_n hx hb dX2_readTree_89 rfl (lv_at hl 0 rfl) ?_
      refine lv_iload_n hx hb dX2_readTree_90 rfl (lv_at hl 1 rfl) ?_
      refine lv_aload_n hx hb dX2_readTree_91 rfl (lv_at hl 2 rfl) ?_
      refine lv_aload hx hb dX2_readTree_92 (lv_at hl 3 rfl) ?_
      obtain ⟨f_faultNumber_1, f_faultPlace_2, hu, h⟩ := ob2_1 h
      refine cl_Vv (As := [.int x2, .ref h_p3, .ref h_p4]) (rest := []) [0, 4, 6] [1, 2, 3, 5, 7, 8, 9, 10, 11, 12] [10, 0, 1, 2, 11, 3, 12, 4, 5, 6, 7, 8, 9] [(h_open, .inl (cy 0, 40, .inl g_open)), (h_seen, .inl (cy 3, 40, .inl g_seen)), (h_p1, .inl (cy 2, 400, .inl g_p1)), (h_p3_settings, .inl (cy 0, 4, .inl g_p3_settings)), (h_p4_sizes, .inl (cy 0, 80, .inl g_p4_sizes)), (h_p4_above, .inl (cy 0, 80, .inl g_p4_above)), (h_p4_placeAbove, .inl (cy 0, 80, .inl g_p4_placeAbove)), (h_p4_items, .inl (cy 0, 720, .inl g_p4_items)), (h_p4_home, .inl (cy 0, 40, .inl g_p4_home)), (h_p4_placeHome, .inl (cy 0, 40, .inl g_p4_placeHome))] [(h_this, .inr (2, [.int f_faultNumber_1, .int f_faultPlace_2, .ref h_open, .int f_depth, .ref h_seen, .int f_seenCount])), (h_open, .inl (cy 0, 40, .inl g_open)), (h_seen, .inl (cy 3, 40, .inl g_seen)), (h_p1, .inl (cy 2, 400, .inl g_p1)), (h_p3, .inr (6, [.int f_p3_size, .ref h_p3_counts, .ref h_p3_words, .ref h_p3_settings])), (h_p3_settings, .inl (cy 0, 4, .inl g_p3_settings)), (h_p4, .inr (5, [.int f_p4_lists, .ref h_p4_sizes, .ref h_p4_above, .ref h_p4_placeAbove, .ref h_p4_items, .ref h_p4_home, .ref h_p4_placeHome, .ref h_p4_tally])), (h_p4_sizes, .inl (cy 0, 80, .inl g_p4_sizes)), (h_p4_above, .inl (cy 0, 80, .inl g_p4_above)), (h_p4_placeAbove, .inl (cy 0, 80, .inl g_p4_placeAbove)), (h_p4_items, .inl (cy 0, 720, .inl g_p4_items)), (h_p4_home, .inl (cy 0, 40, .inl g_p4_home)), (h_p4_placeHome, .inl (cy 0, 40, .inl g_p4_placeHome))] 2 ⟨hx, hb, hml, hown, hts⟩ (c_X2_readEnd (l := l) (D := D) (cy := cy) (sz := _) (h_p2 := h_p3) (h_this := h_this) (h_p3 := h_p4) (h_p2_counts := h_p3_counts) (h_p2_words := h_p3_words) (h_p2_settings := h_p3_settings) (h_open := h_open) (h_seen := h_seen) (h_p3_sizes := h_p4_sizes) (h_p3_above := h_p4_above) (h_p3_placeAbove := h_p4_placeAbove) (h_p3_items := h_p4_items) (h_p3_home := h_p4_home) (h_p3_placeHome := h_p4_placeHome) (h_p3_tally := h_p4_tally) (f_faultNumber := f_faultNumber) (f_faultPlace := f_faultPlace) (f_depth := f_depth) (f_seenCount := f_seenCount) (f_p2_size := f_p3_size) (f_p3_lists := f_p4_lists) (a1 := x2) (o_f_faultNumber := f_faultNumber_1) (o_f_faultPlace := f_faultPlace_2) (hf := hu)) (cwV 3 hts gX2_readTree_X2_readEnd rfl rfl rfl (by decide +kernel) ⟨Nat.le_of_ble_eq_true rfl, Nat.le_of_ble_eq_true rfl⟩) hK hP hD hS hA rfl rfl rfl rfl (by decide) rfl rfl rfl rfl rfl rfl rfl rfl hl.1 rfl (Nat.le_of_ble_eq_true rfl) dX2_readTree_94 ⟨Nat.zero_le _, Nat.zero_le _⟩ (fun H locs hP hD hS => ?_)
      obtain ⟨e0, e1, e2, e3, e4, e5, e6, e7, e8, e9, e10, e11, e12⟩ := ret13 h
      subst e0
      subst e1
      subst e2
      subst e3
      subst e4
      subst e5
      subst e6
      subst e7
      subst e8
      subst e9
      subst e10
      subst e11
      subst e12
      exact rt_v hx hb hr hlk hK hP hD hS dX2_readTree_97
  have L52 : ∀ (n : Nat) (f_faultNumber : Int32) (f_faultPlace : Int32) (f_depth : Int32) (f_seenCount : Int32) (g_open : Nat → Int32) (g_seen : Nat → Int32) (f_p4_lists : Int32) (g_p4_sizes : Nat → Int32) (g_p4_above : Nat → Int32) (g_p4_placeAbove : Nat → Int32) (g_p4_items : Nat → Int32) (g_p4_home : Nat → Int32) (g_p4_placeHome : Nat → Int32) (x2 : Int32) (x5 : Int32), f_X2_readTree_L52 g_p1 f_p3_size g_p3_settings n f_faultNumber f_faultPlace f_depth f_seenCount g_open g_seen f_p4_lists g_p4_sizes g_p4_above g_p4_placeAbove g_p4_items g_p4_home g_p4_placeHome x2 x5 = some (o_f_faultNumber, o_f_faultPlace, o_f_depth, o_f_seenCount, o_g_open, o_g_seen, o_f_p4_lists, o_g_p4_sizes, o_g_p4_above, o_g_p4_placeAbove, o_g_p4_items, o_g_p4_home, o_g_p4_placeHome) → ∀ (H : Heap) (locs : List Loc) (ls : Array Slot), va_P D vwCl [(h_this, .inr (2, [.int f_faultNumber, .int f_faultPlace, .ref h_open, .int f_depth, .ref h_seen, .int f_seenCount])), (h_open, .inl (cy 0, 40, .inl g_open)), (h_seen, .inl (cy 3, 40, .inl g_seen)), (h_p1, .inl (cy 2, 400, .inl g_p1)), (h_p3, .inr (6, [.int f_p3_size, .ref h_p3_counts, .ref h_p3_words, .ref h_p3_settings])), (h_p3_settings, .inl (cy 0, 4, .inl g_p3_settings)), (h_p4, .inr (5, [.int f_p4_lists, .ref h_p4_sizes, .ref h_p4_above, .ref h_p4_placeAbove, .ref h_p4_items, .ref h_p4_home, .ref h_p4_placeHome, .ref h_p4_tally])), (h_p4_sizes, .inl (cy 0, 80, .inl g_p4_sizes)), (h_p4_above, .inl (cy 0, 80, .inl g_p4_above)), (h_p4_placeAbove, .inl (cy 0, 80, .inl g_p4_placeAbove)), (h_p4_items, .inl (cy 0, 720, .inl g_p4_items)), (h_p4_home, .inl (cy 0, 40, .inl g_p4_home)), (h_p4_placeHome, .inl (cy 0, 40, .inl g_p4_placeHome))] H → va_D A [(h_this, .inr (2, [.int f_faultNumber, .int f_faultPlace, .ref h_open, .int f_depth, .ref h_seen, .int f_seenCount])), (h_open, .inl (cy 0, 40, .inl g_open)), (h_seen, .inl (cy 3, 40, .inl g_seen)), (h_p1, .inl (cy 2, 400, .inl g_p1)), (h_p3, .inr (6, [.int f_p3_size, .ref h_p3_counts, .ref h_p3_words, .ref h_p3_settings])), (h_p3_settings, .inl (cy 0, 4, .inl g_p3_settings)), (h_p4, .inr (5, [.int f_p4_lists, .ref h_p4_sizes, .ref h_p4_above, .ref h_p4_placeAbove, .ref h_p4_items, .ref h_p4_home, .ref h_p4_placeHome, .ref h_p4_tally])), (h_p4_sizes, .inl (cy 0, 80, .inl g_p4_sizes)), (h_p4_above, .inl (cy 0, 80, .inl g_p4_above)), (h_p4_placeAbove, .inl (cy 0, 80, .inl g_p4_placeAbove)), (h_p4_items, .inl (cy 0, 720, .inl g_p4_items)), (h_p4_home, .inl (cy 0, 40, .inl g_p4_home)), (h_p4_placeHome, .inl (cy 0, 40, .inl g_p4_placeHome))] → va_S A s.heap H locs → lv_has ls 6 [(0, .ref h_this), (1, .ref h_p1), (2, .int x2), (3, .ref h_p3), (4, .ref h_p4), (5, .int x5)] → W p l e rm_X2_readTree s m ([.ref h_this, .ref h_p1, .int a2, .ref h_p3, .ref h_p4]).toArray below meth c H locs 0 0 (MQ below (QV D cy A [(h_this, .inr (2, [.int o_f_faultNumber, .int o_f_faultPlace, .ref h_open, .int o_f_depth, .ref h_seen, .int o_f_seenCount])), (h_open, .inl (cy 0, 40, .inl o_g_open)), (h_seen, .inl (cy 3, 40, .inl o_g_seen)), (h_p1, .inl (cy 2, 400, .inl g_p1)), (h_p3, .inr (6, [.int f_p3_size, .ref h_p3_counts, .ref h_p3_words, .ref h_p3_settings])), (h_p3_settings, .inl (cy 0, 4, .inl g_p3_settings)), (h_p4, .inr (5, [.int o_f_p4_lists, .ref h_p4_sizes, .ref h_p4_above, .ref h_p4_placeAbove, .ref h_p4_items, .ref h_p4_home, .ref h_p4_placeHome, .ref h_p4_tally])), (h_p4_sizes, .inl (cy 0, 80, .inl o_g_p4_sizes)), (h_p4_above, .inl (cy 0, 80, .inl o_g_p4_above)), (h_p4_placeAbove, .inl (cy 0, 80, .inl o_g_p4_placeAbove)), (h_p4_items, .inl (cy 0, 720, .inl o_g_p4_items)), (h_p4_home, .inl (cy 0, 40, .inl o_g_p4_home)), (h_p4_placeHome, .inl (cy 0, 40, .inl o_g_p4_placeHome))]) ([.ref h_this, .ref h_p1, .int a2, .ref h_p3, .ref h_p4]).toArray s 0 0 A) (F0 m 52 ls []) := by
    intro n
    induction n with
    | zero => intro f_faultNumber f_faultPlace f_depth f_seenCount g_open g_seen f_p4_lists g_p4_sizes g_p4_above g_p4_placeAbove g_p4_items g_p4_home g_p4_placeHome x2 x5 h; exact absurd (show (none : Option _) = some _ from h) (by intro q; cases q)
    | succ n52 ih52 =>
      intro f_faultNumber f_faultPlace f_depth f_seenCount g_open g_seen f_p4_lists g_p4_sizes g_p4_above g_p4_placeAbove g_p4_items g_p4_home g_p4_placeHome x2 x5 h H locs ls hP hD hS hl
      replace h : f_X2_readTree_L52_F g_p1 f_p3_size g_p3_settings (f_X2_readTree_L52 g_p1 f_p3_size g_p3_settings n52) f_faultNumber f_faultPlace f_depth f_seenCount g_open g_seen f_p4_lists g_p4_sizes g_p4_above g_p4_placeAbove g_p4_items g_p4_home g_p4_placeHome x2 x5 = some (o_f_faultNumber, o_f_faultPlace, o_f_depth, o_f_seenCount, o_g_open, o_g_seen, o_f_p4_lists, o_g_p4_sizes, o_g_p4_above, o_g_p4_placeAbove, o_g_p4_items, o_g_p4_home, o_g_p4_placeHome) := h
      unfold f_X2_readTree_L52_F at h
      refine lv_iload hx hb dX2_readTree_52 (lv_at hl 5 rfl) ?_
      refine lv_iload_n hx hb dX2_readTree_54 rfl (lv_at hl 2 rfl) ?_
      refine lv_icmp_ge (tgt := 82) hx hb dX2_readTree_55 (by decide) (fun hc => ?_) (fun hc => ?_)
      · replace h := it_1 h hc
        exact L82 _ _ _ _ _ _ _ _ _ _ _ _ _ _ h _ _ _ hP hD hS (lv_sub hl [0, 2, 3, 4] rfl)
      · replace h := it_0 h hc
        refine lv_aload_n hx hb dX2_readTree_58 rfl (lv_at hl 0 rfl) ?_
        refine va_get (D := D) (ci := 2) (v := .int f_faultNumber) (C := RX2) (T := TX2) (N := 6) hx hb hts hinX2 hown hK hP 0 rfl rfl 0 (by decide) wf9 (fun _ h9 => h9) rfl dX2_readTree_59 ?_
        refine lv_if_ne (tgt := 82) hx hb dX2_readTree_62 (by decide) (fun hc => ?_) (fun hc => ?_)
        · replace h := it_0 h hc
          exact L82 _ _ _ _ _ _ _ _ _ _ _ _ _ _ h _ _ _ hP hD hS (lv_sub hl [0, 2, 3, 4] rfl)
        · replace h := it_1 h hc
          refine lv_aload_n hx hb dX2_readTree_65 rfl (lv_at hl 0 rfl) ?_
          refine lv_aload_n hx hb dX2_readTree_66 rfl (lv_at hl 1 rfl) ?_
          refine lv_iload hx hb dX2_readTree_67 (lv_at hl 5 rfl) ?_
          refine lv_iload_n hx hb dX2_readTree_69 rfl (lv_at hl 2 rfl) ?_
          refine lv_aload_n hx hb dX2_readTree_70 rfl (lv_at hl 3 rfl) ?_
          refine lv_aload hx hb dX2_readTree_71 (lv_at hl 4 rfl) ?_
          obtain ⟨f_faultNumber_3, f_faultPlace_4, f_depth_5, f_seenCount_6, g_open_7, g_seen_8, f_p4_lists_9, g_p4_sizes_10, g_p4_above_11, g_p4_placeAbove_12, g_p4_items_13, g_p4_home_14, g_p4_placeHome_15, hu, h⟩ := ob13_1 h
          refine cl_Vv (As := [.ref h_p1, .int x5, .int x2, .ref h_p3, .ref h_p4]) (rest := []) [0, 1, 2, 3, 4, 5, 6, 7, 8, 9, 10, 11, 12] [] [0, 1, 2, 3, 4, 5, 6, 7, 8, 9, 10, 11, 12] [] [(h_this, .inr (2, [.int f_faultNumber_3, .int f_faultPlace_4, .ref h_open, .int f_depth_5, .ref h_seen, .int f_seenCount_6])), (h_open, .inl (cy 0, 40, .inl g_open_7)), (h_seen, .inl (cy 3, 40, .inl g_seen_8)), (h_p1, .inl (cy 2, 400, .inl g_p1)), (h_p3, .inr (6, [.int f_p3_size, .ref h_p3_counts, .ref h_p3_words, .ref h_p3_settings])), (h_p3_settings, .inl (cy 0, 4, .inl g_p3_settings)), (h_p4, .inr (5, [.int f_p4_lists_9, .ref h_p4_sizes, .ref h_p4_above, .ref h_p4_placeAbove, .ref h_p4_items, .ref h_p4_home, .ref h_p4_placeHome, .ref h_p4_tally])), (h_p4_sizes, .inl (cy 0, 80, .inl g_p4_sizes_10)), (h_p4_above, .inl (cy 0, 80, .inl g_p4_above_11)), (h_p4_placeAbove, .inl (cy 0, 80, .inl g_p4_placeAbove_12)), (h_p4_items, .inl (cy 0, 720, .inl g_p4_items_13)), (h_p4_home, .inl (cy 0, 40, .inl g_p4_home_14)), (h_p4_placeHome, .inl (cy 0, 40, .inl g_p4_placeHome_15))] 2 ⟨hx, hb, hml, hown, hts⟩ (c_X2_readByte (l := l) (D := D) (cy := cy) (sz := _) (h_seen := h_seen) (h_p4_settings := h_p3_settings) (h_p5_sizes := h_p4_sizes) (h_p5_placeHome := h_p4_placeHome) (h_p1 := h_p1) (h_p5 := h_p4) (h_this := h_this) (h_p4 := h_p3) (h_p5_placeAbove := h_p4_placeAbove) (h_p5_above := h_p4_above) (h_p5_items := h_p4_items) (h_open := h_open) (h_p5_home := h_p4_home) (h_p5_tally := h_p4_tally) (h_p4_counts := h_p3_counts) (h_p4_words := h_p3_words) (f_faultNumber := f_faultNumber) (f_faultPlace := f_faultPlace) (f_depth := f_depth) (f_seenCount := f_seenCount) (g_open := g_open) (g_seen := g_seen) (g_p1 := g_p1) (f_p4_size := f_p3_size) (g_p4_settings := g_p3_settings) (f_p5_lists := f_p4_lists) (g_p5_sizes := g_p4_sizes) (g_p5_above := g_p4_above) (g_p5_placeAbove := g_p4_placeAbove) (g_p5_items := g_p4_items) (g_p5_home := g_p4_home) (g_p5_placeHome := g_p4_placeHome) (a2 := x5) (a3 := x2) (o_f_faultNumber := f_faultNumber_3) (o_f_faultPlace := f_faultPlace_4) (o_f_depth := f_depth_5) (o_f_seenCount := f_seenCount_6) (o_g_open := g_open_7) (o_g_seen := g_seen_8) (o_f_p5_lists := f_p4_lists_9) (o_g_p5_sizes := g_p4_sizes_10) (o_g_p5_above := g_p4_above_11) (o_g_p5_placeAbove := g_p4_placeAbove_12) (o_g_p5_items := g_p4_items_13) (o_g_p5_home := g_p4_home_14) (o_g_p5_placeHome := g_p4_placeHome_15) (hf := hu)) (cwV 5 hts gX2_readTree_X2_readByte rfl rfl rfl (by decide +kernel) ⟨Nat.le_of_ble_eq_true rfl, Nat.le_of_ble_eq_true rfl⟩) hK hP hD hS hA rfl rfl rfl rfl (by decide) rfl rfl rfl rfl rfl rfl rfl rfl hl.1 rfl (Nat.le_of_ble_eq_true rfl) dX2_readTree_73 ⟨Nat.zero_le _, Nat.zero_le _⟩ (fun H locs hP hD hS => ?_)
          refine lv_iinc (v := (x5 + 1)) (lv' := [(5, .int (x5 + 1)), (0, .ref h_this), (1, .ref h_p1), (2, .int x2), (3, .ref h_p3), (4, .ref h_p4)]) hx hb dX2_readTree_76 hl (k := 5) rfl rfl (by decide) rfl (fun ls hl => ?_)
          refine lv_goto (tgt := 52) hx hb dX2_readTree_79 (by decide) ?_
          exact ih52 _ _ _ _ _ _ _ _ _ _ _ _ _ _ _ h _ _ _ hP hD hS (lv_sub hl [1, 2, 3, 4, 5, 0] rfl)
  have L23 : ∀ (n : Nat) (f_faultNumber : Int32) (f_faultPlace : Int32) (f_depth : Int32) (f_seenCount : Int32) (g_open : Nat → Int32) (g_seen : Nat → Int32) (f_p4_lists : Int32) (g_p4_sizes : Nat → Int32) (g_p4_above : Nat → Int32) (g_p4_placeAbove : Nat → Int32) (g_p4_items : Nat → Int32) (g_p4_home : Nat → Int32) (g_p4_placeHome : Nat → Int32) (x2 : Int32) (x5 : Int32), f_X2_readTree_L23 g_p1 f_p3_size g_p3_settings n f_faultNumber f_faultPlace f_depth f_seenCount g_open g_seen f_p4_lists g_p4_sizes g_p4_above g_p4_placeAbove g_p4_items g_p4_home g_p4_placeHome x2 x5 = some (o_f_faultNumber, o_f_faultPlace, o_f_depth, o_f_seenCount, o_g_open, o_g_seen, o_f_p4_lists, o_g_p4_sizes, o_g_p4_above, o_g_p4_placeAbove, o_g_p4_items, o_g_p4_home, o_g_p4_placeHome) → ∀ (H : Heap) (locs : List Loc) (ls : Array Slot), va_P D vwCl [(h_this, .inr (2, [.int f_faultNumber, .int f_faultPlace, .ref h_open, .int f_depth, .ref h_seen, .int f_seenCount])), (h_open, .inl (cy 0, 40, .inl g_open)), (h_seen, .inl (cy 3, 40, .inl g_seen)), (h_p1, .inl (cy 2, 400, .inl g_p1)), (h_p3, .inr (6, [.int f_p3_size, .ref h_p3_counts, .ref h_p3_words, .ref h_p3_settings])), (h_p3_settings, .inl (cy 0, 4, .inl g_p3_settings)), (h_p4, .inr (5, [.int f_p4_lists, .ref h_p4_sizes, .ref h_p4_above, .ref h_p4_placeAbove, .ref h_p4_items, .ref h_p4_home, .ref h_p4_placeHome, .ref h_p4_tally])), (h_p4_sizes, .inl (cy 0, 80, .inl g_p4_sizes)), (h_p4_above, .inl (cy 0, 80, .inl g_p4_above)), (h_p4_placeAbove, .inl (cy 0, 80, .inl g_p4_placeAbove)), (h_p4_items, .inl (cy 0, 720, .inl g_p4_items)), (h_p4_home, .inl (cy 0, 40, .inl g_p4_home)), (h_p4_placeHome, .inl (cy 0, 40, .inl g_p4_placeHome))] H → va_D A [(h_this, .inr (2, [.int f_faultNumber, .int f_faultPlace, .ref h_open, .int f_depth, .ref h_seen, .int f_seenCount])), (h_open, .inl (cy 0, 40, .inl g_open)), (h_seen, .inl (cy 3, 40, .inl g_seen)), (h_p1, .inl (cy 2, 400, .inl g_p1)), (h_p3, .inr (6, [.int f_p3_size, .ref h_p3_counts, .ref h_p3_words, .ref h_p3_settings])), (h_p3_settings, .inl (cy 0, 4, .inl g_p3_settings)), (h_p4, .inr (5, [.int f_p4_lists, .ref h_p4_sizes, .ref h_p4_above, .ref h_p4_placeAbove, .ref h_p4_items, .ref h_p4_home, .ref h_p4_placeHome, .ref h_p4_tally])), (h_p4_sizes, .inl (cy 0, 80, .inl g_p4_sizes)), (h_p4_above, .inl (cy 0, 80, .inl g_p4_above)), (h_p4_placeAbove, .inl (cy 0, 80, .inl g_p4_placeAbove)), (h_p4_items, .inl (cy 0, 720, .inl g_p4_items)), (h_p4_home, .inl (cy 0, 40, .inl g_p4_home)), (h_p4_placeHome, .inl (cy 0, 40, .inl g_p4_placeHome))] → va_S A s.heap H locs → lv_has ls 6 [(0, .ref h_this), (1, .ref h_p1), (2, .int x2), (3, .ref h_p3), (4, .ref h_p4), (5, .int x5)] → W p l e rm_X2_readTree s m ([.ref h_this, .ref h_p1, .int a2, .ref h_p3, .ref h_p4]).toArray below meth c H locs 0 0 (MQ below (QV D cy A [(h_this, .inr (2, [.int o_f_faultNumber, .int o_f_faultPlace, .ref h_open, .int o_f_depth, .ref h_seen, .int o_f_seenCount])), (h_open, .inl (cy 0, 40, .inl o_g_open)), (h_seen, .inl (cy 3, 40, .inl o_g_seen)), (h_p1, .inl (cy 2, 400, .inl g_p1)), (h_p3, .inr (6, [.int f_p3_size, .ref h_p3_counts, .ref h_p3_words, .ref h_p3_settings])), (h_p3_settings, .inl (cy 0, 4, .inl g_p3_settings)), (h_p4, .inr (5, [.int o_f_p4_lists, .ref h_p4_sizes, .ref h_p4_above, .ref h_p4_placeAbove, .ref h_p4_items, .ref h_p4_home, .ref h_p4_placeHome, .ref h_p4_tally])), (h_p4_sizes, .inl (cy 0, 80, .inl o_g_p4_sizes)), (h_p4_above, .inl (cy 0, 80, .inl o_g_p4_above)), (h_p4_placeAbove, .inl (cy 0, 80, .inl o_g_p4_placeAbove)), (h_p4_items, .inl (cy 0, 720, .inl o_g_p4_items)), (h_p4_home, .inl (cy 0, 40, .inl o_g_p4_home)), (h_p4_placeHome, .inl (cy 0, 40, .inl o_g_p4_placeHome))]) ([.ref h_this, .ref h_p1, .int a2, .ref h_p3, .ref h_p4]).toArray s 0 0 A) (F0 m 23 ls []) := by
    intro n
    induction n with
    | zero => intro f_faultNumber f_faultPlace f_depth f_seenCount g_open g_seen f_p4_lists g_p4_sizes g_p4_above g_p4_placeAbove g_p4_items g_p4_home g_p4_placeHome x2 x5 h; exact absurd (show (none : Option _) = some _ from h) (by intro q; cases q)
    | succ n23 ih23 =>
      intro f_faultNumber f_faultPlace f_depth f_seenCount g_open g_seen f_p4_lists g_p4_sizes g_p4_above g_p4_placeAbove g_p4_items g_p4_home g_p4_placeHome x2 x5 h H locs ls hP hD hS hl
      replace h : f_X2_readTree_L23_F g_p1 f_p3_size g_p3_settings (f_X2_readTree_L23 g_p1 f_p3_size g_p3_settings n23) f_faultNumber f_faultPlace f_depth f_seenCount g_open g_seen f_p4_lists g_p4_sizes g_p4_above g_p4_placeAbove g_p4_items g_p4_home g_p4_placeHome x2 x5 = some (o_f_faultNumber, o_f_faultPlace, o_f_depth, o_f_seenCount, o_g_open, o_g_seen, o_f_p4_lists, o_g_p4_sizes, o_g_p4_above, o_g_p4_placeAbove, o_g_p4_items, o_g_p4_home, o_g_p4_placeHome) := h
      unfold f_X2_readTree_L23_F at h
      refine lv_iload hx hb dX2_readTree_23 (lv_at hl 5 rfl) ?_
      refine lv_bipush (v := 40) hx hb dX2_readTree_25 (by decide) ?_
      refine lv_icmp_ge (tgt := 44) hx hb dX2_readTree_27 (by decide) (fun hc => ?_) (fun hc => ?_)
      · replace h := it_1 h hc
        refine lv_aload hx hb dX2_readTree_44 (lv_at hl 4 rfl) ?_
        obtain ⟨f_p4_lists_16, hu, h⟩ := ob_1 h
        refine cl_Vv (As := []) (rest := []) [6] [0, 1, 2, 3, 4, 5, 7, 8, 9, 10, 11, 12] [0, 1, 2, 3, 4, 5, 12, 6, 7, 8, 9, 10, 11] [(h_this, .inr (2, [.int f_faultNumber, .int f_faultPlace, .ref h_open, .int f_depth, .ref h_seen, .int f_seenCount])), (h_open, .inl (cy 0, 40, .inl g_open)), (h_seen, .inl (cy 3, 40, .inl g_seen)), (h_p1, .inl (cy 2, 400, .inl g_p1)), (h_p3, .inr (6, [.int f_p3_size, .ref h_p3_counts, .ref h_p3_words, .ref h_p3_settings])), (h_p3_settings, .inl (cy 0, 4, .inl g_p3_settings)), (h_p4_sizes, .inl (cy 0, 80, .inl g_p4_sizes)), (h_p4_above, .inl (cy 0, 80, .inl g_p4_above)), (h_p4_placeAbove, .inl (cy 0, 80, .inl g_p4_placeAbove)), (h_p4_items, .inl (cy 0, 720, .inl g_p4_items)), (h_p4_home, .inl (cy 0, 40, .inl g_p4_home)), (h_p4_placeHome, .inl (cy 0, 40, .inl g_p4_placeHome))] [(h_this, .inr (2, [.int f_faultNumber, .int f_faultPlace, .ref h_open, .int f_depth, .ref h_seen, .int f_seenCount])), (h_open, .inl (cy 0, 40, .inl g_open)), (h_seen, .inl (cy 3, 40, .inl g_seen)), (h_p1, .inl (cy 2, 400, .inl g_p1)), (h_p3, .inr (6, [.int f_p3_size, .ref h_p3_counts, .ref h_p3_words, .ref h_p3_settings])), (h_p3_settings, .inl (cy 0, 4, .inl g_p3_settings)), (h_p4, .inr (5, [.int f_p4_lists_16, .ref h_p4_sizes, .ref h_p4_above, .ref h_p4_placeAbove, .ref h_p4_items, .ref h_p4_home, .ref h_p4_placeHome, .ref h_p4_tally])), (h_p4_sizes, .inl (cy 0, 80, .inl g_p4_sizes)), (h_p4_above, .inl (cy 0, 80, .inl g_p4_above)), (h_p4_placeAbove, .inl (cy 0, 80, .inl g_p4_placeAbove)), (h_p4_items, .inl (cy 0, 720, .inl g_p4_items)), (h_p4_home, .inl (cy 0, 40, .inl g_p4_home)), (h_p4_placeHome, .inl (cy 0, 40, .inl g_p4_placeHome))] 5 ⟨hx, hb, hml, hown, hts⟩ (c_X5_clear (l := l) (D := D) (cy := cy) (sz := _) (h_this := h_p4) (h_sizes := h_p4_sizes) (h_above := h_p4_above) (h_placeAbove := h_p4_placeAbove) (h_items := h_p4_items) (h_home := h_p4_home) (h_placeHome := h_p4_placeHome) (h_tally := h_p4_tally) (f_lists := f_p4_lists) (o_f_lists := f_p4_lists_16) (hf := hu)) (cwV 0 hts gX2_readTree_X5_clear rfl rfl rfl (by decide +kernel) ⟨Nat.le_of_ble_eq_true rfl, Nat.le_of_ble_eq_true rfl⟩) hK hP hD hS hA rfl rfl rfl rfl (by decide) rfl rfl rfl rfl rfl rfl rfl rfl hl.1 rfl (Nat.le_of_ble_eq_true rfl) dX2_readTree_46 ⟨Nat.zero_le _, Nat.zero_le _⟩ (fun H locs hP hD hS => ?_)
        refine lv_iconst (v := 0) hx hb dX2_readTree_49 (by decide) ?_
        refine lv_istore (lv' := [(5, .int 0), (0, .ref h_this), (1, .ref h_p1), (2, .int x2), (3, .ref h_p3), (4, .ref h_p4)]) hx hb dX2_readTree_50 hl (by decide) rfl (fun ls hl => ?_)
        exact L52 FU _ _ _ _ _ _ _ _ _ _ _ _ _ _ _ h _ _ _ hP hD hS (lv_sub hl [1, 2, 3, 4, 5, 0] rfl)
      · replace h := it_0 h hc
        refine lv_aload_n hx hb dX2_readTree_30 rfl (lv_at hl 0 rfl) ?_
        refine va_get (D := D) (ci := 2) (v := .ref h_seen) (C := RX2) (T := TX2) (N := 6) hx hb hts hinX2 hown hK hP 0 rfl rfl 4 (by decide) wf25 (fun _ h9 => h9) rfl dX2_readTree_31 ?_
        refine lv_iload hx hb dX2_readTree_34 (lv_at hl 5 rfl) ?_
        refine lv_iconst (v := 0) hx hb dX2_readTree_36 (by decide) ?_
        have hi := gi_1 h; replace h := gi_2 h
        refine va_zast hx hb hK hP hD hS 2 3 rfl rfl hi dX2_readTree_37 (fun H locs hP hD hS => ?_)
        replace hP : va_P D vwCl [(h_this, .inr (2, [.int f_faultNumber, .int f_faultPlace, .ref h_open, .int f_depth, .ref h_seen, .int f_seenCount])), (h_open, .inl (cy 0, 40, .inl g_open)), (h_seen, .inl (cy 3, 40, .inl (upd g_seen (Int32.toNatClampNeg x5) (vp_nar .boolean 0)))), (h_p1, .inl (cy 2, 400, .inl g_p1)), (h_p3, .inr (6, [.int f_p3_size, .ref h_p3_counts, .ref h_p3_words, .ref h_p3_settings])), (h_p3_settings, .inl (cy 0, 4, .inl g_p3_settings)), (h_p4, .inr (5, [.int f_p4_lists, .ref h_p4_sizes, .ref h_p4_above, .ref h_p4_placeAbove, .ref h_p4_items, .ref h_p4_home, .ref h_p4_placeHome, .ref h_p4_tally])), (h_p4_sizes, .inl (cy 0, 80, .inl g_p4_sizes)), (h_p4_above, .inl (cy 0, 80, .inl g_p4_above)), (h_p4_placeAbove, .inl (cy 0, 80, .inl g_p4_placeAbove)), (h_p4_items, .inl (cy 0, 720, .inl g_p4_items)), (h_p4_home, .inl (cy 0, 40, .inl g_p4_home)), (h_p4_placeHome, .inl (cy 0, 40, .inl g_p4_placeHome))] H := hP
        replace hD : va_D A [(h_this, .inr (2, [.int f_faultNumber, .int f_faultPlace, .ref h_open, .int f_depth, .ref h_seen, .int f_seenCount])), (h_open, .inl (cy 0, 40, .inl g_open)), (h_seen, .inl (cy 3, 40, .inl (upd g_seen (Int32.toNatClampNeg x5) (vp_nar .boolean 0)))), (h_p1, .inl (cy 2, 400, .inl g_p1)), (h_p3, .inr (6, [.int f_p3_size, .ref h_p3_counts, .ref h_p3_words, .ref h_p3_settings])), (h_p3_settings, .inl (cy 0, 4, .inl g_p3_settings)), (h_p4, .inr (5, [.int f_p4_lists, .ref h_p4_sizes, .ref h_p4_above, .ref h_p4_placeAbove, .ref h_p4_items, .ref h_p4_home, .ref h_p4_placeHome, .ref h_p4_tally])), (h_p4_sizes, .inl (cy 0, 80, .inl g_p4_sizes)), (h_p4_above, .inl (cy 0, 80, .inl g_p4_above)), (h_p4_placeAbove, .inl (cy 0, 80, .inl g_p4_placeAbove)), (h_p4_items, .inl (cy 0, 720, .inl g_p4_items)), (h_p4_home, .inl (cy 0, 40, .inl g_p4_home)), (h_p4_placeHome, .inl (cy 0, 40, .inl g_p4_placeHome))] := hD
        refine lv_iinc (v := (x5 + 1)) (lv' := [(5, .int (x5 + 1)), (0, .ref h_this), (1, .ref h_p1), (2, .int x2), (3, .ref h_p3), (4, .ref h_p4)]) hx hb dX2_readTree_38 hl (k := 5) rfl rfl (by decide) rfl (fun ls hl => ?_)
        refine lv_goto (tgt := 23) hx hb dX2_readTree_41 (by decide) ?_
        exact ih23 _ _ _ _ _ _ _ _ _ _ _ _ _ _ _ h _ _ _ hP hD hS (lv_sub hl [1, 2, 3, 4, 5, 0] rfl)
  clear hf
  refine lv_aload_n hx hb dX2_readTree_0 rfl (lv_at hl 0 rfl) ?_
  refine lv_iconst (v := 0) hx hb dX2_readTree_1 (by decide) ?_
  refine va_put (D := D) (ci := 2) (v := .int 0) (ty := .int) (C := RX2) (T := TX2) (N := 6) hx hb hts hinX2 tyX2 tyX2_ok nmX2 hown hK hP hD hS 0 rfl rfl 0 (by decide) wf9 (fun _ h9 => h9) rfl (by decide +kernel) rfl rfl (Nat.le_of_ble_eq_true rfl) dX2_readTree_2 (fun H locs hP hD hS => ?_)
  replace hP : va_P D vwCl [(h_this, .inr (2, [.int 0, .int f_faultPlace, .ref h_open, .int f_depth, .ref h_seen, .int f_seenCount])), (h_open, .inl (cy 0, 40, .inl g_open)), (h_seen, .inl (cy 3, 40, .inl g_seen)), (h_p1, .inl (cy 2, 400, .inl g_p1)), (h_p3, .inr (6, [.int f_p3_size, .ref h_p3_counts, .ref h_p3_words, .ref h_p3_settings])), (h_p3_settings, .inl (cy 0, 4, .inl g_p3_settings)), (h_p4, .inr (5, [.int f_p4_lists, .ref h_p4_sizes, .ref h_p4_above, .ref h_p4_placeAbove, .ref h_p4_items, .ref h_p4_home, .ref h_p4_placeHome, .ref h_p4_tally])), (h_p4_sizes, .inl (cy 0, 80, .inl g_p4_sizes)), (h_p4_above, .inl (cy 0, 80, .inl g_p4_above)), (h_p4_placeAbove, .inl (cy 0, 80, .inl g_p4_placeAbove)), (h_p4_items, .inl (cy 0, 720, .inl g_p4_items)), (h_p4_home, .inl (cy 0, 40, .inl g_p4_home)), (h_p4_placeHome, .inl (cy 0, 40, .inl g_p4_placeHome))] H := hP
  replace hD : va_D A [(h_this, .inr (2, [.int 0, .int f_faultPlace, .ref h_open, .int f_depth, .ref h_seen, .int f_seenCount])), (h_open, .inl (cy 0, 40, .inl g_open)), (h_seen, .inl (cy 3, 40, .inl g_seen)), (h_p1, .inl (cy 2, 400, .inl g_p1)), (h_p3, .inr (6, [.int f_p3_size, .ref h_p3_counts, .ref h_p3_words, .ref h_p3_settings])), (h_p3_settings, .inl (cy 0, 4, .inl g_p3_settings)), (h_p4, .inr (5, [.int f_p4_lists, .ref h_p4_sizes, .ref h_p4_above, .ref h_p4_placeAbove, .ref h_p4_items, .ref h_p4_home, .ref h_p4_placeHome, .ref h_p4_tally])), (h_p4_sizes, .inl (cy 0, 80, .inl g_p4_sizes)), (h_p4_above, .inl (cy 0, 80, .inl g_p4_above)), (h_p4_placeAbove, .inl (cy 0, 80, .inl g_p4_placeAbove)), (h_p4_items, .inl (cy 0, 720, .inl g_p4_items)), (h_p4_home, .inl (cy 0, 40, .inl g_p4_home)), (h_p4_placeHome, .inl (cy 0, 40, .inl g_p4_placeHome))] := hD
  refine lv_aload_n hx hb dX2_readTree_5 rfl (lv_at hl 0 rfl) ?_
  refine lv_iconst (v := (-1)) hx hb dX2_readTree_6 (by decide) ?_
  refine va_put (D := D) (ci := 2) (v := .int (-1)) (ty := .int) (C := RX2) (T := TX2) (N := 6) hx hb hts hinX2 tyX2 tyX2_ok nmX2 hown hK hP hD hS 0 rfl rfl 1 (by decide) wf15 (fun _ h9 => h9) rfl (by decide +kernel) rfl rfl (Nat.le_of_ble_eq_true rfl) dX2_readTree_7 (fun H locs hP hD hS => ?_)
  replace hP : va_P D vwCl [(h_this, .inr (2, [.int 0, .int (-1), .ref h_open, .int f_depth, .ref h_seen, .int f_seenCount])), (h_open, .inl (cy 0, 40, .inl g_open)), (h_seen, .inl (cy 3, 40, .inl g_seen)), (h_p1, .inl (cy 2, 400, .inl g_p1)), (h_p3, .inr (6, [.int f_p3_size, .ref h_p3_counts, .ref h_p3_words, .ref h_p3_settings])), (h_p3_settings, .inl (cy 0, 4, .inl g_p3_settings)), (h_p4, .inr (5, [.int f_p4_lists, .ref h_p4_sizes, .ref h_p4_above, .ref h_p4_placeAbove, .ref h_p4_items, .ref h_p4_home, .ref h_p4_placeHome, .ref h_p4_tally])), (h_p4_sizes, .inl (cy 0, 80, .inl g_p4_sizes)), (h_p4_above, .inl (cy 0, 80, .inl g_p4_above)), (h_p4_placeAbove, .inl (cy 0, 80, .inl g_p4_placeAbove)), (h_p4_items, .inl (cy 0, 720, .inl g_p4_items)), (h_p4_home, .inl (cy 0, 40, .inl g_p4_home)), (h_p4_placeHome, .inl (cy 0, 40, .inl g_p4_placeHome))] H := hP
  replace hD : va_D A [(h_this, .inr (2, [.int 0, .int (-1), .ref h_open, .int f_depth, .ref h_seen, .int f_seenCount])), (h_open, .inl (cy 0, 40, .inl g_open)), (h_seen, .inl (cy 3, 40, .inl g_seen)), (h_p1, .inl (cy 2, 400, .inl g_p1)), (h_p3, .inr (6, [.int f_p3_size, .ref h_p3_counts, .ref h_p3_words, .ref h_p3_settings])), (h_p3_settings, .inl (cy 0, 4, .inl g_p3_settings)), (h_p4, .inr (5, [.int f_p4_lists, .ref h_p4_sizes, .ref h_p4_above, .ref h_p4_placeAbove, .ref h_p4_items, .ref h_p4_home, .ref h_p4_placeHome, .ref h_p4_tally])), (h_p4_sizes, .inl (cy 0, 80, .inl g_p4_sizes)), (h_p4_above, .inl (cy 0, 80, .inl g_p4_above)), (h_p4_placeAbove, .inl (cy 0, 80, .inl g_p4_placeAbove)), (h_p4_items, .inl (cy 0, 720, .inl g_p4_items)), (h_p4_home, .inl (cy 0, 40, .inl g_p4_home)), (h_p4_placeHome, .inl (cy 0, 40, .inl g_p4_placeHome))] := hD
  refine lv_aload_n hx hb dX2_readTree_10 rfl (lv_at hl 0 rfl) ?_
  refine lv_iconst (v := 0) hx hb dX2_readTree_11 (by decide) ?_
  refine va_put (D := D) (ci := 2) (v := .int 0) (ty := .int) (C := RX2) (T := TX2) (N := 6) hx hb hts hinX2 tyX2 tyX2_ok nmX2 hown hK hP hD hS 0 rfl rfl 3 (by decide) wf22 (fun _ h9 => h9) rfl (by decide +kernel) rfl rfl (Nat.le_of_ble_eq_true rfl) dX2_readTree_12 (fun H locs hP hD hS => ?_)
  replace hP : va_P D vwCl [(h_this, .inr (2, [.int 0, .int (-1), .ref h_open, .int 0, .ref h_seen, .int f_seenCount])), (h_open, .inl (cy 0, 40, .inl g_open)), (h_seen, .inl (cy 3, 40, .inl g_seen)), (h_p1, .inl (cy 2, 400, .inl g_p1)), (h_p3, .inr (6, [.int f_p3_size, .ref h_p3_counts, .ref h_p3_words, .ref h_p3_settings])), (h_p3_settings, .inl (cy 0, 4, .inl g_p3_settings)), (h_p4, .inr (5, [.int f_p4_lists, .ref h_p4_sizes, .ref h_p4_above, .ref h_p4_placeAbove, .ref h_p4_items, .ref h_p4_home, .ref h_p4_placeHome, .ref h_p4_tally])), (h_p4_sizes, .inl (cy 0, 80, .inl g_p4_sizes)), (h_p4_above, .inl (cy 0, 80, .inl g_p4_above)), (h_p4_placeAbove, .inl (cy 0, 80, .inl g_p4_placeAbove)), (h_p4_items, .inl (cy 0, 720, .inl g_p4_items)), (h_p4_home, .inl (cy 0, 40, .inl g_p4_home)), (h_p4_placeHome, .inl (cy 0, 40, .inl g_p4_placeHome))] H := hP
  replace hD : va_D A [(h_this, .inr (2, [.int 0, .int (-1), .ref h_open, .int 0, .ref h_seen, .int f_seenCount])), (h_open, .inl (cy 0, 40, .inl g_open)), (h_seen, .inl (cy 3, 40, .inl g_seen)), (h_p1, .inl (cy 2, 400, .inl g_p1)), (h_p3, .inr (6, [.int f_p3_size, .ref h_p3_counts, .ref h_p3_words, .ref h_p3_settings])), (h_p3_settings, .inl (cy 0, 4, .inl g_p3_settings)), (h_p4, .inr (5, [.int f_p4_lists, .ref h_p4_sizes, .ref h_p4_above, .ref h_p4_placeAbove, .ref h_p4_items, .ref h_p4_home, .ref h_p4_placeHome, .ref h_p4_tally])), (h_p4_sizes, .inl (cy 0, 80, .inl g_p4_sizes)), (h_p4_above, .inl (cy 0, 80, .inl g_p4_above)), (h_p4_placeAbove, .inl (cy 0, 80, .inl g_p4_placeAbove)), (h_p4_items, .inl (cy 0, 720, .inl g_p4_items)), (h_p4_home, .inl (cy 0, 40, .inl g_p4_home)), (h_p4_placeHome, .inl (cy 0, 40, .inl g_p4_placeHome))] := hD
  refine lv_aload_n hx hb dX2_readTree_15 rfl (lv_at hl 0 rfl) ?_
  refine lv_iconst (v := 0) hx hb dX2_readTree_16 (by decide) ?_
  refine va_put (D := D) (ci := 2) (v := .int 0) (ty := .int) (C := RX2) (T := TX2) (N := 6) hx hb hts hinX2 tyX2 tyX2_ok nmX2 hown hK hP hD hS 0 rfl rfl 5 (by decide) wf29 (fun _ h9 => h9) rfl (by decide +kernel) rfl rfl (Nat.le_of_ble_eq_true rfl) dX2_readTree_17 (fun H locs hP hD hS => ?_)
  replace hP : va_P D vwCl [(h_this, .inr (2, [.int 0, .int (-1), .ref h_open, .int 0, .ref h_seen, .int 0])), (h_open, .inl (cy 0, 40, .inl g_open)), (h_seen, .inl (cy 3, 40, .inl g_seen)), (h_p1, .inl (cy 2, 400, .inl g_p1)), (h_p3, .inr (6, [.int f_p3_size, .ref h_p3_counts, .ref h_p3_words, .ref h_p3_settings])), (h_p3_settings, .inl (cy 0, 4, .inl g_p3_settings)), (h_p4, .inr (5, [.int f_p4_lists, .ref h_p4_sizes, .ref h_p4_above, .ref h_p4_placeAbove, .ref h_p4_items, .ref h_p4_home, .ref h_p4_placeHome, .ref h_p4_tally])), (h_p4_sizes, .inl (cy 0, 80, .inl g_p4_sizes)), (h_p4_above, .inl (cy 0, 80, .inl g_p4_above)), (h_p4_placeAbove, .inl (cy 0, 80, .inl g_p4_placeAbove)), (h_p4_items, .inl (cy 0, 720, .inl g_p4_items)), (h_p4_home, .inl (cy 0, 40, .inl g_p4_home)), (h_p4_placeHome, .inl (cy 0, 40, .inl g_p4_placeHome))] H := hP
  replace hD : va_D A [(h_this, .inr (2, [.int 0, .int (-1), .ref h_open, .int 0, .ref h_seen, .int 0])), (h_open, .inl (cy 0, 40, .inl g_open)), (h_seen, .inl (cy 3, 40, .inl g_seen)), (h_p1, .inl (cy 2, 400, .inl g_p1)), (h_p3, .inr (6, [.int f_p3_size, .ref h_p3_counts, .ref h_p3_words, .ref h_p3_settings])), (h_p3_settings, .inl (cy 0, 4, .inl g_p3_settings)), (h_p4, .inr (5, [.int f_p4_lists, .ref h_p4_sizes, .ref h_p4_above, .ref h_p4_placeAbove, .ref h_p4_items, .ref h_p4_home, .ref h_p4_placeHome, .ref h_p4_tally])), (h_p4_sizes, .inl (cy 0, 80, .inl g_p4_sizes)), (h_p4_above, .inl (cy 0, 80, .inl g_p4_above)), (h_p4_placeAbove, .inl (cy 0, 80, .inl g_p4_placeAbove)), (h_p4_items, .inl (cy 0, 720, .inl g_p4_items)), (h_p4_home, .inl (cy 0, 40, .inl g_p4_home)), (h_p4_placeHome, .inl (cy 0, 40, .inl g_p4_placeHome))] := hD
  refine lv_iconst (v := 0) hx hb dX2_readTree_20 (by decide) ?_
  refine lv_istore (lv' := [(5, .int 0), (0, .ref h_this), (1, .ref h_p1), (2, .int a2), (3, .ref h_p3), (4, .ref h_p4)]) hx hb dX2_readTree_21 hl (by decide) rfl (fun ls hl => ?_)
  exact L23 FU _ _ _ _ _ _ _ _ _ _ _ _ _ _ _ h _ _ _ hP hD hS (lv_sub hl [1, 2, 3, 4, 5, 0] rfl)
