abbrev rm_X8_span : Room := { frames := 0, cells := 0, slots := 0, locals := 0 }
set_option maxHeartbeats 4000000 in
set_option maxRecDepth 100000 in
theorem c_X8_span (l : Launch) (D : va_G) (cy : Nat → ClassId)     (sz : Nat)  (a0 : Int32) (a1 : Int32) (a2 : Int32) (r0 : Int32)  (hf : f_X8_span a0 a1 a2 = some r0) : MI l yX8_span wsX8_span rm_X8_span D cy [.int a0, .int a1, .int a2] sz [] r0 [] := by
  refine MI.of (cc := cX8_span) (maxL := 3) (ret := (some .int)) (by decide) rfl (Nat.le_of_ble_eq_true rfl) ?_
  intro p e s m below meth c A ls hx hb hml hown hts hlk hr hK hA hP hD hS hl
  have h := hf
  unfold f_X8_span at h
  replace hl : lv_has ls 3 [(0, .int a0), (1, .int a1), (2, .int a2)] := hl
  clear hf
  refine lv_bipush (v := 41) hx hb dX8_span_0 (by decide) ?_
  refine lv_iload_n hx hb dX8_span_2 rfl (lv_at hl 0 rfl) ?_
  refine lv_imul hx hb dX8_span_3 ?_
  refine lv_iload_n hx hb dX8_span_4 rfl (lv_at hl 1 rfl) ?_
  refine lv_iadd hx hb dX8_span_5 ?_
  refine lv_bipush (v := 11) hx hb dX8_span_6 (by decide) ?_
  refine lv_imul hx hb dX8_span_8 ?_
  refine lv_iload_n hx hb dX8_span_9 rfl (lv_at hl 2 rfl) ?_
  refine lv_iadd hx hb dX8_span_10 ?_
  have e0 := ret1 h
  exact rte_i e0 rfl hx hb hr hlk rfl hK hP hD hS dX8_span_11
