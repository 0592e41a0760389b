abbrev rm_X8_isDigit : Room := { frames := 0, cells := 0, slots := 0, locals := 0 }
set_option maxHeartbeats 4000000 in
set_option maxRecDepth 100000 in
theorem c_X8_isDigit (l : Launch) (D : va_G) (cy : Nat → ClassId)     (sz : Nat)  (a0 : Int32) (r0 : Int32)  (hf : f_X8_isDigit a0 = some r0) : MI l yX8_isDigit wsX8_isDigit rm_X8_isDigit D cy [.int a0] sz [] r0 [] := by
  refine MI.of (cc := cX8_isDigit) (maxL := 1) (ret := (some .boolean)) (by decide) rfl (Nat.le_of_ble_eq_true rfl) ?_
  intro p e s m below meth c A ls hx hb hml hown hts hlk hr hK hA hP hD hS hl
  have h := hf
  unfold f_X8_isDigit at h
  replace hl : lv_has ls 1 [(0, .int a0)] := hl
  clear hf
  refine lv_iload_n hx hb dX8_isDigit_0 rfl (lv_at hl 0 rfl) ?_
  refine lv_bipush (v := 48) hx hb dX8_isDigit_1 (by decide) ?_
  refine lv_icmp_lt (tgt := 16) hx hb dX8_isDigit_3 (by decide) (fun hc => ?_) (fun hc => ?_)
  · replace h := it_1 h hc
    refine lv_iconst (v := 0) hx hb dX8_isDigit_16 (by decide) ?_
    have e0 := ret1 h
    exact rte_i e0 rfl hx hb hr hlk rfl hK hP hD hS dX8_isDigit_17
  · replace h := it_0 h hc
    refine lv_iload_n hx hb dX8_isDigit_6 rfl (lv_at hl 0 rfl) ?_
    refine lv_bipush (v := 57) hx hb dX8_isDigit_7 (by decide) ?_
    refine lv_icmp_gt (tgt := 16) hx hb dX8_isDigit_9 (by decide) (fun hc => ?_) (fun hc => ?_)
    · replace h := it_1 h hc
      refine lv_iconst (v := 0) hx hb dX8_isDigit_16 (by decide) ?_
      have e0 := ret1 h
      exact rte_i e0 rfl hx hb hr hlk rfl hK hP hD hS dX8_isDigit_17
    · replace h := it_0 h hc
      refine lv_iconst (v := 1) hx hb dX8_isDigit_12 (by decide) ?_
      refine lv_goto (tgt := 17) hx hb dX8_isDigit_13 (by decide) ?_
      have e0 := ret1 h
      exact rte_i e0 rfl hx hb hr hlk rfl hK hP hD hS dX8_isDigit_17
