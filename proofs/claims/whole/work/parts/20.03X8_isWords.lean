abbrev rm_X8_isWords : Room := { frames := 0, cells := 0, slots := 0, locals := 0 }
set_option maxHeartbeats 4000000 in
set_option maxRecDepth 100000 in
theorem c_X8_isWords (l : Launch) (D : va_G) (cy : Nat → ClassId)     (sz : Nat)  (a0 : Int32) (r0 : Int32)  (hf : f_X8_isWords a0 = some r0) : MI l yX8_isWords wsX8_isWords rm_X8_isWords D cy [.int a0] sz [] r0 [] := by
  refine MI.of (cc := cX8_isWords) (maxL := 1) (ret := (some .boolean)) (by decide) rfl (Nat.le_of_ble_eq_true rfl) ?_
  intro p e s m below meth c A ls hx hb hml hown hts hlk hr hK hA hP hD hS hl
  have h := hf
  unfold f_X8_isWords at h
  have wc104 := hts (.constant RX8 104 (16777215)) (by decide +kernel)
  replace hl : lv_has ls 1 [(0, .int a0)] := hl
  clear hf
  refine lv_iload_n hx hb dX8_isWords_0 rfl (lv_at hl 0 rfl) ?_
  refine lv_if_lt (tgt := 14) hx hb dX8_isWords_1 (by decide) (fun hc => ?_) (fun hc => ?_)
  · replace h := it_1 h hc
    refine lv_iconst (v := 0) hx hb dX8_isWords_14 (by decide) ?_
    have e0 := ret1 h
    exact rte_i e0 rfl hx hb hr hlk rfl hK hP hD hS dX8_isWords_15
  · replace h := it_0 h hc
    refine lv_iload_n hx hb dX8_isWords_4 rfl (lv_at hl 0 rfl) ?_
    refine lv_ldc (v := 16777215) hx hb hown wc104 dX8_isWords_5 ?_
    refine lv_icmp_gt (tgt := 14) hx hb dX8_isWords_7 (by decide) (fun hc => ?_) (fun hc => ?_)
    · replace h := it_1 h hc
      refine lv_iconst (v := 0) hx hb dX8_isWords_14 (by decide) ?_
      have e0 := ret1 h
      exact rte_i e0 rfl hx hb hr hlk rfl hK hP hD hS dX8_isWords_15
    · replace h := it_0 h hc
      refine lv_iconst (v := 1) hx hb dX8_isWords_10 (by decide) ?_
      refine lv_goto (tgt := 15) hx hb dX8_isWords_11 (by decide) ?_
      have e0 := ret1 h
      exact rte_i e0 rfl hx hb hr hlk rfl hK hP hD hS dX8_isWords_15
