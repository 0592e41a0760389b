abbrev rm_X8_byteAt : Room := { frames := 0, cells := 0, slots := 0, locals := 0 }
set_option maxHeartbeats 4000000 in
set_option maxRecDepth 100000 in
theorem c_X8_byteAt (l : Launch) (D : va_G) (cy : Nat → ClassId) (h_this h_counts h_words h_tape h_page h_items h_many h_newItems h_newMany h_has h_open h_wayList h_wayPlace h_bits h_least h_menus h_firsts h_weights h_free h_setWeights h_stepsAt h_pairOne h_pairOther h_row h_best : Nat)    (sz : Nat) (f_thrown : Int32) (f_commands : Int32) (f_look : Int32) (f_down : Int32) (f_breadth : Int32) (f_unlearn : Int32) (f_taped : Int32) (f_size : Int32) (f_paged : Int32) (f_lists : Int32) (f_newLists : Int32) (f_at : Int32) (f_fault : Int32) (f_place : Int32) (f_ways : Int32) (f_pairs : Int32) (f_bestMany : Int32) (f_bestSum : Int64) (g_tape : Nat → Int32) (a1 : Int32) (r0 : Int32)  (hf : f_X8_byteAt f_size g_tape a1 = some r0) : MI l yX8_byteAt wsX8_byteAt rm_X8_byteAt D cy [.ref h_this, .int a1] sz [(h_this, .inr (8, (.int f_thrown :: .ref h_counts :: .ref h_words :: .int f_commands :: .int f_look :: .int f_down :: .int f_breadth :: .int f_unlearn :: .ref h_tape :: .int f_taped :: .int f_size :: .ref h_page :: .int f_paged :: .ref h_items :: .ref h_many :: .int f_lists :: .ref h_newItems :: .ref h_newMany :: .int f_newLists :: .int f_at :: .int f_fault :: .int f_place :: .ref h_has :: .ref h_open :: .ref h_wayList :: .ref h_wayPlace :: .int f_ways :: .ref h_bits :: .ref h_least :: .ref h_menus :: .ref h_firsts :: .ref h_weights :: .ref h_free :: .ref h_setWeights :: .ref h_stepsAt :: .ref h_pairOne :: .ref h_pairOther :: .int f_pairs :: .ref h_row :: .ref h_best :: .int f_bestMany :: .long f_bestSum :: []))), (h_tape, .inl (cy 2, 400, .inl g_tape))] r0 [(h_this, .inr (8, (.int f_thrown :: .ref h_counts :: .ref h_words :: .int f_commands :: .int f_look :: .int f_down :: .int f_breadth :: .int f_unlearn :: .ref h_tape :: .int f_taped :: .int f_size :: .ref h_page :: .int f_paged :: .ref h_items :: .ref h_many :: .int f_lists :: .ref h_newItems :: .ref h_newMany :: .int f_newLists :: .int f_at :: .int f_fault :: .int f_place :: .ref h_has :: .ref h_open :: .ref h_wayList :: .ref h_wayPlace :: .int f_ways :: .ref h_bits :: .ref h_least :: .ref h_menus :: .ref h_firsts :: .ref h_weights :: .ref h_free :: .ref h_setWeights :: .ref h_stepsAt :: .ref h_pairOne :: .ref h_pairOther :: .int f_pairs :: .ref h_row :: .ref h_best :: .int f_bestMany :: .long f_bestSum :: []))), (h_tape, .inl (cy 2, 400, .inl g_tape))] := by
  refine MI.of (cc := cX8_byteAt) (maxL := 2) (ret := (some .int)) (by decide) rfl (Nat.le_of_ble_eq_true rfl) ?_
  intro p e s m below meth c A ls hx hb hml hown hts hlk hr hK hA hP hD hS hl
  have h := hf
  unfold f_X8_byteAt at h
  have wf134 := hts (.fieldLink RX8 134 "MenuPlannerModel" "size" "I") (by decide +kernel)
  have hinX8 := (by decide +kernel : ∀ w ∈ u_ws RX8 TX8 42, w ∈ wsX8_byteAt)
  have wf29 := hts (.fieldLink RX8 29 "MenuPlannerModel" "tape" "[B") (by decide +kernel)
  replace hl : lv_has ls 2 [(0, .ref h_this), (1, .int a1)] := hl
  clear hf
  refine lv_iload_n hx hb dX8_byteAt_0 rfl (lv_at hl 1 rfl) ?_
  refine lv_aload_n hx hb dX8_byteAt_1 rfl (lv_at hl 0 rfl) ?_
  refine va_get (D := D) (ci := 8) (v := .int f_size) (C := RX8) (T := TX8) (N := 42) hx hb hts hinX8 hown hK hP 0 rfl rfl 10 (by decide) wf134 (fun _ h9 => h9) rfl dX8_byteAt_2 ?_
  refine lv_icmp_ge (tgt := 21) hx hb dX8_byteAt_5 (by decide) (fun hc => ?_) (fun hc => ?_)
  · replace h := it_1 h hc
    refine lv_iconst (v := 0) hx hb dX8_byteAt_21 (by decide) ?_
    have e0 := ret1 h
    exact rte_i e0 rfl hx hb hr hlk rfl hK hP hD hS dX8_byteAt_22
  · replace h := it_0 h hc
    refine lv_aload_n hx hb dX8_byteAt_8 rfl (lv_at hl 0 rfl) ?_
    refine va_get (D := D) (ci := 8) (v := .ref h_tape) (C := RX8) (T := TX8) (N := 42) hx hb hts hinX8 hown hK hP 0 rfl rfl 8 (by decide) wf29 (fun _ h9 => h9) rfl dX8_byteAt_9 ?_
    refine lv_iload_n hx hb dX8_byteAt_12 rfl (lv_at hl 1 rfl) ?_
    have hi := gi_1 h; replace h := gi_2 h
    refine va_bald hx hb hK hP 1 2 rfl rfl hi dX8_byteAt_13 ?_
    refine lv_sipush (v := 255) hx hb dX8_byteAt_14 (by decide) ?_
    refine lv_iand hx hb dX8_byteAt_17 ?_
    refine lv_goto (tgt := 22) hx hb dX8_byteAt_18 (by decide) ?_
    have e0 := ret1 h
    exact rte_i e0 rfl hx hb hr hlk rfl hK hP hD hS dX8_byteAt_22
