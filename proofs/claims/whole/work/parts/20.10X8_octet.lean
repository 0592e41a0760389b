abbrev rm_X8_octet : Room := { frames := 0, cells := 0, slots := 0, locals := 0 }
set_option maxHeartbeats 4000000 in
set_option maxRecDepth 100000 in
theorem c_X8_octet (l : Launch) (D : va_G) (cy : Nat → ClassId) (h_this h_counts h_words h_tape h_page h_items h_many h_newItems h_newMany h_has h_open h_wayList h_wayPlace h_bits h_least h_menus h_firsts h_weights h_free h_setWeights h_stepsAt h_pairOne h_pairOther h_row h_best : Nat)    (sz : Nat) (f_thrown : Int32) (f_commands : Int32) (f_look : Int32) (f_down : Int32) (f_breadth : Int32) (f_unlearn : Int32) (f_taped : Int32) (f_size : Int32) (f_paged : Int32) (f_lists : Int32) (f_newLists : Int32) (f_at : Int32) (f_fault : Int32) (f_place : Int32) (f_ways : Int32) (f_pairs : Int32) (f_bestMany : Int32) (f_bestSum : Int64) (g_page : Nat → Int32) (a1 : Int32) (r0 : Int32) (o_f_thrown : Int32) (hf : f_X8_octet f_paged g_page f_thrown a1 = some (r0, o_f_thrown)) : MI l yX8_octet wsX8_octet rm_X8_octet D cy [.ref h_this, .int a1] sz [(h_this, .inr (8, (.int f_thrown :: .ref h_counts :: .ref h_words :: .int f_commands :: .int f_look :: .int f_down :: .int f_breadth :: .int f_unlearn :: .ref h_tape :: .int f_taped :: .int f_size :: .ref h_page :: .int f_paged :: .ref h_items :: .ref h_many :: .int f_lists :: .ref h_newItems :: .ref h_newMany :: .int f_newLists :: .int f_at :: .int f_fault :: .int f_place :: .ref h_has :: .ref h_open :: .ref h_wayList :: .ref h_wayPlace :: .int f_ways :: .ref h_bits :: .ref h_least :: .ref h_menus :: .ref h_firsts :: .ref h_weights :: .ref h_free :: .ref h_setWeights :: .ref h_stepsAt :: .ref h_pairOne :: .ref h_pairOther :: .int f_pairs :: .ref h_row :: .ref h_best :: .int f_bestMany :: .long f_bestSum :: []))), (h_page, .inl (cy 2, 600, .inl g_page))] r0 [(h_this, .inr (8, (.int o_f_thrown :: .ref h_counts :: .ref h_words :: .int f_commands :: .int f_look :: .int f_down :: .int f_breadth :: .int f_unlearn :: .ref h_tape :: .int f_taped :: .int f_size :: .ref h_page :: .int f_paged :: .ref h_items :: .ref h_many :: .int f_lists :: .ref h_newItems :: .ref h_newMany :: .int f_newLists :: .int f_at :: .int f_fault :: .int f_place :: .ref h_has :: .ref h_open :: .ref h_wayList :: .ref h_wayPlace :: .int f_ways :: .ref h_bits :: .ref h_least :: .ref h_menus :: .ref h_firsts :: .ref h_weights :: .ref h_free :: .ref h_setWeights :: .ref h_stepsAt :: .ref h_pairOne :: .ref h_pairOther :: .int f_pairs :: .ref h_row :: .ref h_best :: .int f_bestMany :: .long f_bestSum :: []))), (h_page, .inl (cy 2, 600, .inl g_page))] := by
  refine MI.of (cc := cX8_octet) (maxL := 2) (ret := (some .int)) (by decide) rfl (Nat.le_of_ble_eq_true rfl) ?_
  intro p e s m below meth c A ls hx hb hml hown hts hlk hr hK hA hP hD hS hl
  have h := hf
  unfold f_X8_octet at h
  have wf101 := hts (.fieldLink RX8 101 "MenuPlannerModel" "thrown" "I") (by decide +kernel)
  have hinX8 := (by decide +kernel : ∀ w ∈ u_ws RX8 TX8 42, w ∈ wsX8_octet)
  have wf128 := hts (.fieldLink RX8 128 "MenuPlannerModel" "paged" "I") (by decide +kernel)
  have wf33 := hts (.fieldLink RX8 33 "MenuPlannerModel" "page" "[B") (by decide +kernel)
  replace hl : lv_has ls 2 [(0, .ref h_this), (1, .int a1)] := hl
  clear hf
  refine lv_aload_n hx hb dX8_octet_0 rfl (lv_at hl 0 rfl) ?_
  refine lv_iconst (v := 0) hx hb dX8_octet_1 (by decide) ?_
  refine va_put (D := D) (ci := 8) (v := .int 0) (ty := .int) (C := RX8) (T := TX8) (N := 42) hx hb hts hinX8 tyX8 tyX8_ok nmX8 hown hK hP hD hS 0 rfl rfl 0 (by decide) wf101 (fun _ h9 => h9) rfl (by decide +kernel) rfl rfl (Nat.le_of_ble_eq_true rfl) dX8_octet_2 (fun H locs hP hD hS => ?_)
  replace hP : va_P D vwCl [(h_this, .inr (8, (.int 0 :: .ref h_counts :: .ref h_words :: .int f_commands :: .int f_look :: .int f_down :: .int f_breadth :: .int f_unlearn :: .ref h_tape :: .int f_taped :: .int f_size :: .ref h_page :: .int f_paged :: .ref h_items :: .ref h_many :: .int f_lists :: .ref h_newItems :: .ref h_newMany :: .int f_newLists :: .int f_at :: .int f_fault :: .int f_place :: .ref h_has :: .ref h_open :: .ref h_wayList :: .ref h_wayPlace :: .int f_ways :: .ref h_bits :: .ref h_least :: .ref h_menus :: .ref h_firsts :: .ref h_weights :: .ref h_free :: .ref h_setWeights :: .ref h_stepsAt :: .ref h_pairOne :: .ref h_pairOther :: .int f_pairs :: .ref h_row :: .ref h_best :: .int f_bestMany :: .long f_bestSum :: []))), (h_page, .inl (cy 2, 600, .inl g_page))] H := hP
  replace hD : va_D A [(h_this, .inr (8, (.int 0 :: .ref h_counts :: .ref h_words :: .int f_commands :: .int f_look :: .int f_down :: .int f_breadth :: .int f_unlearn :: .ref h_tape :: .int f_taped :: .int f_size :: .ref h_page :: .int f_paged :: .ref h_items :: .ref h_many :: .int f_lists :: .ref h_newItems :: .ref h_newMany :: .int f_newLists :: .int f_at :: .int f_fault :: .int f_place :: .ref h_has :: .ref h_open :: .ref h_wayList :: .ref h_wayPlace :: .int f_ways :: .ref h_bits :: .ref h_least :: .ref h_menus :: .ref h_firsts :: .ref h_weights :: .ref h_free :: .ref h_setWeights :: .ref h_stepsAt :: .ref h_pairOne :: .ref h_pairOther :: .int f_pairs :: .ref h_row :: .ref h_best :: .int f_bestMany :: .long f_bestSum :: []))), (h_page, .inl (cy 2, 600, .inl g_page))] := hD
  refine lv_iload_n hx hb dX8_octet_5 rfl (lv_at hl 1 rfl) ?_
  refine lv_if_lt (tgt := 26) hx hb dX8_octet_6 (by decide) (fun hc => ?_) (fun hc => ?_)
  · replace h := it_1 h hc
    refine lv_iconst (v := (-1)) hx hb dX8_octet_26 (by decide) ?_
    obtain ⟨e0, e1⟩ := ret2 h
    exact rte_i e0 (by rw [← e1]) hx hb hr hlk rfl hK hP hD hS dX8_octet_27
  · replace h := it_0 h hc
    refine lv_iload_n hx hb dX8_octet_9 rfl (lv_at hl 1 rfl) ?_
    refine lv_aload_n hx hb dX8_octet_10 rfl (lv_at hl 0 rfl) ?_
    refine va_get (D := D) (ci := 8) (v := .int f_paged) (C := RX8) (T := TX8) (N := 42) hx hb hts hinX8 hown hK hP 0 rfl rfl 12 (by decide) wf128 (fun _ h9 => h9) rfl dX8_octet_11 ?_
    refine lv_icmp_ge (tgt := 26) hx hb dX8_octet_14 (by decide) (fun hc => ?_) (fun hc => ?_)
    · replace h := it_1 h hc
      refine lv_iconst (v := (-1)) hx hb dX8_octet_26 (by decide) ?_
      obtain ⟨e0, e1⟩ := ret2 h
      exact rte_i e0 (by rw [← e1]) hx hb hr hlk rfl hK hP hD hS dX8_octet_27
    · replace h := it_0 h hc
      refine lv_aload_n hx hb dX8_octet_17 rfl (lv_at hl 0 rfl) ?_
      refine va_get (D := D) (ci := 8) (v := .ref h_page) (C := RX8) (T := TX8) (N := 42) hx hb hts hinX8 hown hK hP 0 rfl rfl 11 (by decide) wf33 (fun _ h9 => h9) rfl dX8_octet_18 ?_
      refine lv_iload_n hx hb dX8_octet_21 rfl (lv_at hl 1 rfl) ?_
      have hi := gi_1 h; replace h := gi_2 h
      refine va_bald hx hb hK hP 1 2 rfl rfl hi dX8_octet_22 ?_
      refine lv_goto (tgt := 27) hx hb dX8_octet_23 (by decide) ?_
      obtain ⟨e0, e1⟩ := ret2 h
      exact rte_i e0 (by rw [← e1]) hx hb hr hlk rfl hK hP hD hS dX8_octet_27
