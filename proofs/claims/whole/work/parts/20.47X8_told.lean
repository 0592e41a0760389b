abbrev rm_X8_told : Room := { frames := 0, cells := 0, slots := 0, locals := 0 }
set_option maxHeartbeats 4000000 in
set_option maxRecDepth 100000 in
theorem c_X8_told (l : Launch) (D : va_G) (cy : Nat → ClassId) (h_this h_counts h_words h_tape h_page h_items h_many h_newItems h_newMany h_has h_open h_wayList h_wayPlace h_bits h_least h_menus h_firsts h_weights h_free h_setWeights h_stepsAt h_pairOne h_pairOther h_row h_best : Nat)    (sz : Nat) (f_thrown : Int32) (f_commands : Int32) (f_look : Int32) (f_down : Int32) (f_breadth : Int32) (f_unlearn : Int32) (f_taped : Int32) (f_size : Int32) (f_paged : Int32) (f_lists : Int32) (f_newLists : Int32) (f_at : Int32) (f_fault : Int32) (f_place : Int32) (f_ways : Int32) (f_pairs : Int32) (f_bestMany : Int32) (f_bestSum : Int64) (a1 : Int32) (r0 : Int32) (o_f_thrown : Int32) (hf : f_X8_told f_commands f_taped f_paged f_lists f_thrown a1 = some (r0, o_f_thrown)) : MI l yX8_told wsX8_told rm_X8_told D cy [.ref h_this, .int a1] sz [(h_this, .inr (8, (.int f_thrown :: .ref h_counts :: .ref h_words :: .int f_commands :: .int f_look :: .int f_down :: .int f_breadth :: .int f_unlearn :: .ref h_tape :: .int f_taped :: .int f_size :: .ref h_page :: .int f_paged :: .ref h_items :: .ref h_many :: .int f_lists :: .ref h_newItems :: .ref h_newMany :: .int f_newLists :: .int f_at :: .int f_fault :: .int f_place :: .ref h_has :: .ref h_open :: .ref h_wayList :: .ref h_wayPlace :: .int f_ways :: .ref h_bits :: .ref h_least :: .ref h_menus :: .ref h_firsts :: .ref h_weights :: .ref h_free :: .ref h_setWeights :: .ref h_stepsAt :: .ref h_pairOne :: .ref h_pairOther :: .int f_pairs :: .ref h_row :: .ref h_best :: .int f_bestMany :: .long f_bestSum :: [])))] r0 [(h_this, .inr (8, (.int o_f_thrown :: .ref h_counts :: .ref h_words :: .int f_commands :: .int f_look :: .int f_down :: .int f_breadth :: .int f_unlearn :: .ref h_tape :: .int f_taped :: .int f_size :: .ref h_page :: .int f_paged :: .ref h_items :: .ref h_many :: .int f_lists :: .ref h_newItems :: .ref h_newMany :: .int f_newLists :: .int f_at :: .int f_fault :: .int f_place :: .ref h_has :: .ref h_open :: .ref h_wayList :: .ref h_wayPlace :: .int f_ways :: .ref h_bits :: .ref h_least :: .ref h_menus :: .ref h_firsts :: .ref h_weights :: .ref h_free :: .ref h_setWeights :: .ref h_stepsAt :: .ref h_pairOne :: .ref h_pairOther :: .int f_pairs :: .ref h_row :: .ref h_best :: .int f_bestMany :: .long f_bestSum :: [])))] := by
  refine MI.of (cc := cX8_told) (maxL := 2) (ret := (some .int)) (by decide) rfl (Nat.le_of_ble_eq_true rfl) ?_
  intro p e s m below meth c A ls hx hb hml hown hts hlk hr hK hA hP hD hS hl
  have h := hf
  unfold f_X8_told at h
  have wf101 := hts (.fieldLink RX8 101 "MenuPlannerModel" "thrown" "I") (by decide +kernel)
  have hinX8 := (by decide +kernel : ∀ w ∈ u_ws RX8 TX8 42, w ∈ wsX8_told)
  have wf116 := hts (.fieldLink RX8 116 "MenuPlannerModel" "commands" "I") (by decide +kernel)
  have wf119 := hts (.fieldLink RX8 119 "MenuPlannerModel" "lists" "I") (by decide +kernel)
  have wf125 := hts (.fieldLink RX8 125 "MenuPlannerModel" "taped" "I") (by decide +kernel)
  have wf128 := hts (.fieldLink RX8 128 "MenuPlannerModel" "paged" "I") (by decide +kernel)
  replace hl : lv_has ls 2 [(0, .ref h_this), (1, .int a1)] := hl
  clear hf
  refine lv_aload_n hx hb dX8_told_0 rfl (lv_at hl 0 rfl) ?_
  refine lv_iconst (v := 0) hx hb dX8_told_1 (by decide) ?_
  refine va_put (D := D) (ci := 8) (v := .int 0) (ty := .int) (C := RX8) (T := TX8) (N := 42) hx hb hts hinX8 tyX8 tyX8_ok nmX8 hown hK hP hD hS 0 rfl rfl 0 (by decide) wf101 (fun _ h9 => h9) rfl (by decide +kernel) rfl rfl (Nat.le_of_ble_eq_true rfl) dX8_told_2 (fun H locs hP hD hS => ?_)
  replace hP : va_P D vwCl [(h_this, .inr (8, (.int 0 :: .ref h_counts :: .ref h_words :: .int f_commands :: .int f_look :: .int f_down :: .int f_breadth :: .int f_unlearn :: .ref h_tape :: .int f_taped :: .int f_size :: .ref h_page :: .int f_paged :: .ref h_items :: .ref h_many :: .int f_lists :: .ref h_newItems :: .ref h_newMany :: .int f_newLists :: .int f_at :: .int f_fault :: .int f_place :: .ref h_has :: .ref h_open :: .ref h_wayList :: .ref h_wayPlace :: .int f_ways :: .ref h_bits :: .ref h_least :: .ref h_menus :: .ref h_firsts :: .ref h_weights :: .ref h_free :: .ref h_setWeights :: .ref h_stepsAt :: .ref h_pairOne :: .ref h_pairOther :: .int f_pairs :: .ref h_row :: .ref h_best :: .int f_bestMany :: .long f_bestSum :: [])))] H := hP
  replace hD : va_D A [(h_this, .inr (8, (.int 0 :: .ref h_counts :: .ref h_words :: .int f_commands :: .int f_look :: .int f_down :: .int f_breadth :: .int f_unlearn :: .ref h_tape :: .int f_taped :: .int f_size :: .ref h_page :: .int f_paged :: .ref h_items :: .ref h_many :: .int f_lists :: .ref h_newItems :: .ref h_newMany :: .int f_newLists :: .int f_at :: .int f_fault :: .int f_place :: .ref h_has :: .ref h_open :: .ref h_wayList :: .ref h_wayPlace :: .int f_ways :: .ref h_bits :: .ref h_least :: .ref h_menus :: .ref h_firsts :: .ref h_weights :: .ref h_free :: .ref h_setWeights :: .ref h_stepsAt :: .ref h_pairOne :: .ref h_pairOther :: .int f_pairs :: .ref h_row :: .ref h_best :: .int f_bestMany :: .long f_bestSum :: [])))] := hD
  refine lv_iload_n hx hb dX8_told_5 rfl (lv_at hl 1 rfl) ?_
  by_cases hc0 : a1 = 0
  · replace h := it_1 h hc0
    refine lv_tableIn (off := 30) (tgt := 36) hx hb dX8_told_6 (by rw [hc0]; decide) (by rw [hc0]; decide) (by rw [hc0]; decide) (by decide) ?_
    refine lv_aload_n hx hb dX8_told_36 rfl (lv_at hl 0 rfl) ?_
    refine va_get (D := D) (ci := 8) (v := .int f_commands) (C := RX8) (T := TX8) (N := 42) hx hb hts hinX8 hown hK hP 0 rfl rfl 3 (by decide) wf116 (fun _ h9 => h9) rfl dX8_told_37 ?_
    obtain ⟨e0, e1⟩ := ret2 h
    exact rte_i e0 (by rw [← e1]) hx hb hr hlk rfl hK hP hD hS dX8_told_40
  replace h := it_0 h hc0
  by_cases hc1 : a1 = 1
  · replace h := it_1 h hc1
    refine lv_tableIn (off := 35) (tgt := 41) hx hb dX8_told_6 (by rw [hc1]; decide) (by rw [hc1]; decide) (by rw [hc1]; decide) (by decide) ?_
    refine lv_aload_n hx hb dX8_told_41 rfl (lv_at hl 0 rfl) ?_
    refine va_get (D := D) (ci := 8) (v := .int f_lists) (C := RX8) (T := TX8) (N := 42) hx hb hts hinX8 hown hK hP 0 rfl rfl 15 (by decide) wf119 (fun _ h9 => h9) rfl dX8_told_42 ?_
    refine lv_if_ne (tgt := 52) hx hb dX8_told_45 (by decide) (fun hc => ?_) (fun hc => ?_)
    · replace h := it_0 h hc
      refine lv_aload_n hx hb dX8_told_52 rfl (lv_at hl 0 rfl) ?_
      refine va_get (D := D) (ci := 8) (v := .int f_lists) (C := RX8) (T := TX8) (N := 42) hx hb hts hinX8 hown hK hP 0 rfl rfl 15 (by decide) wf119 (fun _ h9 => h9) rfl dX8_told_53 ?_
      refine lv_iconst (v := 1) hx hb dX8_told_56 (by decide) ?_
      refine lv_isub hx hb dX8_told_57 ?_
      obtain ⟨e0, e1⟩ := ret2 h
      exact rte_i e0 (by rw [← e1]) hx hb hr hlk rfl hK hP hD hS dX8_told_58
    · replace h := it_1 h hc
      refine lv_iconst (v := 0) hx hb dX8_told_48 (by decide) ?_
      refine lv_goto (tgt := 58) hx hb dX8_told_49 (by decide) ?_
      obtain ⟨e0, e1⟩ := ret2 h
      exact rte_i e0 (by rw [← e1]) hx hb hr hlk rfl hK hP hD hS dX8_told_58
  replace h := it_0 h hc1
  by_cases hc2 : a1 = 2
  · replace h := it_1 h hc2
    refine lv_tableIn (off := 53) (tgt := 59) hx hb dX8_told_6 (by rw [hc2]; decide) (by rw [hc2]; decide) (by rw [hc2]; decide) (by decide) ?_
    refine lv_aload_n hx hb dX8_told_59 rfl (lv_at hl 0 rfl) ?_
    refine va_get (D := D) (ci := 8) (v := .int f_taped) (C := RX8) (T := TX8) (N := 42) hx hb hts hinX8 hown hK hP 0 rfl rfl 9 (by decide) wf125 (fun _ h9 => h9) rfl dX8_told_60 ?_
    obtain ⟨e0, e1⟩ := ret2 h
    exact rte_i e0 (by rw [← e1]) hx hb hr hlk rfl hK hP hD hS dX8_told_63
  replace h := it_0 h hc2
  by_cases hc3 : a1 = 3
  · replace h := it_1 h hc3
    refine lv_tableIn (off := 58) (tgt := 64) hx hb dX8_told_6 (by rw [hc3]; decide) (by rw [hc3]; decide) (by rw [hc3]; decide) (by decide) ?_
    refine lv_aload_n hx hb dX8_told_64 rfl (lv_at hl 0 rfl) ?_
    refine va_get (D := D) (ci := 8) (v := .int f_paged) (C := RX8) (T := TX8) (N := 42) hx hb hts hinX8 hown hK hP 0 rfl rfl 12 (by decide) wf128 (fun _ h9 => h9) rfl dX8_told_65 ?_
    obtain ⟨e0, e1⟩ := ret2 h
    exact rte_i e0 (by rw [← e1]) hx hb hr hlk rfl hK hP hD hS dX8_told_68
  replace h := it_0 h hc3
  refine lv_tableOut (tgt := 69) hx hb dX8_told_6 (sw_out hc0 hc1 hc2 hc3) (by decide) ?_
  refine lv_iconst (v := (-1)) hx hb dX8_told_69 (by decide) ?_
  obtain ⟨e0, e1⟩ := ret2 h
  exact rte_i e0 (by rw [← e1]) hx hb hr hlk rfl hK hP hD hS dX8_told_70
