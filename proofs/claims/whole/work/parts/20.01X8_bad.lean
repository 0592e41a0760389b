abbrev rm_X8_bad : Room := { frames := 0, cells := 0, slots := 0, locals := 0 }
set_option maxHeartbeats 4000000 in
set_option maxRecDepth 100000 in
theorem c_X8_bad (l : Launch) (D : va_G) (cy : Nat → ClassId) (h_this h_counts h_words h_tape h_page h_items h_many h_newItems h_newMany h_has h_open h_wayList h_wayPlace h_bits h_least h_menus h_firsts h_weights h_free h_setWeights h_stepsAt h_pairOne h_pairOther h_row h_best : Nat)    (sz : Nat) (f_thrown : Int32) (f_commands : Int32) (f_look : Int32) (f_down : Int32) (f_breadth : Int32) (f_unlearn : Int32) (f_taped : Int32) (f_size : Int32) (f_paged : Int32) (f_lists : Int32) (f_newLists : Int32) (f_at : Int32) (f_fault : Int32) (f_place : Int32) (f_ways : Int32) (f_pairs : Int32) (f_bestMany : Int32) (f_bestSum : Int64) (a1 : Int32) (a2 : Int32) (r0 : Int32) (o_f_thrown : Int32) (hf : f_X8_bad f_thrown a1 a2 = some (r0, o_f_thrown)) : MI l yX8_bad wsX8_bad rm_X8_bad D cy [.ref h_this, .int a1, .int a2] sz [(h_this, .inr (8, (.int f_thrown :: .ref h_counts :: .ref h_words :: .int f_commands :: .int f_look :: .int f_down :: .int f_breadth :: .int f_unlearn :: .ref h_tape :: .int f_taped :: .int f_size :: .ref h_page :: .int f_paged :: .ref h_items :: .ref h_many :: .int f_lists :: .ref h_newItems :: .ref h_newMany :: .int f_newLists :: .int f_at :: .int f_fault :: .int f_place :: .ref h_has :: .ref h_open :: .ref h_wayList :: .ref h_wayPlace :: .int f_ways :: .ref h_bits :: .ref h_least :: .ref h_menus :: .ref h_firsts :: .ref h_weights :: .ref h_free :: .ref h_setWeights :: .ref h_stepsAt :: .ref h_pairOne :: .ref h_pairOther :: .int f_pairs :: .ref h_row :: .ref h_best :: .int f_bestMany :: .long f_bestSum :: [])))] r0 [(h_this, .inr (8, (.int o_f_thrown :: .ref h_counts :: .ref h_words :: .int f_commands :: .int f_look :: .int f_down :: .int f_breadth :: .int f_unlearn :: .ref h_tape :: .int f_taped :: .int f_size :: .ref h_page :: .int f_paged :: .ref h_items :: .ref h_many :: .int f_lists :: .ref h_newItems :: .ref h_newMany :: .int f_newLists :: .int f_at :: .int f_fault :: .int f_place :: .ref h_has :: .ref h_open :: .ref h_wayList :: .ref h_wayPlace :: .int f_ways :: .ref h_bits :: .ref h_least :: .ref h_menus :: .ref h_firsts :: .ref h_weights :: .ref h_free :: .ref h_setWeights :: .ref h_stepsAt :: .ref h_pairOne :: .ref h_pairOther :: .int f_pairs :: .ref h_row :: .ref h_best :: .int f_bestMany :: .long f_bestSum :: [])))] := by
  refine MI.of (cc := cX8_bad) (maxL := 3) (ret := (some .boolean)) (by decide) rfl (Nat.le_of_ble_eq_true rfl) ?_
  intro p e s m below meth c A ls hx hb hml hown hts hlk hr hK hA hP hD hS hl
  have h := hf
  unfold f_X8_bad at h
  have wf101 := hts (.fieldLink RX8 101 "MenuPlannerModel" "thrown" "I") (by decide +kernel)
  have hinX8 := (by decide +kernel : ∀ w ∈ u_ws RX8 TX8 42, w ∈ wsX8_bad)
  replace hl : lv_has ls 3 [(0, .ref h_this), (1, .int a1), (2, .int a2)] := hl
  clear hf
  refine lv_iload_n hx hb dX8_bad_0 rfl (lv_at hl 1 rfl) ?_
  refine lv_if_eq (tgt := 9) hx hb dX8_bad_1 (by decide) (fun hc => ?_) (fun hc => ?_)
  · replace h := it_1 h hc
    refine lv_iload_n hx hb dX8_bad_9 rfl (lv_at hl 1 rfl) ?_
    have hz := gb_1 h; replace h := gb_2 h
    obtain ⟨e0, e1⟩ := ret2 h
    exact rte_i e0 (by rw [← e1]) hx hb hr hlk (nar_z hz) hK hP hD hS dX8_bad_10
  · replace h := it_0 h hc
    refine lv_aload_n hx hb dX8_bad_4 rfl (lv_at hl 0 rfl) ?_
    refine lv_iload_n hx hb dX8_bad_5 rfl (lv_at hl 2 rfl) ?_
    refine va_put (D := D) (ci := 8) (v := .int a2) (ty := .int) (C := RX8) (T := TX8) (N := 42) hx hb hts hinX8 tyX8 tyX8_ok nmX8 hown hK hP hD hS 0 rfl rfl 0 (by decide) wf101 (fun _ h9 => h9) rfl (by decide +kernel) rfl rfl (Nat.le_of_ble_eq_true rfl) dX8_bad_6 (fun H locs hP hD hS => ?_)
    replace hP : va_P D vwCl [(h_this, .inr (8, (.int a2 :: .ref h_counts :: .ref h_words :: .int f_commands :: .int f_look :: .int f_down :: .int f_breadth :: .int f_unlearn :: .ref h_tape :: .int f_taped :: .int f_size :: .ref h_page :: .int f_paged :: .ref h_items :: .ref h_many :: .int f_lists :: .ref h_newItems :: .ref h_newMany :: .int f_newLists :: .int f_at :: .int f_fault :: .int f_place :: .ref h_has :: .ref h_open :: .ref h_wayList :: .ref h_wayPlace :: .int f_ways :: .ref h_bits :: .ref h_least :: .ref h_menus :: .ref h_firsts :: .ref h_weights :: .ref h_free :: .ref h_setWeights :: .ref h_stepsAt :: .ref h_pairOne :: .ref h_pairOther :: .int f_pairs :: .ref h_row :: .ref h_best :: .int f_bestMany :: .long f_bestSum :: [])))] H := hP
    replace hD : va_D A [(h_this, .inr (8, (.int a2 :: .ref h_counts :: .ref h_words :: .int f_commands :: .int f_look :: .int f_down :: .int f_breadth :: .int f_unlearn :: .ref h_tape :: .int f_taped :: .int f_size :: .ref h_page :: .int f_paged :: .ref h_items :: .ref h_many :: .int f_lists :: .ref h_newItems :: .ref h_newMany :: .int f_newLists :: .int f_at :: .int f_fault :: .int f_place :: .ref h_has :: .ref h_open :: .ref h_wayList :: .ref h_wayPlace :: .int f_ways :: .ref h_bits :: .ref h_least :: .ref h_menus :: .ref h_firsts :: .ref h_weights :: .ref h_free :: .ref h_setWeights :: .ref h_stepsAt :: .ref h_pairOne :: .ref h_pairOther :: .int f_pairs :: .ref h_row :: .ref h_best :: .int f_bestMany :: .long f_bestSum :: [])))] := hD
    refine lv_iload_n hx hb dX8_bad_9 rfl (lv_at hl 1 rfl) ?_
    have hz := gb_1 h; replace h := gb_2 h
    obtain ⟨e0, e1⟩ := ret2 h
    exact rte_i e0 (by rw [← e1]) hx hb hr hlk (nar_z hz) hK hP hD hS dX8_bad_10
