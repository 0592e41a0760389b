abbrev rm_X8_place : Room := { frames := 1, cells := 0, slots := 0, locals := 25 }
set_option maxHeartbeats 4000000 in
set_option maxRecDepth 100000 in
theorem c_X8_place (l : Launch) (D : va_G) (cy : Nat → ClassId) (h_this h_counts h_words h_tape h_page h_items h_many h_newItems h_newMany h_has h_open h_wayList h_wayPlace h_bits h_least h_menus h_firsts h_weights h_free h_setWeights h_stepsAt h_pairOne h_pairOther h_row h_best : Nat)    (sz : Nat) (f_thrown : Int32) (f_commands : Int32) (f_look : Int32) (f_down : Int32) (f_breadth : Int32) (f_unlearn : Int32) (f_taped : Int32) (f_size : Int32) (f_paged : Int32) (f_lists : Int32) (f_newLists : Int32) (f_at : Int32) (f_fault : Int32) (f_place : Int32) (f_ways : Int32) (f_pairs : Int32) (f_bestMany : Int32) (f_bestSum : Int64) (g_items : Nat → Int32) (g_many : Nat → Int32) (g_wayList : Nat → Int32) (g_wayPlace : Nat → Int32) (a1 : Int32) (a2 : Int32) (r0 : Int32) (o_f_thrown : Int32) (o_f_ways : Int32) (o_g_wayList : Nat → Int32) (o_g_wayPlace : Nat → Int32) (hf : f_X8_place f_commands f_lists g_items g_many f_thrown f_ways g_wayList g_wayPlace a1 a2 = some (r0, o_f_thrown, o_f_ways, o_g_wayList, o_g_wayPlace)) : MI l yX8_place wsX8_place rm_X8_place D cy [.ref h_this, .int a1, .int a2] sz [(h_this, .inr (8, (.int f_thrown :: .ref h_counts :: .ref h_words :: .int f_commands :: .int f_look :: .int f_down :: .int f_breadth :: .int f_unlearn :: .ref h_tape :: .int f_taped :: .int f_size :: .ref h_page :: .int f_paged :: .ref h_items :: .ref h_many :: .int f_lists :: .ref h_newItems :: .ref h_newMany :: .int f_newLists :: .int f_at :: .int f_fault :: .int f_place :: .ref h_has :: .ref h_open :: .ref h_wayList :: .ref h_wayPlace :: .int f_ways :: .ref h_bits :: .ref h_least :: .ref h_menus :: .ref h_firsts :: .ref h_weights :: .ref h_free :: .ref h_setWeights :: .ref h_stepsAt :: .ref h_pairOne :: .ref h_pairOther :: .int f_pairs :: .ref h_row :: .ref h_best :: .int f_bestMany :: .long f_bestSum :: []))), (h_items, .inl (cy 0, 756, .inl g_items)), (h_many, .inl (cy 0, 84, .inl g_many)), (h_wayList, .inl (cy 0, 84, .inl g_wayList)), (h_wayPlace, .inl (cy 0, 84, .inl g_wayPlace))] r0 [(h_this, .inr (8, (.int o_f_thrown :: .ref h_counts :: .ref h_words :: .int f_commands :: .int f_look :: .int f_down :: .int f_breadth :: .int f_unlearn :: .ref h_tape :: .int f_taped :: .int f_size :: .ref h_page :: .int f_paged :: .ref h_items :: .ref h_many :: .int f_lists :: .ref h_newItems :: .ref h_newMany :: .int f_newLists :: .int f_at :: .int f_fault :: .int f_place :: .ref h_has :: .ref h_open :: .ref h_wayList :: .ref h_wayPlace :: .int o_f_ways :: .ref h_bits :: .ref h_least :: .ref h_menus :: .ref h_firsts :: .ref h_weights :: .ref h_free :: .ref h_setWeights :: .ref h_stepsAt :: .ref h_pairOne :: .ref h_pairOther :: .int f_pairs :: .ref h_row :: .ref h_best :: .int f_bestMany :: .long f_bestSum :: []))), (h_items, .inl (cy 0, 756, .inl g_items)), (h_many, .inl (cy 0, 84, .inl g_many)), (h_wayList, .inl (cy 0, 84, .inl o_g_wayList)), (h_wayPlace, .inl (cy 0, 84, .inl o_g_wayPlace))] := by
  refine MI.of (cc := cX8_place) (maxL := 3) (ret := (some .int)) (by decide) rfl (Nat.le_of_ble_eq_true rfl) ?_
  intro p e s m below meth c A ls hx hb hml hown hts hlk hr hK hA hP hD hS hl
  have h := hf
  unfold f_X8_place at h
  have wf119 := hts (.fieldLink RX8 119 "MenuPlannerModel" "lists" "I") (by decide +kernel)
  have hinX8 := (by decide +kernel : ∀ w ∈ u_ws RX8 TX8 42, w ∈ wsX8_place)
  have wf180 := hts (.fieldLink RX8 180 "MenuPlannerModel" "ways" "I") (by decide +kernel)
  have wf61 := hts (.fieldLink RX8 61 "MenuPlannerModel" "wayPlace" "[I") (by decide +kernel)
  replace hl : lv_has ls 3 [(0, .ref h_this), (1, .int a1), (2, .int a2)] := hl
  clear hf
  refine lv_aload_n hx hb dX8_place_0 rfl (lv_at hl 0 rfl) ?_
  refine lv_iload_n hx hb dX8_place_1 rfl (lv_at hl 1 rfl) ?_
  obtain ⟨r_2, f_thrown_1, hu, h⟩ := ob2_1 h
  refine cl_Vi (As := [.int a1]) (rest := []) [0] [1, 2, 3, 4] [4, 0, 1, 2, 3] [(h_items, .inl (cy 0, 756, .inl g_items)), (h_many, .inl (cy 0, 84, .inl g_many)), (h_wayList, .inl (cy 0, 84, .inl g_wayList)), (h_wayPlace, .inl (cy 0, 84, .inl g_wayPlace))] [(h_this, .inr (8, (.int f_thrown_1 :: .ref h_counts :: .ref h_words :: .int f_commands :: .int f_look :: .int f_down :: .int f_breadth :: .int f_unlearn :: .ref h_tape :: .int f_taped :: .int f_size :: .ref h_page :: .int f_paged :: .ref h_items :: .ref h_many :: .int f_lists :: .ref h_newItems :: .ref h_newMany :: .int f_newLists :: .int f_at :: .int f_fault :: .int f_place :: .ref h_has :: .ref h_open :: .ref h_wayList :: .ref h_wayPlace :: .int f_ways :: .ref h_bits :: .ref h_least :: .ref h_menus :: .ref h_firsts :: .ref h_weights :: .ref h_free :: .ref h_setWeights :: .ref h_stepsAt :: .ref h_pairOne :: .ref h_pairOther :: .int f_pairs :: .ref h_row :: .ref h_best :: .int f_bestMany :: .long f_bestSum :: []))), (h_items, .inl (cy 0, 756, .inl g_items)), (h_many, .inl (cy 0, 84, .inl g_many)), (h_wayList, .inl (cy 0, 84, .inl g_wayList)), (h_wayPlace, .inl (cy 0, 84, .inl g_wayPlace))] 8 ⟨hx, hb, hml, hown, hts⟩ (c_X8_isCommand (l := l) (D := D) (cy := cy) (sz := _) (h_this := h_this) (h_counts := h_counts) (h_words := h_words) (h_tape := h_tape) (h_page := h_page) (h_items := h_items) (h_many := h_many) (h_newItems := h_newItems) (h_newMany := h_newMany) (h_has := h_has) (h_open := h_open) (h_wayList := h_wayList) (h_wayPlace := h_wayPlace) (h_bits := h_bits) (h_least := h_least) (h_menus := h_menus) (h_firsts := h_firsts) (h_weights := h_weights) (h_free := h_free) (h_setWeights := h_setWeights) (h_stepsAt := h_stepsAt) (h_pairOne := h_pairOne) (h_pairOther := h_pairOther) (h_row := h_row) (h_best := h_best) (f_thrown := f_thrown) (f_commands := f_commands) (f_look := f_look) (f_down := f_down) (f_breadth := f_breadth) (f_unlearn := f_unlearn) (f_taped := f_taped) (f_size := f_size) (f_paged := f_paged) (f_lists := f_lists) (f_newLists := f_newLists) (f_at := f_at) (f_fault := f_fault) (f_place := f_place) (f_ways := f_ways) (f_pairs := f_pairs) (f_bestMany := f_bestMany) (f_bestSum := f_bestSum) (a1 := a1) (r0 := r_2) (o_f_thrown := f_thrown_1) (hf := hu)) (cwV 1 hts gX8_place_X8_isCommand rfl rfl rfl (by decide +kernel) ⟨Nat.le_of_ble_eq_true rfl, Nat.le_of_ble_eq_true rfl⟩) hK hP hD hS hA rfl rfl rfl rfl (by decide) rfl rfl rfl rfl rfl rfl rfl rfl hl.1 rfl (Nat.le_of_ble_eq_true rfl) dX8_place_2 ⟨Nat.zero_le _, Nat.zero_le _⟩ (fun H locs hP hD hS => ?_)
  refine lv_if_eq (tgt := 15) hx hb dX8_place_5 (by decide) (fun hc => ?_) (fun hc => ?_)
  · replace h := it_1 h hc
    refine lv_iconst (v := 0) hx hb dX8_place_15 (by decide) ?_
    obtain ⟨e0, e1, e2, e3, e4⟩ := ret5 h
    exact rte_i e0 (by rw [← e1, ← e2, ← e3, ← e4]) hx hb hr hlk rfl hK hP hD hS dX8_place_16
  · replace h := it_0 h hc
    refine lv_aload_n hx hb dX8_place_8 rfl (lv_at hl 0 rfl) ?_
    refine va_get (D := D) (ci := 8) (v := .int f_lists) (C := RX8) (T := TX8) (N := 42) hx hb hts hinX8 hown hK hP 0 rfl rfl 15 (by decide) wf119 (fun _ h9 => h9) rfl dX8_place_9 ?_
    refine lv_if_ne (tgt := 17) hx hb dX8_place_12 (by decide) (fun hc => ?_) (fun hc => ?_)
    · replace h := it_0 h hc
      refine lv_aload_n hx hb dX8_place_17 rfl (lv_at hl 0 rfl) ?_
      refine lv_iload_n hx hb dX8_place_18 rfl (lv_at hl 1 rfl) ?_
      obtain ⟨f_ways_3, g_wayList_4, g_wayPlace_5, hu, h⟩ := ob3_1 h
      refine cl_Vv (As := [.int a1]) (rest := []) [0, 1, 2, 3, 4] [] [0, 1, 2, 3, 4] [] [(h_this, .inr (8, (.int f_thrown_1 :: .ref h_counts :: .ref h_words :: .int f_commands :: .int f_look :: .int f_down :: .int f_breadth :: .int f_unlearn :: .ref h_tape :: .int f_taped :: .int f_size :: .ref h_page :: .int f_paged :: .ref h_items :: .ref h_many :: .int f_lists :: .ref h_newItems :: .ref h_newMany :: .int f_newLists :: .int f_at :: .int f_fault :: .int f_place :: .ref h_has :: .ref h_open :: .ref h_wayList :: .ref h_wayPlace :: .int f_ways_3 :: .ref h_bits :: .ref h_least :: .ref h_menus :: .ref h_firsts :: .ref h_weights :: .ref h_free :: .ref h_setWeights :: .ref h_stepsAt :: .ref h_pairOne :: .ref h_pairOther :: .int f_pairs :: .ref h_row :: .ref h_best :: .int f_bestMany :: .long f_bestSum :: []))), (h_items, .inl (cy 0, 756, .inl g_items)), (h_many, .inl (cy 0, 84, .inl g_many)), (h_wayList, .inl (cy 0, 84, .inl g_wayList_4)), (h_wayPlace, .inl (cy 0, 84, .inl g_wayPlace_5))] 8 ⟨hx, hb, hml, hown, hts⟩ (c_X8_way (l := l) (D := D) (cy := cy) (sz := _) (h_this := h_this) (h_items := h_items) (h_many := h_many) (h_wayList := h_wayList) (h_wayPlace := h_wayPlace) (h_counts := h_counts) (h_words := h_words) (h_tape := h_tape) (h_page := h_page) (h_newItems := h_newItems) (h_newMany := h_newMany) (h_has := h_has) (h_open := h_open) (h_bits := h_bits) (h_least := h_least) (h_menus := h_menus) (h_firsts := h_firsts) (h_weights := h_weights) (h_free := h_free) (h_setWeights := h_setWeights) (h_stepsAt := h_stepsAt) (h_pairOne := h_pairOne) (h_pairOther := h_pairOther) (h_row := h_row) (h_best := h_best) (f_thrown := f_thrown_1) (f_commands := f_commands) (f_look := f_look) (f_down := f_down) (f_breadth := f_breadth) (f_unlearn := f_unlearn) (f_taped := f_taped) (f_size := f_size) (f_paged := f_paged) (f_lists := f_lists) (f_newLists := f_newLists) (f_at := f_at) (f_fault := f_fault) (f_place := f_place) (f_ways := f_ways) (f_pairs := f_pairs) (f_bestMany := f_bestMany) (f_bestSum := f_bestSum) (g_items := g_items) (g_many := g_many) (g_wayList := g_wayList) (g_wayPlace := g_wayPlace) (a1 := a1) (o_f_ways := f_ways_3) (o_g_wayList := g_wayList_4) (o_g_wayPlace := g_wayPlace_5) (hf := hu)) (cwV 1 hts gX8_place_X8_way rfl rfl rfl (by decide +kernel) ⟨Nat.le_of_ble_eq_true rfl, Nat.le_of_ble_eq_true rfl⟩) hK hP hD hS hA rfl rfl rfl rfl (by decide) rfl rfl rfl rfl rfl rfl rfl rfl hl.1 rfl (Nat.le_of_ble_eq_true rfl) dX8_place_19 ⟨Nat.zero_le _, Nat.zero_le _⟩ (fun H locs hP hD hS => ?_)
      refine lv_iload_n hx hb dX8_place_22 rfl (lv_at hl 2 rfl) ?_
      refine lv_if_lt (tgt := 43) hx hb dX8_place_23 (by decide) (fun hc => ?_) (fun hc => ?_)
      · replace h := it_1 h hc
        refine lv_iconst (v := 0) hx hb dX8_place_43 (by decide) ?_
        obtain ⟨e0, e1, e2, e3, e4⟩ := ret5 h
        exact rte_i e0 (by rw [← e1, ← e2, ← e3, ← e4]) hx hb hr hlk rfl hK hP hD hS dX8_place_44
      · replace h := it_0 h hc
        refine lv_iload_n hx hb dX8_place_26 rfl (lv_at hl 2 rfl) ?_
        refine lv_aload_n hx hb dX8_place_27 rfl (lv_at hl 0 rfl) ?_
        refine va_get (D := D) (ci := 8) (v := .int f_ways_3) (C := RX8) (T := TX8) (N := 42) hx hb hts hinX8 hown hK hP 0 rfl rfl 26 (by decide) wf180 (fun _ h9 => h9) rfl dX8_place_28 ?_
        refine lv_icmp_ge (tgt := 43) hx hb dX8_place_31 (by decide) (fun hc => ?_) (fun hc => ?_)
        · replace h := it_1 h hc
          refine lv_iconst (v := 0) hx hb dX8_place_43 (by decide) ?_
          obtain ⟨e0, e1, e2, e3, e4⟩ := ret5 h
          exact rte_i e0 (by rw [← e1, ← e2, ← e3, ← e4]) hx hb hr hlk rfl hK hP hD hS dX8_place_44
        · replace h := it_0 h hc
          refine lv_aload_n hx hb dX8_place_34 rfl (lv_at hl 0 rfl) ?_
          refine va_get (D := D) (ci := 8) (v := .ref h_wayPlace) (C := RX8) (T := TX8) (N := 42) hx hb hts hinX8 hown hK hP 0 rfl rfl 25 (by decide) wf61 (fun _ h9 => h9) rfl dX8_place_35 ?_
          refine lv_iload_n hx hb dX8_place_38 rfl (lv_at hl 2 rfl) ?_
          have hi := gi_1 h; replace h := gi_2 h
          refine va_iald hx hb hK hP 4 0 rfl rfl hi dX8_place_39 ?_
          refine lv_goto (tgt := 44) hx hb dX8_place_40 (by decide) ?_
          obtain ⟨e0, e1, e2, e3, e4⟩ := ret5 h
          exact rte_i e0 (by rw [← e1, ← e2, ← e3, ← e4]) hx hb hr hlk rfl hK hP hD hS dX8_place_44
    · replace h := it_1 h hc
      refine lv_iconst (v := 0) hx hb dX8_place_15 (by decide) ?_
      obtain ⟨e0, e1, e2, e3, e4⟩ := ret5 h
      exact rte_i e0 (by rw [← e1, ← e2, ← e3, ← e4]) hx hb hr hlk rfl hK hP hD hS dX8_place_16
