abbrev rm_X7_planz : Room := { frames := 0, cells := 0, slots := 0, locals := 0 }
set_option maxHeartbeats 4000000 in
set_option maxRecDepth 100000 in
theorem c_X7_planz (l : Launch) (D : va_G) (cy : Nat → ClassId) (h_this h_tape h_reader h_tree h_draft h_page h_exchanges h_use h_use_counts h_use_words h_use_settings : Nat)  (v_spans : Value) (v_subsets : Value)  (sz : Nat) (f_taped : Int32) (f_faultPlace : Int32) (f_spansKnown : Int32) (f_freeCost : Int64) (f_freeKnown : Int32) (f_use_size : Int32)  (r0 : Int64)  (hf : f_X7_planz f_use_size = some r0) : ML l yX7_plan wsX7_plan rm_X7_planz D cy [.ref h_this] sz [(h_this, .inr (7, [.ref h_use, .ref h_tape, .int f_taped, .ref h_reader, .int f_faultPlace, .ref h_tree, .ref h_draft, .ref h_page, .ref h_exchanges, v_spans, .int f_spansKnown, v_subsets, .long f_freeCost, .int f_freeKnown])), (h_use, .inr (6, [.int f_use_size, .ref h_use_counts, .ref h_use_words, .ref h_use_settings]))] r0 [(h_this, .inr (7, [.ref h_use, .ref h_tape, .int f_taped, .ref h_reader, .int f_faultPlace, .ref h_tree, .ref h_draft, .ref h_page, .ref h_exchanges, v_spans, .int f_spansKnown, v_subsets, .long f_freeCost, .int f_freeKnown])), (h_use, .inr (6, [.int f_use_size, .ref h_use_counts, .ref h_use_words, .ref h_use_settings]))] := by
  refine ML.of (cc := cX7_plan) (maxL := 1) (ret := (some .long)) (by decide) rfl (Nat.le_of_ble_eq_true rfl) ?_
  intro p e s m below meth c A ls hx hb hml hown hts hlk hr hK hA hP hD hS hl
  have h := hf
  unfold f_X7_planz at h
  have wf10 := hts (.fieldLink RX7 10 "MenuPlanner" "use" "LMenuPlanner$Use;") (by decide +kernel)
  have hinX7 := (by decide +kernel : ∀ w ∈ u_ws RX7 TX7 14, w ∈ wsX7_plan)
  have wf84 := hts (.fieldLink RX7 84 "MenuPlanner$Use" "size" "I") (by decide +kernel)
  have hinX6 := (by decide +kernel : ∀ w ∈ u_ws RX6 TX6 4, w ∈ wsX7_plan)
  have wl142 := hts (.constantLong RX7 142 (-1)) (by decide +kernel)
  replace hl : lv_has ls 1 [(0, .ref h_this)] := hl
  clear hf
  refine lv_aload_n hx hb dX7_plan_0 rfl (lv_at hl 0 rfl) ?_
  refine va_get (D := D) (ci := 7) (v := .ref h_use) (C := RX7) (T := TX7) (N := 14) hx hb hts hinX7 hown hK hP 0 rfl rfl 0 (by decide) wf10 (fun _ h9 => h9) rfl dX7_plan_1 ?_
  refine va_get (D := D) (ci := 6) (v := .int f_use_size) (C := RX6) (T := TX6) (N := 4) hx hb hts hinX6 hown hK hP 1 rfl rfl 0 (by decide) wf84 (fun _ h9 => h9) rfl dX7_plan_4 ?_
  refine lv_if_ne (tgt := 14) hx hb dX7_plan_7 (by decide) (fun hc => ?_) (fun hc => ?_)
  · replace h := it_0 h hc
    refine lv_aload_n hx hb dX7_plan_14 rfl (lv_at hl 0 rfl) ?_
    exact absurd h (by intro q; cases q)
  · replace h := it_1 h hc
    refine lv_ldc2 (v := (-1)) hx hb hown wl142 dX7_plan_10 ?_
    have e0 := ret1 h
    exact rte_l e0 rfl hx hb hr hlk hK hP hD hS dX7_plan_13
abbrev rm_X7_freez : Room := { frames := 0, cells := 0, slots := 0, locals := 0 }
set_option maxHeartbeats 4000000 in
set_option maxRecDepth 100000 in
theorem c_X7_freez (l : Launch) (D : va_G) (cy : Nat → ClassId) (h_this h_tape h_reader h_tree h_draft h_page h_exchanges h_use h_use_counts h_use_words h_use_settings : Nat)  (v_spans : Value) (v_subsets : Value)  (sz : Nat) (f_taped : Int32) (f_faultPlace : Int32) (f_spansKnown : Int32) (f_freeCost : Int64) (f_freeKnown : Int32) (f_use_size : Int32)  (r0 : Int64)  (hf : f_X7_freez f_freeCost f_freeKnown f_use_size = some r0) : ML l yX7_free wsX7_free rm_X7_freez D cy [.ref h_this] sz [(h_this, .inr (7, [.ref h_use, .ref h_tape, .int f_taped, .ref h_reader, .int f_faultPlace, .ref h_tree, .ref h_draft, .ref h_page, .ref h_exchanges, v_spans, .int f_spansKnown, v_subsets, .long f_freeCost, .int f_freeKnown])), (h_use, .inr (6, [.int f_use_size, .ref h_use_counts, .ref h_use_words, .ref h_use_settings]))] r0 [(h_this, .inr (7, [.ref h_use, .ref h_tape, .int f_taped, .ref h_reader, .int f_faultPlace, .ref h_tree, .ref h_draft, .ref h_page, .ref h_exchanges, v_spans, .int f_spansKnown, v_subsets, .long f_freeCost, .int f_freeKnown])), (h_use, .inr (6, [.int f_use_size, .ref h_use_counts, .ref h_use_words, .ref h_use_settings]))] := by
  refine ML.of (cc := cX7_free) (maxL := 1) (ret := (some .long)) (by decide) rfl (Nat.le_of_ble_eq_true rfl) ?_
  intro p e s m below meth c A ls hx hb hml hown hts hlk hr hK hA hP hD hS hl
  have h := hf
  unfold f_X7_freez at h
  have wf10 := hts (.fieldLink RX7 10 "MenuPlanner" "use" "LMenuPlanner$Use;") (by decide +kernel)
  have hinX7 := (by decide +kernel : ∀ w ∈ u_ws RX7 TX7 14, w ∈ wsX7_free)
  have wf84 := hts (.fieldLink RX7 84 "MenuPlanner$Use" "size" "I") (by decide +kernel)
  have hinX6 := (by decide +kernel : ∀ w ∈ u_ws RX6 TX6 4, w ∈ wsX7_free)
  have wl142 := hts (.constantLong RX7 142 (-1)) (by decide +kernel)
  have wf74 := hts (.fieldLink RX7 74 "MenuPlanner" "freeKnown" "Z") (by decide +kernel)
  have wf70 := hts (.fieldLink RX7 70 "MenuPlanner" "freeCost" "J") (by decide +kernel)
  replace hl : lv_has ls 1 [(0, .ref h_this)] := hl
  clear hf
  refine lv_aload_n hx hb dX7_free_0 rfl (lv_at hl 0 rfl) ?_
  refine va_get (D := D) (ci := 7) (v := .ref h_use) (C := RX7) (T := TX7) (N := 14) hx hb hts hinX7 hown hK hP 0 rfl rfl 0 (by decide) wf10 (fun _ h9 => h9) rfl dX7_free_1 ?_
  refine va_get (D := D) (ci := 6) (v := .int f_use_size) (C := RX6) (T := TX6) (N := 4) hx hb hts hinX6 hown hK hP 1 rfl rfl 0 (by decide) wf84 (fun _ h9 => h9) rfl dX7_free_4 ?_
  refine lv_if_eq (tgt := 22) hx hb dX7_free_7 (by decide) (fun hc => ?_) (fun hc => ?_)
  · replace h := it_1 h hc
    refine lv_ldc2 (v := (-1)) hx hb hown wl142 dX7_free_22 ?_
    have e0 := ret1 h
    exact rte_l e0 rfl hx hb hr hlk hK hP hD hS dX7_free_25
  · replace h := it_0 h hc
    refine lv_aload_n hx hb dX7_free_10 rfl (lv_at hl 0 rfl) ?_
    refine va_get (D := D) (ci := 7) (v := .ref h_use) (C := RX7) (T := TX7) (N := 14) hx hb hts hinX7 hown hK hP 0 rfl rfl 0 (by decide) wf10 (fun _ h9 => h9) rfl dX7_free_11 ?_
    refine va_get (D := D) (ci := 6) (v := .int f_use_size) (C := RX6) (T := TX6) (N := 4) hx hb hts hinX6 hown hK hP 1 rfl rfl 0 (by decide) wf84 (fun _ h9 => h9) rfl dX7_free_14 ?_
    refine lv_bipush (v := 10) hx hb dX7_free_17 (by decide) ?_
    refine lv_icmp_le (tgt := 26) hx hb dX7_free_19 (by decide) (fun hc => ?_) (fun hc => ?_)
    · replace h := it_1 h hc
      refine lv_aload_n hx hb dX7_free_26 rfl (lv_at hl 0 rfl) ?_
      refine va_get (D := D) (ci := 7) (v := .int f_freeKnown) (C := RX7) (T := TX7) (N := 14) hx hb hts hinX7 hown hK hP 0 rfl rfl 13 (by decide) wf74 (fun _ h9 => h9) rfl dX7_free_27 ?_
      refine lv_if_ne (tgt := 71) hx hb dX7_free_30 (by decide) (fun hc => ?_) (fun hc => ?_)
      · replace h := it_0 h hc
        refine lv_aload_n hx hb dX7_free_71 rfl (lv_at hl 0 rfl) ?_
        refine va_get (D := D) (ci := 7) (v := .long f_freeCost) (C := RX7) (T := TX7) (N := 14) hx hb hts hinX7 hown hK hP 0 rfl rfl 12 (by decide) wf70 (fun _ h9 => h9) rfl dX7_free_72 ?_
        have e0 := ret1 h
        exact rte_l e0 rfl hx hb hr hlk hK hP hD hS dX7_free_75
      · replace h := it_1 h hc
        refine lv_aload_n hx hb dX7_free_33 rfl (lv_at hl 0 rfl) ?_
        exact absurd h (by intro q; cases q)
    · replace h := it_0 h hc
      refine lv_ldc2 (v := (-1)) hx hb hown wl142 dX7_free_22 ?_
      have e0 := ret1 h
      exact rte_l e0 rfl hx hb hr hlk hK hP hD hS dX7_free_25
