abbrev rm_X5_stepsTo : Room := { frames := 0, cells := 0, slots := 0, locals := 0 }
set_option maxHeartbeats 4000000 in
set_option maxRecDepth 100000 in
theorem c_X5_stepsTo (l : Launch) (D : va_G) (cy : Nat → ClassId) (h_this h_sizes h_above h_placeAbove h_items h_home h_placeHome h_tally h_p2 h_p2_counts h_p2_words h_p2_settings : Nat)    (sz : Nat) (f_lists : Int32) (g_above : Nat → Int32) (g_placeAbove : Nat → Int32) (g_home : Nat → Int32) (g_placeHome : Nat → Int32) (f_p2_size : Int32) (g_p2_settings : Nat → Int32) (a1 : Int32) (r0 : Int32)  (hf : f_X5_stepsTo g_above g_placeAbove g_home g_placeHome g_p2_settings a1 = some r0) : MI l yX5_stepsTo wsX5_stepsTo rm_X5_stepsTo D cy [.ref h_this, .int a1, .ref h_p2] sz [(h_this, .inr (5, [.int f_lists, .ref h_sizes, .ref h_above, .ref h_placeAbove, .ref h_items, .ref h_home, .ref h_placeHome, .ref h_tally])), (h_above, .inl (cy 0, 80, .inl g_above)), (h_placeAbove, .inl (cy 0, 80, .inl g_placeAbove)), (h_home, .inl (cy 0, 40, .inl g_home)), (h_placeHome, .inl (cy 0, 40, .inl g_placeHome)), (h_p2, .inr (6, [.int f_p2_size, .ref h_p2_counts, .ref h_p2_words, .ref h_p2_settings])), (h_p2_settings, .inl (cy 0, 4, .inl g_p2_settings))] r0 [(h_this, .inr (5, [.int f_lists, .ref h_sizes, .ref h_above, .ref h_placeAbove, .ref h_items, .ref h_home, .ref h_placeHome, .ref h_tally])), (h_above, .inl (cy 0, 80, .inl g_above)), (h_placeAbove, .inl (cy 0, 80, .inl g_placeAbove)), (h_home, .inl (cy 0, 40, .inl g_home)), (h_placeHome, .inl (cy 0, 40, .inl g_placeHome)), (h_p2, .inr (6, [.int f_p2_size, .ref h_p2_counts, .ref h_p2_words, .ref h_p2_settings])), (h_p2_settings, .inl (cy 0, 4, .inl g_p2_settings))] := by
  refine MI.of (cc := cX5_stepsTo) (maxL := 8) (ret := (some .int)) (by decide) rfl (Nat.le_of_ble_eq_true rfl) ?_
  intro p e s m below meth c A ls hx hb hml hown hts hlk hr hK hA hP hD hS hl
  have h := hf
  unfold f_X5_stepsTo at h
  have wf22 := hts (.fieldLink RX5 22 "MenuPlanner$Tree" "placeAbove" "[I") (by decide +kernel)
  have hinX5 := (by decide +kernel : ∀ w ∈ u_ws RX5 TX5 8, w ∈ wsX5_stepsTo)
  have wf19 := hts (.fieldLink RX5 19 "MenuPlanner$Tree" "above" "[I") (by decide +kernel)
  have wf45 := hts (.fieldLink RX5 45 "MenuPlanner$Use" "settings" "[I") (by decide +kernel)
  have hinX6 := (by decide +kernel : ∀ w ∈ u_ws RX6 TX6 4, w ∈ wsX5_stepsTo)
  have wf31 := hts (.fieldLink RX5 31 "MenuPlanner$Tree" "placeHome" "[I") (by decide +kernel)
  have wf28 := hts (.fieldLink RX5 28 "MenuPlanner$Tree" "home" "[I") (by decide +kernel)
  replace hl : lv_has ls 8 [(0, .ref h_this), (1, .int a1), (2, .ref h_p2)] := hl
  have L36 : ∀ (n : Nat) (x3 : Int32) (x4 : Int32) (x5 : Int32) (x6 : Int32) (x7 : Int32), f_X5_stepsTo_L36 g_above g_placeAbove n x3 x4 x5 x6 x7 = some r0 → ∀ (H : Heap) (locs : List Loc) (ls : Array Slot), va_P D vwCl [(h_this, .inr (5, [.int f_lists, .ref h_sizes, .ref h_above, .ref h_placeAbove, .ref h_items, .ref h_home, .ref h_placeHome, .ref h_tally])), (h_above, .inl (cy 0, 80, .inl g_above)), (h_placeAbove, .inl (cy 0, 80, .inl g_placeAbove)), (h_home, .inl (cy 0, 40, .inl g_home)), (h_placeHome, .inl (cy 0, 40, .inl g_placeHome)), (h_p2, .inr (6, [.int f_p2_size, .ref h_p2_counts, .ref h_p2_words, .ref h_p2_settings])), (h_p2_settings, .inl (cy 0, 4, .inl g_p2_settings))] H → va_D A [(h_this, .inr (5, [.int f_lists, .ref h_sizes, .ref h_above, .ref h_placeAbove, .ref h_items, .ref h_home, .ref h_placeHome, .ref h_tally])), (h_above, .inl (cy 0, 80, .inl g_above)), (h_placeAbove, .inl (cy 0, 80, .inl g_placeAbove)), (h_home, .inl (cy 0, 40, .inl g_home)), (h_placeHome, .inl (cy 0, 40, .inl g_placeHome)), (h_p2, .inr (6, [.int f_p2_size, .ref h_p2_counts, .ref h_p2_words, .ref h_p2_settings])), (h_p2_settings, .inl (cy 0, 4, .inl g_p2_settings))] → va_S A s.heap H locs → lv_has ls 8 [(0, .ref h_this), (3, .int x3), (4, .int x4), (5, .int x5), (6, .int x6), (7, .int x7)] → W p l e rm_X5_stepsTo s m ([.ref h_this, .int a1, .ref h_p2]).toArray below meth c H locs 0 0 (MQ below (QI D cy A r0 [(h_this, .inr (5, [.int f_lists, .ref h_sizes, .ref h_above, .ref h_placeAbove, .ref h_items, .ref h_home, .ref h_placeHome, .ref h_tally])), (h_above, .inl (cy 0, 80, .inl g_above)), (h_placeAbove, .inl (cy 0, 80, .inl g_placeAbove)), (h_home, .inl (cy 0, 40, .inl g_home)), (h_placeHome, .inl (cy 0, 40, .inl g_placeHome)), (h_p2, .inr (6, [.int f_p2_size, .ref h_p2_counts, .ref h_p2_words, .ref h_p2_settings])), (h_p2_settings, .inl (cy 0, 4, .inl g_p2_settings))]) ([.ref h_this, .int a1, .ref h_p2]).toArray s 0 0 A) (F0 m 36 ls []) := by
    intro n
    induction n with
    | zero => intro x3 x4 x5 x6 x7 h; exact absurd (show (none : Option _) = some _ from h) (by intro q; cases q)
    | succ n36 ih36 =>
      intro x3 x4 x5 x6 x7 h H locs ls hP hD hS hl
      replace h : f_X5_stepsTo_L36_F g_above g_placeAbove (f_X5_stepsTo_L36 g_above g_placeAbove n36) x3 x4 x5 x6 x7 = some r0 := h
      unfold f_X5_stepsTo_L36_F at h
      refine lv_iload hx hb dX5_stepsTo_36 (lv_at hl 5 rfl) ?_
      refine lv_bipush (v := 80) hx hb dX5_stepsTo_38 (by decide) ?_
      refine lv_icmp_ge (tgt := 80) hx hb dX5_stepsTo_40 (by decide) (fun hc => ?_) (fun hc => ?_)
      · replace h := it_1 h hc
        refine lv_iload hx hb dX5_stepsTo_80 (lv_at hl 3 rfl) ?_
        have e0 := ret1 h
        exact rte_i e0 rfl hx hb hr hlk rfl hK hP hD hS dX5_stepsTo_82
      · replace h := it_0 h hc
        refine lv_iload hx hb dX5_stepsTo_43 (lv_at hl 4 rfl) ?_
        refine lv_if_le (tgt := 80) hx hb dX5_stepsTo_45 (by decide) (fun hc => ?_) (fun hc => ?_)
        · replace h := it_1 h hc
          refine lv_iload hx hb dX5_stepsTo_80 (lv_at hl 3 rfl) ?_
          have e0 := ret1 h
          exact rte_i e0 rfl hx hb hr hlk rfl hK hP hD hS dX5_stepsTo_82
        · replace h := it_0 h hc
          refine lv_iload hx hb dX5_stepsTo_48 (lv_at hl 3 rfl) ?_
          refine lv_iload_n hx hb dX5_stepsTo_50 rfl (lv_at hl 1 rfl) ?_
          refine lv_aload_n hx hb dX5_stepsTo_51 rfl (lv_at hl 0 rfl) ?_
          refine va_get (D := D) (ci := 5) (v := .ref h_placeAbove) (C := RX5) (T := TX5) (N := 8) hx hb hts hinX5 hown hK hP 0 rfl rfl 3 (by decide) wf22 (fun _ h9 => h9) rfl dX5_stepsTo_52 ?_
          refine lv_iload hx hb dX5_stepsTo_55 (lv_at hl 4 rfl) ?_
          have hi := gi_1 h; replace h := gi_2 h
          refine va_iald hx hb hK hP 2 0 rfl rfl hi dX5_stepsTo_57 ?_
          refine lv_imul hx hb dX5_stepsTo_58 ?_
          refine lv_iload hx hb dX5_stepsTo_59 (lv_at hl 2 rfl) ?_
          refine lv_iadd hx hb dX5_stepsTo_61 ?_
          refine lv_iadd hx hb dX5_stepsTo_62 ?_
          refine lv_istore (lv' := [(5, .int (x5 + ((x3 * (g_placeAbove (Int32.toNatClampNeg x6))) + x4))), (0, .ref h_this), (3, .int x3), (4, .int x4), (6, .int x6), (7, .int x7)]) hx hb dX5_stepsTo_63 hl (by decide) rfl (fun ls hl => ?_)
          refine lv_aload_n hx hb dX5_stepsTo_65 rfl (lv_at hl 1 rfl) ?_
          refine va_get (D := D) (ci := 5) (v := .ref h_above) (C := RX5) (T := TX5) (N := 8) hx hb hts hinX5 hown hK hP 0 rfl rfl 2 (by decide) wf19 (fun _ h9 => h9) rfl dX5_stepsTo_66 ?_
          refine lv_iload hx hb dX5_stepsTo_69 (lv_at hl 4 rfl) ?_
          have hi := gi_1 h; replace h := gi_2 h
          refine va_iald hx hb hK hP 1 0 rfl rfl hi dX5_stepsTo_71 ?_
          refine lv_istore (lv' := [(6, .int (g_above (Int32.toNatClampNeg x6))), (5, .int (x5 + ((x3 * (g_placeAbove (Int32.toNatClampNeg x6))) + x4))), (0, .ref h_this), (3, .int x3), (4, .int x4), (7, .int x7)]) hx hb dX5_stepsTo_72 hl (by decide) rfl (fun ls hl => ?_)
          refine lv_iinc (v := (x7 + 1)) (lv' := [(7, .int (x7 + 1)), (6, .int (g_above (Int32.toNatClampNeg x6))), (5, .int (x5 + ((x3 * (g_placeAbove (Int32.toNatClampNeg x6))) + x4))), (0, .ref h_this), (3, .int x3), (4, .int x4)]) hx hb dX5_stepsTo_74 hl (k := 5) rfl rfl (by decide) rfl (fun ls hl => ?_)
          refine lv_goto (tgt := 36) hx hb dX5_stepsTo_77 (by decide) ?_
          exact ih36 _ _ _ _ _ h _ _ _ hP hD hS (lv_sub hl [3, 4, 5, 2, 1, 0] rfl)
  clear hf
  refine lv_aload_n hx hb dX5_stepsTo_0 rfl (lv_at hl 2 rfl) ?_
  refine va_get (D := D) (ci := 6) (v := .ref h_p2_settings) (C := RX6) (T := TX6) (N := 4) hx hb hts hinX6 hown hK hP 5 rfl rfl 3 (by decide) wf45 (fun _ h9 => h9) rfl dX5_stepsTo_1 ?_
  refine lv_iconst (v := 0) hx hb dX5_stepsTo_4 (by decide) ?_
  have hi : vp_in 0 4 := vp_in_iff.mpr (by decide)
  refine va_iald hx hb hK hP 6 0 rfl rfl hi dX5_stepsTo_5 ?_
  refine lv_istore_n (lv' := [(3, .int (g_p2_settings (Int32.toNatClampNeg 0))), (0, .ref h_this), (1, .int a1), (2, .ref h_p2)]) hx hb dX5_stepsTo_6 rfl hl (by decide) rfl (fun ls hl => ?_)
  refine lv_aload_n hx hb dX5_stepsTo_7 rfl (lv_at hl 3 rfl) ?_
  refine va_get (D := D) (ci := 6) (v := .ref h_p2_settings) (C := RX6) (T := TX6) (N := 4) hx hb hts hinX6 hown hK hP 5 rfl rfl 3 (by decide) wf45 (fun _ h9 => h9) rfl dX5_stepsTo_8 ?_
  refine lv_iconst (v := 1) hx hb dX5_stepsTo_11 (by decide) ?_
  have hi : vp_in 1 4 := vp_in_iff.mpr (by decide)
  refine va_iald hx hb hK hP 6 0 rfl rfl hi dX5_stepsTo_12 ?_
  refine lv_istore (lv' := [(4, .int (g_p2_settings (Int32.toNatClampNeg 1))), (3, .int (g_p2_settings (Int32.toNatClampNeg 0))), (0, .ref h_this), (1, .int a1), (2, .ref h_p2)]) hx hb dX5_stepsTo_13 hl (by decide) rfl (fun ls hl => ?_)
  refine lv_iload_n hx hb dX5_stepsTo_15 rfl (lv_at hl 1 rfl) ?_
  refine lv_aload_n hx hb dX5_stepsTo_16 rfl (lv_at hl 2 rfl) ?_
  refine va_get (D := D) (ci := 5) (v := .ref h_placeHome) (C := RX5) (T := TX5) (N := 8) hx hb hts hinX5 hown hK hP 0 rfl rfl 6 (by decide) wf31 (fun _ h9 => h9) rfl dX5_stepsTo_17 ?_
  refine lv_iload_n hx hb dX5_stepsTo_20 rfl (lv_at hl 3 rfl) ?_
  have hi := gi_1 h; replace h := gi_2 h
  refine va_iald hx hb hK hP 4 0 rfl rfl hi dX5_stepsTo_21 ?_
  refine lv_imul hx hb dX5_stepsTo_22 ?_
  refine lv_topi (fun y5_1 ex => ?_)
  replace h := nm_1 h ex
  refine lv_istore (lv' := [(5, .int y5_1), (4, .int (g_p2_settings (Int32.toNatClampNeg 1))), (3, .int (g_p2_settings (Int32.toNatClampNeg 0))), (0, .ref h_this), (1, .int a1), (2, .ref h_p2)]) hx hb dX5_stepsTo_23 hl (by decide) rfl (fun ls hl => ?_)
  refine lv_aload_n hx hb dX5_stepsTo_25 rfl (lv_at hl 3 rfl) ?_
  refine va_get (D := D) (ci := 5) (v := .ref h_home) (C := RX5) (T := TX5) (N := 8) hx hb hts hinX5 hown hK hP 0 rfl rfl 5 (by decide) wf28 (fun _ h9 => h9) rfl dX5_stepsTo_26 ?_
  refine lv_iload_n hx hb dX5_stepsTo_29 rfl (lv_at hl 4 rfl) ?_
  have hi := gi_1 h; replace h := gi_2 h
  refine va_iald hx hb hK hP 3 0 rfl rfl hi dX5_stepsTo_30 ?_
  refine lv_istore (lv' := [(6, .int (g_home (Int32.toNatClampNeg a1))), (5, .int y5_1), (4, .int (g_p2_settings (Int32.toNatClampNeg 1))), (3, .int (g_p2_settings (Int32.toNatClampNeg 0))), (0, .ref h_this), (1, .int a1), (2, .ref h_p2)]) hx hb dX5_stepsTo_31 hl (by decide) rfl (fun ls hl => ?_)
  refine lv_iconst (v := 0) hx hb dX5_stepsTo_33 (by decide) ?_
  refine lv_istore (lv' := [(7, .int 0), (6, .int (g_home (Int32.toNatClampNeg a1))), (5, .int y5_1), (4, .int (g_p2_settings (Int32.toNatClampNeg 1))), (3, .int (g_p2_settings (Int32.toNatClampNeg 0))), (0, .ref h_this), (1, .int a1), (2, .ref h_p2)]) hx hb dX5_stepsTo_34 hl (by decide) rfl (fun ls hl => ?_)
  exact L36 FU _ _ _ _ _ h _ _ _ hP hD hS (lv_sub hl [5, 4, 3, 2, 1, 0] rfl)
abbrev rm_X5_totalCost : Room := { frames := 1, cells := 0, slots := 0, locals := 27 }
set_option maxHeartbeats 4000000 in
set_option maxRecDepth 100000 in
theorem c_X5_totalCost (l : Launch) (D : va_G) (cy : Nat → ClassId) (h_this h_sizes h_above h_placeAbove h_items h_home h_placeHome h_tally h_p1 h_p1_counts h_p1_words h_p1_settings : Nat)    (sz : Nat) (f_lists : Int32) (g_above : Nat → Int32) (g_placeAbove : Nat → Int32) (g_home : Nat → Int32) (g_placeHome : Nat → Int32) (f_p1_size : Int32) (g_p1_counts : Nat → Int32) (g_p1_settings : Nat → Int32)  (r0 : Int64)  (hf : f_X5_totalCost g_above g_placeAbove g_home g_placeHome f_p1_size g_p1_counts g_p1_settings = some r0) : ML l yX5_totalCost wsX5_totalCost rm_X5_totalCost D cy [.ref h_this, .ref h_p1] sz [(h_this, .inr (5, [.int f_lists, .ref h_sizes, .ref h_above, .ref h_placeAbove, .ref h_items, .ref h_home, .ref h_placeHome, .ref h_tally])), (h_above, .inl (cy 0, 80, .inl g_above)), (h_placeAbove, .inl (cy 0, 80, .inl g_placeAbove)), (h_home, .inl (cy 0, 40, .inl g_home)), (h_placeHome, .inl (cy 0, 40, .inl g_placeHome)), (h_p1, .inr (6, [.int f_p1_size, .ref h_p1_counts, .ref h_p1_words, .ref h_p1_settings])), (h_p1_counts, .inl (cy 0, 40, .inl g_p1_counts)), (h_p1_settings, .inl (cy 0, 4, .inl g_p1_settings))] r0 [(h_this, .inr (5, [.int f_lists, .ref h_sizes, .ref h_above, .ref h_placeAbove, .ref h_items, .ref h_home, .ref h_placeHome, .ref h_tally])), (h_above, .inl (cy 0, 80, .inl g_above)), (h_placeAbove, .inl (cy 0, 80, .inl g_placeAbove)), (h_home, .inl (cy 0, 40, .inl g_home)), (h_placeHome, .inl (cy 0, 40, .inl g_placeHome)), (h_p1, .inr (6, [.int f_p1_size, .ref h_p1_counts, .ref h_p1_words, .ref h_p1_settings])), (h_p1_counts, .inl (cy 0, 40, .inl g_p1_counts)), (h_p1_settings, .inl (cy 0, 4, .inl g_p1_settings))] := by
  refine ML.of (cc := cX5_totalCost) (maxL := 5) (ret := (some .long)) (by decide) rfl (Nat.le_of_ble_eq_true rfl) ?_
  intro p e s m below meth c A ls hx hb hml hown hts hlk hr hK hA hP hD hS hl
  have h := hf
  unfold f_X5_totalCost at h
  have wf50 := hts (.fieldLink RX5 50 "MenuPlanner$Use" "size" "I") (by decide +kernel)
  have hinX6 := (by decide +kernel : ∀ w ∈ u_ws RX6 TX6 4, w ∈ wsX5_totalCost)
  have wf53 := hts (.fieldLink RX5 53 "MenuPlanner$Use" "counts" "[I") (by decide +kernel)
  replace hl : lv_has ls 5 [(0, .ref h_this), (1, .ref h_p1)] := hl
  have L5 : ∀ (n : Nat) (x2 : Int64) (x4 : Int32), f_X5_totalCost_L5 g_above g_placeAbove g_home g_placeHome f_p1_size g_p1_counts g_p1_settings n x2 x4 = some r0 → ∀ (H : Heap) (locs : List Loc) (ls : Array Slot), va_P D vwCl [(h_this, .inr (5, [.int f_lists, .ref h_sizes, .ref h_above, .ref h_placeAbove, .ref h_items, .ref h_home, .ref h_placeHome, .ref h_tally])), (h_above, .inl (cy 0, 80, .inl g_above)), (h_placeAbove, .inl (cy 0, 80, .inl g_placeAbove)), (h_home, .inl (cy 0, 40, .inl g_home)), (h_placeHome, .inl (cy 0, 40, .inl g_placeHome)), (h_p1, .inr (6, [.int f_p1_size, .ref h_p1_counts, .ref h_p1_words, .ref h_p1_settings])), (h_p1_counts, .inl (cy 0, 40, .inl g_p1_counts)), (h_p1_settings, .inl (cy 0, 4, .inl g_p1_settings))] H → va_D A [(h_this, .inr (5, [.int f_lists, .ref h_sizes, .ref h_above, .ref h_placeAbove, .ref h_items, .ref h_home, .ref h_placeHome, .ref h_tally])), (h_above, .inl (cy 0, 80, .inl g_above)), (h_placeAbove, .inl (cy 0, 80, .inl g_placeAbove)), (h_home, .inl (cy 0, 40, .inl g_home)), (h_placeHome, .inl (cy 0, 40, .inl g_placeHome)), (h_p1, .inr (6, [.int f_p1_size, .ref h_p1_counts, .ref h_p1_words, .ref h_p1_settings])), (h_p1_counts, .inl (cy 0, 40, .inl g_p1_counts)), (h_p1_settings, .inl (cy 0, 4, .inl g_p1_settings))] → va_S A s.heap H locs → lv_has ls 5 [(0, .ref h_this), (1, .ref h_p1), (2, .long x2), (4, .int x4)] → W p l e rm_X5_totalCost s m ([.ref h_this, .ref h_p1]).toArray below meth c H locs 0 0 (MQ below (QL D cy A r0 [(h_this, .inr (5, [.int f_lists, .ref h_sizes, .ref h_above, .ref h_placeAbove, .ref h_items, .ref h_home, .ref h_placeHome, .ref h_tally])), (h_above, .inl (cy 0, 80, .inl g_above)), (h_placeAbove, .inl (cy 0, 80, .inl g_placeAbove)), (h_home, .inl (cy 0, 40, .inl g_home)), (h_placeHome, .inl (cy 0, 40, .inl g_placeHome)), (h_p1, .inr (6, [.int f_p1_size, .ref h_p1_counts, .ref h_p1_words, .ref h_p1_settings])), (h_p1_counts, .inl (cy 0, 40, .inl g_p1_counts)), (h_p1_settings, .inl (cy 0, 4, .inl g_p1_settings))]) ([.ref h_this, .ref h_p1]).toArray s 0 0 A) (F0 m 5 ls []) := by
    intro n
    induction n with
    | zero => intro x2 x4 h; exact absurd (show (none : Option _) = some _ from h) (by intro q; cases q)
    | succ n5 ih5 =>
      intro x2 x4 h H locs ls hP hD hS hl
      replace h : f_X5_totalCost_L5_F g_above g_placeAbove g_home g_placeHome f_p1_size g_p1_counts g_p1_settings (f_X5_totalCost_L5 g_above g_placeAbove g_home g_placeHome f_p1_size g_p1_counts g_p1_settings n5) x2 x4 = some r0 := h
      unfold f_X5_totalCost_L5_F at h
      refine lv_iload hx hb dX5_totalCost_5 (lv_at hl 3 rfl) ?_
      refine lv_aload_n hx hb dX5_totalCost_7 rfl (lv_at hl 1 rfl) ?_
      refine va_get (D := D) (ci := 6) (v := .int f_p1_size) (C := RX6) (T := TX6) (N := 4) hx hb hts hinX6 hown hK hP 5 rfl rfl 0 (by decide) wf50 (fun _ h9 => h9) rfl dX5_totalCost_8 ?_
      refine lv_icmp_ge (tgt := 40) hx hb dX5_totalCost_11 (by decide) (fun hc => ?_) (fun hc => ?_)
      · replace h := it_1 h hc
        refine lv_lload_n hx hb dX5_totalCost_40 rfl (lv_at hl 2 rfl) ?_
        have e0 := ret1 h
        exact rte_l e0 rfl hx hb hr hlk hK hP hD hS dX5_totalCost_41
      · replace h := it_0 h hc
        refine lv_lload_n hx hb dX5_totalCost_14 rfl (lv_at hl 2 rfl) ?_
        refine lv_aload_n hx hb dX5_totalCost_15 rfl (lv_at hl 1 rfl) ?_
        refine va_get (D := D) (ci := 6) (v := .ref h_p1_counts) (C := RX6) (T := TX6) (N := 4) hx hb hts hinX6 hown hK hP 5 rfl rfl 1 (by decide) wf53 (fun _ h9 => h9) rfl dX5_totalCost_16 ?_
        refine lv_iload hx hb dX5_totalCost_19 (lv_at hl 3 rfl) ?_
        have hi := gi_1 h; replace h := gi_2 h
        refine va_iald hx hb hK hP 6 0 rfl rfl hi dX5_totalCost_21 ?_
        refine lv_i2l hx hb dX5_totalCost_22 rfl ?_
        refine lv_aload_n hx hb dX5_totalCost_23 rfl (lv_at hl 0 rfl) ?_
        refine lv_iload hx hb dX5_totalCost_24 (lv_at hl 3 rfl) ?_
        refine lv_aload_n hx hb dX5_totalCost_26 rfl (lv_at hl 1 rfl) ?_
        obtain ⟨r_1, hu, h⟩ := ob_1 h
        refine cl_Vi (As := [.int x4, .ref h_p1]) (rest := [.long (Int32.toInt64 (g_p1_counts (Int32.toNatClampNeg x4))), .long x2]) [0, 1, 2, 3, 4, 5, 7] [6] [1, 2, 3, 4, 5, 6, 0, 7] [(h_p1_counts, .inl (cy 0, 40, .inl g_p1_counts))] [(h_this, .inr (5, [.int f_lists, .ref h_sizes, .ref h_above, .ref h_placeAbove, .ref h_items, .ref h_home, .ref h_placeHome, .ref h_tally])), (h_above, .inl (cy 0, 80, .inl g_above)), (h_placeAbove, .inl (cy 0, 80, .inl g_placeAbove)), (h_home, .inl (cy 0, 40, .inl g_home)), (h_placeHome, .inl (cy 0, 40, .inl g_placeHome)), (h_p1, .inr (6, [.int f_p1_size, .ref h_p1_counts, .ref h_p1_words, .ref h_p1_settings])), (h_p1_counts, .inl (cy 0, 40, .inl g_p1_counts)), (h_p1_settings, .inl (cy 0, 4, .inl g_p1_settings))] 5 ⟨hx, hb, hml, hown, hts⟩ (c_X5_stepsTo (l := l) (D := D) (cy := cy) (sz := _) (h_p2 := h_p1) (h_p2_settings := h_p1_settings) (h_this := h_this) (h_above := h_above) (h_home := h_home) (h_placeAbove := h_placeAbove) (h_placeHome := h_placeHome) (h_p2_counts := h_p1_counts) (h_p2_words := h_p1_words) (h_sizes := h_sizes) (h_items := h_items) (h_tally := h_tally) (f_lists := f_lists) (g_above := g_above) (g_placeAbove := g_placeAbove) (g_home := g_home) (g_placeHome := g_placeHome) (f_p2_size := f_p1_size) (g_p2_settings := g_p1_settings) (a1 := x4) (r0 := r_1) (hf := hu)) (cwV 2 hts gX5_totalCost_X5_stepsTo rfl rfl rfl (by decide +kernel) ⟨Nat.le_of_ble_eq_true rfl, Nat.le_of_ble_eq_true rfl⟩) hK hP hD hS hA rfl rfl rfl rfl (by decide) rfl rfl rfl rfl rfl rfl rfl rfl hl.1 rfl (Nat.le_of_ble_eq_true rfl) dX5_totalCost_27 ⟨Nat.zero_le _, Nat.zero_le _⟩ (fun H locs hP hD hS => ?_)
        refine lv_i2l hx hb dX5_totalCost_30 rfl ?_
        refine lv_lmul hx hb dX5_totalCost_31 ?_
        refine lv_ladd hx hb dX5_totalCost_32 ?_
        refine lv_topl (fun y2_2 ex => ?_)
        replace h := nm_1 h ex
        refine lv_lstore_n (lv' := [(2, .long y2_2), (0, .ref h_this), (1, .ref h_p1), (4, .int x4)]) hx hb dX5_totalCost_33 rfl hl (by decide) rfl (fun ls hl => ?_)
        refine lv_iinc (v := (x4 + 1)) (lv' := [(4, .int (x4 + 1)), (2, .long y2_2), (0, .ref h_this), (1, .ref h_p1)]) hx hb dX5_totalCost_34 hl (k := 3) rfl rfl (by decide) rfl (fun ls hl => ?_)
        refine lv_goto (tgt := 5) hx hb dX5_totalCost_37 (by decide) ?_
        exact ih5 _ _ h _ _ _ hP hD hS (lv_sub hl [2, 3, 1, 0] rfl)
  clear hf
  refine lv_lconst (v := 0) hx hb dX5_totalCost_0 (by decide) ?_
  refine lv_lstore_n (lv' := [(2, .long 0), (0, .ref h_this), (1, .ref h_p1)]) hx hb dX5_totalCost_1 rfl hl (by decide) rfl (fun ls hl => ?_)
  refine lv_iconst (v := 0) hx hb dX5_totalCost_2 (by decide) ?_
  refine lv_istore (lv' := [(4, .int 0), (2, .long 0), (0, .ref h_this), (1, .ref h_p1)]) hx hb dX5_totalCost_3 hl (by decide) rfl (fun ls hl => ?_)
  exact L5 FU _ _ h _ _ _ hP hD hS (lv_sub hl [2, 3, 1, 0] rfl)
abbrev rm_X5_itemAt : Room := { frames := 0, cells := 0, slots := 0, locals := 0 }
set_option maxHeartbeats 4000000 in
set_option maxRecDepth 100000 in
theorem c_X5_itemAt (l : Launch) (D : va_G) (cy : Nat → ClassId) (h_this h_sizes h_above h_placeAbove h_items h_home h_placeHome h_tally : Nat)    (sz : Nat) (f_lists : Int32) (g_items : Nat → Int32) (a1 : Int32) (a2 : Int32) (r0 : Int32)  (hf : f_X5_itemAt g_items a1 a2 = some r0) : MI l yX5_itemAt wsX5_itemAt rm_X5_itemAt D cy [.ref h_this, .int a1, .int a2] sz [(h_this, .inr (5, [.int f_lists, .ref h_sizes, .ref h_above, .ref h_placeAbove, .ref h_items, .ref h_home, .ref h_placeHome, .ref h_tally])), (h_items, .inl (cy 0, 720, .inl g_items))] r0 [(h_this, .inr (5, [.int f_lists, .ref h_sizes, .ref h_above, .ref h_placeAbove, .ref h_items, .ref h_home, .ref h_placeHome, .ref h_tally])), (h_items, .inl (cy 0, 720, .inl g_items))] := by
  refine MI.of (cc := cX5_itemAt) (maxL := 3) (ret := (some .int)) (by decide) rfl (Nat.le_of_ble_eq_true rfl) ?_
  intro p e s m below meth c A ls hx hb hml hown hts hlk hr hK hA hP hD hS hl
  have h := hf
  unfold f_X5_itemAt at h
  have wf25 := hts (.fieldLink RX5 25 "MenuPlanner$Tree" "items" "[I") (by decide +kernel)
  have hinX5 := (by decide +kernel : ∀ w ∈ u_ws RX5 TX5 8, w ∈ wsX5_itemAt)
  replace hl : lv_has ls 3 [(0, .ref h_this), (1, .int a1), (2, .int a2)] := hl
  clear hf
  refine lv_aload_n hx hb dX5_itemAt_0 rfl (lv_at hl 0 rfl) ?_
  refine va_get (D := D) (ci := 5) (v := .ref h_items) (C := RX5) (T := TX5) (N := 8) hx hb hts hinX5 hown hK hP 0 rfl rfl 4 (by decide) wf25 (fun _ h9 => h9) rfl dX5_itemAt_1 ?_
  refine lv_iload_n hx hb dX5_itemAt_4 rfl (lv_at hl 1 rfl) ?_
  refine lv_bipush (v := 9) hx hb dX5_itemAt_5 (by decide) ?_
  refine lv_imul hx hb dX5_itemAt_7 ?_
  refine lv_iload_n hx hb dX5_itemAt_8 rfl (lv_at hl 2 rfl) ?_
  refine lv_iadd hx hb dX5_itemAt_9 ?_
  refine lv_iconst (v := 1) hx hb dX5_itemAt_10 (by decide) ?_
  refine lv_isub hx hb dX5_itemAt_11 ?_
  have hi := gi_1 h; replace h := gi_2 h
  refine va_iald hx hb hK hP 1 0 rfl rfl hi dX5_itemAt_12 ?_
  have e0 := ret1 h
  exact rte_i e0 rfl hx hb hr hlk rfl hK hP hD hS dX5_itemAt_13
abbrev rm_X5_addItem : Room := { frames := 0, cells := 0, slots := 0, locals := 0 }
set_option maxHeartbeats 4000000 in
set_option maxRecDepth 100000 in
theorem c_X5_addItem (l : Launch) (D : va_G) (cy : Nat → ClassId) (h_this h_sizes h_above h_placeAbove h_items h_home h_placeHome h_tally : Nat)    (sz : Nat) (f_lists : Int32) (g_sizes : Nat → Int32) (g_items : Nat → Int32) (a1 : Int32) (a2 : Int32) (r0 : Int32) (o_g_sizes : Nat → Int32) (o_g_items : Nat → Int32) (hf : f_X5_addItem g_sizes g_items a1 a2 = some (r0, o_g_sizes, o_g_items)) : MI l yX5_addItem wsX5_addItem rm_X5_addItem D cy [.ref h_this, .int a1, .int a2] sz [(h_this, .inr (5, [.int f_lists, .ref h_sizes, .ref h_above, .ref h_placeAbove, .ref h_items, .ref h_home, .ref h_placeHome, .ref h_tally])), (h_sizes, .inl (cy 0, 80, .inl g_sizes)), (h_items, .inl (cy 0, 720, .inl g_items))] r0 [(h_this, .inr (5, [.int f_lists, .ref h_sizes, .ref h_above, .ref h_placeAbove, .ref h_items, .ref h_home, .ref h_placeHome, .ref h_tally])), (h_sizes, .inl (cy 0, 80, .inl o_g_sizes)), (h_items, .inl (cy 0, 720, .inl o_g_items))] := by
  refine MI.of (cc := cX5_addItem) (maxL := 3) (ret := (some .boolean)) (by decide) rfl (Nat.le_of_ble_eq_true rfl) ?_
  intro p e s m below meth c A ls hx hb hml hown hts hlk hr hK hA hP hD hS hl
  have h := hf
  unfold f_X5_addItem at h
  have wf15 := hts (.fieldLink RX5 15 "MenuPlanner$Tree" "sizes" "[I") (by decide +kernel)
  have hinX5 := (by decide +kernel : ∀ w ∈ u_ws RX5 TX5 8, w ∈ wsX5_addItem)
  have wf25 := hts (.fieldLink RX5 25 "MenuPlanner$Tree" "items" "[I") (by decide +kernel)
  replace hl : lv_has ls 3 [(0, .ref h_this), (1, .int a1), (2, .int a2)] := hl
  clear hf
  refine lv_aload_n hx hb dX5_addItem_0 rfl (lv_at hl 0 rfl) ?_
  refine va_get (D := D) (ci := 5) (v := .ref h_sizes) (C := RX5) (T := TX5) (N := 8) hx hb hts hinX5 hown hK hP 0 rfl rfl 1 (by decide) wf15 (fun _ h9 => h9) rfl dX5_addItem_1 ?_
  refine lv_iload_n hx hb dX5_addItem_4 rfl (lv_at hl 1 rfl) ?_
  have hi := gi_1 h; replace h := gi_2 h
  refine va_iald hx hb hK hP 1 0 rfl rfl hi dX5_addItem_5 ?_
  refine lv_bipush (v := 9) hx hb dX5_addItem_6 (by decide) ?_
  refine lv_icmp_lt (tgt := 13) hx hb dX5_addItem_8 (by decide) (fun hc => ?_) (fun hc => ?_)
  · replace h := it_1 h hc
    refine lv_aload_n hx hb dX5_addItem_13 rfl (lv_at hl 0 rfl) ?_
    refine va_get (D := D) (ci := 5) (v := .ref h_items) (C := RX5) (T := TX5) (N := 8) hx hb hts hinX5 hown hK hP 0 rfl rfl 4 (by decide) wf25 (fun _ h9 => h9) rfl dX5_addItem_14 ?_
    refine lv_iload_n hx hb dX5_addItem_17 rfl (lv_at hl 1 rfl) ?_
    refine lv_bipush (v := 9) hx hb dX5_addItem_18 (by decide) ?_
    refine lv_imul hx hb dX5_addItem_20 ?_
    refine lv_aload_n hx hb dX5_addItem_21 rfl (lv_at hl 0 rfl) ?_
    refine va_get (D := D) (ci := 5) (v := .ref h_sizes) (C := RX5) (T := TX5) (N := 8) hx hb hts hinX5 hown hK hP 0 rfl rfl 1 (by decide) wf15 (fun _ h9 => h9) rfl dX5_addItem_22 ?_
    refine lv_iload_n hx hb dX5_addItem_25 rfl (lv_at hl 1 rfl) ?_
    have hi := gi_1 h; replace h := gi_2 h
    refine va_iald hx hb hK hP 1 0 rfl rfl hi dX5_addItem_26 ?_
    refine lv_iadd hx hb dX5_addItem_27 ?_
    refine lv_iload_n hx hb dX5_addItem_28 rfl (lv_at hl 2 rfl) ?_
    have hi := gi_1 h; replace h := gi_2 h
    refine va_iast hx hb hK hP hD hS 2 0 rfl rfl hi dX5_addItem_29 (fun H locs hP hD hS => ?_)
    replace hP : va_P D vwCl [(h_this, .inr (5, [.int f_lists, .ref h_sizes, .ref h_above, .ref h_placeAbove, .ref h_items, .ref h_home, .ref h_placeHome, .ref h_tally])), (h_sizes, .inl (cy 0, 80, .inl g_sizes)), (h_items, .inl (cy 0, 720, .inl (upd g_items (Int32.toNatClampNeg ((a1 * 9) + (g_sizes (Int32.toNatClampNeg a1)))) a2)))] H := hP
    replace hD : va_D A [(h_this, .inr (5, [.int f_lists, .ref h_sizes, .ref h_above, .ref h_placeAbove, .ref h_items, .ref h_home, .ref h_placeHome, .ref h_tally])), (h_sizes, .inl (cy 0, 80, .inl g_sizes)), (h_items, .inl (cy 0, 720, .inl (upd g_items (Int32.toNatClampNeg ((a1 * 9) + (g_sizes (Int32.toNatClampNeg a1)))) a2)))] := hD
    refine lv_aload_n hx hb dX5_addItem_30 rfl (lv_at hl 0 rfl) ?_
    refine va_get (D := D) (ci := 5) (v := .ref h_sizes) (C := RX5) (T := TX5) (N := 8) hx hb hts hinX5 hown hK hP 0 rfl rfl 1 (by decide) wf15 (fun _ h9 => h9) rfl dX5_addItem_31 ?_
    refine lv_iload_n hx hb dX5_addItem_34 rfl (lv_at hl 1 rfl) ?_
    refine lv_dup2_11 hx hb dX5_addItem_35 rfl rfl ?_
    have hi := gi_1 h; replace h := gi_2 h
    refine va_iald hx hb hK hP 1 0 rfl rfl hi dX5_addItem_36 ?_
    refine lv_iconst (v := 1) hx hb dX5_addItem_37 (by decide) ?_
    refine lv_iadd hx hb dX5_addItem_38 ?_
    have hi := gi_1 h; replace h := gi_2 h
    refine va_iast hx hb hK hP hD hS 1 0 rfl rfl hi dX5_addItem_39 (fun H locs hP hD hS => ?_)
    replace hP : va_P D vwCl [(h_this, .inr (5, [.int f_lists, .ref h_sizes, .ref h_above, .ref h_placeAbove, .ref h_items, .ref h_home, .ref h_placeHome, .ref h_tally])), (h_sizes, .inl (cy 0, 80, .inl (upd g_sizes (Int32.toNatClampNeg a1) ((g_sizes (Int32.toNatClampNeg a1)) + 1)))), (h_items, .inl (cy 0, 720, .inl (upd g_items (Int32.toNatClampNeg ((a1 * 9) + (g_sizes (Int32.toNatClampNeg a1)))) a2)))] H := hP
    replace hD : va_D A [(h_this, .inr (5, [.int f_lists, .ref h_sizes, .ref h_above, .ref h_placeAbove, .ref h_items, .ref h_home, .ref h_placeHome, .ref h_tally])), (h_sizes, .inl (cy 0, 80, .inl (upd g_sizes (Int32.toNatClampNeg a1) ((g_sizes (Int32.toNatClampNeg a1)) + 1)))), (h_items, .inl (cy 0, 720, .inl (upd g_items (Int32.toNatClampNeg ((a1 * 9) + (g_sizes (Int32.toNatClampNeg a1)))) a2)))] := hD
    refine lv_iconst (v := 1) hx hb dX5_addItem_40 (by decide) ?_
    obtain ⟨e0, e1, e2⟩ := ret3 h
    exact rte_i e0 (by rw [← e1, ← e2]) hx hb hr hlk rfl hK hP hD hS dX5_addItem_41
  · replace h := it_0 h hc
    refine lv_iconst (v := 0) hx hb dX5_addItem_11 (by decide) ?_
    obtain ⟨e0, e1, e2⟩ := ret3 h
    exact rte_i e0 (by rw [← e1, ← e2]) hx hb hr hlk rfl hK hP hD hS dX5_addItem_12
abbrev rm_X5_addMenu : Room := { frames := 1, cells := 0, slots := 0, locals := 22 }
set_option maxHeartbeats 4000000 in
set_option maxRecDepth 100000 in
theorem c_X5_addMenu (l : Launch) (D : va_G) (cy : Nat → ClassId) (h_this h_sizes h_above h_placeAbove h_items h_home h_placeHome h_tally : Nat)    (sz : Nat) (f_lists : Int32) (g_sizes : Nat → Int32) (g_above : Nat → Int32) (g_placeAbove : Nat → Int32) (g_items : Nat → Int32) (a1 : Int32) (r0 : Int32) (o_f_lists : Int32) (o_g_sizes : Nat → Int32) (o_g_above : Nat → Int32) (o_g_placeAbove : Nat → Int32) (o_g_items : Nat → Int32) (hf : f_X5_addMenu f_lists g_sizes g_above g_placeAbove g_items a1 = some (r0, o_f_lists, o_g_sizes, o_g_above, o_g_placeAbove, o_g_items)) : MI l yX5_addMenu wsX5_addMenu rm_X5_addMenu D cy [.ref h_this, .int a1] sz [(h_this, .inr (5, [.int f_lists, .ref h_sizes, .ref h_above, .ref h_placeAbove, .ref h_items, .ref h_home, .ref h_placeHome, .ref h_tally])), (h_sizes, .inl (cy 0, 80, .inl g_sizes)), (h_above, .inl (cy 0, 80, .inl g_above)), (h_placeAbove, .inl (cy 0, 80, .inl g_placeAbove)), (h_items, .inl (cy 0, 720, .inl g_items))] r0 [(h_this, .inr (5, [.int o_f_lists, .ref h_sizes, .ref h_above, .ref h_placeAbove, .ref h_items, .ref h_home, .ref h_placeHome, .ref h_tally])), (h_sizes, .inl (cy 0, 80, .inl o_g_sizes)), (h_above, .inl (cy 0, 80, .inl o_g_above)), (h_placeAbove, .inl (cy 0, 80, .inl o_g_placeAbove)), (h_items, .inl (cy 0, 720, .inl o_g_items))] := by
  refine MI.of (cc := cX5_addMenu) (maxL := 3) (ret := (some .int)) (by decide) rfl (Nat.le_of_ble_eq_true rfl) ?_
  intro p e s m below meth c A ls hx hb hml hown hts hlk hr hK hA hP hD hS hl
  have h := hf
  unfold f_X5_addMenu at h
  have wf9 := hts (.fieldLink RX5 9 "MenuPlanner$Tree" "lists" "I") (by decide +kernel)
  have hinX5 := (by decide +kernel : ∀ w ∈ u_ws RX5 TX5 8, w ∈ wsX5_addMenu)
  have wf15 := hts (.fieldLink RX5 15 "MenuPlanner$Tree" "sizes" "[I") (by decide +kernel)
  have wf19 := hts (.fieldLink RX5 19 "MenuPlanner$Tree" "above" "[I") (by decide +kernel)
  have wf22 := hts (.fieldLink RX5 22 "MenuPlanner$Tree" "placeAbove" "[I") (by decide +kernel)
  replace hl : lv_has ls 3 [(0, .ref h_this), (1, .int a1)] := hl
  clear hf
  refine lv_aload_n hx hb dX5_addMenu_0 rfl (lv_at hl 0 rfl) ?_
  refine va_get (D := D) (ci := 5) (v := .int f_lists) (C := RX5) (T := TX5) (N := 8) hx hb hts hinX5 hown hK hP 0 rfl rfl 0 (by decide) wf9 (fun _ h9 => h9) rfl dX5_addMenu_1 ?_
  refine lv_istore_n (lv' := [(2, .int f_lists), (0, .ref h_this), (1, .int a1)]) hx hb dX5_addMenu_4 rfl hl (by decide) rfl (fun ls hl => ?_)
  refine lv_iload_n hx hb dX5_addMenu_5 rfl (lv_at hl 0 rfl) ?_
  refine lv_bipush (v := 80) hx hb dX5_addMenu_6 (by decide) ?_
  refine lv_icmp_ge (tgt := 22) hx hb dX5_addMenu_8 (by decide) (fun hc => ?_) (fun hc => ?_)
  · replace h := it_1 h hc
    refine lv_iconst (v := (-1)) hx hb dX5_addMenu_22 (by decide) ?_
    obtain ⟨e0, e1, e2, e3, e4, e5⟩ := ret6 h
    exact rte_i e0 (by rw [← e1, ← e2, ← e3, ← e4, ← e5]) hx hb hr hlk rfl hK hP hD hS dX5_addMenu_23
  · replace h := it_0 h hc
    refine lv_aload_n hx hb dX5_addMenu_11 rfl (lv_at hl 1 rfl) ?_
    refine lv_iload_n hx hb dX5_addMenu_12 rfl (lv_at hl 2 rfl) ?_
    refine lv_iload_n hx hb dX5_addMenu_13 rfl (lv_at hl 0 rfl) ?_
    refine lv_iconst (v := (-1)) hx hb dX5_addMenu_14 (by decide) ?_
    refine lv_ixor hx hb dX5_addMenu_15 ?_
    obtain ⟨r_3, g_sizes_1, g_items_2, hu, h⟩ := ob3_1 h
    refine cl_Vi (As := [.int a1, .int (f_lists ^^^ (-1))]) (rest := []) [0, 1, 4] [2, 3] [2, 3, 0, 1, 4] [(h_above, .inl (cy 0, 80, .inl g_above)), (h_placeAbove, .inl (cy 0, 80, .inl g_placeAbove))] [(h_this, .inr (5, [.int f_lists, .ref h_sizes, .ref h_above, .ref h_placeAbove, .ref h_items, .ref h_home, .ref h_placeHome, .ref h_tally])), (h_sizes, .inl (cy 0, 80, .inl g_sizes_1)), (h_above, .inl (cy 0, 80, .inl g_above)), (h_placeAbove, .inl (cy 0, 80, .inl g_placeAbove)), (h_items, .inl (cy 0, 720, .inl g_items_2))] 5 ⟨hx, hb, hml, hown, hts⟩ (c_X5_addItem (l := l) (D := D) (cy := cy) (sz := _) (h_this := h_this) (h_items := h_items) (h_sizes := h_sizes) (h_above := h_above) (h_placeAbove := h_placeAbove) (h_home := h_home) (h_placeHome := h_placeHome) (h_tally := h_tally) (f_lists := f_lists) (g_sizes := g_sizes) (g_items := g_items) (a1 := a1) (a2 := (f_lists ^^^ (-1))) (r0 := r_3) (o_g_sizes := g_sizes_1) (o_g_items := g_items_2) (hf := hu)) (cwV 2 hts gX5_addMenu_X5_addItem rfl rfl rfl (by decide +kernel) ⟨Nat.le_of_ble_eq_true rfl, Nat.le_of_ble_eq_true rfl⟩) hK hP hD hS hA rfl rfl rfl rfl (by decide) rfl rfl rfl rfl rfl rfl rfl rfl hl.1 rfl (Nat.le_of_ble_eq_true rfl) dX5_addMenu_16 ⟨Nat.zero_le _, Nat.zero_le _⟩ (fun H locs hP hD hS => ?_)
    refine lv_if_ne (tgt := 24) hx hb dX5_addMenu_19 (by decide) (fun hc => ?_) (fun hc => ?_)
    · replace h := it_0 h hc
      refine lv_aload_n hx hb dX5_addMenu_24 rfl (lv_at hl 1 rfl) ?_
      refine lv_iload_n hx hb dX5_addMenu_25 rfl (lv_at hl 0 rfl) ?_
      refine lv_iconst (v := 1) hx hb dX5_addMenu_26 (by decide) ?_
      refine lv_iadd hx hb dX5_addMenu_27 ?_
      refine va_put (D := D) (ci := 5) (v := .int (f_lists + 1)) (ty := .int) (C := RX5) (T := TX5) (N := 8) hx hb hts hinX5 tyX5 tyX5_ok nmX5 hown hK hP hD hS 0 rfl rfl 0 (by decide) wf9 (fun _ h9 => h9) rfl (by decide +kernel) rfl rfl (Nat.le_of_ble_eq_true rfl) dX5_addMenu_28 (fun H locs hP hD hS => ?_)
      replace hP : va_P D vwCl [(h_this, .inr (5, [.int (f_lists + 1), .ref h_sizes, .ref h_above, .ref h_placeAbove, .ref h_items, .ref h_home, .ref h_placeHome, .ref h_tally])), (h_sizes, .inl (cy 0, 80, .inl g_sizes_1)), (h_above, .inl (cy 0, 80, .inl g_above)), (h_placeAbove, .inl (cy 0, 80, .inl g_placeAbove)), (h_items, .inl (cy 0, 720, .inl g_items_2))] H := hP
      replace hD : va_D A [(h_this, .inr (5, [.int (f_lists + 1), .ref h_sizes, .ref h_above, .ref h_placeAbove, .ref h_items, .ref h_home, .ref h_placeHome, .ref h_tally])), (h_sizes, .inl (cy 0, 80, .inl g_sizes_1)), (h_above, .inl (cy 0, 80, .inl g_above)), (h_placeAbove, .inl (cy 0, 80, .inl g_placeAbove)), (h_items, .inl (cy 0, 720, .inl g_items_2))] := hD
      refine lv_aload_n hx hb dX5_addMenu_31 rfl (lv_at hl 1 rfl) ?_
      refine va_get (D := D) (ci := 5) (v := .ref h_sizes) (C := RX5) (T := TX5) (N := 8) hx hb hts hinX5 hown hK hP 0 rfl rfl 1 (by decide) wf15 (fun _ h9 => h9) rfl dX5_addMenu_32 ?_
      refine lv_iload_n hx hb dX5_addMenu_35 rfl (lv_at hl 0 rfl) ?_
      refine lv_iconst (v := 0) hx hb dX5_addMenu_36 (by decide) ?_
      have hi := gi_1 h; replace h := gi_2 h
      refine va_iast hx hb hK hP hD hS 1 0 rfl rfl hi dX5_addMenu_37 (fun H locs hP hD hS => ?_)
      replace hP : va_P D vwCl [(h_this, .inr (5, [.int (f_lists + 1), .ref h_sizes, .ref h_above, .ref h_placeAbove, .ref h_items, .ref h_home, .ref h_placeHome, .ref h_tally])), (h_sizes, .inl (cy 0, 80, .inl (upd g_sizes_1 (Int32.toNatClampNeg f_lists) 0))), (h_above, .inl (cy 0, 80, .inl g_above)), (h_placeAbove, .inl (cy 0, 80, .inl g_placeAbove)), (h_items, .inl (cy 0, 720, .inl g_items_2))] H := hP
      replace hD : va_D A [(h_this, .inr (5, [.int (f_lists + 1), .ref h_sizes, .ref h_above, .ref h_placeAbove, .ref h_items, .ref h_home, .ref h_placeHome, .ref h_tally])), (h_sizes, .inl (cy 0, 80, .inl (upd g_sizes_1 (Int32.toNatClampNeg f_lists) 0))), (h_above, .inl (cy 0, 80, .inl g_above)), (h_placeAbove, .inl (cy 0, 80, .inl g_placeAbove)), (h_items, .inl (cy 0, 720, .inl g_items_2))] := hD
      refine lv_aload_n hx hb dX5_addMenu_38 rfl (lv_at hl 1 rfl) ?_
      refine va_get (D := D) (ci := 5) (v := .ref h_above) (C := RX5) (T := TX5) (N := 8) hx hb hts hinX5 hown hK hP 0 rfl rfl 2 (by decide) wf19 (fun _ h9 => h9) rfl dX5_addMenu_39 ?_
      refine lv_iload_n hx hb dX5_addMenu_42 rfl (lv_at hl 0 rfl) ?_
      refine lv_iload_n hx hb dX5_addMenu_43 rfl (lv_at hl 2 rfl) ?_
      have hi := gi_1 h; replace h := gi_2 h
      refine va_iast hx hb hK hP hD hS 2 0 rfl rfl hi dX5_addMenu_44 (fun H locs hP hD hS => ?_)
      replace hP : va_P D vwCl [(h_this, .inr (5, [.int (f_lists + 1), .ref h_sizes, .ref h_above, .ref h_placeAbove, .ref h_items, .ref h_home, .ref h_placeHome, .ref h_tally])), (h_sizes, .inl (cy 0, 80, .inl (upd g_sizes_1 (Int32.toNatClampNeg f_lists) 0))), (h_above, .inl (cy 0, 80, .inl (upd g_above (Int32.toNatClampNeg f_lists) a1))), (h_placeAbove, .inl (cy 0, 80, .inl g_placeAbove)), (h_items, .inl (cy 0, 720, .inl g_items_2))] H := hP
      replace hD : va_D A [(h_this, .inr (5, [.int (f_lists + 1), .ref h_sizes, .ref h_above, .ref h_placeAbove, .ref h_items, .ref h_home, .ref h_placeHome, .ref h_tally])), (h_sizes, .inl (cy 0, 80, .inl (upd g_sizes_1 (Int32.toNatClampNeg f_lists) 0))), (h_above, .inl (cy 0, 80, .inl (upd g_above (Int32.toNatClampNeg f_lists) a1))), (h_placeAbove, .inl (cy 0, 80, .inl g_placeAbove)), (h_items, .inl (cy 0, 720, .inl g_items_2))] := hD
      refine lv_aload_n hx hb dX5_addMenu_45 rfl (lv_at hl 1 rfl) ?_
      refine va_get (D := D) (ci := 5) (v := .ref h_placeAbove) (C := RX5) (T := TX5) (N := 8) hx hb hts hinX5 hown hK hP 0 rfl rfl 3 (by decide) wf22 (fun _ h9 => h9) rfl dX5_addMenu_46 ?_
      refine lv_iload_n hx hb dX5_addMenu_49 rfl (lv_at hl 0 rfl) ?_
      refine lv_aload_n hx hb dX5_addMenu_50 rfl (lv_at hl 1 rfl) ?_
      refine va_get (D := D) (ci := 5) (v := .ref h_sizes) (C := RX5) (T := TX5) (N := 8) hx hb hts hinX5 hown hK hP 0 rfl rfl 1 (by decide) wf15 (fun _ h9 => h9) rfl dX5_addMenu_51 ?_
      refine lv_iload_n hx hb dX5_addMenu_54 rfl (lv_at hl 2 rfl) ?_
      have hi := gi_1 h; replace h := gi_2 h
      refine va_iald hx hb hK hP 1 0 rfl rfl hi dX5_addMenu_55 ?_
      have hi := gi_1 h; replace h := gi_2 h
      refine va_iast hx hb hK hP hD hS 3 0 rfl rfl hi dX5_addMenu_56 (fun H locs hP hD hS => ?_)
      replace hP : va_P D vwCl [(h_this, .inr (5, [.int (f_lists + 1), .ref h_sizes, .ref h_above, .ref h_placeAbove, .ref h_items, .ref h_home, .ref h_placeHome, .ref h_tally])), (h_sizes, .inl (cy 0, 80, .inl (upd g_sizes_1 (Int32.toNatClampNeg f_lists) 0))), (h_above, .inl (cy 0, 80, .inl (upd g_above (Int32.toNatClampNeg f_lists) a1))), (h_placeAbove, .inl (cy 0, 80, .inl (upd g_placeAbove (Int32.toNatClampNeg f_lists) ((upd g_sizes_1 (Int32.toNatClampNeg f_lists) 0) (Int32.toNatClampNeg a1))))), (h_items, .inl (cy 0, 720, .inl g_items_2))] H := hP
      replace hD : va_D A [(h_this, .inr (5, [.int (f_lists + 1), .ref h_sizes, .ref h_above, .ref h_placeAbove, .ref h_items, .ref h_home, .ref h_placeHome, .ref h_tally])), (h_sizes, .inl (cy 0, 80, .inl (upd g_sizes_1 (Int32.toNatClampNeg f_lists) 0))), (h_above, .inl (cy 0, 80, .inl (upd g_above (Int32.toNatClampNeg f_lists) a1))), (h_placeAbove, .inl (cy 0, 80, .inl (upd g_placeAbove (Int32.toNatClampNeg f_lists) ((upd g_sizes_1 (Int32.toNatClampNeg f_lists) 0) (Int32.toNatClampNeg a1))))), (h_items, .inl (cy 0, 720, .inl g_items_2))] := hD
      refine lv_iload_n hx hb dX5_addMenu_57 rfl (lv_at hl 0 rfl) ?_
      obtain ⟨e0, e1, e2, e3, e4, e5⟩ := ret6 h
      exact rte_i e0 (by rw [← e1, ← e2, ← e3, ← e4, ← e5]) hx hb hr hlk rfl hK hP hD hS dX5_addMenu_58
    · replace h := it_1 h hc
      refine lv_iconst (v := (-1)) hx hb dX5_addMenu_22 (by decide) ?_
      obtain ⟨e0, e1, e2, e3, e4, e5⟩ := ret6 h
      exact rte_i e0 (by rw [← e1, ← e2, ← e3, ← e4, ← e5]) hx hb hr hlk rfl hK hP hD hS dX5_addMenu_23
abbrev rm_X5_begin : Room := { frames := 0, cells := 0, slots := 0, locals := 0 }
set_option maxHeartbeats 4000000 in
set_option maxRecDepth 100000 in
theorem c_X5_begin (l : Launch) (D : va_G) (cy : Nat → ClassId) (h_this h_sizes h_above h_placeAbove h_items h_home h_placeHome h_tally : Nat)    (sz : Nat) (f_lists : Int32) (g_sizes : Nat → Int32) (g_above : Nat → Int32) (g_placeAbove : Nat → Int32)   (o_f_lists : Int32) (o_g_sizes : Nat → Int32) (o_g_above : Nat → Int32) (o_g_placeAbove : Nat → Int32) (hf : f_X5_begin f_lists g_sizes g_above g_placeAbove = some (o_f_lists, o_g_sizes, o_g_above, o_g_placeAbove)) : MV l yX5_begin wsX5_begin rm_X5_begin D cy [.ref h_this] sz [(h_this, .inr (5, [.int f_lists, .ref h_sizes, .ref h_above, .ref h_placeAbove, .ref h_items, .ref h_home, .ref h_placeHome, .ref h_tally])), (h_sizes, .inl (cy 0, 80, .inl g_sizes)), (h_above, .inl (cy 0, 80, .inl g_above)), (h_placeAbove, .inl (cy 0, 80, .inl g_placeAbove))] [(h_this, .inr (5, [.int o_f_lists, .ref h_sizes, .ref h_above, .ref h_placeAbove, .ref h_items, .ref h_home, .ref h_placeHome, .ref h_tally])), (h_sizes, .inl (cy 0, 80, .inl o_g_sizes)), (h_above, .inl (cy 0, 80, .inl o_g_above)), (h_placeAbove, .inl (cy 0, 80, .inl o_g_placeAbove))] := by
  refine MV.of (cc := cX5_begin) (maxL := 1) (ret := none) (by decide) rfl (Nat.le_of_ble_eq_true rfl) ?_
  intro p e s m below meth c A ls hx hb hml hown hts hlk hr hK hA hP hD hS hl
  have h := hf
  unfold f_X5_begin at h
  have wf9 := hts (.fieldLink RX5 9 "MenuPlanner$Tree" "lists" "I") (by decide +kernel)
  have hinX5 := (by decide +kernel : ∀ w ∈ u_ws RX5 TX5 8, w ∈ wsX5_begin)
  have wf15 := hts (.fieldLink RX5 15 "MenuPlanner$Tree" "sizes" "[I") (by decide +kernel)
  have wf19 := hts (.fieldLink RX5 19 "MenuPlanner$Tree" "above" "[I") (by decide +kernel)
  have wf22 := hts (.fieldLink RX5 22 "MenuPlanner$Tree" "placeAbove" "[I") (by decide +kernel)
  replace hl : lv_has ls 1 [(0, .ref h_this)] := hl
  clear hf
  refine lv_aload_n hx hb dX5_begin_0 rfl (lv_at hl 0 rfl) ?_
  refine lv_iconst (v := 1) hx hb dX5_begin_1 (by decide) ?_
  refine va_put (D := D) (ci := 5) (v := .int 1) (ty := .int) (C := RX5) (T := TX5) (N := 8) hx hb hts hinX5 tyX5 tyX5_ok nmX5 hown hK hP hD hS 0 rfl rfl 0 (by decide) wf9 (fun _ h9 => h9) rfl (by decide +kernel) rfl rfl (Nat.le_of_ble_eq_true rfl) dX5_begin_2 (fun H locs hP hD hS => ?_)
  replace hP : va_P D vwCl [(h_this, .inr (5, [.int 1, .ref h_sizes, .ref h_above, .ref h_placeAbove, .ref h_items, .ref h_home, .ref h_placeHome, .ref h_tally])), (h_sizes, .inl (cy 0, 80, .inl g_sizes)), (h_above, .inl (cy 0, 80, .inl g_above)), (h_placeAbove, .inl (cy 0, 80, .inl g_placeAbove))] H := hP
  replace hD : va_D A [(h_this, .inr (5, [.int 1, .ref h_sizes, .ref h_above, .ref h_placeAbove, .ref h_items, .ref h_home, .ref h_placeHome, .ref h_tally])), (h_sizes, .inl (cy 0, 80, .inl g_sizes)), (h_above, .inl (cy 0, 80, .inl g_above)), (h_placeAbove, .inl (cy 0, 80, .inl g_placeAbove))] := hD
  refine lv_aload_n hx hb dX5_begin_5 rfl (lv_at hl 0 rfl) ?_
  refine va_get (D := D) (ci := 5) (v := .ref h_sizes) (C := RX5) (T := TX5) (N := 8) hx hb hts hinX5 hown hK hP 0 rfl rfl 1 (by decide) wf15 (fun _ h9 => h9) rfl dX5_begin_6 ?_
  refine lv_iconst (v := 0) hx hb dX5_begin_9 (by decide) ?_
  refine lv_iconst (v := 0) hx hb dX5_begin_10 (by decide) ?_
  have hi : vp_in 0 80 := vp_in_iff.mpr (by decide)
  refine va_iast hx hb hK hP hD hS 1 0 rfl rfl hi dX5_begin_11 (fun H locs hP hD hS => ?_)
  replace hP : va_P D vwCl [(h_this, .inr (5, [.int 1, .ref h_sizes, .ref h_above, .ref h_placeAbove, .ref h_items, .ref h_home, .ref h_placeHome, .ref h_tally])), (h_sizes, .inl (cy 0, 80, .inl (upd g_sizes (Int32.toNatClampNeg 0) 0))), (h_above, .inl (cy 0, 80, .inl g_above)), (h_placeAbove, .inl (cy 0, 80, .inl g_placeAbove))] H := hP
  replace hD : va_D A [(h_this, .inr (5, [.int 1, .ref h_sizes, .ref h_above, .ref h_placeAbove, .ref h_items, .ref h_home, .ref h_placeHome, .ref h_tally])), (h_sizes, .inl (cy 0, 80, .inl (upd g_sizes (Int32.toNatClampNeg 0) 0))), (h_above, .inl (cy 0, 80, .inl g_above)), (h_placeAbove, .inl (cy 0, 80, .inl g_placeAbove))] := hD
  refine lv_aload_n hx hb dX5_begin_12 rfl (lv_at hl 0 rfl) ?_
  refine va_get (D := D) (ci := 5) (v := .ref h_above) (C := RX5) (T := TX5) (N := 8) hx hb hts hinX5 hown hK hP 0 rfl rfl 2 (by decide) wf19 (fun _ h9 => h9) rfl dX5_begin_13 ?_
  refine lv_iconst (v := 0) hx hb dX5_begin_16 (by decide) ?_
  refine lv_iconst (v := (-1)) hx hb dX5_begin_17 (by decide) ?_
  have hi : vp_in 0 80 := vp_in_iff.mpr (by decide)
  refine va_iast hx hb hK hP hD hS 2 0 rfl rfl hi dX5_begin_18 (fun H locs hP hD hS => ?_)
  replace hP : va_P D vwCl [(h_this, .inr (5, [.int 1, .ref h_sizes, .ref h_above, .ref h_placeAbove, .ref h_items, .ref h_home, .ref h_placeHome, .ref h_tally])), (h_sizes, .inl (cy 0, 80, .inl (upd g_sizes (Int32.toNatClampNeg 0) 0))), (h_above, .inl (cy 0, 80, .inl (upd g_above (Int32.toNatClampNeg 0) (-1)))), (h_placeAbove, .inl (cy 0, 80, .inl g_placeAbove))] H := hP
  replace hD : va_D A [(h_this, .inr (5, [.int 1, .ref h_sizes, .ref h_above, .ref h_placeAbove, .ref h_items, .ref h_home, .ref h_placeHome, .ref h_tally])), (h_sizes, .inl (cy 0, 80, .inl (upd g_sizes (Int32.toNatClampNeg 0) 0))), (h_above, .inl (cy 0, 80, .inl (upd g_above (Int32.toNatClampNeg 0) (-1)))), (h_placeAbove, .inl (cy 0, 80, .inl g_placeAbove))] := hD
  refine lv_aload_n hx hb dX5_begin_19 rfl (lv_at hl 0 rfl) ?_
  refine va_get (D := D) (ci := 5) (v := .ref h_placeAbove) (C := RX5) (T := TX5) (N := 8) hx hb hts hinX5 hown hK hP 0 rfl rfl 3 (by decide) wf22 (fun _ h9 => h9) rfl dX5_begin_20 ?_
  refine lv_iconst (v := 0) hx hb dX5_begin_23 (by decide) ?_
  refine lv_iconst (v := 0) hx hb dX5_begin_24 (by decide) ?_
  have hi : vp_in 0 80 := vp_in_iff.mpr (by decide)
  refine va_iast hx hb hK hP hD hS 3 0 rfl rfl hi dX5_begin_25 (fun H locs hP hD hS => ?_)
  replace hP : va_P D vwCl [(h_this, .inr (5, [.int 1, .ref h_sizes, .ref h_above, .ref h_placeAbove, .ref h_items, .ref h_home, .ref h_placeHome, .ref h_tally])), (h_sizes, .inl (cy 0, 80, .inl (upd g_sizes (Int32.toNatClampNeg 0) 0))), (h_above, .inl (cy 0, 80, .inl (upd g_above (Int32.toNatClampNeg 0) (-1)))), (h_placeAbove, .inl (cy 0, 80, .inl (upd g_placeAbove (Int32.toNatClampNeg 0) 0)))] H := hP
  replace hD : va_D A [(h_this, .inr (5, [.int 1, .ref h_sizes, .ref h_above, .ref h_placeAbove, .ref h_items, .ref h_home, .ref h_placeHome, .ref h_tally])), (h_sizes, .inl (cy 0, 80, .inl (upd g_sizes (Int32.toNatClampNeg 0) 0))), (h_above, .inl (cy 0, 80, .inl (upd g_above (Int32.toNatClampNeg 0) (-1)))), (h_placeAbove, .inl (cy 0, 80, .inl (upd g_placeAbove (Int32.toNatClampNeg 0) 0)))] := hD
  obtain ⟨e0, e1, e2, e3⟩ := ret4 h
  exact rte_v (by rw [← e0, ← e1, ← e2, ← e3]) hx hb hr hlk hK hP hD hS dX5_begin_26
abbrev rm_X5_exists : Room := { frames := 0, cells := 0, slots := 0, locals := 0 }
set_option maxHeartbeats 4000000 in
set_option maxRecDepth 100000 in
theorem c_X5_exists (l : Launch) (D : va_G) (cy : Nat → ClassId) (h_this h_sizes h_above h_placeAbove h_items h_home h_placeHome h_tally : Nat)    (sz : Nat) (f_lists : Int32)  (r0 : Int32)  (hf : f_X5_exists f_lists = some r0) : MI l yX5_exists wsX5_exists rm_X5_exists D cy [.ref h_this] sz [(h_this, .inr (5, [.int f_lists, .ref h_sizes, .ref h_above, .ref h_placeAbove, .ref h_items, .ref h_home, .ref h_placeHome, .ref h_tally]))] r0 [(h_this, .inr (5, [.int f_lists, .ref h_sizes, .ref h_above, .ref h_placeAbove, .ref h_items, .ref h_home, .ref h_placeHome, .ref h_tally]))] := by
  refine MI.of (cc := cX5_exists) (maxL := 1) (ret := (some .boolean)) (by decide) rfl (Nat.le_of_ble_eq_true rfl) ?_
  intro p e s m below meth c A ls hx hb hml hown hts hlk hr hK hA hP hD hS hl
  have h := hf
  unfold f_X5_exists at h
  have wf9 := hts (.fieldLink RX5 9 "MenuPlanner$Tree" "lists" "I") (by decide +kernel)
  have hinX5 := (by decide +kernel : ∀ w ∈ u_ws RX5 TX5 8, w ∈ wsX5_exists)
  replace hl : lv_has ls 1 [(0, .ref h_this)] := hl
  clear hf
  refine lv_aload_n hx hb dX5_exists_0 rfl (lv_at hl 0 rfl) ?_
  refine va_get (D := D) (ci := 5) (v := .int f_lists) (C := RX5) (T := TX5) (N := 8) hx hb hts hinX5 hown hK hP 0 rfl rfl 0 (by decide) wf9 (fun _ h9 => h9) rfl dX5_exists_1 ?_
  refine lv_if_le (tgt := 11) hx hb dX5_exists_4 (by decide) (fun hc => ?_) (fun hc => ?_)
  · replace h := it_1 h hc
    refine lv_iconst (v := 0) hx hb dX5_exists_11 (by decide) ?_
    have e0 := ret1 h
    exact rte_i e0 rfl hx hb hr hlk rfl hK hP hD hS dX5_exists_12
  · replace h := it_0 h hc
    refine lv_iconst (v := 1) hx hb dX5_exists_7 (by decide) ?_
    refine lv_goto (tgt := 12) hx hb dX5_exists_8 (by decide) ?_
    have e0 := ret1 h
    exact rte_i e0 rfl hx hb hr hlk rfl hK hP hD hS dX5_exists_12
abbrev rm_X5_addCommand : Room := { frames := 1, cells := 0, slots := 0, locals := 22 }
set_option maxHeartbeats 4000000 in
set_option maxRecDepth 100000 in
theorem c_X5_addCommand (l : Launch) (D : va_G) (cy : Nat → ClassId) (h_this h_sizes h_above h_placeAbove h_items h_home h_placeHome h_tally : Nat)    (sz : Nat) (f_lists : Int32) (g_sizes : Nat → Int32) (g_items : Nat → Int32) (g_home : Nat → Int32) (g_placeHome : Nat → Int32) (a1 : Int32) (a2 : Int32) (r0 : Int32) (o_g_sizes : Nat → Int32) (o_g_items : Nat → Int32) (o_g_home : Nat → Int32) (o_g_placeHome : Nat → Int32) (hf : f_X5_addCommand g_sizes g_items g_home g_placeHome a1 a2 = some (r0, o_g_sizes, o_g_items, o_g_home, o_g_placeHome)) : MI l yX5_addCommand wsX5_addCommand rm_X5_addCommand D cy [.ref h_this, .int a1, .int a2] sz [(h_this, .inr (5, [.int f_lists, .ref h_sizes, .ref h_above, .ref h_placeAbove, .ref h_items, .ref h_home, .ref h_placeHome, .ref h_tally])), (h_sizes, .inl (cy 0, 80, .inl g_sizes)), (h_items, .inl (cy 0, 720, .inl g_items)), (h_home, .inl (cy 0, 40, .inl g_home)), (h_placeHome, .inl (cy 0, 40, .inl g_placeHome))] r0 [(h_this, .inr (5, [.int f_lists, .ref h_sizes, .ref h_above, .ref h_placeAbove, .ref h_items, .ref h_home, .ref h_placeHome, .ref h_tally])), (h_sizes, .inl (cy 0, 80, .inl o_g_sizes)), (h_items, .inl (cy 0, 720, .inl o_g_items)), (h_home, .inl (cy 0, 40, .inl o_g_home)), (h_placeHome, .inl (cy 0, 40, .inl o_g_placeHome))] := by
  refine MI.of (cc := cX5_addCommand) (maxL := 3) (ret := (some .boolean)) (by decide) rfl (Nat.le_of_ble_eq_true rfl) ?_
  intro p e s m below meth c A ls hx hb hml hown hts hlk hr hK hA hP hD hS hl
  have h := hf
  unfold f_X5_addCommand at h
  have wf28 := hts (.fieldLink RX5 28 "MenuPlanner$Tree" "home" "[I") (by decide +kernel)
  have hinX5 := (by decide +kernel : ∀ w ∈ u_ws RX5 TX5 8, w ∈ wsX5_addCommand)
  have wf31 := hts (.fieldLink RX5 31 "MenuPlanner$Tree" "placeHome" "[I") (by decide +kernel)
  have wf15 := hts (.fieldLink RX5 15 "MenuPlanner$Tree" "sizes" "[I") (by decide +kernel)
  replace hl : lv_has ls 3 [(0, .ref h_this), (1, .int a1), (2, .int a2)] := hl
  clear hf
  refine lv_aload_n hx hb dX5_addCommand_0 rfl (lv_at hl 0 rfl) ?_
  refine lv_iload_n hx hb dX5_addCommand_1 rfl (lv_at hl 1 rfl) ?_
  refine lv_iload_n hx hb dX5_addCommand_2 rfl (lv_at hl 2 rfl) ?_
  obtain ⟨r_3, g_sizes_1, g_items_2, hu, h⟩ := ob3_1 h
  refine cl_Vi (As := [.int a1, .int a2]) (rest := []) [0, 1, 2] [3, 4] [2, 3, 4, 0, 1] [(h_home, .inl (cy 0, 40, .inl g_home)), (h_placeHome, .inl (cy 0, 40, .inl g_placeHome))] [(h_this, .inr (5, [.int f_lists, .ref h_sizes, .ref h_above, .ref h_placeAbove, .ref h_items, .ref h_home, .ref h_placeHome, .ref h_tally])), (h_sizes, .inl (cy 0, 80, .inl g_sizes_1)), (h_items, .inl (cy 0, 720, .inl g_items_2)), (h_home, .inl (cy 0, 40, .inl g_home)), (h_placeHome, .inl (cy 0, 40, .inl g_placeHome))] 5 ⟨hx, hb, hml, hown, hts⟩ (c_X5_addItem (l := l) (D := D) (cy := cy) (sz := _) (h_this := h_this) (h_items := h_items) (h_sizes := h_sizes) (h_above := h_above) (h_placeAbove := h_placeAbove) (h_home := h_home) (h_placeHome := h_placeHome) (h_tally := h_tally) (f_lists := f_lists) (g_sizes := g_sizes) (g_items := g_items) (a1 := a1) (a2 := a2) (r0 := r_3) (o_g_sizes := g_sizes_1) (o_g_items := g_items_2) (hf := hu)) (cwV 2 hts gX5_addCommand_X5_addItem rfl rfl rfl (by decide +kernel) ⟨Nat.le_of_ble_eq_true rfl, Nat.le_of_ble_eq_true rfl⟩) hK hP hD hS hA rfl rfl rfl rfl (by decide) rfl rfl rfl rfl rfl rfl rfl rfl hl.1 rfl (Nat.le_of_ble_eq_true rfl) dX5_addCommand_3 ⟨Nat.zero_le _, Nat.zero_le _⟩ (fun H locs hP hD hS => ?_)
  refine lv_if_ne (tgt := 11) hx hb dX5_addCommand_6 (by decide) (fun hc => ?_) (fun hc => ?_)
  · replace h := it_0 h hc
    refine lv_aload_n hx hb dX5_addCommand_11 rfl (lv_at hl 0 rfl) ?_
    refine va_get (D := D) (ci := 5) (v := .ref h_home) (C := RX5) (T := TX5) (N := 8) hx hb hts hinX5 hown hK hP 0 rfl rfl 5 (by decide) wf28 (fun _ h9 => h9) rfl dX5_addCommand_12 ?_
    refine lv_iload_n hx hb dX5_addCommand_15 rfl (lv_at hl 2 rfl) ?_
    refine lv_iload_n hx hb dX5_addCommand_16 rfl (lv_at hl 1 rfl) ?_
    have hi := gi_1 h; replace h := gi_2 h
    refine va_iast hx hb hK hP hD hS 3 0 rfl rfl hi dX5_addCommand_17 (fun H locs hP hD hS => ?_)
    replace hP : va_P D vwCl [(h_this, .inr (5, [.int f_lists, .ref h_sizes, .ref h_above, .ref h_placeAbove, .ref h_items, .ref h_home, .ref h_placeHome, .ref h_tally])), (h_sizes, .inl (cy 0, 80, .inl g_sizes_1)), (h_items, .inl (cy 0, 720, .inl g_items_2)), (h_home, .inl (cy 0, 40, .inl (upd g_home (Int32.toNatClampNeg a2) a1))), (h_placeHome, .inl (cy 0, 40, .inl g_placeHome))] H := hP
    replace hD : va_D A [(h_this, .inr (5, [.int f_lists, .ref h_sizes, .ref h_above, .ref h_placeAbove, .ref h_items, .ref h_home, .ref h_placeHome, .ref h_tally])), (h_sizes, .inl (cy 0, 80, .inl g_sizes_1)), (h_items, .inl (cy 0, 720, .inl g_items_2)), (h_home, .inl (cy 0, 40, .inl (upd g_home (Int32.toNatClampNeg a2) a1))), (h_placeHome, .inl (cy 0, 40, .inl g_placeHome))] := hD
    refine lv_aload_n hx hb dX5_addCommand_18 rfl (lv_at hl 0 rfl) ?_
    refine va_get (D := D) (ci := 5) (v := .ref h_placeHome) (C := RX5) (T := TX5) (N := 8) hx hb hts hinX5 hown hK hP 0 rfl rfl 6 (by decide) wf31 (fun _ h9 => h9) rfl dX5_addCommand_19 ?_
    refine lv_iload_n hx hb dX5_addCommand_22 rfl (lv_at hl 2 rfl) ?_
    refine lv_aload_n hx hb dX5_addCommand_23 rfl (lv_at hl 0 rfl) ?_
    refine va_get (D := D) (ci := 5) (v := .ref h_sizes) (C := RX5) (T := TX5) (N := 8) hx hb hts hinX5 hown hK hP 0 rfl rfl 1 (by decide) wf15 (fun _ h9 => h9) rfl dX5_addCommand_24 ?_
    refine lv_iload_n hx hb dX5_addCommand_27 rfl (lv_at hl 1 rfl) ?_
    have hi := gi_1 h; replace h := gi_2 h
    refine va_iald hx hb hK hP 1 0 rfl rfl hi dX5_addCommand_28 ?_
    have hi := gi_1 h; replace h := gi_2 h
    refine va_iast hx hb hK hP hD hS 4 0 rfl rfl hi dX5_addCommand_29 (fun H locs hP hD hS => ?_)
    replace hP : va_P D vwCl [(h_this, .inr (5, [.int f_lists, .ref h_sizes, .ref h_above, .ref h_placeAbove, .ref h_items, .ref h_home, .ref h_placeHome, .ref h_tally])), (h_sizes, .inl (cy 0, 80, .inl g_sizes_1)), (h_items, .inl (cy 0, 720, .inl g_items_2)), (h_home, .inl (cy 0, 40, .inl (upd g_home (Int32.toNatClampNeg a2) a1))), (h_placeHome, .inl (cy 0, 40, .inl (upd g_placeHome (Int32.toNatClampNeg a2) (g_sizes_1 (Int32.toNatClampNeg a1)))))] H := hP
    replace hD : va_D A [(h_this, .inr (5, [.int f_lists, .ref h_sizes, .ref h_above, .ref h_placeAbove, .ref h_items, .ref h_home, .ref h_placeHome, .ref h_tally])), (h_sizes, .inl (cy 0, 80, .inl g_sizes_1)), (h_items, .inl (cy 0, 720, .inl g_items_2)), (h_home, .inl (cy 0, 40, .inl (upd g_home (Int32.toNatClampNeg a2) a1))), (h_placeHome, .inl (cy 0, 40, .inl (upd g_placeHome (Int32.toNatClampNeg a2) (g_sizes_1 (Int32.toNatClampNeg a1)))))] := hD
    refine lv_iconst (v := 1) hx hb dX5_addCommand_30 (by decide) ?_
    obtain ⟨e0, e1, e2, e3, e4⟩ := ret5 h
    exact rte_i e0 (by rw [← e1, ← e2, ← e3, ← e4]) hx hb hr hlk rfl hK hP hD hS dX5_addCommand_31
  · replace h := it_1 h hc
    refine lv_iconst (v := 0) hx hb dX5_addCommand_9 (by decide) ?_
    obtain ⟨e0, e1, e2, e3, e4⟩ := ret5 h
    exact rte_i e0 (by rw [← e1, ← e2, ← e3, ← e4]) hx hb hr hlk rfl hK hP hD hS dX5_addCommand_10
abbrev rm_X5_clear : Room := { frames := 0, cells := 0, slots := 0, locals := 0 }
set_option maxHeartbeats 4000000 in
set_option maxRecDepth 100000 in
theorem c_X5_clear (l : Launch) (D : va_G) (cy : Nat → ClassId) (h_this h_sizes h_above h_placeAbove h_items h_home h_placeHome h_tally : Nat)    (sz : Nat) (f_lists : Int32)   (o_f_lists : Int32) (hf : f_X5_clear f_lists = some o_f_lists) : MV l yX5_clear wsX5_clear rm_X5_clear D cy [.ref h_this] sz [(h_this, .inr (5, [.int f_lists, .ref h_sizes, .ref h_above, .ref h_placeAbove, .ref h_items, .ref h_home, .ref h_placeHome, .ref h_tally]))] [(h_this, .inr (5, [.int o_f_lists, .ref h_sizes, .ref h_above, .ref h_placeAbove, .ref h_items, .ref h_home, .ref h_placeHome, .ref h_tally]))] := by
  refine MV.of (cc := cX5_clear) (maxL := 1) (ret := none) (by decide) rfl (Nat.le_of_ble_eq_true rfl) ?_
  intro p e s m below meth c A ls hx hb hml hown hts hlk hr hK hA hP hD hS hl
  have h := hf
  unfold f_X5_clear at h
  have wf9 := hts (.fieldLink RX5 9 "MenuPlanner$Tree" "lists" "I") (by decide +kernel)
  have hinX5 := (by decide +kernel : ∀ w ∈ u_ws RX5 TX5 8, w ∈ wsX5_clear)
  replace hl : lv_has ls 1 [(0, .ref h_this)] := hl
  clear hf
  refine lv_aload_n hx hb dX5_clear_0 rfl (lv_at hl 0 rfl) ?_
  refine lv_iconst (v := 0) hx hb dX5_clear_1 (by decide) ?_
  refine va_put (D := D) (ci := 5) (v := .int 0) (ty := .int) (C := RX5) (T := TX5) (N := 8) hx hb hts hinX5 tyX5 tyX5_ok nmX5 hown hK hP hD hS 0 rfl rfl 0 (by decide) wf9 (fun _ h9 => h9) rfl (by decide +kernel) rfl rfl (Nat.le_of_ble_eq_true rfl) dX5_clear_2 (fun H locs hP hD hS => ?_)
  replace hP : va_P D vwCl [(h_this, .inr (5, [.int 0, .ref h_sizes, .ref h_above, .ref h_placeAbove, .ref h_items, .ref h_home, .ref h_placeHome, .ref h_tally]))] H := hP
  replace hD : va_D A [(h_this, .inr (5, [.int 0, .ref h_sizes, .ref h_above, .ref h_placeAbove, .ref h_items, .ref h_home, .ref h_placeHome, .ref h_tally]))] := hD
  have e0 := ret1 h
  exact rte_v (by rw [← e0]) hx hb hr hlk hK hP hD hS dX5_clear_5
abbrev rm_X5_seat : Room := { frames := 0, cells := 0, slots := 0, locals := 0 }
set_option maxHeartbeats 4000000 in
set_option maxRecDepth 100000 in
theorem c_X5_seat (l : Launch) (D : va_G) (cy : Nat → ClassId) (h_this h_sizes h_above h_placeAbove h_items h_home h_placeHome h_tally : Nat)    (sz : Nat) (f_lists : Int32) (g_items : Nat → Int32) (g_home : Nat → Int32) (g_placeHome : Nat → Int32) (a1 : Int32) (a2 : Int32) (a3 : Int32)  (o_g_items : Nat → Int32) (o_g_home : Nat → Int32) (o_g_placeHome : Nat → Int32) (hf : f_X5_seat g_items g_home g_placeHome a1 a2 a3 = some (o_g_items, o_g_home, o_g_placeHome)) : MV l yX5_seat wsX5_seat rm_X5_seat D cy [.ref h_this, .int a1, .int a2, .int a3] sz [(h_this, .inr (5, [.int f_lists, .ref h_sizes, .ref h_above, .ref h_placeAbove, .ref h_items, .ref h_home, .ref h_placeHome, .ref h_tally])), (h_items, .inl (cy 0, 720, .inl g_items)), (h_home, .inl (cy 0, 40, .inl g_home)), (h_placeHome, .inl (cy 0, 40, .inl g_placeHome))] [(h_this, .inr (5, [.int f_lists, .ref h_sizes, .ref h_above, .ref h_placeAbove, .ref h_items, .ref h_home, .ref h_placeHome, .ref h_tally])), (h_items, .inl (cy 0, 720, .inl o_g_items)), (h_home, .inl (cy 0, 40, .inl o_g_home)), (h_placeHome, .inl (cy 0, 40, .inl o_g_placeHome))] := by
  refine MV.of (cc := cX5_seat) (maxL := 4) (ret := none) (by decide) rfl (Nat.le_of_ble_eq_true rfl) ?_
  intro p e s m below meth c A ls hx hb hml hown hts hlk hr hK hA hP hD hS hl
  have h := hf
  unfold f_X5_seat at h
  have wf28 := hts (.fieldLink RX5 28 "MenuPlanner$Tree" "home" "[I") (by decide +kernel)
  have hinX5 := (by decide +kernel : ∀ w ∈ u_ws RX5 TX5 8, w ∈ wsX5_seat)
  have wf31 := hts (.fieldLink RX5 31 "MenuPlanner$Tree" "placeHome" "[I") (by decide +kernel)
  have wf25 := hts (.fieldLink RX5 25 "MenuPlanner$Tree" "items" "[I") (by decide +kernel)
  replace hl : lv_has ls 4 [(0, .ref h_this), (1, .int a1), (2, .int a2), (3, .int a3)] := hl
  clear hf
  refine lv_aload_n hx hb dX5_seat_0 rfl (lv_at hl 0 rfl) ?_
  refine va_get (D := D) (ci := 5) (v := .ref h_home) (C := RX5) (T := TX5) (N := 8) hx hb hts hinX5 hown hK hP 0 rfl rfl 5 (by decide) wf28 (fun _ h9 => h9) rfl dX5_seat_1 ?_
  refine lv_iload_n hx hb dX5_seat_4 rfl (lv_at hl 1 rfl) ?_
  refine lv_iload_n hx hb dX5_seat_5 rfl (lv_at hl 2 rfl) ?_
  have hi := gi_1 h; replace h := gi_2 h
  refine va_iast hx hb hK hP hD hS 2 0 rfl rfl hi dX5_seat_6 (fun H locs hP hD hS => ?_)
  replace hP : va_P D vwCl [(h_this, .inr (5, [.int f_lists, .ref h_sizes, .ref h_above, .ref h_placeAbove, .ref h_items, .ref h_home, .ref h_placeHome, .ref h_tally])), (h_items, .inl (cy 0, 720, .inl g_items)), (h_home, .inl (cy 0, 40, .inl (upd g_home (Int32.toNatClampNeg a1) a2))), (h_placeHome, .inl (cy 0, 40, .inl g_placeHome))] H := hP
  replace hD : va_D A [(h_this, .inr (5, [.int f_lists, .ref h_sizes, .ref h_above, .ref h_placeAbove, .ref h_items, .ref h_home, .ref h_placeHome, .ref h_tally])), (h_items, .inl (cy 0, 720, .inl g_items)), (h_home, .inl (cy 0, 40, .inl (upd g_home (Int32.toNatClampNeg a1) a2))), (h_placeHome, .inl (cy 0, 40, .inl g_placeHome))] := hD
  refine lv_aload_n hx hb dX5_seat_7 rfl (lv_at hl 0 rfl) ?_
  refine va_get (D := D) (ci := 5) (v := .ref h_placeHome) (C := RX5) (T := TX5) (N := 8) hx hb hts hinX5 hown hK hP 0 rfl rfl 6 (by decide) wf31 (fun _ h9 => h9) rfl dX5_seat_8 ?_
  refine lv_iload_n hx hb dX5_seat_11 rfl (lv_at hl 1 rfl) ?_
  refine lv_iload_n hx hb dX5_seat_12 rfl (lv_at hl 3 rfl) ?_
  have hi := gi_1 h; replace h := gi_2 h
  refine va_iast hx hb hK hP hD hS 3 0 rfl rfl hi dX5_seat_13 (fun H locs hP hD hS => ?_)
  replace hP : va_P D vwCl [(h_this, .inr (5, [.int f_lists, .ref h_sizes, .ref h_above, .ref h_placeAbove, .ref h_items, .ref h_home, .ref h_placeHome, .ref h_tally])), (h_items, .inl (cy 0, 720, .inl g_items)), (h_home, .inl (cy 0, 40, .inl (upd g_home (Int32.toNatClampNeg a1) a2))), (h_placeHome, .inl (cy 0, 40, .inl (upd g_placeHome (Int32.toNatClampNeg a1) a3)))] H := hP
  replace hD : va_D A [(h_this, .inr (5, [.int f_lists, .ref h_sizes, .ref h_above, .ref h_placeAbove, .ref h_items, .ref h_home, .ref h_placeHome, .ref h_tally])), (h_items, .inl (cy 0, 720, .inl g_items)), (h_home, .inl (cy 0, 40, .inl (upd g_home (Int32.toNatClampNeg a1) a2))), (h_placeHome, .inl (cy 0, 40, .inl (upd g_placeHome (Int32.toNatClampNeg a1) a3)))] := hD
  refine lv_aload_n hx hb dX5_seat_14 rfl (lv_at hl 0 rfl) ?_
  refine va_get (D := D) (ci := 5) (v := .ref h_items) (C := RX5) (T := TX5) (N := 8) hx hb hts hinX5 hown hK hP 0 rfl rfl 4 (by decide) wf25 (fun _ h9 => h9) rfl dX5_seat_15 ?_
  refine lv_iload_n hx hb dX5_seat_18 rfl (lv_at hl 2 rfl) ?_
  refine lv_bipush (v := 9) hx hb dX5_seat_19 (by decide) ?_
  refine lv_imul hx hb dX5_seat_21 ?_
  refine lv_iload_n hx hb dX5_seat_22 rfl (lv_at hl 3 rfl) ?_
  refine lv_iadd hx hb dX5_seat_23 ?_
  refine lv_iconst (v := 1) hx hb dX5_seat_24 (by decide) ?_
  refine lv_isub hx hb dX5_seat_25 ?_
  refine lv_iload_n hx hb dX5_seat_26 rfl (lv_at hl 1 rfl) ?_
  have hi := gi_1 h; replace h := gi_2 h
  refine va_iast hx hb hK hP hD hS 1 0 rfl rfl hi dX5_seat_27 (fun H locs hP hD hS => ?_)
  replace hP : va_P D vwCl [(h_this, .inr (5, [.int f_lists, .ref h_sizes, .ref h_above, .ref h_placeAbove, .ref h_items, .ref h_home, .ref h_placeHome, .ref h_tally])), (h_items, .inl (cy 0, 720, .inl (upd g_items (Int32.toNatClampNeg (((a2 * 9) + a3) - 1)) a1))), (h_home, .inl (cy 0, 40, .inl (upd g_home (Int32.toNatClampNeg a1) a2))), (h_placeHome, .inl (cy 0, 40, .inl (upd g_placeHome (Int32.toNatClampNeg a1) a3)))] H := hP
  replace hD : va_D A [(h_this, .inr (5, [.int f_lists, .ref h_sizes, .ref h_above, .ref h_placeAbove, .ref h_items, .ref h_home, .ref h_placeHome, .ref h_tally])), (h_items, .inl (cy 0, 720, .inl (upd g_items (Int32.toNatClampNeg (((a2 * 9) + a3) - 1)) a1))), (h_home, .inl (cy 0, 40, .inl (upd g_home (Int32.toNatClampNeg a1) a2))), (h_placeHome, .inl (cy 0, 40, .inl (upd g_placeHome (Int32.toNatClampNeg a1) a3)))] := hD
  obtain ⟨e0, e1, e2⟩ := ret3 h
  exact rte_v (by rw [← e0, ← e1, ← e2]) hx hb hr hlk hK hP hD hS dX5_seat_28
abbrev rm_X5_trade : Room := { frames := 1, cells := 0, slots := 0, locals := 23 }
set_option maxHeartbeats 4000000 in
set_option maxRecDepth 100000 in
theorem c_X5_trade (l : Launch) (D : va_G) (cy : Nat → ClassId) (h_this h_sizes h_above h_placeAbove h_items h_home h_placeHome h_tally : Nat)    (sz : Nat) (f_lists : Int32) (g_items : Nat → Int32) (g_home : Nat → Int32) (g_placeHome : Nat → Int32) (a1 : Int32) (a2 : Int32)  (o_g_items : Nat → Int32) (o_g_home : Nat → Int32) (o_g_placeHome : Nat → Int32) (hf : f_X5_trade g_items g_home g_placeHome a1 a2 = some (o_g_items, o_g_home, o_g_placeHome)) : MV l yX5_trade wsX5_trade rm_X5_trade D cy [.ref h_this, .int a1, .int a2] sz [(h_this, .inr (5, [.int f_lists, .ref h_sizes, .ref h_above, .ref h_placeAbove, .ref h_items, .ref h_home, .ref h_placeHome, .ref h_tally])), (h_items, .inl (cy 0, 720, .inl g_items)), (h_home, .inl (cy 0, 40, .inl g_home)), (h_placeHome, .inl (cy 0, 40, .inl g_placeHome))] [(h_this, .inr (5, [.int f_lists, .ref h_sizes, .ref h_above, .ref h_placeAbove, .ref h_items, .ref h_home, .ref h_placeHome, .ref h_tally])), (h_items, .inl (cy 0, 720, .inl o_g_items)), (h_home, .inl (cy 0, 40, .inl o_g_home)), (h_placeHome, .inl (cy 0, 40, .inl o_g_placeHome))] := by
  refine MV.of (cc := cX5_trade) (maxL := 5) (ret := none) (by decide) rfl (Nat.le_of_ble_eq_true rfl) ?_
  intro p e s m below meth c A ls hx hb hml hown hts hlk hr hK hA hP hD hS hl
  have h := hf
  unfold f_X5_trade at h
  have wf28 := hts (.fieldLink RX5 28 "MenuPlanner$Tree" "home" "[I") (by decide +kernel)
  have hinX5 := (by decide +kernel : ∀ w ∈ u_ws RX5 TX5 8, w ∈ wsX5_trade)
  have wf31 := hts (.fieldLink RX5 31 "MenuPlanner$Tree" "placeHome" "[I") (by decide +kernel)
  replace hl : lv_has ls 5 [(0, .ref h_this), (1, .int a1), (2, .int a2)] := hl
  clear hf
  refine lv_aload_n hx hb dX5_trade_0 rfl (lv_at hl 0 rfl) ?_
  refine va_get (D := D) (ci := 5) (v := .ref h_home) (C := RX5) (T := TX5) (N := 8) hx hb hts hinX5 hown hK hP 0 rfl rfl 5 (by decide) wf28 (fun _ h9 => h9) rfl dX5_trade_1 ?_
  refine lv_iload_n hx hb dX5_trade_4 rfl (lv_at hl 1 rfl) ?_
  have hi := gi_1 h; replace h := gi_2 h
  refine va_iald hx hb hK hP 2 0 rfl rfl hi dX5_trade_5 ?_
  refine lv_istore_n (lv' := [(3, .int (g_home (Int32.toNatClampNeg a1))), (0, .ref h_this), (1, .int a1), (2, .int a2)]) hx hb dX5_trade_6 rfl hl (by decide) rfl (fun ls hl => ?_)
  refine lv_aload_n hx hb dX5_trade_7 rfl (lv_at hl 1 rfl) ?_
  refine va_get (D := D) (ci := 5) (v := .ref h_placeHome) (C := RX5) (T := TX5) (N := 8) hx hb hts hinX5 hown hK hP 0 rfl rfl 6 (by decide) wf31 (fun _ h9 => h9) rfl dX5_trade_8 ?_
  refine lv_iload_n hx hb dX5_trade_11 rfl (lv_at hl 2 rfl) ?_
  have hi := gi_1 h; replace h := gi_2 h
  refine va_iald hx hb hK hP 3 0 rfl rfl hi dX5_trade_12 ?_
  refine lv_istore (lv' := [(4, .int (g_placeHome (Int32.toNatClampNeg a1))), (3, .int (g_home (Int32.toNatClampNeg a1))), (0, .ref h_this), (1, .int a1), (2, .int a2)]) hx hb dX5_trade_13 hl (by decide) rfl (fun ls hl => ?_)
  refine lv_aload_n hx hb dX5_trade_15 rfl (lv_at hl 2 rfl) ?_
  refine lv_iload_n hx hb dX5_trade_16 rfl (lv_at hl 3 rfl) ?_
  refine lv_aload_n hx hb dX5_trade_17 rfl (lv_at hl 2 rfl) ?_
  refine va_get (D := D) (ci := 5) (v := .ref h_home) (C := RX5) (T := TX5) (N := 8) hx hb hts hinX5 hown hK hP 0 rfl rfl 5 (by decide) wf28 (fun _ h9 => h9) rfl dX5_trade_18 ?_
  refine lv_iload_n hx hb dX5_trade_21 rfl (lv_at hl 4 rfl) ?_
  have hi := gi_1 h; replace h := gi_2 h
  refine va_iald hx hb hK hP 2 0 rfl rfl hi dX5_trade_22 ?_
  refine lv_aload_n hx hb dX5_trade_23 rfl (lv_at hl 2 rfl) ?_
  refine va_get (D := D) (ci := 5) (v := .ref h_placeHome) (C := RX5) (T := TX5) (N := 8) hx hb hts hinX5 hown hK hP 0 rfl rfl 6 (by decide) wf31 (fun _ h9 => h9) rfl dX5_trade_24 ?_
  refine lv_iload_n hx hb dX5_trade_27 rfl (lv_at hl 4 rfl) ?_
  have hi := gi_1 h; replace h := gi_2 h
  refine va_iald hx hb hK hP 3 0 rfl rfl hi dX5_trade_28 ?_
  obtain ⟨g_items_1, g_home_2, g_placeHome_3, hu, h⟩ := ob3_1 h
  refine cl_Vv (As := [.int a1, .int (g_home (Int32.toNatClampNeg a2)), .int (g_placeHome (Int32.toNatClampNeg a2))]) (rest := []) [0, 1, 2, 3] [] [0, 1, 2, 3] [] [(h_this, .inr (5, [.int f_lists, .ref h_sizes, .ref h_above, .ref h_placeAbove, .ref h_items, .ref h_home, .ref h_placeHome, .ref h_tally])), (h_items, .inl (cy 0, 720, .inl g_items_1)), (h_home, .inl (cy 0, 40, .inl g_home_2)), (h_placeHome, .inl (cy 0, 40, .inl g_placeHome_3))] 5 ⟨hx, hb, hml, hown, hts⟩ (c_X5_seat (l := l) (D := D) (cy := cy) (sz := _) (h_this := h_this) (h_home := h_home) (h_items := h_items) (h_placeHome := h_placeHome) (h_sizes := h_sizes) (h_above := h_above) (h_placeAbove := h_placeAbove) (h_tally := h_tally) (f_lists := f_lists) (g_items := g_items) (g_home := g_home) (g_placeHome := g_placeHome) (a1 := a1) (a2 := (g_home (Int32.toNatClampNeg a2))) (a3 := (g_placeHome (Int32.toNatClampNeg a2))) (o_g_items := g_items_1) (o_g_home := g_home_2) (o_g_placeHome := g_placeHome_3) (hf := hu)) (cwV 3 hts gX5_trade_X5_seat rfl rfl rfl (by decide +kernel) ⟨Nat.le_of_ble_eq_true rfl, Nat.le_of_ble_eq_true rfl⟩) hK hP hD hS hA rfl rfl rfl rfl (by decide) rfl rfl rfl rfl rfl rfl rfl rfl hl.1 rfl (Nat.le_of_ble_eq_true rfl) dX5_trade_29 ⟨Nat.zero_le _, Nat.zero_le _⟩ (fun H locs hP hD hS => ?_)
  refine lv_aload_n hx hb dX5_trade_32 rfl (lv_at hl 2 rfl) ?_
  refine lv_iload_n hx hb dX5_trade_33 rfl (lv_at hl 4 rfl) ?_
  refine lv_iload_n hx hb dX5_trade_34 rfl (lv_at hl 1 rfl) ?_
  refine lv_iload hx hb dX5_trade_35 (lv_at hl 0 rfl) ?_
  obtain ⟨g_items_4, g_home_5, g_placeHome_6, hu, h⟩ := ob3_1 h
  refine cl_Vv (As := [.int a2, .int (g_home (Int32.toNatClampNeg a1)), .int (g_placeHome (Int32.toNatClampNeg a1))]) (rest := []) [0, 1, 2, 3] [] [0, 1, 2, 3] [] [(h_this, .inr (5, [.int f_lists, .ref h_sizes, .ref h_above, .ref h_placeAbove, .ref h_items, .ref h_home, .ref h_placeHome, .ref h_tally])), (h_items, .inl (cy 0, 720, .inl g_items_4)), (h_home, .inl (cy 0, 40, .inl g_home_5)), (h_placeHome, .inl (cy 0, 40, .inl g_placeHome_6))] 5 ⟨hx, hb, hml, hown, hts⟩ (c_X5_seat (l := l) (D := D) (cy := cy) (sz := _) (h_this := h_this) (h_home := h_home) (h_items := h_items) (h_placeHome := h_placeHome) (h_sizes := h_sizes) (h_above := h_above) (h_placeAbove := h_placeAbove) (h_tally := h_tally) (f_lists := f_lists) (g_items := g_items_1) (g_home := g_home_2) (g_placeHome := g_placeHome_3) (a1 := a2) (a2 := (g_home (Int32.toNatClampNeg a1))) (a3 := (g_placeHome (Int32.toNatClampNeg a1))) (o_g_items := g_items_4) (o_g_home := g_home_5) (o_g_placeHome := g_placeHome_6) (hf := hu)) (cwV 3 hts gX5_trade_X5_seat rfl rfl rfl (by decide +kernel) ⟨Nat.le_of_ble_eq_true rfl, Nat.le_of_ble_eq_true rfl⟩) hK hP hD hS hA rfl rfl rfl rfl (by decide) rfl rfl rfl rfl rfl rfl rfl rfl hl.1 rfl (Nat.le_of_ble_eq_true rfl) dX5_trade_37 ⟨Nat.zero_le _, Nat.zero_le _⟩ (fun H locs hP hD hS => ?_)
  obtain ⟨e0, e1, e2⟩ := ret3 h
  exact rte_v (by rw [← e0, ← e1, ← e2]) hx hb hr hlk hK hP hD hS dX5_trade_40
abbrev rm_X5_wayLength : Room := { frames := 0, cells := 0, slots := 0, locals := 0 }
set_option maxHeartbeats 4000000 in
set_option maxRecDepth 100000 in
theorem c_X5_wayLength (l : Launch) (D : va_G) (cy : Nat → ClassId) (h_this h_sizes h_above h_placeAbove h_items h_home h_placeHome h_tally : Nat)    (sz : Nat) (f_lists : Int32) (g_above : Nat → Int32) (g_home : Nat → Int32) (a1 : Int32) (r0 : Int32)  (hf : f_X5_wayLength g_above g_home a1 = some r0) : MI l yX5_wayLength wsX5_wayLength rm_X5_wayLength D cy [.ref h_this, .int a1] sz [(h_this, .inr (5, [.int f_lists, .ref h_sizes, .ref h_above, .ref h_placeAbove, .ref h_items, .ref h_home, .ref h_placeHome, .ref h_tally])), (h_above, .inl (cy 0, 80, .inl g_above)), (h_home, .inl (cy 0, 40, .inl g_home))] r0 [(h_this, .inr (5, [.int f_lists, .ref h_sizes, .ref h_above, .ref h_placeAbove, .ref h_items, .ref h_home, .ref h_placeHome, .ref h_tally])), (h_above, .inl (cy 0, 80, .inl g_above)), (h_home, .inl (cy 0, 40, .inl g_home))] := by
  refine MI.of (cc := cX5_wayLength) (maxL := 5) (ret := (some .int)) (by decide) rfl (Nat.le_of_ble_eq_true rfl) ?_
  intro p e s m below meth c A ls hx hb hml hown hts hlk hr hK hA hP hD hS hl
  have h := hf
  unfold f_X5_wayLength at h
  have wf19 := hts (.fieldLink RX5 19 "MenuPlanner$Tree" "above" "[I") (by decide +kernel)
  have hinX5 := (by decide +kernel : ∀ w ∈ u_ws RX5 TX5 8, w ∈ wsX5_wayLength)
  have wf28 := hts (.fieldLink RX5 28 "MenuPlanner$Tree" "home" "[I") (by decide +kernel)
  replace hl : lv_has ls 5 [(0, .ref h_this), (1, .int a1)] := hl
  have L12 : ∀ (n : Nat) (x2 : Int32) (x3 : Int32) (x4 : Int32), f_X5_wayLength_L12 g_above n x2 x3 x4 = some r0 → ∀ (H : Heap) (locs : List Loc) (ls : Array Slot), va_P D vwCl [(h_this, .inr (5, [.int f_lists, .ref h_sizes, .ref h_above, .ref h_placeAbove, .ref h_items, .ref h_home, .ref h_placeHome, .ref h_tally])), (h_above, .inl (cy 0, 80, .inl g_above)), (h_home, .inl (cy 0, 40, .inl g_home))] H → va_D A [(h_this, .inr (5, [.int f_lists, .ref h_sizes, .ref h_above, .ref h_placeAbove, .ref h_items, .ref h_home, .ref h_placeHome, .ref h_tally])), (h_above, .inl (cy 0, 80, .inl g_above)), (h_home, .inl (cy 0, 40, .inl g_home))] → va_S A s.heap H locs → lv_has ls 5 [(0, .ref h_this), (2, .int x2), (3, .int x3), (4, .int x4)] → W p l e rm_X5_wayLength s m ([.ref h_this, .int a1]).toArray below meth c H locs 0 0 (MQ below (QI D cy A r0 [(h_this, .inr (5, [.int f_lists, .ref h_sizes, .ref h_above, .ref h_placeAbove, .ref h_items, .ref h_home, .ref h_placeHome, .ref h_tally])), (h_above, .inl (cy 0, 80, .inl g_above)), (h_home, .inl (cy 0, 40, .inl g_home))]) ([.ref h_this, .int a1]).toArray s 0 0 A) (F0 m 12 ls []) := by
    intro n
    induction n with
    | zero => intro x2 x3 x4 h; exact absurd (show (none : Option _) = some _ from h) (by intro q; cases q)
    | succ n12 ih12 =>
      intro x2 x3 x4 h H locs ls hP hD hS hl
      replace h : f_X5_wayLength_L12_F g_above (f_X5_wayLength_L12 g_above n12) x2 x3 x4 = some r0 := h
      unfold f_X5_wayLength_L12_F at h
      refine lv_iload hx hb dX5_wayLength_12 (lv_at hl 3 rfl) ?_
      refine lv_bipush (v := 80) hx hb dX5_wayLength_14 (by decide) ?_
      refine lv_icmp_ge (tgt := 39) hx hb dX5_wayLength_16 (by decide) (fun hc => ?_) (fun hc => ?_)
      · replace h := it_1 h hc
        refine lv_iload_n hx hb dX5_wayLength_39 rfl (lv_at hl 1 rfl) ?_
        have e0 := ret1 h
        exact rte_i e0 rfl hx hb hr hlk rfl hK hP hD hS dX5_wayLength_40
      · replace h := it_0 h hc
        refine lv_iload_n hx hb dX5_wayLength_19 rfl (lv_at hl 2 rfl) ?_
        refine lv_if_le (tgt := 39) hx hb dX5_wayLength_20 (by decide) (fun hc => ?_) (fun hc => ?_)
        · replace h := it_1 h hc
          refine lv_iload_n hx hb dX5_wayLength_39 rfl (lv_at hl 1 rfl) ?_
          have e0 := ret1 h
          exact rte_i e0 rfl hx hb hr hlk rfl hK hP hD hS dX5_wayLength_40
        · replace h := it_0 h hc
          refine lv_iinc (v := (x2 + 1)) (lv' := [(2, .int (x2 + 1)), (0, .ref h_this), (3, .int x3), (4, .int x4)]) hx hb dX5_wayLength_23 hl (k := 1) rfl rfl (by decide) rfl (fun ls hl => ?_)
          refine lv_aload_n hx hb dX5_wayLength_26 rfl (lv_at hl 1 rfl) ?_
          refine va_get (D := D) (ci := 5) (v := .ref h_above) (C := RX5) (T := TX5) (N := 8) hx hb hts hinX5 hown hK hP 0 rfl rfl 2 (by decide) wf19 (fun _ h9 => h9) rfl dX5_wayLength_27 ?_
          refine lv_iload_n hx hb dX5_wayLength_30 rfl (lv_at hl 2 rfl) ?_
          have hi := gi_1 h; replace h := gi_2 h
          refine va_iald hx hb hK hP 1 0 rfl rfl hi dX5_wayLength_31 ?_
          refine lv_istore_n (lv' := [(3, .int (g_above (Int32.toNatClampNeg x3))), (2, .int (x2 + 1)), (0, .ref h_this), (4, .int x4)]) hx hb dX5_wayLength_32 rfl hl (by decide) rfl (fun ls hl => ?_)
          refine lv_iinc (v := (x4 + 1)) (lv' := [(4, .int (x4 + 1)), (3, .int (g_above (Int32.toNatClampNeg x3))), (2, .int (x2 + 1)), (0, .ref h_this)]) hx hb dX5_wayLength_33 hl (k := 3) rfl rfl (by decide) rfl (fun ls hl => ?_)
          refine lv_goto (tgt := 12) hx hb dX5_wayLength_36 (by decide) ?_
          exact ih12 _ _ _ h _ _ _ hP hD hS (lv_sub hl [3, 2, 1, 0] rfl)
  clear hf
  refine lv_iconst (v := 1) hx hb dX5_wayLength_0 (by decide) ?_
  refine lv_istore_n (lv' := [(2, .int 1), (0, .ref h_this), (1, .int a1)]) hx hb dX5_wayLength_1 rfl hl (by decide) rfl (fun ls hl => ?_)
  refine lv_aload_n hx hb dX5_wayLength_2 rfl (lv_at hl 1 rfl) ?_
  refine va_get (D := D) (ci := 5) (v := .ref h_home) (C := RX5) (T := TX5) (N := 8) hx hb hts hinX5 hown hK hP 0 rfl rfl 5 (by decide) wf28 (fun _ h9 => h9) rfl dX5_wayLength_3 ?_
  refine lv_iload_n hx hb dX5_wayLength_6 rfl (lv_at hl 2 rfl) ?_
  have hi := gi_1 h; replace h := gi_2 h
  refine va_iald hx hb hK hP 2 0 rfl rfl hi dX5_wayLength_7 ?_
  refine lv_istore_n (lv' := [(3, .int (g_home (Int32.toNatClampNeg a1))), (2, .int 1), (0, .ref h_this), (1, .int a1)]) hx hb dX5_wayLength_8 rfl hl (by decide) rfl (fun ls hl => ?_)
  refine lv_iconst (v := 0) hx hb dX5_wayLength_9 (by decide) ?_
  refine lv_istore (lv' := [(4, .int 0), (3, .int (g_home (Int32.toNatClampNeg a1))), (2, .int 1), (0, .ref h_this), (1, .int a1)]) hx hb dX5_wayLength_10 hl (by decide) rfl (fun ls hl => ?_)
  exact L12 FU _ _ _ h _ _ _ hP hD hS (lv_sub hl [3, 2, 1, 0] rfl)
abbrev rm_X5_placeOnWay : Room := { frames := 1, cells := 0, slots := 0, locals := 24 }
set_option maxHeartbeats 4000000 in
set_option maxRecDepth 100000 in
theorem c_X5_placeOnWay (l : Launch) (D : va_G) (cy : Nat → ClassId) (h_this h_sizes h_above h_placeAbove h_items h_home h_placeHome h_tally : Nat)    (sz : Nat) (f_lists : Int32) (g_above : Nat → Int32) (g_placeAbove : Nat → Int32) (g_home : Nat → Int32) (g_placeHome : Nat → Int32) (a1 : Int32) (a2 : Int32) (r0 : Int32)  (hf : f_X5_placeOnWay g_above g_placeAbove g_home g_placeHome a1 a2 = some r0) : MI l yX5_placeOnWay wsX5_placeOnWay rm_X5_placeOnWay D cy [.ref h_this, .int a1, .int a2] sz [(h_this, .inr (5, [.int f_lists, .ref h_sizes, .ref h_above, .ref h_placeAbove, .ref h_items, .ref h_home, .ref h_placeHome, .ref h_tally])), (h_above, .inl (cy 0, 80, .inl g_above)), (h_placeAbove, .inl (cy 0, 80, .inl g_placeAbove)), (h_home, .inl (cy 0, 40, .inl g_home)), (h_placeHome, .inl (cy 0, 40, .inl g_placeHome))] r0 [(h_this, .inr (5, [.int f_lists, .ref h_sizes, .ref h_above, .ref h_placeAbove, .ref h_items, .ref h_home, .ref h_placeHome, .ref h_tally])), (h_above, .inl (cy 0, 80, .inl g_above)), (h_placeAbove, .inl (cy 0, 80, .inl g_placeAbove)), (h_home, .inl (cy 0, 40, .inl g_home)), (h_placeHome, .inl (cy 0, 40, .inl g_placeHome))] := by
  refine MI.of (cc := cX5_placeOnWay) (maxL := 6) (ret := (some .int)) (by decide) rfl (Nat.le_of_ble_eq_true rfl) ?_
  intro p e s m below meth c A ls hx hb hml hown hts hlk hr hK hA hP hD hS hl
  have h := hf
  unfold f_X5_placeOnWay at h
  have wf22 := hts (.fieldLink RX5 22 "MenuPlanner$Tree" "placeAbove" "[I") (by decide +kernel)
  have hinX5 := (by decide +kernel : ∀ w ∈ u_ws RX5 TX5 8, w ∈ wsX5_placeOnWay)
  have wf19 := hts (.fieldLink RX5 19 "MenuPlanner$Tree" "above" "[I") (by decide +kernel)
  have wf31 := hts (.fieldLink RX5 31 "MenuPlanner$Tree" "placeHome" "[I") (by decide +kernel)
  have wf28 := hts (.fieldLink RX5 28 "MenuPlanner$Tree" "home" "[I") (by decide +kernel)
  replace hl : lv_has ls 6 [(0, .ref h_this), (1, .int a1), (2, .int a2)] := hl
  have L24 : ∀ (n : Nat) (x2 : Int32) (x3 : Int32) (x4 : Int32) (x5 : Int32), f_X5_placeOnWay_L24 g_above g_placeAbove n x2 x3 x4 x5 = some r0 → ∀ (H : Heap) (locs : List Loc) (ls : Array Slot), va_P D vwCl [(h_this, .inr (5, [.int f_lists, .ref h_sizes, .ref h_above, .ref h_placeAbove, .ref h_items, .ref h_home, .ref h_placeHome, .ref h_tally])), (h_above, .inl (cy 0, 80, .inl g_above)), (h_placeAbove, .inl (cy 0, 80, .inl g_placeAbove)), (h_home, .inl (cy 0, 40, .inl g_home)), (h_placeHome, .inl (cy 0, 40, .inl g_placeHome))] H → va_D A [(h_this, .inr (5, [.int f_lists, .ref h_sizes, .ref h_above, .ref h_placeAbove, .ref h_items, .ref h_home, .ref h_placeHome, .ref h_tally])), (h_above, .inl (cy 0, 80, .inl g_above)), (h_placeAbove, .inl (cy 0, 80, .inl g_placeAbove)), (h_home, .inl (cy 0, 40, .inl g_home)), (h_placeHome, .inl (cy 0, 40, .inl g_placeHome))] → va_S A s.heap H locs → lv_has ls 6 [(0, .ref h_this), (2, .int x2), (3, .int x3), (4, .int x4), (5, .int x5)] → W p l e rm_X5_placeOnWay s m ([.ref h_this, .int a1, .int a2]).toArray below meth c H locs 0 0 (MQ below (QI D cy A r0 [(h_this, .inr (5, [.int f_lists, .ref h_sizes, .ref h_above, .ref h_placeAbove, .ref h_items, .ref h_home, .ref h_placeHome, .ref h_tally])), (h_above, .inl (cy 0, 80, .inl g_above)), (h_placeAbove, .inl (cy 0, 80, .inl g_placeAbove)), (h_home, .inl (cy 0, 40, .inl g_home)), (h_placeHome, .inl (cy 0, 40, .inl g_placeHome))]) ([.ref h_this, .int a1, .int a2]).toArray s 0 0 A) (F0 m 24 ls []) := by
    intro n
    induction n with
    | zero => intro x2 x3 x4 x5 h; exact absurd (show (none : Option _) = some _ from h) (by intro q; cases q)
    | succ n24 ih24 =>
      intro x2 x3 x4 x5 h H locs ls hP hD hS hl
      replace h : f_X5_placeOnWay_L24_F g_above g_placeAbove (f_X5_placeOnWay_L24 g_above g_placeAbove n24) x2 x3 x4 x5 = some r0 := h
      unfold f_X5_placeOnWay_L24_F at h
      refine lv_iload hx hb dX5_placeOnWay_24 (lv_at hl 4 rfl) ?_
      refine lv_iload_n hx hb dX5_placeOnWay_26 rfl (lv_at hl 1 rfl) ?_
      refine lv_icmp_le (tgt := 58) hx hb dX5_placeOnWay_27 (by decide) (fun hc => ?_) (fun hc => ?_)
      · replace h := it_1 h hc
        refine lv_iload_n hx hb dX5_placeOnWay_58 rfl (lv_at hl 2 rfl) ?_
        have e0 := ret1 h
        exact rte_i e0 rfl hx hb hr hlk rfl hK hP hD hS dX5_placeOnWay_59
      · replace h := it_0 h hc
        refine lv_iload hx hb dX5_placeOnWay_30 (lv_at hl 3 rfl) ?_
        refine lv_if_le (tgt := 58) hx hb dX5_placeOnWay_32 (by decide) (fun hc => ?_) (fun hc => ?_)
        · replace h := it_1 h hc
          refine lv_iload_n hx hb dX5_placeOnWay_58 rfl (lv_at hl 2 rfl) ?_
          have e0 := ret1 h
          exact rte_i e0 rfl hx hb hr hlk rfl hK hP hD hS dX5_placeOnWay_59
        · replace h := it_0 h hc
          refine lv_aload_n hx hb dX5_placeOnWay_35 rfl (lv_at hl 0 rfl) ?_
          refine va_get (D := D) (ci := 5) (v := .ref h_placeAbove) (C := RX5) (T := TX5) (N := 8) hx hb hts hinX5 hown hK hP 0 rfl rfl 3 (by decide) wf22 (fun _ h9 => h9) rfl dX5_placeOnWay_36 ?_
          refine lv_iload hx hb dX5_placeOnWay_39 (lv_at hl 3 rfl) ?_
          have hi := gi_1 h; replace h := gi_2 h
          refine va_iald hx hb hK hP 2 0 rfl rfl hi dX5_placeOnWay_41 ?_
          refine lv_istore_n (lv' := [(3, .int (g_placeAbove (Int32.toNatClampNeg x4))), (0, .ref h_this), (2, .int x2), (4, .int x4), (5, .int x5)]) hx hb dX5_placeOnWay_42 rfl hl (by decide) rfl (fun ls hl => ?_)
          refine lv_aload_n hx hb dX5_placeOnWay_43 rfl (lv_at hl 1 rfl) ?_
          refine va_get (D := D) (ci := 5) (v := .ref h_above) (C := RX5) (T := TX5) (N := 8) hx hb hts hinX5 hown hK hP 0 rfl rfl 2 (by decide) wf19 (fun _ h9 => h9) rfl dX5_placeOnWay_44 ?_
          refine lv_iload hx hb dX5_placeOnWay_47 (lv_at hl 3 rfl) ?_
          have hi := gi_1 h; replace h := gi_2 h
          refine va_iald hx hb hK hP 1 0 rfl rfl hi dX5_placeOnWay_49 ?_
          refine lv_istore (lv' := [(4, .int (g_above (Int32.toNatClampNeg x4))), (3, .int (g_placeAbove (Int32.toNatClampNeg x4))), (0, .ref h_this), (2, .int x2), (5, .int x5)]) hx hb dX5_placeOnWay_50 hl (by decide) rfl (fun ls hl => ?_)
          refine lv_iinc (v := (x5 + (-1))) (lv' := [(5, .int (x5 + (-1))), (4, .int (g_above (Int32.toNatClampNeg x4))), (3, .int (g_placeAbove (Int32.toNatClampNeg x4))), (0, .ref h_this), (2, .int x2)]) hx hb dX5_placeOnWay_52 hl (k := 4) rfl (by rw [show Int32.ofInt (-1) = (-1 : Int32) by decide]) (by decide) rfl (fun ls hl => ?_)
          refine lv_goto (tgt := 24) hx hb dX5_placeOnWay_55 (by decide) ?_
          exact ih24 _ _ _ _ h _ _ _ hP hD hS (lv_sub hl [3, 4, 2, 1, 0] rfl)
  clear hf
  refine lv_aload_n hx hb dX5_placeOnWay_0 rfl (lv_at hl 0 rfl) ?_
  refine va_get (D := D) (ci := 5) (v := .ref h_placeHome) (C := RX5) (T := TX5) (N := 8) hx hb hts hinX5 hown hK hP 0 rfl rfl 6 (by decide) wf31 (fun _ h9 => h9) rfl dX5_placeOnWay_1 ?_
  refine lv_iload_n hx hb dX5_placeOnWay_4 rfl (lv_at hl 1 rfl) ?_
  have hi := gi_1 h; replace h := gi_2 h
  refine va_iald hx hb hK hP 4 0 rfl rfl hi dX5_placeOnWay_5 ?_
  refine lv_istore_n (lv' := [(3, .int (g_placeHome (Int32.toNatClampNeg a1))), (0, .ref h_this), (1, .int a1), (2, .int a2)]) hx hb dX5_placeOnWay_6 rfl hl (by decide) rfl (fun ls hl => ?_)
  refine lv_aload_n hx hb dX5_placeOnWay_7 rfl (lv_at hl 1 rfl) ?_
  refine va_get (D := D) (ci := 5) (v := .ref h_home) (C := RX5) (T := TX5) (N := 8) hx hb hts hinX5 hown hK hP 0 rfl rfl 5 (by decide) wf28 (fun _ h9 => h9) rfl dX5_placeOnWay_8 ?_
  refine lv_iload_n hx hb dX5_placeOnWay_11 rfl (lv_at hl 2 rfl) ?_
  have hi := gi_1 h; replace h := gi_2 h
  refine va_iald hx hb hK hP 3 0 rfl rfl hi dX5_placeOnWay_12 ?_
  refine lv_istore (lv' := [(4, .int (g_home (Int32.toNatClampNeg a1))), (3, .int (g_placeHome (Int32.toNatClampNeg a1))), (0, .ref h_this), (1, .int a1), (2, .int a2)]) hx hb dX5_placeOnWay_13 hl (by decide) rfl (fun ls hl => ?_)
  refine lv_aload_n hx hb dX5_placeOnWay_15 rfl (lv_at hl 2 rfl) ?_
  refine lv_iload_n hx hb dX5_placeOnWay_16 rfl (lv_at hl 3 rfl) ?_
  obtain ⟨r_1, hu, h⟩ := ob_1 h
  refine cl_Vi (As := [.int a1]) (rest := []) [0, 1, 3] [2, 4] [2, 3, 0, 4, 1] [(h_placeAbove, .inl (cy 0, 80, .inl g_placeAbove)), (h_placeHome, .inl (cy 0, 40, .inl g_placeHome))] [(h_this, .inr (5, [.int f_lists, .ref h_sizes, .ref h_above, .ref h_placeAbove, .ref h_items, .ref h_home, .ref h_placeHome, .ref h_tally])), (h_above, .inl (cy 0, 80, .inl g_above)), (h_placeAbove, .inl (cy 0, 80, .inl g_placeAbove)), (h_home, .inl (cy 0, 40, .inl g_home)), (h_placeHome, .inl (cy 0, 40, .inl g_placeHome))] 5 ⟨hx, hb, hml, hown, hts⟩ (c_X5_wayLength (l := l) (D := D) (cy := cy) (sz := _) (h_this := h_this) (h_above := h_above) (h_home := h_home) (h_sizes := h_sizes) (h_placeAbove := h_placeAbove) (h_items := h_items) (h_placeHome := h_placeHome) (h_tally := h_tally) (f_lists := f_lists) (g_above := g_above) (g_home := g_home) (a1 := a1) (r0 := r_1) (hf := hu)) (cwV 1 hts gX5_placeOnWay_X5_wayLength rfl rfl rfl (by decide +kernel) ⟨Nat.le_of_ble_eq_true rfl, Nat.le_of_ble_eq_true rfl⟩) hK hP hD hS hA rfl rfl rfl rfl (by decide) rfl rfl rfl rfl rfl rfl rfl rfl hl.1 rfl (Nat.le_of_ble_eq_true rfl) dX5_placeOnWay_17 ⟨Nat.zero_le _, Nat.zero_le _⟩ (fun H locs hP hD hS => ?_)
  refine lv_iconst (v := 1) hx hb dX5_placeOnWay_20 (by decide) ?_
  refine lv_isub hx hb dX5_placeOnWay_21 ?_
  refine lv_istore (lv' := [(5, .int (r_1 - 1)), (4, .int (g_home (Int32.toNatClampNeg a1))), (3, .int (g_placeHome (Int32.toNatClampNeg a1))), (0, .ref h_this), (1, .int a1), (2, .int a2)]) hx hb dX5_placeOnWay_22 hl (by decide) rfl (fun ls hl => ?_)
  exact L24 FU _ _ _ _ h _ _ _ hP hD hS (lv_sub hl [3, 5, 2, 1, 0] rfl)
abbrev rm_X5_listOnWay : Room := { frames := 1, cells := 0, slots := 0, locals := 24 }
set_option maxHeartbeats 4000000 in
set_option maxRecDepth 100000 in
theorem c_X5_listOnWay (l : Launch) (D : va_G) (cy : Nat → ClassId) (h_this h_sizes h_above h_placeAbove h_items h_home h_placeHome h_tally : Nat)    (sz : Nat) (f_lists : Int32) (g_above : Nat → Int32) (g_home : Nat → Int32) (a1 : Int32) (a2 : Int32) (r0 : Int32)  (hf : f_X5_listOnWay g_above g_home a1 a2 = some r0) : MI l yX5_listOnWay wsX5_listOnWay rm_X5_listOnWay D cy [.ref h_this, .int a1, .int a2] sz [(h_this, .inr (5, [.int f_lists, .ref h_sizes, .ref h_above, .ref h_placeAbove, .ref h_items, .ref h_home, .ref h_placeHome, .ref h_tally])), (h_above, .inl (cy 0, 80, .inl g_above)), (h_home, .inl (cy 0, 40, .inl g_home))] r0 [(h_this, .inr (5, [.int f_lists, .ref h_sizes, .ref h_above, .ref h_placeAbove, .ref h_items, .ref h_home, .ref h_placeHome, .ref h_tally])), (h_above, .inl (cy 0, 80, .inl g_above)), (h_home, .inl (cy 0, 40, .inl g_home))] := by
  refine MI.of (cc := cX5_listOnWay) (maxL := 5) (ret := (some .int)) (by decide) rfl (Nat.le_of_ble_eq_true rfl) ?_
  intro p e s m below meth c A ls hx hb hml hown hts hlk hr hK hA hP hD hS hl
  have h := hf
  unfold f_X5_listOnWay at h
  have wf19 := hts (.fieldLink RX5 19 "MenuPlanner$Tree" "above" "[I") (by decide +kernel)
  have hinX5 := (by decide +kernel : ∀ w ∈ u_ws RX5 TX5 8, w ∈ wsX5_listOnWay)
  have wf28 := hts (.fieldLink RX5 28 "MenuPlanner$Tree" "home" "[I") (by decide +kernel)
  replace hl : lv_has ls 5 [(0, .ref h_this), (1, .int a1), (2, .int a2)] := hl
  have L16 : ∀ (n : Nat) (x2 : Int32) (x3 : Int32) (x4 : Int32), f_X5_listOnWay_L16 g_above n x2 x3 x4 = some r0 → ∀ (H : Heap) (locs : List Loc) (ls : Array Slot), va_P D vwCl [(h_this, .inr (5, [.int f_lists, .ref h_sizes, .ref h_above, .ref h_placeAbove, .ref h_items, .ref h_home, .ref h_placeHome, .ref h_tally])), (h_above, .inl (cy 0, 80, .inl g_above)), (h_home, .inl (cy 0, 40, .inl g_home))] H → va_D A [(h_this, .inr (5, [.int f_lists, .ref h_sizes, .ref h_above, .ref h_placeAbove, .ref h_items, .ref h_home, .ref h_placeHome, .ref h_tally])), (h_above, .inl (cy 0, 80, .inl g_above)), (h_home, .inl (cy 0, 40, .inl g_home))] → va_S A s.heap H locs → lv_has ls 5 [(0, .ref h_this), (2, .int x2), (3, .int x3), (4, .int x4)] → W p l e rm_X5_listOnWay s m ([.ref h_this, .int a1, .int a2]).toArray below meth c H locs 0 0 (MQ below (QI D cy A r0 [(h_this, .inr (5, [.int f_lists, .ref h_sizes, .ref h_above, .ref h_placeAbove, .ref h_items, .ref h_home, .ref h_placeHome, .ref h_tally])), (h_above, .inl (cy 0, 80, .inl g_above)), (h_home, .inl (cy 0, 40, .inl g_home))]) ([.ref h_this, .int a1, .int a2]).toArray s 0 0 A) (F0 m 16 ls []) := by
    intro n
    induction n with
    | zero => intro x2 x3 x4 h; exact absurd (show (none : Option _) = some _ from h) (by intro q; cases q)
    | succ n16 ih16 =>
      intro x2 x3 x4 h H locs ls hP hD hS hl
      replace h : f_X5_listOnWay_L16_F g_above (f_X5_listOnWay_L16 g_above n16) x2 x3 x4 = some r0 := h
      unfold f_X5_listOnWay_L16_F at h
      refine lv_iload hx hb dX5_listOnWay_16 (lv_at hl 3 rfl) ?_
      refine lv_iload_n hx hb dX5_listOnWay_18 rfl (lv_at hl 1 rfl) ?_
      refine lv_icmp_le (tgt := 39) hx hb dX5_listOnWay_19 (by decide) (fun hc => ?_) (fun hc => ?_)
      · replace h := it_1 h hc
        refine lv_iload_n hx hb dX5_listOnWay_39 rfl (lv_at hl 2 rfl) ?_
        have e0 := ret1 h
        exact rte_i e0 rfl hx hb hr hlk rfl hK hP hD hS dX5_listOnWay_40
      · replace h := it_0 h hc
        refine lv_iload_n hx hb dX5_listOnWay_22 rfl (lv_at hl 2 rfl) ?_
        refine lv_if_le (tgt := 39) hx hb dX5_listOnWay_23 (by decide) (fun hc => ?_) (fun hc => ?_)
        · replace h := it_1 h hc
          refine lv_iload_n hx hb dX5_listOnWay_39 rfl (lv_at hl 2 rfl) ?_
          have e0 := ret1 h
          exact rte_i e0 rfl hx hb hr hlk rfl hK hP hD hS dX5_listOnWay_40
        · replace h := it_0 h hc
          refine lv_aload_n hx hb dX5_listOnWay_26 rfl (lv_at hl 0 rfl) ?_
          refine va_get (D := D) (ci := 5) (v := .ref h_above) (C := RX5) (T := TX5) (N := 8) hx hb hts hinX5 hown hK hP 0 rfl rfl 2 (by decide) wf19 (fun _ h9 => h9) rfl dX5_listOnWay_27 ?_
          refine lv_iload_n hx hb dX5_listOnWay_30 rfl (lv_at hl 2 rfl) ?_
          have hi := gi_1 h; replace h := gi_2 h
          refine va_iald hx hb hK hP 1 0 rfl rfl hi dX5_listOnWay_31 ?_
          refine lv_istore_n (lv' := [(3, .int (g_above (Int32.toNatClampNeg x3))), (0, .ref h_this), (2, .int x2), (4, .int x4)]) hx hb dX5_listOnWay_32 rfl hl (by decide) rfl (fun ls hl => ?_)
          refine lv_iinc (v := (x4 + (-1))) (lv' := [(4, .int (x4 + (-1))), (3, .int (g_above (Int32.toNatClampNeg x3))), (0, .ref h_this), (2, .int x2)]) hx hb dX5_listOnWay_33 hl (k := 3) rfl (by rw [show Int32.ofInt (-1) = (-1 : Int32) by decide]) (by decide) rfl (fun ls hl => ?_)
          refine lv_goto (tgt := 16) hx hb dX5_listOnWay_36 (by decide) ?_
          exact ih16 _ _ _ h _ _ _ hP hD hS (lv_sub hl [2, 3, 1, 0] rfl)
  clear hf
  refine lv_aload_n hx hb dX5_listOnWay_0 rfl (lv_at hl 0 rfl) ?_
  refine va_get (D := D) (ci := 5) (v := .ref h_home) (C := RX5) (T := TX5) (N := 8) hx hb hts hinX5 hown hK hP 0 rfl rfl 5 (by decide) wf28 (fun _ h9 => h9) rfl dX5_listOnWay_1 ?_
  refine lv_iload_n hx hb dX5_listOnWay_4 rfl (lv_at hl 1 rfl) ?_
  have hi := gi_1 h; replace h := gi_2 h
  refine va_iald hx hb hK hP 2 0 rfl rfl hi dX5_listOnWay_5 ?_
  refine lv_istore_n (lv' := [(3, .int (g_home (Int32.toNatClampNeg a1))), (0, .ref h_this), (1, .int a1), (2, .int a2)]) hx hb dX5_listOnWay_6 rfl hl (by decide) rfl (fun ls hl => ?_)
  refine lv_aload_n hx hb dX5_listOnWay_7 rfl (lv_at hl 1 rfl) ?_
  refine lv_iload_n hx hb dX5_listOnWay_8 rfl (lv_at hl 2 rfl) ?_
  obtain ⟨r_1, hu, h⟩ := ob_1 h
  refine cl_Vi (As := [.int a1]) (rest := []) [0, 1, 2] [] [0, 1, 2] [] [(h_this, .inr (5, [.int f_lists, .ref h_sizes, .ref h_above, .ref h_placeAbove, .ref h_items, .ref h_home, .ref h_placeHome, .ref h_tally])), (h_above, .inl (cy 0, 80, .inl g_above)), (h_home, .inl (cy 0, 40, .inl g_home))] 5 ⟨hx, hb, hml, hown, hts⟩ (c_X5_wayLength (l := l) (D := D) (cy := cy) (sz := _) (h_this := h_this) (h_above := h_above) (h_home := h_home) (h_sizes := h_sizes) (h_placeAbove := h_placeAbove) (h_items := h_items) (h_placeHome := h_placeHome) (h_tally := h_tally) (f_lists := f_lists) (g_above := g_above) (g_home := g_home) (a1 := a1) (r0 := r_1) (hf := hu)) (cwV 1 hts gX5_listOnWay_X5_wayLength rfl rfl rfl (by decide +kernel) ⟨Nat.le_of_ble_eq_true rfl, Nat.le_of_ble_eq_true rfl⟩) hK hP hD hS hA rfl rfl rfl rfl (by decide) rfl rfl rfl rfl rfl rfl rfl rfl hl.1 rfl (Nat.le_of_ble_eq_true rfl) dX5_listOnWay_9 ⟨Nat.zero_le _, Nat.zero_le _⟩ (fun H locs hP hD hS => ?_)
  refine lv_iconst (v := 1) hx hb dX5_listOnWay_12 (by decide) ?_
  refine lv_isub hx hb dX5_listOnWay_13 ?_
  refine lv_istore (lv' := [(4, .int (r_1 - 1)), (3, .int (g_home (Int32.toNatClampNeg a1))), (0, .ref h_this), (1, .int a1), (2, .int a2)]) hx hb dX5_listOnWay_14 hl (by decide) rfl (fun ls hl => ?_)
  exact L16 FU _ _ _ h _ _ _ hP hD hS (lv_sub hl [2, 4, 1, 0] rfl)
abbrev rm_X5_isUnder : Room := { frames := 0, cells := 0, slots := 0, locals := 0 }
set_option maxHeartbeats 4000000 in
set_option maxRecDepth 100000 in
theorem c_X5_isUnder (l : Launch) (D : va_G) (cy : Nat → ClassId) (h_this h_sizes h_above h_placeAbove h_items h_home h_placeHome h_tally : Nat)    (sz : Nat) (f_lists : Int32) (g_above : Nat → Int32) (g_home : Nat → Int32) (a1 : Int32) (a2 : Int32) (r0 : Int32)  (hf : f_X5_isUnder g_above g_home a1 a2 = some r0) : MI l yX5_isUnder wsX5_isUnder rm_X5_isUnder D cy [.ref h_this, .int a1, .int a2] sz [(h_this, .inr (5, [.int f_lists, .ref h_sizes, .ref h_above, .ref h_placeAbove, .ref h_items, .ref h_home, .ref h_placeHome, .ref h_tally])), (h_above, .inl (cy 0, 80, .inl g_above)), (h_home, .inl (cy 0, 40, .inl g_home))] r0 [(h_this, .inr (5, [.int f_lists, .ref h_sizes, .ref h_above, .ref h_placeAbove, .ref h_items, .ref h_home, .ref h_placeHome, .ref h_tally])), (h_above, .inl (cy 0, 80, .inl g_above)), (h_home, .inl (cy 0, 40, .inl g_home))] := by
  refine MI.of (cc := cX5_isUnder) (maxL := 5) (ret := (some .boolean)) (by decide) rfl (Nat.le_of_ble_eq_true rfl) ?_
  intro p e s m below meth c A ls hx hb hml hown hts hlk hr hK hA hP hD hS hl
  have h := hf
  unfold f_X5_isUnder at h
  have wf19 := hts (.fieldLink RX5 19 "MenuPlanner$Tree" "above" "[I") (by decide +kernel)
  have hinX5 := (by decide +kernel : ∀ w ∈ u_ws RX5 TX5 8, w ∈ wsX5_isUnder)
  have wf28 := hts (.fieldLink RX5 28 "MenuPlanner$Tree" "home" "[I") (by decide +kernel)
  replace hl : lv_has ls 5 [(0, .ref h_this), (1, .int a1), (2, .int a2)] := hl
  have L39 : ∀ (x2 : Int32) (x3 : Int32), f_X5_isUnder_L39 x2 x3 = some r0 → ∀ (H : Heap) (locs : List Loc) (ls : Array Slot), va_P D vwCl [(h_this, .inr (5, [.int f_lists, .ref h_sizes, .ref h_above, .ref h_placeAbove, .ref h_items, .ref h_home, .ref h_placeHome, .ref h_tally])), (h_above, .inl (cy 0, 80, .inl g_above)), (h_home, .inl (cy 0, 40, .inl g_home))] H → va_D A [(h_this, .inr (5, [.int f_lists, .ref h_sizes, .ref h_above, .ref h_placeAbove, .ref h_items, .ref h_home, .ref h_placeHome, .ref h_tally])), (h_above, .inl (cy 0, 80, .inl g_above)), (h_home, .inl (cy 0, 40, .inl g_home))] → va_S A s.heap H locs → lv_has ls 5 [(2, .int x2), (3, .int x3)] → W p l e rm_X5_isUnder s m ([.ref h_this, .int a1, .int a2]).toArray below meth c H locs 0 0 (MQ below (QI D cy A r0 [(h_this, .inr (5, [.int f_lists, .ref h_sizes, .ref h_above, .ref h_placeAbove, .ref h_items, .ref h_home, .ref h_placeHome, .ref h_tally])), (h_above, .inl (cy 0, 80, .inl g_above)), (h_home, .inl (cy 0, 40, .inl g_home))]) ([.ref h_this, .int a1, .int a2]).toArray s 0 0 A) (F0 m 39 ls []) := by
    intro x2 x3 h H locs ls hP hD hS hl
    unfold f_X5_isUnder_L39 at h
    refine lv_iload_n hx hb dX5_isUnder_39 rfl (lv_at hl 1 rfl) ?_
    refine lv_iload_n hx hb dX5_isUnder_40 rfl (lv_at hl 0 rfl) ?_
    refine lv_icmp_ne (tgt := 48) hx hb dX5_isUnder_41 (by decide) (fun hc => ?_) (fun hc => ?_)
    · replace h := it_0 h hc
      refine lv_iconst (v := 0) hx hb dX5_isUnder_48 (by decide) ?_
      have e0 := ret1 h
      exact rte_i e0 rfl hx hb hr hlk rfl hK hP hD hS dX5_isUnder_49
    · replace h := it_1 h hc
      refine lv_iconst (v := 1) hx hb dX5_isUnder_44 (by decide) ?_
      refine lv_goto (tgt := 49) hx hb dX5_isUnder_45 (by decide) ?_
      have e0 := ret1 h
      exact rte_i e0 rfl hx hb hr hlk rfl hK hP hD hS dX5_isUnder_49
  have L10 : ∀ (n : Nat) (x2 : Int32) (x3 : Int32) (x4 : Int32), f_X5_isUnder_L10 g_above n x2 x3 x4 = some r0 → ∀ (H : Heap) (locs : List Loc) (ls : Array Slot), va_P D vwCl [(h_this, .inr (5, [.int f_lists, .ref h_sizes, .ref h_above, .ref h_placeAbove, .ref h_items, .ref h_home, .ref h_placeHome, .ref h_tally])), (h_above, .inl (cy 0, 80, .inl g_above)), (h_home, .inl (cy 0, 40, .inl g_home))] H → va_D A [(h_this, .inr (5, [.int f_lists, .ref h_sizes, .ref h_above, .ref h_placeAbove, .ref h_items, .ref h_home, .ref h_placeHome, .ref h_tally])), (h_above, .inl (cy 0, 80, .inl g_above)), (h_home, .inl (cy 0, 40, .inl g_home))] → va_S A s.heap H locs → lv_has ls 5 [(0, .ref h_this), (2, .int x2), (3, .int x3), (4, .int x4)] → W p l e rm_X5_isUnder s m ([.ref h_this, .int a1, .int a2]).toArray below meth c H locs 0 0 (MQ below (QI D cy A r0 [(h_this, .inr (5, [.int f_lists, .ref h_sizes, .ref h_above, .ref h_placeAbove, .ref h_items, .ref h_home, .ref h_placeHome, .ref h_tally])), (h_above, .inl (cy 0, 80, .inl g_above)), (h_home, .inl (cy 0, 40, .inl g_home))]) ([.ref h_this, .int a1, .int a2]).toArray s 0 0 A) (F0 m 10 ls []) := by
    intro n
    induction n with
    | zero => intro x2 x3 x4 h; exact absurd (show (none : Option _) = some _ from h) (by intro q; cases q)
    | succ n10 ih10 =>
      intro x2 x3 x4 h H locs ls hP hD hS hl
      replace h : f_X5_isUnder_L10_F g_above (f_X5_isUnder_L10 g_above n10) x2 x3 x4 = some r0 := h
      unfold f_X5_isUnder_L10_F at h
      refine lv_iload hx hb dX5_isUnder_10 (lv_at hl 3 rfl) ?_
      refine lv_bipush (v := 80) hx hb dX5_isUnder_12 (by decide) ?_
      refine lv_icmp_ge (tgt := 39) hx hb dX5_isUnder_14 (by decide) (fun hc => ?_) (fun hc => ?_)
      · replace h := it_1 h hc
        exact L39 _ _ h _ _ _ hP hD hS (lv_sub hl [1, 2] rfl)
      · replace h := it_0 h hc
        refine lv_iload_n hx hb dX5_isUnder_17 rfl (lv_at hl 2 rfl) ?_
        refine lv_if_le (tgt := 39) hx hb dX5_isUnder_18 (by decide) (fun hc => ?_) (fun hc => ?_)
        · replace h := it_1 h hc
          exact L39 _ _ h _ _ _ hP hD hS (lv_sub hl [1, 2] rfl)
        · replace h := it_0 h hc
          refine lv_iload_n hx hb dX5_isUnder_21 rfl (lv_at hl 2 rfl) ?_
          refine lv_iload_n hx hb dX5_isUnder_22 rfl (lv_at hl 1 rfl) ?_
          refine lv_icmp_eq (tgt := 39) hx hb dX5_isUnder_23 (by decide) (fun hc => ?_) (fun hc => ?_)
          · replace h := it_1 h hc
            exact L39 _ _ h _ _ _ hP hD hS (lv_sub hl [1, 2] rfl)
          · replace h := it_0 h hc
            refine lv_aload_n hx hb dX5_isUnder_26 rfl (lv_at hl 0 rfl) ?_
            refine va_get (D := D) (ci := 5) (v := .ref h_above) (C := RX5) (T := TX5) (N := 8) hx hb hts hinX5 hown hK hP 0 rfl rfl 2 (by decide) wf19 (fun _ h9 => h9) rfl dX5_isUnder_27 ?_
            refine lv_iload_n hx hb dX5_isUnder_30 rfl (lv_at hl 2 rfl) ?_
            have hi := gi_1 h; replace h := gi_2 h
            refine va_iald hx hb hK hP 1 0 rfl rfl hi dX5_isUnder_31 ?_
            refine lv_istore_n (lv' := [(3, .int (g_above (Int32.toNatClampNeg x3))), (0, .ref h_this), (2, .int x2), (4, .int x4)]) hx hb dX5_isUnder_32 rfl hl (by decide) rfl (fun ls hl => ?_)
            refine lv_iinc (v := (x4 + 1)) (lv' := [(4, .int (x4 + 1)), (3, .int (g_above (Int32.toNatClampNeg x3))), (0, .ref h_this), (2, .int x2)]) hx hb dX5_isUnder_33 hl (k := 3) rfl rfl (by decide) rfl (fun ls hl => ?_)
            refine lv_goto (tgt := 10) hx hb dX5_isUnder_36 (by decide) ?_
            exact ih10 _ _ _ h _ _ _ hP hD hS (lv_sub hl [2, 3, 1, 0] rfl)
  clear hf
  refine lv_aload_n hx hb dX5_isUnder_0 rfl (lv_at hl 0 rfl) ?_
  refine va_get (D := D) (ci := 5) (v := .ref h_home) (C := RX5) (T := TX5) (N := 8) hx hb hts hinX5 hown hK hP 0 rfl rfl 5 (by decide) wf28 (fun _ h9 => h9) rfl dX5_isUnder_1 ?_
  refine lv_iload_n hx hb dX5_isUnder_4 rfl (lv_at hl 1 rfl) ?_
  have hi := gi_1 h; replace h := gi_2 h
  refine va_iald hx hb hK hP 2 0 rfl rfl hi dX5_isUnder_5 ?_
  refine lv_istore_n (lv' := [(3, .int (g_home (Int32.toNatClampNeg a1))), (0, .ref h_this), (1, .int a1), (2, .int a2)]) hx hb dX5_isUnder_6 rfl hl (by decide) rfl (fun ls hl => ?_)
  refine lv_iconst (v := 0) hx hb dX5_isUnder_7 (by decide) ?_
  refine lv_istore (lv' := [(4, .int 0), (3, .int (g_home (Int32.toNatClampNeg a1))), (0, .ref h_this), (1, .int a1), (2, .int a2)]) hx hb dX5_isUnder_8 hl (by decide) rfl (fun ls hl => ?_)
  exact L10 FU _ _ _ h _ _ _ hP hD hS (lv_sub hl [2, 4, 1, 0] rfl)
abbrev rm_X5_tallyWords : Room := { frames := 0, cells := 0, slots := 0, locals := 0 }
set_option maxHeartbeats 4000000 in
set_option maxRecDepth 100000 in
theorem c_X5_tallyWords (l : Launch) (D : va_G) (cy : Nat → ClassId) (h_this h_sizes h_above h_placeAbove h_items h_home h_placeHome h_tally : Nat)    (sz : Nat) (f_lists : Int32) (g_tally : Nat → Int32) (a1 : Int32)  (o_g_tally : Nat → Int32) (hf : f_X5_tallyWords g_tally a1 = some o_g_tally) : MV l yX5_tallyWords wsX5_tallyWords rm_X5_tallyWords D cy [.ref h_this, .int a1] sz [(h_this, .inr (5, [.int f_lists, .ref h_sizes, .ref h_above, .ref h_placeAbove, .ref h_items, .ref h_home, .ref h_placeHome, .ref h_tally])), (h_tally, .inl (cy 0, 24, .inl g_tally))] [(h_this, .inr (5, [.int f_lists, .ref h_sizes, .ref h_above, .ref h_placeAbove, .ref h_items, .ref h_home, .ref h_placeHome, .ref h_tally])), (h_tally, .inl (cy 0, 24, .inl o_g_tally))] := by
  refine MV.of (cc := cX5_tallyWords) (maxL := 3) (ret := none) (by decide) rfl (Nat.le_of_ble_eq_true rfl) ?_
  intro p e s m below meth c A ls hx hb hml hown hts hlk hr hK hA hP hD hS hl
  have h := hf
  unfold f_X5_tallyWords at h
  have wf34 := hts (.fieldLink RX5 34 "MenuPlanner$Tree" "tally" "[I") (by decide +kernel)
  have hinX5 := (by decide +kernel : ∀ w ∈ u_ws RX5 TX5 8, w ∈ wsX5_tallyWords)
  replace hl : lv_has ls 3 [(0, .ref h_this), (1, .int a1)] := hl
  have L2 : ∀ (n : Nat) (g_tally : Nat → Int32) (x1 : Int32) (x2 : Int32), f_X5_tallyWords_L2 n g_tally x1 x2 = some o_g_tally → ∀ (H : Heap) (locs : List Loc) (ls : Array Slot), va_P D vwCl [(h_this, .inr (5, [.int f_lists, .ref h_sizes, .ref h_above, .ref h_placeAbove, .ref h_items, .ref h_home, .ref h_placeHome, .ref h_tally])), (h_tally, .inl (cy 0, 24, .inl g_tally))] H → va_D A [(h_this, .inr (5, [.int f_lists, .ref h_sizes, .ref h_above, .ref h_placeAbove, .ref h_items, .ref h_home, .ref h_placeHome, .ref h_tally])), (h_tally, .inl (cy 0, 24, .inl g_tally))] → va_S A s.heap H locs → lv_has ls 3 [(0, .ref h_this), (1, .int x1), (2, .int x2)] → W p l e rm_X5_tallyWords s m ([.ref h_this, .int a1]).toArray below meth c H locs 0 0 (MQ below (QV D cy A [(h_this, .inr (5, [.int f_lists, .ref h_sizes, .ref h_above, .ref h_placeAbove, .ref h_items, .ref h_home, .ref h_placeHome, .ref h_tally])), (h_tally, .inl (cy 0, 24, .inl o_g_tally))]) ([.ref h_this, .int a1]).toArray s 0 0 A) (F0 m 2 ls []) := by
    intro n
    induction n with
    | zero => intro g_tally x1 x2 h; exact absurd (show (none : Option _) = some _ from h) (by intro q; cases q)
    | succ n2 ih2 =>
      intro g_tally x1 x2 h H locs ls hP hD hS hl
      replace h : f_X5_tallyWords_L2_F (f_X5_tallyWords_L2 n2) g_tally x1 x2 = some o_g_tally := h
      unfold f_X5_tallyWords_L2_F at h
      refine lv_iload_n hx hb dX5_tallyWords_2 rfl (lv_at hl 2 rfl) ?_
      refine lv_bipush (v := 24) hx hb dX5_tallyWords_3 (by decide) ?_
      refine lv_icmp_ge (tgt := 28) hx hb dX5_tallyWords_5 (by decide) (fun hc => ?_) (fun hc => ?_)
      · replace h := it_1 h hc
        have e0 := ret1 h
        exact rte_v (by rw [← e0]) hx hb hr hlk hK hP hD hS dX5_tallyWords_28
      · replace h := it_0 h hc
        refine lv_aload_n hx hb dX5_tallyWords_8 rfl (lv_at hl 0 rfl) ?_
        refine va_get (D := D) (ci := 5) (v := .ref h_tally) (C := RX5) (T := TX5) (N := 8) hx hb hts hinX5 hown hK hP 0 rfl rfl 7 (by decide) wf34 (fun _ h9 => h9) rfl dX5_tallyWords_9 ?_
        refine lv_iload_n hx hb dX5_tallyWords_12 rfl (lv_at hl 2 rfl) ?_
        refine lv_dup2_11 hx hb dX5_tallyWords_13 rfl rfl ?_
        have hi := gi_1 h; replace h := gi_2 h
        refine va_iald hx hb hK hP 1 0 rfl rfl hi dX5_tallyWords_14 ?_
        refine lv_iload_n hx hb dX5_tallyWords_15 rfl (lv_at hl 1 rfl) ?_
        refine lv_iload_n hx hb dX5_tallyWords_16 rfl (lv_at hl 2 rfl) ?_
        refine lv_iushr hx hb dX5_tallyWords_17 rfl ?_
        refine lv_iconst (v := 1) hx hb dX5_tallyWords_18 (by decide) ?_
        refine lv_iand hx hb dX5_tallyWords_19 ?_
        refine lv_iadd hx hb dX5_tallyWords_20 ?_
        have hi := gi_1 h; replace h := gi_2 h
        refine va_iast hx hb hK hP hD hS 1 0 rfl rfl hi dX5_tallyWords_21 (fun H locs hP hD hS => ?_)
        replace hP : va_P D vwCl [(h_this, .inr (5, [.int f_lists, .ref h_sizes, .ref h_above, .ref h_placeAbove, .ref h_items, .ref h_home, .ref h_placeHome, .ref h_tally])), (h_tally, .inl (cy 0, 24, .inl (upd g_tally (Int32.toNatClampNeg x2) ((g_tally (Int32.toNatClampNeg x2)) + ((Int32.toUInt32 x1 >>> (Int32.toUInt32 x2 &&& Int32.toUInt32 31)).toInt32 &&& 1)))))] H := hP
        replace hD : va_D A [(h_this, .inr (5, [.int f_lists, .ref h_sizes, .ref h_above, .ref h_placeAbove, .ref h_items, .ref h_home, .ref h_placeHome, .ref h_tally])), (h_tally, .inl (cy 0, 24, .inl (upd g_tally (Int32.toNatClampNeg x2) ((g_tally (Int32.toNatClampNeg x2)) + ((Int32.toUInt32 x1 >>> (Int32.toUInt32 x2 &&& Int32.toUInt32 31)).toInt32 &&& 1)))))] := hD
        refine lv_iinc (v := (x2 + 1)) (lv' := [(2, .int (x2 + 1)), (0, .ref h_this), (1, .int x1)]) hx hb dX5_tallyWords_22 hl (k := 2) rfl rfl (by decide) rfl (fun ls hl => ?_)
        refine lv_goto (tgt := 2) hx hb dX5_tallyWords_25 (by decide) ?_
        exact ih2 _ _ _ h _ _ _ hP hD hS (lv_sub hl [1, 2, 0] rfl)
  clear hf
  refine lv_iconst (v := 0) hx hb dX5_tallyWords_0 (by decide) ?_
  refine lv_istore_n (lv' := [(2, .int 0), (0, .ref h_this), (1, .int a1)]) hx hb dX5_tallyWords_1 rfl hl (by decide) rfl (fun ls hl => ?_)
  exact L2 FU _ _ _ h _ _ _ hP hD hS (lv_sub hl [1, 2, 0] rfl)
abbrev rm_X5_menuHeading : Room := { frames := 1, cells := 0, slots := 0, locals := 24 }
set_option maxHeartbeats 4000000 in
set_option maxRecDepth 100000 in
theorem c_X5_menuHeading (l : Launch) (D : va_G) (cy : Nat → ClassId) (h_this h_sizes h_above h_placeAbove h_items h_home h_placeHome h_tally h_p2 h_p2_counts h_p2_words h_p2_settings : Nat)    (sz : Nat) (f_lists : Int32) (g_above : Nat → Int32) (g_home : Nat → Int32) (g_tally : Nat → Int32) (f_p2_size : Int32) (g_p2_words : Nat → Int32) (a1 : Int32) (r0 : Int32) (o_g_tally : Nat → Int32) (hf : f_X5_menuHeading g_above g_home f_p2_size g_p2_words g_tally a1 = some (r0, o_g_tally)) : MI l yX5_menuHeading wsX5_menuHeading rm_X5_menuHeading D cy [.ref h_this, .int a1, .ref h_p2] sz [(h_this, .inr (5, [.int f_lists, .ref h_sizes, .ref h_above, .ref h_placeAbove, .ref h_items, .ref h_home, .ref h_placeHome, .ref h_tally])), (h_above, .inl (cy 0, 80, .inl g_above)), (h_home, .inl (cy 0, 40, .inl g_home)), (h_tally, .inl (cy 0, 24, .inl g_tally)), (h_p2, .inr (6, [.int f_p2_size, .ref h_p2_counts, .ref h_p2_words, .ref h_p2_settings])), (h_p2_words, .inl (cy 0, 40, .inl g_p2_words))] r0 [(h_this, .inr (5, [.int f_lists, .ref h_sizes, .ref h_above, .ref h_placeAbove, .ref h_items, .ref h_home, .ref h_placeHome, .ref h_tally])), (h_above, .inl (cy 0, 80, .inl g_above)), (h_home, .inl (cy 0, 40, .inl g_home)), (h_tally, .inl (cy 0, 24, .inl o_g_tally)), (h_p2, .inr (6, [.int f_p2_size, .ref h_p2_counts, .ref h_p2_words, .ref h_p2_settings])), (h_p2_words, .inl (cy 0, 40, .inl g_p2_words))] := by
  refine MI.of (cc := cX5_menuHeading) (maxL := 6) (ret := (some .int)) (by decide) rfl (Nat.le_of_ble_eq_true rfl) ?_
  intro p e s m below meth c A ls hx hb hml hown hts hlk hr hK hA hP hD hS hl
  have h := hf
  unfold f_X5_menuHeading at h
  have wf34 := hts (.fieldLink RX5 34 "MenuPlanner$Tree" "tally" "[I") (by decide +kernel)
  have hinX5 := (by decide +kernel : ∀ w ∈ u_ws RX5 TX5 8, w ∈ wsX5_menuHeading)
  have wf50 := hts (.fieldLink RX5 50 "MenuPlanner$Use" "size" "I") (by decide +kernel)
  have hinX6 := (by decide +kernel : ∀ w ∈ u_ws RX6 TX6 4, w ∈ wsX5_menuHeading)
  have wf78 := hts (.fieldLink RX5 78 "MenuPlanner$Use" "words" "[I") (by decide +kernel)
  replace hl : lv_has ls 6 [(0, .ref h_this), (1, .int a1), (2, .ref h_p2)] := hl
  have L58 : ∀ (n : Nat) (g_tally : Nat → Int32) (x3 : Int32) (x4 : Int32) (x5 : Int32), f_X5_menuHeading_L58 n g_tally x3 x4 x5 = some (r0, o_g_tally) → ∀ (H : Heap) (locs : List Loc) (ls : Array Slot), va_P D vwCl [(h_this, .inr (5, [.int f_lists, .ref h_sizes, .ref h_above, .ref h_placeAbove, .ref h_items, .ref h_home, .ref h_placeHome, .ref h_tally])), (h_above, .inl (cy 0, 80, .inl g_above)), (h_home, .inl (cy 0, 40, .inl g_home)), (h_tally, .inl (cy 0, 24, .inl g_tally)), (h_p2, .inr (6, [.int f_p2_size, .ref h_p2_counts, .ref h_p2_words, .ref h_p2_settings])), (h_p2_words, .inl (cy 0, 40, .inl g_p2_words))] H → va_D A [(h_this, .inr (5, [.int f_lists, .ref h_sizes, .ref h_above, .ref h_placeAbove, .ref h_items, .ref h_home, .ref h_placeHome, .ref h_tally])), (h_above, .inl (cy 0, 80, .inl g_above)), (h_home, .inl (cy 0, 40, .inl g_home)), (h_tally, .inl (cy 0, 24, .inl g_tally)), (h_p2, .inr (6, [.int f_p2_size, .ref h_p2_counts, .ref h_p2_words, .ref h_p2_settings])), (h_p2_words, .inl (cy 0, 40, .inl g_p2_words))] → va_S A s.heap H locs → lv_has ls 6 [(0, .ref h_this), (3, .int x3), (4, .int x4), (5, .int x5)] → W p l e rm_X5_menuHeading s m ([.ref h_this, .int a1, .ref h_p2]).toArray below meth c H locs 0 0 (MQ below (QI D cy A r0 [(h_this, .inr (5, [.int f_lists, .ref h_sizes, .ref h_above, .ref h_placeAbove, .ref h_items, .ref h_home, .ref h_placeHome, .ref h_tally])), (h_above, .inl (cy 0, 80, .inl g_above)), (h_home, .inl (cy 0, 40, .inl g_home)), (h_tally, .inl (cy 0, 24, .inl o_g_tally)), (h_p2, .inr (6, [.int f_p2_size, .ref h_p2_counts, .ref h_p2_words, .ref h_p2_settings])), (h_p2_words, .inl (cy 0, 40, .inl g_p2_words))]) ([.ref h_this, .int a1, .ref h_p2]).toArray s 0 0 A) (F0 m 58 ls []) := by
    intro n
    induction n with
    | zero => intro g_tally x3 x4 x5 h; exact absurd (show (none : Option _) = some _ from h) (by intro q; cases q)
    | succ n58 ih58 =>
      intro g_tally x3 x4 x5 h H locs ls hP hD hS hl
      replace h : f_X5_menuHeading_L58_F (f_X5_menuHeading_L58 n58) g_tally x3 x4 x5 = some (r0, o_g_tally) := h
      unfold f_X5_menuHeading_L58_F at h
      have L87 : ∀ (g_tally : Nat → Int32) (x3 : Int32) (x4 : Int32) (x5 : Int32), f_X5_menuHeading_L87 (f_X5_menuHeading_L58 n58) g_tally x3 x4 x5 = some (r0, o_g_tally) → ∀ (H : Heap) (locs : List Loc) (ls : Array Slot), va_P D vwCl [(h_this, .inr (5, [.int f_lists, .ref h_sizes, .ref h_above, .ref h_placeAbove, .ref h_items, .ref h_home, .ref h_placeHome, .ref h_tally])), (h_above, .inl (cy 0, 80, .inl g_above)), (h_home, .inl (cy 0, 40, .inl g_home)), (h_tally, .inl (cy 0, 24, .inl g_tally)), (h_p2, .inr (6, [.int f_p2_size, .ref h_p2_counts, .ref h_p2_words, .ref h_p2_settings])), (h_p2_words, .inl (cy 0, 40, .inl g_p2_words))] H → va_D A [(h_this, .inr (5, [.int f_lists, .ref h_sizes, .ref h_above, .ref h_placeAbove, .ref h_items, .ref h_home, .ref h_placeHome, .ref h_tally])), (h_above, .inl (cy 0, 80, .inl g_above)), (h_home, .inl (cy 0, 40, .inl g_home)), (h_tally, .inl (cy 0, 24, .inl g_tally)), (h_p2, .inr (6, [.int f_p2_size, .ref h_p2_counts, .ref h_p2_words, .ref h_p2_settings])), (h_p2_words, .inl (cy 0, 40, .inl g_p2_words))] → va_S A s.heap H locs → lv_has ls 6 [(0, .ref h_this), (3, .int x3), (4, .int x4), (5, .int x5)] → W p l e rm_X5_menuHeading s m ([.ref h_this, .int a1, .ref h_p2]).toArray below meth c H locs 0 0 (MQ below (QI D cy A r0 [(h_this, .inr (5, [.int f_lists, .ref h_sizes, .ref h_above, .ref h_placeAbove, .ref h_items, .ref h_home, .ref h_placeHome, .ref h_tally])), (h_above, .inl (cy 0, 80, .inl g_above)), (h_home, .inl (cy 0, 40, .inl g_home)), (h_tally, .inl (cy 0, 24, .inl o_g_tally)), (h_p2, .inr (6, [.int f_p2_size, .ref h_p2_counts, .ref h_p2_words, .ref h_p2_settings])), (h_p2_words, .inl (cy 0, 40, .inl g_p2_words))]) ([.ref h_this, .int a1, .ref h_p2]).toArray s 0 0 A) (F0 m 87 ls []) := by
        intro g_tally x3 x4 x5 h H locs ls hP hD hS hl
        unfold f_X5_menuHeading_L87 at h
        refine lv_iinc (v := (x5 + 1)) (lv' := [(5, .int (x5 + 1)), (0, .ref h_this), (3, .int x3), (4, .int x4)]) hx hb dX5_menuHeading_87 hl (k := 3) rfl rfl (by decide) rfl (fun ls hl => ?_)
        refine lv_goto (tgt := 58) hx hb dX5_menuHeading_90 (by decide) ?_
        exact ih58 _ _ _ _ h _ _ _ hP hD hS (lv_sub hl [1, 2, 3, 0] rfl)
      refine lv_iload hx hb dX5_menuHeading_58 (lv_at hl 3 rfl) ?_
      refine lv_bipush (v := 24) hx hb dX5_menuHeading_60 (by decide) ?_
      refine lv_icmp_ge (tgt := 93) hx hb dX5_menuHeading_62 (by decide) (fun hc => ?_) (fun hc => ?_)
      · replace h := it_1 h hc
        refine lv_iload hx hb dX5_menuHeading_93 (lv_at hl 2 rfl) ?_
        obtain ⟨e0, e1⟩ := ret2 h
        exact rte_i e0 (by rw [← e1]) hx hb hr hlk rfl hK hP hD hS dX5_menuHeading_95
      · replace h := it_0 h hc
        refine lv_iconst (v := 2) hx hb dX5_menuHeading_65 (by decide) ?_
        refine lv_aload_n hx hb dX5_menuHeading_66 rfl (lv_at hl 0 rfl) ?_
        refine va_get (D := D) (ci := 5) (v := .ref h_tally) (C := RX5) (T := TX5) (N := 8) hx hb hts hinX5 hown hK hP 0 rfl rfl 7 (by decide) wf34 (fun _ h9 => h9) rfl dX5_menuHeading_67 ?_
        refine lv_iload hx hb dX5_menuHeading_70 (lv_at hl 3 rfl) ?_
        have hi := gi_1 h; replace h := gi_2 h
        refine va_iald hx hb hK hP 3 0 rfl rfl hi dX5_menuHeading_72 ?_
        refine lv_imul hx hb dX5_menuHeading_73 ?_
        refine lv_iload_n hx hb dX5_menuHeading_74 rfl (lv_at hl 1 rfl) ?_
        refine lv_icmp_lt (tgt := 87) hx hb dX5_menuHeading_75 (by decide) (fun hc => ?_) (fun hc => ?_)
        · replace h := it_1 h hc
          exact L87 _ _ _ _ h _ _ _ hP hD hS (lv_sub hl [0, 1, 2, 3] rfl)
        · replace h := it_0 h hc
          refine lv_iload hx hb dX5_menuHeading_78 (lv_at hl 2 rfl) ?_
          refine lv_iconst (v := 1) hx hb dX5_menuHeading_80 (by decide) ?_
          refine lv_iload hx hb dX5_menuHeading_81 (lv_at hl 3 rfl) ?_
          refine lv_ishl hx hb dX5_menuHeading_83 ?_
          refine lv_ior hx hb dX5_menuHeading_84 ?_
          refine lv_istore (lv' := [(4, .int (x4 ||| (1 <<< (x5 &&& 31)))), (0, .ref h_this), (3, .int x3), (5, .int x5)]) hx hb dX5_menuHeading_85 hl (by decide) rfl (fun ls hl => ?_)
          exact L87 _ _ _ _ h _ _ _ hP hD hS (lv_sub hl [1, 2, 0, 3] rfl)
  have L13 : ∀ (n : Nat) (g_tally : Nat → Int32) (x1 : Int32) (x3 : Int32) (x4 : Int32), f_X5_menuHeading_L13 g_above g_home f_p2_size g_p2_words n g_tally x1 x3 x4 = some (r0, o_g_tally) → ∀ (H : Heap) (locs : List Loc) (ls : Array Slot), va_P D vwCl [(h_this, .inr (5, [.int f_lists, .ref h_sizes, .ref h_above, .ref h_placeAbove, .ref h_items, .ref h_home, .ref h_placeHome, .ref h_tally])), (h_above, .inl (cy 0, 80, .inl g_above)), (h_home, .inl (cy 0, 40, .inl g_home)), (h_tally, .inl (cy 0, 24, .inl g_tally)), (h_p2, .inr (6, [.int f_p2_size, .ref h_p2_counts, .ref h_p2_words, .ref h_p2_settings])), (h_p2_words, .inl (cy 0, 40, .inl g_p2_words))] H → va_D A [(h_this, .inr (5, [.int f_lists, .ref h_sizes, .ref h_above, .ref h_placeAbove, .ref h_items, .ref h_home, .ref h_placeHome, .ref h_tally])), (h_above, .inl (cy 0, 80, .inl g_above)), (h_home, .inl (cy 0, 40, .inl g_home)), (h_tally, .inl (cy 0, 24, .inl g_tally)), (h_p2, .inr (6, [.int f_p2_size, .ref h_p2_counts, .ref h_p2_words, .ref h_p2_settings])), (h_p2_words, .inl (cy 0, 40, .inl g_p2_words))] → va_S A s.heap H locs → lv_has ls 6 [(0, .ref h_this), (1, .int x1), (2, .ref h_p2), (3, .int x3), (4, .int x4)] → W p l e rm_X5_menuHeading s m ([.ref h_this, .int a1, .ref h_p2]).toArray below meth c H locs 0 0 (MQ below (QI D cy A r0 [(h_this, .inr (5, [.int f_lists, .ref h_sizes, .ref h_above, .ref h_placeAbove, .ref h_items, .ref h_home, .ref h_placeHome, .ref h_tally])), (h_above, .inl (cy 0, 80, .inl g_above)), (h_home, .inl (cy 0, 40, .inl g_home)), (h_tally, .inl (cy 0, 24, .inl o_g_tally)), (h_p2, .inr (6, [.int f_p2_size, .ref h_p2_counts, .ref h_p2_words, .ref h_p2_settings])), (h_p2_words, .inl (cy 0, 40, .inl g_p2_words))]) ([.ref h_this, .int a1, .ref h_p2]).toArray s 0 0 A) (F0 m 13 ls []) := by
    intro n
    induction n with
    | zero => intro g_tally x1 x3 x4 h; exact absurd (show (none : Option _) = some _ from h) (by intro q; cases q)
    | succ n13 ih13 =>
      intro g_tally x1 x3 x4 h H locs ls hP hD hS hl
      replace h : f_X5_menuHeading_L13_F g_above g_home f_p2_size g_p2_words (f_X5_menuHeading_L13 g_above g_home f_p2_size g_p2_words n13) g_tally x1 x3 x4 = some (r0, o_g_tally) := h
      unfold f_X5_menuHeading_L13_F at h
      have L46 : ∀ (g_tally : Nat → Int32) (x1 : Int32) (x3 : Int32) (x4 : Int32), f_X5_menuHeading_L46 (f_X5_menuHeading_L13 g_above g_home f_p2_size g_p2_words n13) g_tally x1 x3 x4 = some (r0, o_g_tally) → ∀ (H : Heap) (locs : List Loc) (ls : Array Slot), va_P D vwCl [(h_this, .inr (5, [.int f_lists, .ref h_sizes, .ref h_above, .ref h_placeAbove, .ref h_items, .ref h_home, .ref h_placeHome, .ref h_tally])), (h_above, .inl (cy 0, 80, .inl g_above)), (h_home, .inl (cy 0, 40, .inl g_home)), (h_tally, .inl (cy 0, 24, .inl g_tally)), (h_p2, .inr (6, [.int f_p2_size, .ref h_p2_counts, .ref h_p2_words, .ref h_p2_settings])), (h_p2_words, .inl (cy 0, 40, .inl g_p2_words))] H → va_D A [(h_this, .inr (5, [.int f_lists, .ref h_sizes, .ref h_above, .ref h_placeAbove, .ref h_items, .ref h_home, .ref h_placeHome, .ref h_tally])), (h_above, .inl (cy 0, 80, .inl g_above)), (h_home, .inl (cy 0, 40, .inl g_home)), (h_tally, .inl (cy 0, 24, .inl g_tally)), (h_p2, .inr (6, [.int f_p2_size, .ref h_p2_counts, .ref h_p2_words, .ref h_p2_settings])), (h_p2_words, .inl (cy 0, 40, .inl g_p2_words))] → va_S A s.heap H locs → lv_has ls 6 [(0, .ref h_this), (1, .int x1), (2, .ref h_p2), (3, .int x3), (4, .int x4)] → W p l e rm_X5_menuHeading s m ([.ref h_this, .int a1, .ref h_p2]).toArray below meth c H locs 0 0 (MQ below (QI D cy A r0 [(h_this, .inr (5, [.int f_lists, .ref h_sizes, .ref h_above, .ref h_placeAbove, .ref h_items, .ref h_home, .ref h_placeHome, .ref h_tally])), (h_above, .inl (cy 0, 80, .inl g_above)), (h_home, .inl (cy 0, 40, .inl g_home)), (h_tally, .inl (cy 0, 24, .inl o_g_tally)), (h_p2, .inr (6, [.int f_p2_size, .ref h_p2_counts, .ref h_p2_words, .ref h_p2_settings])), (h_p2_words, .inl (cy 0, 40, .inl g_p2_words))]) ([.ref h_this, .int a1, .ref h_p2]).toArray s 0 0 A) (F0 m 46 ls []) := by
        intro g_tally x1 x3 x4 h H locs ls hP hD hS hl
        unfold f_X5_menuHeading_L46 at h
        refine lv_iinc (v := (x4 + 1)) (lv' := [(4, .int (x4 + 1)), (0, .ref h_this), (1, .int x1), (2, .ref h_p2), (3, .int x3)]) hx hb dX5_menuHeading_46 hl (k := 4) rfl rfl (by decide) rfl (fun ls hl => ?_)
        refine lv_goto (tgt := 13) hx hb dX5_menuHeading_49 (by decide) ?_
        exact ih13 _ _ _ _ h _ _ _ hP hD hS (lv_sub hl [1, 2, 3, 4, 0] rfl)
      refine lv_iload hx hb dX5_menuHeading_13 (lv_at hl 4 rfl) ?_
      refine lv_aload_n hx hb dX5_menuHeading_15 rfl (lv_at hl 2 rfl) ?_
      refine va_get (D := D) (ci := 6) (v := .int f_p2_size) (C := RX6) (T := TX6) (N := 4) hx hb hts hinX6 hown hK hP 4 rfl rfl 0 (by decide) wf50 (fun _ h9 => h9) rfl dX5_menuHeading_16 ?_
      refine lv_icmp_ge (tgt := 52) hx hb dX5_menuHeading_19 (by decide) (fun hc => ?_) (fun hc => ?_)
      · replace h := it_1 h hc
        refine lv_iconst (v := 0) hx hb dX5_menuHeading_52 (by decide) ?_
        refine lv_istore (lv' := [(4, .int 0), (0, .ref h_this), (1, .int x1), (2, .ref h_p2), (3, .int x3)]) hx hb dX5_menuHeading_53 hl (by decide) rfl (fun ls hl => ?_)
        refine lv_iconst (v := 0) hx hb dX5_menuHeading_55 (by decide) ?_
        refine lv_istore (lv' := [(5, .int 0), (4, .int 0), (0, .ref h_this), (1, .int x1), (2, .ref h_p2), (3, .int x3)]) hx hb dX5_menuHeading_56 hl (by decide) rfl (fun ls hl => ?_)
        exact L58 FU _ _ _ _ h _ _ _ hP hD hS (lv_sub hl [2, 5, 1, 0] rfl)
      · replace h := it_0 h hc
        refine lv_aload_n hx hb dX5_menuHeading_22 rfl (lv_at hl 0 rfl) ?_
        refine lv_iload hx hb dX5_menuHeading_23 (lv_at hl 4 rfl) ?_
        refine lv_iload_n hx hb dX5_menuHeading_25 rfl (lv_at hl 1 rfl) ?_
        obtain ⟨r_1, hu, h⟩ := ob_1 h
        refine cl_Vi (As := [.int x4, .int x1]) (rest := []) [0, 1, 2] [3, 4, 5] [3, 4, 5, 0, 1, 2] [(h_tally, .inl (cy 0, 24, .inl g_tally)), (h_p2, .inr (6, [.int f_p2_size, .ref h_p2_counts, .ref h_p2_words, .ref h_p2_settings])), (h_p2_words, .inl (cy 0, 40, .inl g_p2_words))] [(h_this, .inr (5, [.int f_lists, .ref h_sizes, .ref h_above, .ref h_placeAbove, .ref h_items, .ref h_home, .ref h_placeHome, .ref h_tally])), (h_above, .inl (cy 0, 80, .inl g_above)), (h_home, .inl (cy 0, 40, .inl g_home)), (h_tally, .inl (cy 0, 24, .inl g_tally)), (h_p2, .inr (6, [.int f_p2_size, .ref h_p2_counts, .ref h_p2_words, .ref h_p2_settings])), (h_p2_words, .inl (cy 0, 40, .inl g_p2_words))] 5 ⟨hx, hb, hml, hown, hts⟩ (c_X5_isUnder (l := l) (D := D) (cy := cy) (sz := _) (h_this := h_this) (h_above := h_above) (h_home := h_home) (h_sizes := h_sizes) (h_placeAbove := h_placeAbove) (h_items := h_items) (h_placeHome := h_placeHome) (h_tally := h_tally) (f_lists := f_lists) (g_above := g_above) (g_home := g_home) (a1 := x4) (a2 := x1) (r0 := r_1) (hf := hu)) (cwV 2 hts gX5_menuHeading_X5_isUnder rfl rfl rfl (by decide +kernel) ⟨Nat.le_of_ble_eq_true rfl, Nat.le_of_ble_eq_true rfl⟩) hK hP hD hS hA rfl rfl rfl rfl (by decide) rfl rfl rfl rfl rfl rfl rfl rfl hl.1 rfl (Nat.le_of_ble_eq_true rfl) dX5_menuHeading_26 ⟨Nat.zero_le _, Nat.zero_le _⟩ (fun H locs hP hD hS => ?_)
        refine lv_if_eq (tgt := 46) hx hb dX5_menuHeading_29 (by decide) (fun hc => ?_) (fun hc => ?_)
        · replace h := it_1 h hc
          exact L46 _ _ _ _ h _ _ _ hP hD hS (lv_sub hl [0, 1, 2, 3, 4] rfl)
        · replace h := it_0 h hc
          refine lv_iinc (v := (x3 + 1)) (lv' := [(3, .int (x3 + 1)), (0, .ref h_this), (1, .int x1), (2, .ref h_p2), (4, .int x4)]) hx hb dX5_menuHeading_32 hl (k := 3) rfl rfl (by decide) rfl (fun ls hl => ?_)
          refine lv_aload_n hx hb dX5_menuHeading_35 rfl (lv_at hl 1 rfl) ?_
          refine lv_aload_n hx hb dX5_menuHeading_36 rfl (lv_at hl 3 rfl) ?_
          refine va_get (D := D) (ci := 6) (v := .ref h_p2_words) (C := RX6) (T := TX6) (N := 4) hx hb hts hinX6 hown hK hP 4 rfl rfl 2 (by decide) wf78 (fun _ h9 => h9) rfl dX5_menuHeading_37 ?_
          refine lv_iload hx hb dX5_menuHeading_40 (lv_at hl 4 rfl) ?_
          have hi := gi_1 h; replace h := gi_2 h
          refine va_iald hx hb hK hP 5 0 rfl rfl hi dX5_menuHeading_42 ?_
          obtain ⟨g_tally_2, hu, h⟩ := ob_1 h
          refine cl_Vv (As := [.int (g_p2_words (Int32.toNatClampNeg x4))]) (rest := []) [0, 3] [1, 2, 4, 5] [4, 0, 1, 5, 2, 3] [(h_above, .inl (cy 0, 80, .inl g_above)), (h_home, .inl (cy 0, 40, .inl g_home)), (h_p2, .inr (6, [.int f_p2_size, .ref h_p2_counts, .ref h_p2_words, .ref h_p2_settings])), (h_p2_words, .inl (cy 0, 40, .inl g_p2_words))] [(h_this, .inr (5, [.int f_lists, .ref h_sizes, .ref h_above, .ref h_placeAbove, .ref h_items, .ref h_home, .ref h_placeHome, .ref h_tally])), (h_above, .inl (cy 0, 80, .inl g_above)), (h_home, .inl (cy 0, 40, .inl g_home)), (h_tally, .inl (cy 0, 24, .inl g_tally_2)), (h_p2, .inr (6, [.int f_p2_size, .ref h_p2_counts, .ref h_p2_words, .ref h_p2_settings])), (h_p2_words, .inl (cy 0, 40, .inl g_p2_words))] 5 ⟨hx, hb, hml, hown, hts⟩ (c_X5_tallyWords (l := l) (D := D) (cy := cy) (sz := _) (h_this := h_this) (h_tally := h_tally) (h_sizes := h_sizes) (h_above := h_above) (h_placeAbove := h_placeAbove) (h_items := h_items) (h_home := h_home) (h_placeHome := h_placeHome) (f_lists := f_lists) (g_tally := g_tally) (a1 := (g_p2_words (Int32.toNatClampNeg x4))) (o_g_tally := g_tally_2) (hf := hu)) (cwV 1 hts gX5_menuHeading_X5_tallyWords rfl rfl rfl (by decide +kernel) ⟨Nat.le_of_ble_eq_true rfl, Nat.le_of_ble_eq_true rfl⟩) hK hP hD hS hA rfl rfl rfl rfl (by decide) rfl rfl rfl rfl rfl rfl rfl rfl hl.1 rfl (Nat.le_of_ble_eq_true rfl) dX5_menuHeading_43 ⟨Nat.zero_le _, Nat.zero_le _⟩ (fun H locs hP hD hS => ?_)
          exact L46 _ _ _ _ h _ _ _ hP hD hS (lv_sub hl [1, 2, 3, 0, 4] rfl)
  clear hf
  refine lv_aload_n hx hb dX5_menuHeading_0 rfl (lv_at hl 0 rfl) ?_
  refine va_get (D := D) (ci := 5) (v := .ref h_tally) (C := RX5) (T := TX5) (N := 8) hx hb hts hinX5 hown hK hP 0 rfl rfl 7 (by decide) wf34 (fun _ h9 => h9) rfl dX5_menuHeading_1 ?_
  refine lv_iconst (v := 0) hx hb dX5_menuHeading_4 (by decide) ?_
  obtain ⟨g_tally_3, hu, h⟩ := ob_1 h
  refine cl_Sv (As := [.ref h_tally, .int 0]) (rest := []) [3] [0, 1, 2, 4, 5] [0, 1, 2, 5, 3, 4] [(h_this, .inr (5, [.int f_lists, .ref h_sizes, .ref h_above, .ref h_placeAbove, .ref h_items, .ref h_home, .ref h_placeHome, .ref h_tally])), (h_above, .inl (cy 0, 80, .inl g_above)), (h_home, .inl (cy 0, 40, .inl g_home)), (h_p2, .inr (6, [.int f_p2_size, .ref h_p2_counts, .ref h_p2_words, .ref h_p2_settings])), (h_p2_words, .inl (cy 0, 40, .inl g_p2_words))] [(h_this, .inr (5, [.int f_lists, .ref h_sizes, .ref h_above, .ref h_placeAbove, .ref h_items, .ref h_home, .ref h_placeHome, .ref h_tally])), (h_above, .inl (cy 0, 80, .inl g_above)), (h_home, .inl (cy 0, 40, .inl g_home)), (h_tally, .inl (cy 0, 24, .inl g_tally_3)), (h_p2, .inr (6, [.int f_p2_size, .ref h_p2_counts, .ref h_p2_words, .ref h_p2_settings])), (h_p2_words, .inl (cy 0, 40, .inl g_p2_words))] ⟨hx, hb, hml, hown, hts⟩ (c_J7_fill_53178 (l := l) (D := D) (cy := cy) (sz := _) (h_p0 := h_tally) (g_p0 := g_tally) (a1 := 0) (o_g_p0 := g_tally_3) (hf := hu)) (va_cwS 2 hts gX5_menuHeading_J7_fill_53178 rfl rfl rfl (by decide +kernel) ⟨Nat.le_of_ble_eq_true rfl, Nat.le_of_ble_eq_true rfl⟩) hK hP hD hS hA rfl rfl rfl rfl (by decide) rfl rfl rfl rfl rfl hl.1 rfl (Nat.le_of_ble_eq_true rfl) dX5_menuHeading_5 ⟨Nat.zero_le _, Nat.zero_le _⟩ (fun H locs hP hD hS => ?_)
  refine lv_iconst (v := 0) hx hb dX5_menuHeading_8 (by decide) ?_
  refine lv_istore_n (lv' := [(3, .int 0), (0, .ref h_this), (1, .int a1), (2, .ref h_p2)]) hx hb dX5_menuHeading_9 rfl hl (by decide) rfl (fun ls hl => ?_)
  refine lv_iconst (v := 0) hx hb dX5_menuHeading_10 (by decide) ?_
  refine lv_istore (lv' := [(4, .int 0), (3, .int 0), (0, .ref h_this), (1, .int a1), (2, .ref h_p2)]) hx hb dX5_menuHeading_11 hl (by decide) rfl (fun ls hl => ?_)
  exact L13 FU _ _ _ _ h _ _ _ hP hD hS (lv_sub hl [2, 3, 4, 1, 0] rfl)
abbrev rm_X5_sharedWords : Room := { frames := 2, cells := 0, slots := 0, locals := 49 }
set_option maxHeartbeats 4000000 in
set_option maxRecDepth 100000 in
theorem c_X5_sharedWords (l : Launch) (D : va_G) (cy : Nat → ClassId) (h_this h_sizes h_above h_placeAbove h_items h_home h_placeHome h_tally h_p3 h_p3_counts h_p3_words h_p3_settings : Nat)    (sz : Nat) (f_lists : Int32) (g_above : Nat → Int32) (g_home : Nat → Int32) (g_tally : Nat → Int32) (f_p3_size : Int32) (g_p3_words : Nat → Int32) (a1 : Int32) (a2 : Int32) (r0 : Int32) (o_g_tally : Nat → Int32) (hf : f_X5_sharedWords g_above g_home f_p3_size g_p3_words g_tally a1 a2 = some (r0, o_g_tally)) : MI l yX5_sharedWords wsX5_sharedWords rm_X5_sharedWords D cy [.ref h_this, .int a1, .int a2, .ref h_p3] sz [(h_this, .inr (5, [.int f_lists, .ref h_sizes, .ref h_above, .ref h_placeAbove, .ref h_items, .ref h_home, .ref h_placeHome, .ref h_tally])), (h_above, .inl (cy 0, 80, .inl g_above)), (h_home, .inl (cy 0, 40, .inl g_home)), (h_tally, .inl (cy 0, 24, .inl g_tally)), (h_p3, .inr (6, [.int f_p3_size, .ref h_p3_counts, .ref h_p3_words, .ref h_p3_settings])), (h_p3_words, .inl (cy 0, 40, .inl g_p3_words))] r0 [(h_this, .inr (5, [.int f_lists, .ref h_sizes, .ref h_above, .ref h_placeAbove, .ref h_items, .ref h_home, .ref h_placeHome, .ref h_tally])), (h_above, .inl (cy 0, 80, .inl g_above)), (h_home, .inl (cy 0, 40, .inl g_home)), (h_tally, .inl (cy 0, 24, .inl o_g_tally)), (h_p3, .inr (6, [.int f_p3_size, .ref h_p3_counts, .ref h_p3_words, .ref h_p3_settings])), (h_p3_words, .inl (cy 0, 40, .inl g_p3_words))] := by
  refine MI.of (cc := cX5_sharedWords) (maxL := 5) (ret := (some .int)) (by decide) rfl (Nat.le_of_ble_eq_true rfl) ?_
  intro p e s m below meth c A ls hx hb hml hown hts hlk hr hK hA hP hD hS hl
  have h := hf
  unfold f_X5_sharedWords at h
  have wf78 := hts (.fieldLink RX5 78 "MenuPlanner$Use" "words" "[I") (by decide +kernel)
  have hinX6 := (by decide +kernel : ∀ w ∈ u_ws RX6 TX6 4, w ∈ wsX5_sharedWords)
  replace hl : lv_has ls 5 [(0, .ref h_this), (1, .int a1), (2, .int a2), (3, .ref h_p3)] := hl
  have L21 : ∀ (g_tally : Nat → Int32) (x1 : Int32) (s0 : Int32), f_X5_sharedWords_L21 g_p3_words g_tally x1 s0 = some (r0, o_g_tally) → ∀ (H : Heap) (locs : List Loc) (ls : Array Slot), va_P D vwCl [(h_this, .inr (5, [.int f_lists, .ref h_sizes, .ref h_above, .ref h_placeAbove, .ref h_items, .ref h_home, .ref h_placeHome, .ref h_tally])), (h_above, .inl (cy 0, 80, .inl g_above)), (h_home, .inl (cy 0, 40, .inl g_home)), (h_tally, .inl (cy 0, 24, .inl g_tally)), (h_p3, .inr (6, [.int f_p3_size, .ref h_p3_counts, .ref h_p3_words, .ref h_p3_settings])), (h_p3_words, .inl (cy 0, 40, .inl g_p3_words))] H → va_D A [(h_this, .inr (5, [.int f_lists, .ref h_sizes, .ref h_above, .ref h_placeAbove, .ref h_items, .ref h_home, .ref h_placeHome, .ref h_tally])), (h_above, .inl (cy 0, 80, .inl g_above)), (h_home, .inl (cy 0, 40, .inl g_home)), (h_tally, .inl (cy 0, 24, .inl g_tally)), (h_p3, .inr (6, [.int f_p3_size, .ref h_p3_counts, .ref h_p3_words, .ref h_p3_settings])), (h_p3_words, .inl (cy 0, 40, .inl g_p3_words))] → va_S A s.heap H locs → lv_has ls 5 [(1, .int x1), (3, .ref h_p3)] → W p l e rm_X5_sharedWords s m ([.ref h_this, .int a1, .int a2, .ref h_p3]).toArray below meth c H locs 0 0 (MQ below (QI D cy A r0 [(h_this, .inr (5, [.int f_lists, .ref h_sizes, .ref h_above, .ref h_placeAbove, .ref h_items, .ref h_home, .ref h_placeHome, .ref h_tally])), (h_above, .inl (cy 0, 80, .inl g_above)), (h_home, .inl (cy 0, 40, .inl g_home)), (h_tally, .inl (cy 0, 24, .inl o_g_tally)), (h_p3, .inr (6, [.int f_p3_size, .ref h_p3_counts, .ref h_p3_words, .ref h_p3_settings])), (h_p3_words, .inl (cy 0, 40, .inl g_p3_words))]) ([.ref h_this, .int a1, .int a2, .ref h_p3]).toArray s 0 0 A) (F0 m 21 ls [.int s0]) := by
    intro g_tally x1 s0 h H locs ls hP hD hS hl
    unfold f_X5_sharedWords_L21 at h
    refine lv_istore (lv' := [(4, .int s0), (1, .int x1), (3, .ref h_p3)]) hx hb dX5_sharedWords_21 hl (by decide) rfl (fun ls hl => ?_)
    refine lv_aload_n hx hb dX5_sharedWords_23 rfl (lv_at hl 2 rfl) ?_
    refine va_get (D := D) (ci := 6) (v := .ref h_p3_words) (C := RX6) (T := TX6) (N := 4) hx hb hts hinX6 hown hK hP 4 rfl rfl 2 (by decide) wf78 (fun _ h9 => h9) rfl dX5_sharedWords_24 ?_
    refine lv_iload_n hx hb dX5_sharedWords_27 rfl (lv_at hl 1 rfl) ?_
    have hi := gi_1 h; replace h := gi_2 h
    refine va_iald hx hb hK hP 5 0 rfl rfl hi dX5_sharedWords_28 ?_
    refine lv_iload hx hb dX5_sharedWords_29 (lv_at hl 0 rfl) ?_
    refine lv_iand hx hb dX5_sharedWords_31 ?_
    obtain ⟨r_1, hu, h⟩ := ob_1 h
    refine cl_Si (As := [.int ((g_p3_words (Int32.toNatClampNeg x1)) &&& s0)]) (rest := []) [] [0, 1, 2, 3, 4, 5] [0, 1, 2, 3, 4, 5] [(h_this, .inr (5, [.int f_lists, .ref h_sizes, .ref h_above, .ref h_placeAbove, .ref h_items, .ref h_home, .ref h_placeHome, .ref h_tally])), (h_above, .inl (cy 0, 80, .inl g_above)), (h_home, .inl (cy 0, 40, .inl g_home)), (h_tally, .inl (cy 0, 24, .inl g_tally)), (h_p3, .inr (6, [.int f_p3_size, .ref h_p3_counts, .ref h_p3_words, .ref h_p3_settings])), (h_p3_words, .inl (cy 0, 40, .inl g_p3_words))] [(h_this, .inr (5, [.int f_lists, .ref h_sizes, .ref h_above, .ref h_placeAbove, .ref h_items, .ref h_home, .ref h_placeHome, .ref h_tally])), (h_above, .inl (cy 0, 80, .inl g_above)), (h_home, .inl (cy 0, 40, .inl g_home)), (h_tally, .inl (cy 0, 24, .inl g_tally)), (h_p3, .inr (6, [.int f_p3_size, .ref h_p3_counts, .ref h_p3_words, .ref h_p3_settings])), (h_p3_words, .inl (cy 0, 40, .inl g_p3_words))] ⟨hx, hb, hml, hown, hts⟩ (c_J6_bitCount_0f7a4 (l := l) (D := D) (cy := cy) (sz := _) (a0 := ((g_p3_words (Int32.toNatClampNeg x1)) &&& s0)) (r0 := r_1) (hf := hu)) (va_cwS 1 hts gX5_sharedWords_J6_bitCount_0f7a4 rfl rfl rfl (by decide +kernel) ⟨Nat.le_of_ble_eq_true rfl, Nat.le_of_ble_eq_true rfl⟩) hK hP hD hS hA rfl rfl rfl rfl (by decide) rfl rfl rfl rfl rfl hl.1 rfl (Nat.le_of_ble_eq_true rfl) dX5_sharedWords_32 ⟨Nat.zero_le _, Nat.zero_le _⟩ (fun H locs hP hD hS => ?_)
    obtain ⟨e0, e1⟩ := ret2 h
    exact rte_i e0 (by rw [← e1]) hx hb hr hlk rfl hK hP hD hS dX5_sharedWords_35
  clear hf
  refine lv_iload_n hx hb dX5_sharedWords_0 rfl (lv_at hl 2 rfl) ?_
  refine lv_if_lt (tgt := 13) hx hb dX5_sharedWords_1 (by decide) (fun hc => ?_) (fun hc => ?_)
  · replace h := it_1 h hc
    refine lv_aload_n hx hb dX5_sharedWords_13 rfl (lv_at hl 0 rfl) ?_
    refine lv_iload_n hx hb dX5_sharedWords_14 rfl (lv_at hl 2 rfl) ?_
    refine lv_iconst (v := (-1)) hx hb dX5_sharedWords_15 (by decide) ?_
    refine lv_ixor hx hb dX5_sharedWords_16 ?_
    refine lv_aload_n hx hb dX5_sharedWords_17 rfl (lv_at hl 3 rfl) ?_
    obtain ⟨r_3, g_tally_2, hu, h⟩ := ob2_1 h
    refine cl_Vi (As := [.int (a2 ^^^ (-1)), .ref h_p3]) (rest := []) [0, 1, 2, 3, 4, 5] [] [0, 1, 2, 3, 4, 5] [] [(h_this, .inr (5, [.int f_lists, .ref h_sizes, .ref h_above, .ref h_placeAbove, .ref h_items, .ref h_home, .ref h_placeHome, .ref h_tally])), (h_above, .inl (cy 0, 80, .inl g_above)), (h_home, .inl (cy 0, 40, .inl g_home)), (h_tally, .inl (cy 0, 24, .inl g_tally_2)), (h_p3, .inr (6, [.int f_p3_size, .ref h_p3_counts, .ref h_p3_words, .ref h_p3_settings])), (h_p3_words, .inl (cy 0, 40, .inl g_p3_words))] 5 ⟨hx, hb, hml, hown, hts⟩ (c_X5_menuHeading (l := l) (D := D) (cy := cy) (sz := _) (h_p2 := h_p3) (h_p2_words := h_p3_words) (h_this := h_this) (h_above := h_above) (h_home := h_home) (h_tally := h_tally) (h_p2_counts := h_p3_counts) (h_p2_settings := h_p3_settings) (h_sizes := h_sizes) (h_placeAbove := h_placeAbove) (h_items := h_items) (h_placeHome := h_placeHome) (f_lists := f_lists) (g_above := g_above) (g_home := g_home) (g_tally := g_tally) (f_p2_size := f_p3_size) (g_p2_words := g_p3_words) (a1 := (a2 ^^^ (-1))) (r0 := r_3) (o_g_tally := g_tally_2) (hf := hu)) (cwV 2 hts gX5_sharedWords_X5_menuHeading rfl rfl rfl (by decide +kernel) ⟨Nat.le_of_ble_eq_true rfl, Nat.le_of_ble_eq_true rfl⟩) hK hP hD hS hA rfl rfl rfl rfl (by decide) rfl rfl rfl rfl rfl rfl rfl rfl hl.1 rfl (Nat.le_of_ble_eq_true rfl) dX5_sharedWords_18 ⟨Nat.zero_le _, Nat.zero_le _⟩ (fun H locs hP hD hS => ?_)
    exact L21 _ _ _ h _ _ _ hP hD hS (lv_sub hl [1, 3] rfl)
  · replace h := it_0 h hc
    refine lv_aload_n hx hb dX5_sharedWords_4 rfl (lv_at hl 3 rfl) ?_
    refine va_get (D := D) (ci := 6) (v := .ref h_p3_words) (C := RX6) (T := TX6) (N := 4) hx hb hts hinX6 hown hK hP 4 rfl rfl 2 (by decide) wf78 (fun _ h9 => h9) rfl dX5_sharedWords_5 ?_
    refine lv_iload_n hx hb dX5_sharedWords_8 rfl (lv_at hl 2 rfl) ?_
    have hi := gi_1 h; replace h := gi_2 h
    refine va_iald hx hb hK hP 5 0 rfl rfl hi dX5_sharedWords_9 ?_
    refine lv_goto (tgt := 21) hx hb dX5_sharedWords_10 (by decide) ?_
    exact L21 _ _ _ h _ _ _ hP hD hS (lv_sub hl [1, 3] rfl)
abbrev rm_X5_misleadsAt : Room := { frames := 3, cells := 0, slots := 0, locals := 73 }
set_option maxHeartbeats 4000000 in
set_option maxRecDepth 100000 in
theorem c_X5_misleadsAt (l : Launch) (D : va_G) (cy : Nat → ClassId) (h_this h_sizes h_above h_placeAbove h_items h_home h_placeHome h_tally h_p3 h_p3_counts h_p3_words h_p3_settings : Nat)    (sz : Nat) (f_lists : Int32) (g_sizes : Nat → Int32) (g_above : Nat → Int32) (g_placeAbove : Nat → Int32) (g_items : Nat → Int32) (g_home : Nat → Int32) (g_placeHome : Nat → Int32) (g_tally : Nat → Int32) (f_p3_size : Int32) (g_p3_words : Nat → Int32) (a1 : Int32) (a2 : Int32) (r0 : Int32) (o_g_tally : Nat → Int32) (hf : f_X5_misleadsAt g_sizes g_above g_placeAbove g_items g_home g_placeHome f_p3_size g_p3_words g_tally a1 a2 = some (r0, o_g_tally)) : MI l yX5_misleadsAt wsX5_misleadsAt rm_X5_misleadsAt D cy [.ref h_this, .int a1, .int a2, .ref h_p3] sz [(h_this, .inr (5, [.int f_lists, .ref h_sizes, .ref h_above, .ref h_placeAbove, .ref h_items, .ref h_home, .ref h_placeHome, .ref h_tally])), (h_sizes, .inl (cy 0, 80, .inl g_sizes)), (h_above, .inl (cy 0, 80, .inl g_above)), (h_placeAbove, .inl (cy 0, 80, .inl g_placeAbove)), (h_items, .inl (cy 0, 720, .inl g_items)), (h_home, .inl (cy 0, 40, .inl g_home)), (h_placeHome, .inl (cy 0, 40, .inl g_placeHome)), (h_tally, .inl (cy 0, 24, .inl g_tally)), (h_p3, .inr (6, [.int f_p3_size, .ref h_p3_counts, .ref h_p3_words, .ref h_p3_settings])), (h_p3_words, .inl (cy 0, 40, .inl g_p3_words))] r0 [(h_this, .inr (5, [.int f_lists, .ref h_sizes, .ref h_above, .ref h_placeAbove, .ref h_items, .ref h_home, .ref h_placeHome, .ref h_tally])), (h_sizes, .inl (cy 0, 80, .inl g_sizes)), (h_above, .inl (cy 0, 80, .inl g_above)), (h_placeAbove, .inl (cy 0, 80, .inl g_placeAbove)), (h_items, .inl (cy 0, 720, .inl g_items)), (h_home, .inl (cy 0, 40, .inl g_home)), (h_placeHome, .inl (cy 0, 40, .inl g_placeHome)), (h_tally, .inl (cy 0, 24, .inl o_g_tally)), (h_p3, .inr (6, [.int f_p3_size, .ref h_p3_counts, .ref h_p3_words, .ref h_p3_settings])), (h_p3_words, .inl (cy 0, 40, .inl g_p3_words))] := by
  refine MI.of (cc := cX5_misleadsAt) (maxL := 8) (ret := (some .boolean)) (by decide) rfl (Nat.le_of_ble_eq_true rfl) ?_
  intro p e s m below meth c A ls hx hb hml hown hts hlk hr hK hA hP hD hS hl
  have h := hf
  unfold f_X5_misleadsAt at h
  have wf15 := hts (.fieldLink RX5 15 "MenuPlanner$Tree" "sizes" "[I") (by decide +kernel)
  have hinX5 := (by decide +kernel : ∀ w ∈ u_ws RX5 TX5 8, w ∈ wsX5_misleadsAt)
  replace hl : lv_has ls 8 [(0, .ref h_this), (1, .int a1), (2, .int a2), (3, .ref h_p3)] := hl
  have L35 : ∀ (n : Nat) (g_tally : Nat → Int32) (x1 : Int32) (x4 : Int32) (x5 : Int32) (x6 : Int32) (x7 : Int32), f_X5_misleadsAt_L35 g_sizes g_above g_items g_home f_p3_size g_p3_words n g_tally x1 x4 x5 x6 x7 = some (r0, o_g_tally) → ∀ (H : Heap) (locs : List Loc) (ls : Array Slot), va_P D vwCl [(h_this, .inr (5, [.int f_lists, .ref h_sizes, .ref h_above, .ref h_placeAbove, .ref h_items, .ref h_home, .ref h_placeHome, .ref h_tally])), (h_sizes, .inl (cy 0, 80, .inl g_sizes)), (h_above, .inl (cy 0, 80, .inl g_above)), (h_placeAbove, .inl (cy 0, 80, .inl g_placeAbove)), (h_items, .inl (cy 0, 720, .inl g_items)), (h_home, .inl (cy 0, 40, .inl g_home)), (h_placeHome, .inl (cy 0, 40, .inl g_placeHome)), (h_tally, .inl (cy 0, 24, .inl g_tally)), (h_p3, .inr (6, [.int f_p3_size, .ref h_p3_counts, .ref h_p3_words, .ref h_p3_settings])), (h_p3_words, .inl (cy 0, 40, .inl g_p3_words))] H → va_D A [(h_this, .inr (5, [.int f_lists, .ref h_sizes, .ref h_above, .ref h_placeAbove, .ref h_items, .ref h_home, .ref h_placeHome, .ref h_tally])), (h_sizes, .inl (cy 0, 80, .inl g_sizes)), (h_above, .inl (cy 0, 80, .inl g_above)), (h_placeAbove, .inl (cy 0, 80, .inl g_placeAbove)), (h_items, .inl (cy 0, 720, .inl g_items)), (h_home, .inl (cy 0, 40, .inl g_home)), (h_placeHome, .inl (cy 0, 40, .inl g_placeHome)), (h_tally, .inl (cy 0, 24, .inl g_tally)), (h_p3, .inr (6, [.int f_p3_size, .ref h_p3_counts, .ref h_p3_words, .ref h_p3_settings])), (h_p3_words, .inl (cy 0, 40, .inl g_p3_words))] → va_S A s.heap H locs → lv_has ls 8 [(0, .ref h_this), (1, .int x1), (3, .ref h_p3), (4, .int x4), (5, .int x5), (6, .int x6), (7, .int x7)] → W p l e rm_X5_misleadsAt s m ([.ref h_this, .int a1, .int a2, .ref h_p3]).toArray below meth c H locs 0 0 (MQ below (QI D cy A r0 [(h_this, .inr (5, [.int f_lists, .ref h_sizes, .ref h_above, .ref h_placeAbove, .ref h_items, .ref h_home, .ref h_placeHome, .ref h_tally])), (h_sizes, .inl (cy 0, 80, .inl g_sizes)), (h_above, .inl (cy 0, 80, .inl g_above)), (h_placeAbove, .inl (cy 0, 80, .inl g_placeAbove)), (h_items, .inl (cy 0, 720, .inl g_items)), (h_home, .inl (cy 0, 40, .inl g_home)), (h_placeHome, .inl (cy 0, 40, .inl g_placeHome)), (h_tally, .inl (cy 0, 24, .inl o_g_tally)), (h_p3, .inr (6, [.int f_p3_size, .ref h_p3_counts, .ref h_p3_words, .ref h_p3_settings])), (h_p3_words, .inl (cy 0, 40, .inl g_p3_words))]) ([.ref h_this, .int a1, .int a2, .ref h_p3]).toArray s 0 0 A) (F0 m 35 ls []) := by
    intro n
    induction n with
    | zero => intro g_tally x1 x4 x5 x6 x7 h; exact absurd (show (none : Option _) = some _ from h) (by intro q; cases q)
    | succ n35 ih35 =>
      intro g_tally x1 x4 x5 x6 x7 h H locs ls hP hD hS hl
      replace h : f_X5_misleadsAt_L35_F g_sizes g_above g_items g_home f_p3_size g_p3_words (f_X5_misleadsAt_L35 g_sizes g_above g_items g_home f_p3_size g_p3_words n35) g_tally x1 x4 x5 x6 x7 = some (r0, o_g_tally) := h
      unfold f_X5_misleadsAt_L35_F at h
      have L75 : ∀ (g_tally : Nat → Int32) (x1 : Int32) (x4 : Int32) (x5 : Int32) (x6 : Int32) (x7 : Int32), f_X5_misleadsAt_L75 (f_X5_misleadsAt_L35 g_sizes g_above g_items g_home f_p3_size g_p3_words n35) g_tally x1 x4 x5 x6 x7 = some (r0, o_g_tally) → ∀ (H : Heap) (locs : List Loc) (ls : Array Slot), va_P D vwCl [(h_this, .inr (5, [.int f_lists, .ref h_sizes, .ref h_above, .ref h_placeAbove, .ref h_items, .ref h_home, .ref h_placeHome, .ref h_tally])), (h_sizes, .inl (cy 0, 80, .inl g_sizes)), (h_above, .inl (cy 0, 80, .inl g_above)), (h_placeAbove, .inl (cy 0, 80, .inl g_placeAbove)), (h_items, .inl (cy 0, 720, .inl g_items)), (h_home, .inl (cy 0, 40, .inl g_home)), (h_placeHome, .inl (cy 0, 40, .inl g_placeHome)), (h_tally, .inl (cy 0, 24, .inl g_tally)), (h_p3, .inr (6, [.int f_p3_size, .ref h_p3_counts, .ref h_p3_words, .ref h_p3_settings])), (h_p3_words, .inl (cy 0, 40, .inl g_p3_words))] H → va_D A [(h_this, .inr (5, [.int f_lists, .ref h_sizes, .ref h_above, .ref h_placeAbove, .ref h_items, .ref h_home, .ref h_placeHome, .ref h_tally])), (h_sizes, .inl (cy 0, 80, .inl g_sizes)), (h_above, .inl (cy 0, 80, .inl g_above)), (h_placeAbove, .inl (cy 0, 80, .inl g_placeAbove)), (h_items, .inl (cy 0, 720, .inl g_items)), (h_home, .inl (cy 0, 40, .inl g_home)), (h_placeHome, .inl (cy 0, 40, .inl g_placeHome)), (h_tally, .inl (cy 0, 24, .inl g_tally)), (h_p3, .inr (6, [.int f_p3_size, .ref h_p3_counts, .ref h_p3_words, .ref h_p3_settings])), (h_p3_words, .inl (cy 0, 40, .inl g_p3_words))] → va_S A s.heap H locs → lv_has ls 8 [(0, .ref h_this), (1, .int x1), (3, .ref h_p3), (4, .int x4), (5, .int x5), (6, .int x6), (7, .int x7)] → W p l e rm_X5_misleadsAt s m ([.ref h_this, .int a1, .int a2, .ref h_p3]).toArray below meth c H locs 0 0 (MQ below (QI D cy A r0 [(h_this, .inr (5, [.int f_lists, .ref h_sizes, .ref h_above, .ref h_placeAbove, .ref h_items, .ref h_home, .ref h_placeHome, .ref h_tally])), (h_sizes, .inl (cy 0, 80, .inl g_sizes)), (h_above, .inl (cy 0, 80, .inl g_above)), (h_placeAbove, .inl (cy 0, 80, .inl g_placeAbove)), (h_items, .inl (cy 0, 720, .inl g_items)), (h_home, .inl (cy 0, 40, .inl g_home)), (h_placeHome, .inl (cy 0, 40, .inl g_placeHome)), (h_tally, .inl (cy 0, 24, .inl o_g_tally)), (h_p3, .inr (6, [.int f_p3_size, .ref h_p3_counts, .ref h_p3_words, .ref h_p3_settings])), (h_p3_words, .inl (cy 0, 40, .inl g_p3_words))]) ([.ref h_this, .int a1, .int a2, .ref h_p3]).toArray s 0 0 A) (F0 m 75 ls []) := by
        intro g_tally x1 x4 x5 x6 x7 h H locs ls hP hD hS hl
        unfold f_X5_misleadsAt_L75 at h
        refine lv_iinc (v := (x7 + 1)) (lv' := [(7, .int (x7 + 1)), (0, .ref h_this), (1, .int x1), (3, .ref h_p3), (4, .int x4), (5, .int x5), (6, .int x6)]) hx hb dX5_misleadsAt_75 hl (k := 6) rfl rfl (by decide) rfl (fun ls hl => ?_)
        refine lv_goto (tgt := 35) hx hb dX5_misleadsAt_78 (by decide) ?_
        exact ih35 _ _ _ _ _ _ h _ _ _ hP hD hS (lv_sub hl [1, 2, 3, 4, 5, 6, 0] rfl)
      refine lv_iload hx hb dX5_misleadsAt_35 (lv_at hl 6 rfl) ?_
      refine lv_aload_n hx hb dX5_misleadsAt_37 rfl (lv_at hl 0 rfl) ?_
      refine va_get (D := D) (ci := 5) (v := .ref h_sizes) (C := RX5) (T := TX5) (N := 8) hx hb hts hinX5 hown hK hP 0 rfl rfl 1 (by decide) wf15 (fun _ h9 => h9) rfl dX5_misleadsAt_38 ?_
      refine lv_iload hx hb dX5_misleadsAt_41 (lv_at hl 3 rfl) ?_
      have hi := gi_1 h; replace h := gi_2 h
      refine va_iald hx hb hK hP 1 0 rfl rfl hi dX5_misleadsAt_43 ?_
      refine lv_icmp_gt (tgt := 81) hx hb dX5_misleadsAt_44 (by decide) (fun hc => ?_) (fun hc => ?_)
      · replace h := it_1 h hc
        refine lv_iconst (v := 0) hx hb dX5_misleadsAt_81 (by decide) ?_
        obtain ⟨e0, e1⟩ := ret2 h
        exact rte_i e0 (by rw [← e1]) hx hb hr hlk rfl hK hP hD hS dX5_misleadsAt_82
      · replace h := it_0 h hc
        refine lv_iload hx hb dX5_misleadsAt_47 (lv_at hl 6 rfl) ?_
        refine lv_iload hx hb dX5_misleadsAt_49 (lv_at hl 4 rfl) ?_
        refine lv_icmp_eq (tgt := 75) hx hb dX5_misleadsAt_51 (by decide) (fun hc => ?_) (fun hc => ?_)
        · replace h := it_1 h hc
          exact L75 _ _ _ _ _ _ h _ _ _ hP hD hS (lv_sub hl [0, 1, 2, 3, 4, 5, 6] rfl)
        · replace h := it_0 h hc
          refine lv_aload_n hx hb dX5_misleadsAt_54 rfl (lv_at hl 0 rfl) ?_
          refine lv_iload_n hx hb dX5_misleadsAt_55 rfl (lv_at hl 1 rfl) ?_
          refine lv_aload_n hx hb dX5_misleadsAt_56 rfl (lv_at hl 0 rfl) ?_
          refine lv_iload hx hb dX5_misleadsAt_57 (lv_at hl 3 rfl) ?_
          refine lv_iload hx hb dX5_misleadsAt_59 (lv_at hl 6 rfl) ?_
          obtain ⟨r_1, hu, h⟩ := ob_1 h
          refine cl_Vi (As := [.int x4, .int x7]) (rest := [.int x1, .ref h_this]) [0, 4] [1, 2, 3, 5, 6, 7, 8, 9] [8, 0, 1, 2, 9, 3, 4, 5, 6, 7] [(h_sizes, .inl (cy 0, 80, .inl g_sizes)), (h_above, .inl (cy 0, 80, .inl g_above)), (h_placeAbove, .inl (cy 0, 80, .inl g_placeAbove)), (h_home, .inl (cy 0, 40, .inl g_home)), (h_placeHome, .inl (cy 0, 40, .inl g_placeHome)), (h_tally, .inl (cy 0, 24, .inl g_tally)), (h_p3, .inr (6, [.int f_p3_size, .ref h_p3_counts, .ref h_p3_words, .ref h_p3_settings])), (h_p3_words, .inl (cy 0, 40, .inl g_p3_words))] [(h_this, .inr (5, [.int f_lists, .ref h_sizes, .ref h_above, .ref h_placeAbove, .ref h_items, .ref h_home, .ref h_placeHome, .ref h_tally])), (h_sizes, .inl (cy 0, 80, .inl g_sizes)), (h_above, .inl (cy 0, 80, .inl g_above)), (h_placeAbove, .inl (cy 0, 80, .inl g_placeAbove)), (h_items, .inl (cy 0, 720, .inl g_items)), (h_home, .inl (cy 0, 40, .inl g_home)), (h_placeHome, .inl (cy 0, 40, .inl g_placeHome)), (h_tally, .inl (cy 0, 24, .inl g_tally)), (h_p3, .inr (6, [.int f_p3_size, .ref h_p3_counts, .ref h_p3_words, .ref h_p3_settings])), (h_p3_words, .inl (cy 0, 40, .inl g_p3_words))] 5 ⟨hx, hb, hml, hown, hts⟩ (c_X5_itemAt (l := l) (D := D) (cy := cy) (sz := _) (h_this := h_this) (h_items := h_items) (h_sizes := h_sizes) (h_above := h_above) (h_placeAbove := h_placeAbove) (h_home := h_home) (h_placeHome := h_placeHome) (h_tally := h_tally) (f_lists := f_lists) (g_items := g_items) (a1 := x4) (a2 := x7) (r0 := r_1) (hf := hu)) (cwV 2 hts gX5_misleadsAt_X5_itemAt rfl rfl rfl (by decide +kernel) ⟨Nat.le_of_ble_eq_true rfl, Nat.le_of_ble_eq_true rfl⟩) hK hP hD hS hA rfl rfl rfl rfl (by decide) rfl rfl rfl rfl rfl rfl rfl rfl hl.1 rfl (Nat.le_of_ble_eq_true rfl) dX5_misleadsAt_61 ⟨Nat.zero_le _, Nat.zero_le _⟩ (fun H locs hP hD hS => ?_)
          refine lv_aload_n hx hb dX5_misleadsAt_64 rfl (lv_at hl 2 rfl) ?_
          obtain ⟨r_3, g_tally_2, hu, h⟩ := ob2_1 h
          refine cl_Vi (As := [.int x1, .int r_1, .ref h_p3]) (rest := []) [0, 2, 5, 7, 8, 9] [1, 3, 4, 6] [4, 0, 5, 1, 2, 6, 3, 7, 8, 9] [(h_sizes, .inl (cy 0, 80, .inl g_sizes)), (h_placeAbove, .inl (cy 0, 80, .inl g_placeAbove)), (h_items, .inl (cy 0, 720, .inl g_items)), (h_placeHome, .inl (cy 0, 40, .inl g_placeHome))] [(h_this, .inr (5, [.int f_lists, .ref h_sizes, .ref h_above, .ref h_placeAbove, .ref h_items, .ref h_home, .ref h_placeHome, .ref h_tally])), (h_sizes, .inl (cy 0, 80, .inl g_sizes)), (h_above, .inl (cy 0, 80, .inl g_above)), (h_placeAbove, .inl (cy 0, 80, .inl g_placeAbove)), (h_items, .inl (cy 0, 720, .inl g_items)), (h_home, .inl (cy 0, 40, .inl g_home)), (h_placeHome, .inl (cy 0, 40, .inl g_placeHome)), (h_tally, .inl (cy 0, 24, .inl g_tally_2)), (h_p3, .inr (6, [.int f_p3_size, .ref h_p3_counts, .ref h_p3_words, .ref h_p3_settings])), (h_p3_words, .inl (cy 0, 40, .inl g_p3_words))] 5 ⟨hx, hb, hml, hown, hts⟩ (c_X5_sharedWords (l := l) (D := D) (cy := cy) (sz := _) (h_p3 := h_p3) (h_p3_words := h_p3_words) (h_this := h_this) (h_above := h_above) (h_home := h_home) (h_tally := h_tally) (h_p3_counts := h_p3_counts) (h_p3_settings := h_p3_settings) (h_sizes := h_sizes) (h_placeAbove := h_placeAbove) (h_items := h_items) (h_placeHome := h_placeHome) (f_lists := f_lists) (g_above := g_above) (g_home := g_home) (g_tally := g_tally) (f_p3_size := f_p3_size) (g_p3_words := g_p3_words) (a1 := x1) (a2 := r_1) (r0 := r_3) (o_g_tally := g_tally_2) (hf := hu)) (cwV 3 hts gX5_misleadsAt_X5_sharedWords rfl rfl rfl (by decide +kernel) ⟨Nat.le_of_ble_eq_true rfl, Nat.le_of_ble_eq_true rfl⟩) hK hP hD hS hA rfl rfl rfl rfl (by decide) rfl rfl rfl rfl rfl rfl rfl rfl hl.1 rfl (Nat.le_of_ble_eq_true rfl) dX5_misleadsAt_65 ⟨Nat.zero_le _, Nat.zero_le _⟩ (fun H locs hP hD hS => ?_)
          refine lv_iload hx hb dX5_misleadsAt_68 (lv_at hl 5 rfl) ?_
          refine lv_icmp_lt (tgt := 75) hx hb dX5_misleadsAt_70 (by decide) (fun hc => ?_) (fun hc => ?_)
          · replace h := it_1 h hc
            exact L75 _ _ _ _ _ _ h _ _ _ hP hD hS (lv_sub hl [0, 1, 2, 3, 4, 5, 6] rfl)
          · replace h := it_0 h hc
            refine lv_iconst (v := 1) hx hb dX5_misleadsAt_73 (by decide) ?_
            obtain ⟨e0, e1⟩ := ret2 h
            exact rte_i e0 (by rw [← e1]) hx hb hr hlk rfl hK hP hD hS dX5_misleadsAt_74
  clear hf
  refine lv_aload_n hx hb dX5_misleadsAt_0 rfl (lv_at hl 0 rfl) ?_
  refine lv_iload_n hx hb dX5_misleadsAt_1 rfl (lv_at hl 1 rfl) ?_
  refine lv_iload_n hx hb dX5_misleadsAt_2 rfl (lv_at hl 2 rfl) ?_
  obtain ⟨r_4, hu, h⟩ := ob_1 h
  refine cl_Vi (As := [.int a1, .int a2]) (rest := []) [0, 2, 5] [1, 3, 4, 6, 7, 8, 9] [7, 0, 8, 1, 2, 9, 3, 4, 5, 6] [(h_sizes, .inl (cy 0, 80, .inl g_sizes)), (h_placeAbove, .inl (cy 0, 80, .inl g_placeAbove)), (h_items, .inl (cy 0, 720, .inl g_items)), (h_placeHome, .inl (cy 0, 40, .inl g_placeHome)), (h_tally, .inl (cy 0, 24, .inl g_tally)), (h_p3, .inr (6, [.int f_p3_size, .ref h_p3_counts, .ref h_p3_words, .ref h_p3_settings])), (h_p3_words, .inl (cy 0, 40, .inl g_p3_words))] [(h_this, .inr (5, [.int f_lists, .ref h_sizes, .ref h_above, .ref h_placeAbove, .ref h_items, .ref h_home, .ref h_placeHome, .ref h_tally])), (h_sizes, .inl (cy 0, 80, .inl g_sizes)), (h_above, .inl (cy 0, 80, .inl g_above)), (h_placeAbove, .inl (cy 0, 80, .inl g_placeAbove)), (h_items, .inl (cy 0, 720, .inl g_items)), (h_home, .inl (cy 0, 40, .inl g_home)), (h_placeHome, .inl (cy 0, 40, .inl g_placeHome)), (h_tally, .inl (cy 0, 24, .inl g_tally)), (h_p3, .inr (6, [.int f_p3_size, .ref h_p3_counts, .ref h_p3_words, .ref h_p3_settings])), (h_p3_words, .inl (cy 0, 40, .inl g_p3_words))] 5 ⟨hx, hb, hml, hown, hts⟩ (c_X5_listOnWay (l := l) (D := D) (cy := cy) (sz := _) (h_this := h_this) (h_above := h_above) (h_home := h_home) (h_sizes := h_sizes) (h_placeAbove := h_placeAbove) (h_items := h_items) (h_placeHome := h_placeHome) (h_tally := h_tally) (f_lists := f_lists) (g_above := g_above) (g_home := g_home) (a1 := a1) (a2 := a2) (r0 := r_4) (hf := hu)) (cwV 2 hts gX5_misleadsAt_X5_listOnWay rfl rfl rfl (by decide +kernel) ⟨Nat.le_of_ble_eq_true rfl, Nat.le_of_ble_eq_true rfl⟩) hK hP hD hS hA rfl rfl rfl rfl (by decide) rfl rfl rfl rfl rfl rfl rfl rfl hl.1 rfl (Nat.le_of_ble_eq_true rfl) dX5_misleadsAt_3 ⟨Nat.zero_le _, Nat.zero_le _⟩ (fun H locs hP hD hS => ?_)
  refine lv_istore (lv' := [(4, .int r_4), (0, .ref h_this), (1, .int a1), (2, .int a2), (3, .ref h_p3)]) hx hb dX5_misleadsAt_6 hl (by decide) rfl (fun ls hl => ?_)
  refine lv_aload_n hx hb dX5_misleadsAt_8 rfl (lv_at hl 1 rfl) ?_
  refine lv_iload_n hx hb dX5_misleadsAt_9 rfl (lv_at hl 2 rfl) ?_
  refine lv_iload_n hx hb dX5_misleadsAt_10 rfl (lv_at hl 3 rfl) ?_
  obtain ⟨r_5, hu, h⟩ := ob_1 h
  refine cl_Vi (As := [.int a1, .int a2]) (rest := []) [0, 2, 3, 5, 6] [1, 4, 7, 8, 9] [5, 0, 6, 7, 1, 8, 9, 2, 3, 4] [(h_sizes, .inl (cy 0, 80, .inl g_sizes)), (h_items, .inl (cy 0, 720, .inl g_items)), (h_tally, .inl (cy 0, 24, .inl g_tally)), (h_p3, .inr (6, [.int f_p3_size, .ref h_p3_counts, .ref h_p3_words, .ref h_p3_settings])), (h_p3_words, .inl (cy 0, 40, .inl g_p3_words))] [(h_this, .inr (5, [.int f_lists, .ref h_sizes, .ref h_above, .ref h_placeAbove, .ref h_items, .ref h_home, .ref h_placeHome, .ref h_tally])), (h_sizes, .inl (cy 0, 80, .inl g_sizes)), (h_above, .inl (cy 0, 80, .inl g_above)), (h_placeAbove, .inl (cy 0, 80, .inl g_placeAbove)), (h_items, .inl (cy 0, 720, .inl g_items)), (h_home, .inl (cy 0, 40, .inl g_home)), (h_placeHome, .inl (cy 0, 40, .inl g_placeHome)), (h_tally, .inl (cy 0, 24, .inl g_tally)), (h_p3, .inr (6, [.int f_p3_size, .ref h_p3_counts, .ref h_p3_words, .ref h_p3_settings])), (h_p3_words, .inl (cy 0, 40, .inl g_p3_words))] 5 ⟨hx, hb, hml, hown, hts⟩ (c_X5_placeOnWay (l := l) (D := D) (cy := cy) (sz := _) (h_this := h_this) (h_above := h_above) (h_home := h_home) (h_placeAbove := h_placeAbove) (h_placeHome := h_placeHome) (h_sizes := h_sizes) (h_items := h_items) (h_tally := h_tally) (f_lists := f_lists) (g_above := g_above) (g_placeAbove := g_placeAbove) (g_home := g_home) (g_placeHome := g_placeHome) (a1 := a1) (a2 := a2) (r0 := r_5) (hf := hu)) (cwV 2 hts gX5_misleadsAt_X5_placeOnWay rfl rfl rfl (by decide +kernel) ⟨Nat.le_of_ble_eq_true rfl, Nat.le_of_ble_eq_true rfl⟩) hK hP hD hS hA rfl rfl rfl rfl (by decide) rfl rfl rfl rfl rfl rfl rfl rfl hl.1 rfl (Nat.le_of_ble_eq_true rfl) dX5_misleadsAt_11 ⟨Nat.zero_le _, Nat.zero_le _⟩ (fun H locs hP hD hS => ?_)
  refine lv_istore (lv' := [(5, .int r_5), (4, .int r_4), (0, .ref h_this), (1, .int a1), (2, .int a2), (3, .ref h_p3)]) hx hb dX5_misleadsAt_14 hl (by decide) rfl (fun ls hl => ?_)
  refine lv_aload_n hx hb dX5_misleadsAt_16 rfl (lv_at hl 2 rfl) ?_
  refine lv_iload_n hx hb dX5_misleadsAt_17 rfl (lv_at hl 3 rfl) ?_
  refine lv_aload_n hx hb dX5_misleadsAt_18 rfl (lv_at hl 2 rfl) ?_
  refine lv_iload hx hb dX5_misleadsAt_19 (lv_at hl 1 rfl) ?_
  refine lv_iload hx hb dX5_misleadsAt_21 (lv_at hl 0 rfl) ?_
  obtain ⟨r_6, hu, h⟩ := ob_1 h
  refine cl_Vi (As := [.int r_4, .int r_5]) (rest := [.int a1, .ref h_this]) [0, 4] [1, 2, 3, 5, 6, 7, 8, 9] [8, 0, 1, 2, 9, 3, 4, 5, 6, 7] [(h_sizes, .inl (cy 0, 80, .inl g_sizes)), (h_above, .inl (cy 0, 80, .inl g_above)), (h_placeAbove, .inl (cy 0, 80, .inl g_placeAbove)), (h_home, .inl (cy 0, 40, .inl g_home)), (h_placeHome, .inl (cy 0, 40, .inl g_placeHome)), (h_tally, .inl (cy 0, 24, .inl g_tally)), (h_p3, .inr (6, [.int f_p3_size, .ref h_p3_counts, .ref h_p3_words, .ref h_p3_settings])), (h_p3_words, .inl (cy 0, 40, .inl g_p3_words))] [(h_this, .inr (5, [.int f_lists, .ref h_sizes, .ref h_above, .ref h_placeAbove, .ref h_items, .ref h_home, .ref h_placeHome, .ref h_tally])), (h_sizes, .inl (cy 0, 80, .inl g_sizes)), (h_above, .inl (cy 0, 80, .inl g_above)), (h_placeAbove, .inl (cy 0, 80, .inl g_placeAbove)), (h_items, .inl (cy 0, 720, .inl g_items)), (h_home, .inl (cy 0, 40, .inl g_home)), (h_placeHome, .inl (cy 0, 40, .inl g_placeHome)), (h_tally, .inl (cy 0, 24, .inl g_tally)), (h_p3, .inr (6, [.int f_p3_size, .ref h_p3_counts, .ref h_p3_words, .ref h_p3_settings])), (h_p3_words, .inl (cy 0, 40, .inl g_p3_words))] 5 ⟨hx, hb, hml, hown, hts⟩ (c_X5_itemAt (l := l) (D := D) (cy := cy) (sz := _) (h_this := h_this) (h_items := h_items) (h_sizes := h_sizes) (h_above := h_above) (h_placeAbove := h_placeAbove) (h_home := h_home) (h_placeHome := h_placeHome) (h_tally := h_tally) (f_lists := f_lists) (g_items := g_items) (a1 := r_4) (a2 := r_5) (r0 := r_6) (hf := hu)) (cwV 2 hts gX5_misleadsAt_X5_itemAt rfl rfl rfl (by decide +kernel) ⟨Nat.le_of_ble_eq_true rfl, Nat.le_of_ble_eq_true rfl⟩) hK hP hD hS hA rfl rfl rfl rfl (by decide) rfl rfl rfl rfl rfl rfl rfl rfl hl.1 rfl (Nat.le_of_ble_eq_true rfl) dX5_misleadsAt_23 ⟨Nat.zero_le _, Nat.zero_le _⟩ (fun H locs hP hD hS => ?_)
  refine lv_aload_n hx hb dX5_misleadsAt_26 rfl (lv_at hl 5 rfl) ?_
  obtain ⟨r_8, g_tally_7, hu, h⟩ := ob2_1 h
  refine cl_Vi (As := [.int a1, .int r_6, .ref h_p3]) (rest := []) [0, 2, 5, 7, 8, 9] [1, 3, 4, 6] [4, 0, 5, 1, 2, 6, 3, 7, 8, 9] [(h_sizes, .inl (cy 0, 80, .inl g_sizes)), (h_placeAbove, .inl (cy 0, 80, .inl g_placeAbove)), (h_items, .inl (cy 0, 720, .inl g_items)), (h_placeHome, .inl (cy 0, 40, .inl g_placeHome))] [(h_this, .inr (5, [.int f_lists, .ref h_sizes, .ref h_above, .ref h_placeAbove, .ref h_items, .ref h_home, .ref h_placeHome, .ref h_tally])), (h_sizes, .inl (cy 0, 80, .inl g_sizes)), (h_above, .inl (cy 0, 80, .inl g_above)), (h_placeAbove, .inl (cy 0, 80, .inl g_placeAbove)), (h_items, .inl (cy 0, 720, .inl g_items)), (h_home, .inl (cy 0, 40, .inl g_home)), (h_placeHome, .inl (cy 0, 40, .inl g_placeHome)), (h_tally, .inl (cy 0, 24, .inl g_tally_7)), (h_p3, .inr (6, [.int f_p3_size, .ref h_p3_counts, .ref h_p3_words, .ref h_p3_settings])), (h_p3_words, .inl (cy 0, 40, .inl g_p3_words))] 5 ⟨hx, hb, hml, hown, hts⟩ (c_X5_sharedWords (l := l) (D := D) (cy := cy) (sz := _) (h_p3 := h_p3) (h_p3_words := h_p3_words) (h_this := h_this) (h_above := h_above) (h_home := h_home) (h_tally := h_tally) (h_p3_counts := h_p3_counts) (h_p3_settings := h_p3_settings) (h_sizes := h_sizes) (h_placeAbove := h_placeAbove) (h_items := h_items) (h_placeHome := h_placeHome) (f_lists := f_lists) (g_above := g_above) (g_home := g_home) (g_tally := g_tally) (f_p3_size := f_p3_size) (g_p3_words := g_p3_words) (a1 := a1) (a2 := r_6) (r0 := r_8) (o_g_tally := g_tally_7) (hf := hu)) (cwV 3 hts gX5_misleadsAt_X5_sharedWords rfl rfl rfl (by decide +kernel) ⟨Nat.le_of_ble_eq_true rfl, Nat.le_of_ble_eq_true rfl⟩) hK hP hD hS hA rfl rfl rfl rfl (by decide) rfl rfl rfl rfl rfl rfl rfl rfl hl.1 rfl (Nat.le_of_ble_eq_true rfl) dX5_misleadsAt_27 ⟨Nat.zero_le _, Nat.zero_le _⟩ (fun H locs hP hD hS => ?_)
  refine lv_istore (lv' := [(6, .int r_8), (5, .int r_5), (4, .int r_4), (0, .ref h_this), (1, .int a1), (2, .int a2), (3, .ref h_p3)]) hx hb dX5_misleadsAt_30 hl (by decide) rfl (fun ls hl => ?_)
  refine lv_iconst (v := 1) hx hb dX5_misleadsAt_32 (by decide) ?_
  refine lv_istore (lv' := [(7, .int 1), (6, .int r_8), (5, .int r_5), (4, .int r_4), (0, .ref h_this), (1, .int a1), (2, .int a2), (3, .ref h_p3)]) hx hb dX5_misleadsAt_33 hl (by decide) rfl (fun ls hl => ?_)
  exact L35 FU _ _ _ _ _ _ h _ _ _ hP hD hS (lv_sub hl [4, 5, 7, 3, 2, 1, 0] rfl)
