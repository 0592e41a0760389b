def f_X5_exists (f_lists : Int32)   : Option (Int32) := (if f_lists ≤ 0 then some 0 else some 1)
abbrev rm_X5_exists : Room := { frames := 0, cells := 0, slots := 0, locals := 0 }
set_option maxHeartbeats 4000000 in
set_option maxRecDepth 100000 in
theorem c_X5_exists (l : Launch) (D : va_G) (cy : Nat → ClassId) (h_this h_sizes h_above h_placeAbove h_items h_home h_placeHome h_tally : Nat)    (sz : Nat) (f_lists : Int32)  (r0 : Int32)  (hf : f_X5_exists f_lists = some r0) : MI l yX5_exists wsX5_exists rm_X5_exists D cy [.ref h_this] sz [(h_this, .inr (5, [.int f_lists, .ref h_sizes, .ref h_above, .ref h_placeAbove, .ref h_items, .ref h_home, .ref h_placeHome, .ref h_tally]))] r0 [(h_this, .inr (5, [.int f_lists, .ref h_sizes, .ref h_above, .ref h_placeAbove, .ref h_items, .ref h_home, .ref h_placeHome, .ref h_tally]))] := by
  refine MI.of (cc := cX5_exists) (maxL := 1) (ret := (some .boolean)) (by decide) rfl (Nat.le_of_ble_eq_true rfl) ?_
  intro p e s m below meth c A ls hx hb hml hown hts hlk hr hK hA hP hD hS hl
  have h := hf
  unfold f_X5_exists at h
  have wf9 := hts (.fieldLink RX5 9 "MenuPlanner$Tree" "lists" "I") (by decide +kernel)
  have hinX5 := (by decide +kernel : ∀ w ∈ u_ws RX5 TX5 8, w ∈ wsX5_exists)
  replace hl : lv_has ls 1 [(0, .ref h_this)] := hl
  clear hf
  refine lv_aload_n hx hb dX5_exists_0 rfl (lv_at hl 0 rfl) ?_
  refine va_get (D := D) (ci := 5) (v := .int f_lists) (C := RX5) (T := TX5) (N := 8) hx hb hts hinX5 hown hK hP 0 rfl rfl 0 (by decide) wf9 (fun _ h9 => h9) rfl dX5_exists_1 ?_
  refine lv_if_le (tgt := 11) hx hb dX5_exists_4 (by decide) (fun hc => ?_) (fun hc => ?_)
  · replace h := it_1 h hc
    refine lv_iconst (v := 0) hx hb dX5_exists_11 (by decide) ?_
    have e0 := ret1 h
    subst e0
    exact rt_i hx hb hr hlk rfl hK hP hD hS dX5_exists_12
  · replace h := it_0 h hc
    refine lv_iconst (v := 1) hx hb dX5_exists_7 (by decide) ?_
    refine lv_goto (tgt := 12) hx hb dX5_exists_8 (by decide) ?_
    have e0 := ret1 h
    subst e0
    exact rt_i hx hb hr hlk rfl hK hP hD hS dX5_exists_12
def f_X5_stepsTo_L36_F  (g_above : Nat → Int32) (g_placeAbove : Nat → Int32)  (k36 : Int32 → Int32 → Int32 → Int32 → Int32 → Option (Int32))  (x3 : Int32) (x4 : Int32) (x5 : Int32) (x6 : Int32) (x7 : Int32) : Option (Int32) := (if 80 ≤ x7 then some x5 else (if x6 ≤ 0 then some x5 else (gi x6 80 <| (gi x6 80 <| k36 x3 x4 (x5 + ((x3 * (g_placeAbove (Int32.toNatClampNeg x6))) + x4)) (g_above (Int32.toNatClampNeg x6)) (x7 + 1)))))
def f_X5_stepsTo_L36  (g_above : Nat → Int32) (g_placeAbove : Nat → Int32)  (n : Nat) : Int32 → Int32 → Int32 → Int32 → Int32 → Option (Int32) := fx (f_X5_stepsTo_L36_F g_above g_placeAbove) (fun _ _ _ _ _ => none) n
def f_X5_stepsTo (g_above : Nat → Int32) (g_placeAbove : Nat → Int32) (g_home : Nat → Int32) (g_placeHome : Nat → Int32) (g_p2_settings : Nat → Int32)  (x1 : Int32) : Option (Int32) := (gi x1 40 <| (nm ((g_p2_settings (Int32.toNatClampNeg 0)) * (g_placeHome (Int32.toNatClampNeg x1))) fun y5_1 => (gi x1 40 <| f_X5_stepsTo_L36 g_above g_placeAbove FU (g_p2_settings (Int32.toNatClampNeg 0)) (g_p2_settings (Int32.toNatClampNeg 1)) y5_1 (g_home (Int32.toNatClampNeg x1)) 0)))
abbrev rm_X5_stepsTo : Room := { frames := 0, cells := 0, slots := 0, locals := 0 }
set_option maxHeartbeats 4000000 in
set_option maxRecDepth 100000 in
theorem c_X5_stepsTo (l : Launch) (D : va_G) (cy : Nat → ClassId) (h_this h_sizes h_above h_placeAbove h_items h_home h_placeHome h_tally h_p2 h_p2_counts h_p2_words h_p2_settings : Nat)    (sz : Nat) (f_lists : Int32) (g_above : Nat → Int32) (g_placeAbove : Nat → Int32) (g_home : Nat → Int32) (g_placeHome : Nat → Int32) (f_p2_size : Int32) (g_p2_settings : Nat → Int32) (x1 : Int32) (r0 : Int32)  (hf : f_X5_stepsTo g_above g_placeAbove g_home g_placeHome g_p2_settings x1 = some r0) : MI l yX5_stepsTo wsX5_stepsTo rm_X5_stepsTo D cy [.ref h_this, .int x1, .ref h_p2] sz [(h_this, .inr (5, [.int f_lists, .ref h_sizes, .ref h_above, .ref h_placeAbove, .ref h_items, .ref h_home, .ref h_placeHome, .ref h_tally])), (h_above, .inl (cy 0, 80, .inl g_above)), (h_placeAbove, .inl (cy 0, 80, .inl g_placeAbove)), (h_home, .inl (cy 0, 40, .inl g_home)), (h_placeHome, .inl (cy 0, 40, .inl g_placeHome)), (h_p2, .inr (6, [.int f_p2_size, .ref h_p2_counts, .ref h_p2_words, .ref h_p2_settings])), (h_p2_settings, .inl (cy 0, 4, .inl g_p2_settings))] r0 [(h_this, .inr (5, [.int f_lists, .ref h_sizes, .ref h_above, .ref h_placeAbove, .ref h_items, .ref h_home, .ref h_placeHome, .ref h_tally])), (h_above, .inl (cy 0, 80, .inl g_above)), (h_placeAbove, .inl (cy 0, 80, .inl g_placeAbove)), (h_home, .inl (cy 0, 40, .inl g_home)), (h_placeHome, .inl (cy 0, 40, .inl g_placeHome)), (h_p2, .inr (6, [.int f_p2_size, .ref h_p2_counts, .ref h_p2_words, .ref h_p2_settings])), (h_p2_settings, .inl (cy 0, 4, .inl g_p2_settings))] := by
  refine MI.of (cc := cX5_stepsTo) (maxL := 8) (ret := (some .int)) (by decide) rfl (Nat.le_of_ble_eq_true rfl) ?_
  intro p e s m below meth c A ls hx hb hml hown hts hlk hr hK hA hP hD hS hl
  have h := hf
  unfold f_X5_stepsTo at h
  have wf22 := hts (.fieldLink RX5 22 "MenuPlanner$Tree" "placeAbove" "[I") (by decide +kernel)
  have hinX5 := (by decide +kernel : ∀ w ∈ u_ws RX5 TX5 8, w ∈ wsX5_stepsTo)
  have wf19 := hts (.fieldLink RX5 19 "MenuPlanner$Tree" "above" "[I") (by decide +kernel)
  have wf45 := hts (.fieldLink RX5 45 "MenuPlanner$Use" "settings" "[I") (by decide +kernel)
  have hinX6 := (by decide +kernel : ∀ w ∈ u_ws RX6 TX6 4, w ∈ wsX5_stepsTo)
  have wf31 := hts (.fieldLink RX5 31 "MenuPlanner$Tree" "placeHome" "[I") (by decide +kernel)
  have wf28 := hts (.fieldLink RX5 28 "MenuPlanner$Tree" "home" "[I") (by decide +kernel)
  replace hl : lv_has ls 8 [(0, .ref h_this), (1, .int x1), (2, .ref h_p2)] := hl
  have L36 : ∀ (n : Nat) (x3 : Int32) (x4 : Int32) (x5 : Int32) (x6 : Int32) (x7 : Int32), f_X5_stepsTo_L36 g_above g_placeAbove n x3 x4 x5 x6 x7 = some r0 → ∀ (H : Heap) (locs : List Loc) (ls : Array Slot), va_P D vwCl [(h_this, .inr (5, [.int f_lists, .ref h_sizes, .ref h_above, .ref h_placeAbove, .ref h_items, .ref h_home, .ref h_placeHome, .ref h_tally])), (h_above, .inl (cy 0, 80, .inl g_above)), (h_placeAbove, .inl (cy 0, 80, .inl g_placeAbove)), (h_home, .inl (cy 0, 40, .inl g_home)), (h_placeHome, .inl (cy 0, 40, .inl g_placeHome)), (h_p2, .inr (6, [.int f_p2_size, .ref h_p2_counts, .ref h_p2_words, .ref h_p2_settings])), (h_p2_settings, .inl (cy 0, 4, .inl g_p2_settings))] H → va_D A [(h_this, .inr (5, [.int f_lists, .ref h_sizes, .ref h_above, .ref h_placeAbove, .ref h_items, .ref h_home, .ref h_placeHome, .ref h_tally])), (h_above, .inl (cy 0, 80, .inl g_above)), (h_placeAbove, .inl (cy 0, 80, .inl g_placeAbove)), (h_home, .inl (cy 0, 40, .inl g_home)), (h_placeHome, .inl (cy 0, 40, .inl g_placeHome)), (h_p2, .inr (6, [.int f_p2_size, .ref h_p2_counts, .ref h_p2_words, .ref h_p2_settings])), (h_p2_settings, .inl (cy 0, 4, .inl g_p2_settings))] → va_S A s.heap H locs → lv_has ls 8 [(0, .ref h_this), (3, .int x3), (4, .int x4), (5, .int x5), (6, .int x6), (7, .int x7)] → W p l e rm_X5_stepsTo s m ([.ref h_this, .int x1, .ref h_p2]).toArray below meth c H locs 0 0 (MQ below (QI D cy A r0 [(h_this, .inr (5, [.int f_lists, .ref h_sizes, .ref h_above, .ref h_placeAbove, .ref h_items, .ref h_home, .ref h_placeHome, .ref h_tally])), (h_above, .inl (cy 0, 80, .inl g_above)), (h_placeAbove, .inl (cy 0, 80, .inl g_placeAbove)), (h_home, .inl (cy 0, 40, .inl g_home)), (h_placeHome, .inl (cy 0, 40, .inl g_placeHome)), (h_p2, .inr (6, [.int f_p2_size, .ref h_p2_counts, .ref h_p2_words, .ref h_p2_settings])), (h_p2_settings, .inl (cy 0, 4, .inl g_p2_settings))]) ([.ref h_this, .int x1, .ref h_p2]).toArray s 0 0 A) (F0 m 36 ls []) := by
    intro n
    induction n with
    | zero => intro x3 x4 x5 x6 x7 h; exact absurd (show (none : Option _) = some _ from h) (by intro q; cases q)
    | succ n36 ih36 =>
      intro x3 x4 x5 x6 x7 h H locs ls hP hD hS hl
      replace h : f_X5_stepsTo_L36_F g_above g_placeAbove (f_X5_stepsTo_L36 g_above g_placeAbove n36) x3 x4 x5 x6 x7 = some r0 := h
      unfold f_X5_stepsTo_L36_F at h
      refine lv_iload hx hb dX5_stepsTo_36 (lv_at hl 5 rfl) ?_
      refine lv_bipush (v := 80) hx hb dX5_stepsTo_38 (by decide) ?_
      refine lv_icmp_ge (tgt := 80) hx hb dX5_stepsTo_40 (by decide) (fun hc => ?_) (fun hc => ?_)
      · replace h := it_1 h hc
        refine lv_iload hx hb dX5_stepsTo_80 (lv_at hl 3 rfl) ?_
        have e0 := ret1 h
        subst e0
        exact rt_i hx hb hr hlk rfl hK hP hD hS dX5_stepsTo_82
      · replace h := it_0 h hc
        refine lv_iload hx hb dX5_stepsTo_43 (lv_at hl 4 rfl) ?_
        refine lv_if_le (tgt := 80) hx hb dX5_stepsTo_45 (by decide) (fun hc => ?_) (fun hc => ?_)
        · replace h := it_1 h hc
          refine lv_iload hx hb dX5_stepsTo_80 (lv_at hl 3 rfl) ?_
          have e0 := ret1 h
          subst e0
          exact rt_i hx hb hr hlk rfl hK hP hD hS dX5_stepsTo_82
        · replace h := it_0 h hc
          refine lv_iload hx hb dX5_stepsTo_48 (lv_at hl 3 rfl) ?_
          refine lv_iload_n hx hb dX5_stepsTo_50 rfl (lv_at hl 1 rfl) ?_
          refine lv_aload_n hx hb dX5_stepsTo_51 rfl (lv_at hl 0 rfl) ?_
          refine va_get (D := D) (ci := 5) (v := .ref h_placeAbove) (C := RX5) (T := TX5) (N := 8) hx hb hts hinX5 hown hK hP 0 rfl rfl 3 (by decide) wf22 (fun _ h9 => h9) rfl dX5_stepsTo_52 ?_
          refine lv_iload hx hb dX5_stepsTo_55 (lv_at hl 4 rfl) ?_
          have hi := gi_1 h; replace h := gi_2 h
          refine va_iald hx hb hK hP 2 0 rfl rfl hi dX5_stepsTo_57 ?_
          refine lv_imul hx hb dX5_stepsTo_58 ?_
          refine lv_iload hx hb dX5_stepsTo_59 (lv_at hl 2 rfl) ?_
          refine lv_iadd hx hb dX5_stepsTo_61 ?_
          refine lv_iadd hx hb dX5_stepsTo_62 ?_
          refine lv_istore (lv' := [(5, .int (x5 + ((x3 * (g_placeAbove (Int32.toNatClampNeg x6))) + x4))), (0, .ref h_this), (3, .int x3), (4, .int x4), (6, .int x6), (7, .int x7)]) hx hb dX5_stepsTo_63 hl (by decide) rfl (fun ls hl => ?_)
          refine lv_aload_n hx hb dX5_stepsTo_65 rfl (lv_at hl 1 rfl) ?_
          refine va_get (D := D) (ci := 5) (v := .ref h_above) (C := RX5) (T := TX5) (N := 8) hx hb hts hinX5 hown hK hP 0 rfl rfl 2 (by decide) wf19 (fun _ h9 => h9) rfl dX5_stepsTo_66 ?_
          refine lv_iload hx hb dX5_stepsTo_69 (lv_at hl 4 rfl) ?_
          have hi := gi_1 h; replace h := gi_2 h
          refine va_iald hx hb hK hP 1 0 rfl rfl hi dX5_stepsTo_71 ?_
          refine lv_istore (lv' := [(6, .int (g_above (Int32.toNatClampNeg x6))), (5, .int (x5 + ((x3 * (g_placeAbove (Int32.toNatClampNeg x6))) + x4))), (0, .ref h_this), (3, .int x3), (4, .int x4), (7, .int x7)]) hx hb dX5_stepsTo_72 hl (by decide) rfl (fun ls hl => ?_)
          refine lv_iinc (v := (x7 + 1)) (lv' := [(7, .int (x7 + 1)), (6, .int (g_above (Int32.toNatClampNeg x6))), (5, .int (x5 + ((x3 * (g_placeAbove (Int32.toNatClampNeg x6))) + x4))), (0, .ref h_this), (3, .int x3), (4, .int x4)]) hx hb dX5_stepsTo_74 hl (k := 5) rfl rfl (by decide) rfl (fun ls hl => ?_)
          refine lv_goto (tgt := 36) hx hb dX5_stepsTo_77 (by decide) ?_
          exact ih36 _ _ _ _ _ h H locs ls hP hD hS (lv_sub hl [3, 4, 5, 2, 1, 0] rfl)
  clear hf
  refine lv_aload_n hx hb dX5_stepsTo_0 rfl (lv_at hl 2 rfl) ?_
  refine va_get (D := D) (ci := 6) (v := .ref h_p2_settings) (C := RX6) (T := TX6) (N := 4) hx hb hts hinX6 hown hK hP 5 rfl rfl 3 (by decide) wf45 (fun _ h9 => h9) rfl dX5_stepsTo_1 ?_
  refine lv_iconst (v := 0) hx hb dX5_stepsTo_4 (by decide) ?_
  have hi : vp_in 0 4 := vp_in_iff.mpr (by decide)
  refine va_iald hx hb hK hP 6 0 rfl rfl hi dX5_stepsTo_5 ?_
  refine lv_istore_n (lv' := [(3, .int (g_p2_settings (Int32.toNatClampNeg 0))), (0, .ref h_this), (1, .int x1), (2, .ref h_p2)]) hx hb dX5_stepsTo_6 rfl hl (by decide) rfl (fun ls hl => ?_)
  refine lv_aload_n hx hb dX5_stepsTo_7 rfl (lv_at hl 3 rfl) ?_
  refine va_get (D := D) (ci := 6) (v := .ref h_p2_settings) (C := RX6) (T := TX6) (N := 4) hx hb hts hinX6 hown hK hP 5 rfl rfl 3 (by decide) wf45 (fun _ h9 => h9) rfl dX5_stepsTo_8 ?_
  refine lv_iconst (v := 1) hx hb dX5_stepsTo_11 (by decide) ?_
  have hi : vp_in 1 4 := vp_in_iff.mpr (by decide)
  refine va_iald hx hb hK hP 6 0 rfl rfl hi dX5_stepsTo_12 ?_
  refine lv_istore (lv' := [(4, .int (g_p2_settings (Int32.toNatClampNeg 1))), (3, .int (g_p2_settings (Int32.toNatClampNeg 0))), (0, .ref h_this), (1, .int x1), (2, .ref h_p2)]) hx hb dX5_stepsTo_13 hl (by decide) rfl (fun ls hl => ?_)
  refine lv_iload_n hx hb dX5_stepsTo_15 rfl (lv_at hl 1 rfl) ?_
  refine lv_aload_n hx hb dX5_stepsTo_16 rfl (lv_at hl 2 rfl) ?_
  refine va_get (D := D) (ci := 5) (v := .ref h_placeHome) (C := RX5) (T := TX5) (N := 8) hx hb hts hinX5 hown hK hP 0 rfl rfl 6 (by decide) wf31 (fun _ h9 => h9) rfl dX5_stepsTo_17 ?_
  refine lv_iload_n hx hb dX5_stepsTo_20 rfl (lv_at hl 3 rfl) ?_
  have hi := gi_1 h; replace h := gi_2 h
  refine va_iald hx hb hK hP 4 0 rfl rfl hi dX5_stepsTo_21 ?_
  refine lv_imul hx hb dX5_stepsTo_22 ?_
  refine lv_topi (fun y5_1 ex => ?_)
  replace h := nm_1 h ex
  refine lv_istore (lv' := [(5, .int y5_1), (4, .int (g_p2_settings (Int32.toNatClampNeg 1))), (3, .int (g_p2_settings (Int32.toNatClampNeg 0))), (0, .ref h_this), (1, .int x1), (2, .ref h_p2)]) hx hb dX5_stepsTo_23 hl (by decide) rfl (fun ls hl => ?_)
  refine lv_aload_n hx hb dX5_stepsTo_25 rfl (lv_at hl 3 rfl) ?_
  refine va_get (D := D) (ci := 5) (v := .ref h_home) (C := RX5) (T := TX5) (N := 8) hx hb hts hinX5 hown hK hP 0 rfl rfl 5 (by decide) wf28 (fun _ h9 => h9) rfl dX5_stepsTo_26 ?_
  refine lv_iload_n hx hb dX5_stepsTo_29 rfl (lv_at hl 4 rfl) ?_
  have hi := gi_1 h; replace h := gi_2 h
  refine va_iald hx hb hK hP 3 0 rfl rfl hi dX5_stepsTo_30 ?_
  refine lv_istore (lv' := [(6, .int (g_home (Int32.toNatClampNeg x1))), (5, .int y5_1), (4, .int (g_p2_settings (Int32.toNatClampNeg 1))), (3, .int (g_p2_settings (Int32.toNatClampNeg 0))), (0, .ref h_this), (1, .int x1), (2, .ref h_p2)]) hx hb dX5_stepsTo_31 hl (by decide) rfl (fun ls hl => ?_)
  refine lv_iconst (v := 0) hx hb dX5_stepsTo_33 (by decide) ?_
  refine lv_istore (lv' := [(7, .int 0), (6, .int (g_home (Int32.toNatClampNeg x1))), (5, .int y5_1), (4, .int (g_p2_settings (Int32.toNatClampNeg 1))), (3, .int (g_p2_settings (Int32.toNatClampNeg 0))), (0, .ref h_this), (1, .int x1), (2, .ref h_p2)]) hx hb dX5_stepsTo_34 hl (by decide) rfl (fun ls hl => ?_)
  exact L36 FU _ _ _ _ _ h H locs ls hP hD hS (lv_sub hl [5, 4, 3, 2, 1, 0] rfl)
def f_X5_totalCost_L5_F  (g_above : Nat → Int32) (g_placeAbove : Nat → Int32) (g_home : Nat → Int32) (g_placeHome : Nat → Int32) (f_p1_size : Int32) (g_p1_counts : Nat → Int32) (g_p1_settings : Nat → Int32)  (k5 : Int64 → Int32 → Option (Int64))  (x2 : Int64) (x4 : Int32) : Option (Int64) := (if f_p1_size ≤ x4 then some x2 else (gi x4 40 <| (ob (f_X5_stepsTo g_above g_placeAbove g_home g_placeHome g_p1_settings x4) fun r_1 => (nm (x2 + ((Int32.toInt64 (g_p1_counts (Int32.toNatClampNeg x4))) * (Int32.toInt64 r_1))) fun y2_2 => k5 y2_2 (x4 + 1)))))
def f_X5_totalCost_L5  (g_above : Nat → Int32) (g_placeAbove : Nat → Int32) (g_home : Nat → Int32) (g_placeHome : Nat → Int32) (f_p1_size : Int32) (g_p1_counts : Nat → Int32) (g_p1_settings : Nat → Int32)  (n : Nat) : Int64 → Int32 → Option (Int64) := fx (f_X5_totalCost_L5_F g_above g_placeAbove g_home g_placeHome f_p1_size g_p1_counts g_p1_settings) (fun _ _ => none) n
def f_X5_totalCost (g_above : Nat → Int32) (g_placeAbove : Nat → Int32) (g_home : Nat → Int32) (g_placeHome : Nat → Int32) (f_p1_size : Int32) (g_p1_counts : Nat → Int32) (g_p1_settings : Nat → Int32)   : Option (Int64) := f_X5_totalCost_L5 g_above g_placeAbove g_home g_placeHome f_p1_size g_p1_counts g_p1_settings FU 0 0
abbrev rm_X5_totalCost : Room := { frames := 1, cells := 0, slots := 0, locals := 27 }
set_option maxHeartbeats 4000000 in
set_option maxRecDepth 100000 in
theorem c_X5_totalCost (l : Launch) (D : va_G) (cy : Nat → ClassId) (h_this h_sizes h_above h_placeAbove h_items h_home h_placeHome h_tally h_p1 h_p1_counts h_p1_words h_p1_settings : Nat)    (sz : Nat) (f_lists : Int32) (g_above : Nat → Int32) (g_placeAbove : Nat → Int32) (g_home : Nat → Int32) (g_placeHome : Nat → Int32) (f_p1_size : Int32) (g_p1_counts : Nat → Int32) (g_p1_settings : Nat → Int32)  (r0 : Int64)  (hf : f_X5_totalCost g_above g_placeAbove g_home g_placeHome f_p1_size g_p1_counts g_p1_settings = some r0) : ML l yX5_totalCost wsX5_totalCost rm_X5_totalCost D cy [.ref h_this, .ref h_p1] sz [(h_this, .inr (5, [.int f_lists, .ref h_sizes, .ref h_above, .ref h_placeAbove, .ref h_items, .ref h_home, .ref h_placeHome, .ref h_tally])), (h_above, .inl (cy 0, 80, .inl g_above)), (h_placeAbove, .inl (cy 0, 80, .inl g_placeAbove)), (h_home, .inl (cy 0, 40, .inl g_home)), (h_placeHome, .inl (cy 0, 40, .inl g_placeHome)), (h_p1, .inr (6, [.int f_p1_size, .ref h_p1_counts, .ref h_p1_words, .ref h_p1_settings])), (h_p1_counts, .inl (cy 0, 40, .inl g_p1_counts)), (h_p1_settings, .inl (cy 0, 4, .inl g_p1_settings))] r0 [(h_this, .inr (5, [.int f_lists, .ref h_sizes, .ref h_above, .ref h_placeAbove, .ref h_items, .ref h_home, .ref h_placeHome, .ref h_tally])), (h_above, .inl (cy 0, 80, .inl g_above)), (h_placeAbove, .inl (cy 0, 80, .inl g_placeAbove)), (h_home, .inl (cy 0, 40, .inl g_home)), (h_placeHome, .inl (cy 0, 40, .inl g_placeHome)), (h_p1, .inr (6, [.int f_p1_size, .ref h_p1_counts, .ref h_p1_words, .ref h_p1_settings])), (h_p1_counts, .inl (cy 0, 40, .inl g_p1_counts)), (h_p1_settings, .inl (cy 0, 4, .inl g_p1_settings))] := by
  refine ML.of (cc := cX5_totalCost) (maxL := 5) (ret := (some .long)) (by decide) rfl (Nat.le_of_ble_eq_true rfl) ?_
  intro p e s m below meth c A ls hx hb hml hown hts hlk hr hK hA hP hD hS hl
  have h := hf
  unfold f_X5_totalCost at h
  have wf50 := hts (.fieldLink RX5 50 "MenuPlanner$Use" "size" "I") (by decide +kernel)
  have hinX6 := (by decide +kernel : ∀ w ∈ u_ws RX6 TX6 4, w ∈ wsX5_totalCost)
  have wf53 := hts (.fieldLink RX5 53 "MenuPlanner$Use" "counts" "[I") (by decide +kernel)
  replace hl : lv_has ls 5 [(0, .ref h_this), (1, .ref h_p1)] := hl
  have L5 : ∀ (n : Nat) (x2 : Int64) (x4 : Int32), f_X5_totalCost_L5 g_above g_placeAbove g_home g_placeHome f_p1_size g_p1_counts g_p1_settings n x2 x4 = some r0 → ∀ (H : Heap) (locs : List Loc) (ls : Array Slot), va_P D vwCl [(h_this, .inr (5, [.int f_lists, .ref h_sizes, .ref h_above, .ref h_placeAbove, .ref h_items, .ref h_home, .ref h_placeHome, .ref h_tally])), (h_above, .inl (cy 0, 80, .inl g_above)), (h_placeAbove, .inl (cy 0, 80, .inl g_placeAbove)), (h_home, .inl (cy 0, 40, .inl g_home)), (h_placeHome, .inl (cy 0, 40, .inl g_placeHome)), (h_p1, .inr (6, [.int f_p1_size, .ref h_p1_counts, .ref h_p1_words, .ref h_p1_settings])), (h_p1_counts, .inl (cy 0, 40, .inl g_p1_counts)), (h_p1_settings, .inl (cy 0, 4, .inl g_p1_settings))] H → va_D A [(h_this, .inr (5, [.int f_lists, .ref h_sizes, .ref h_above, .ref h_placeAbove, .ref h_items, .ref h_home, .ref h_placeHome, .ref h_tally])), (h_above, .inl (cy 0, 80, .inl g_above)), (h_placeAbove, .inl (cy 0, 80, .inl g_placeAbove)), (h_home, .inl (cy 0, 40, .inl g_home)), (h_placeHome, .inl (cy 0, 40, .inl g_placeHome)), (h_p1, .inr (6, [.int f_p1_size, .ref h_p1_counts, .ref h_p1_words, .ref h_p1_settings])), (h_p1_counts, .inl (cy 0, 40, .inl g_p1_counts)), (h_p1_settings, .inl (cy 0, 4, .inl g_p1_settings))] → va_S A s.heap H locs → lv_has ls 5 [(0, .ref h_this), (1, .ref h_p1), (2, .long x2), (4, .int x4)] → W p l e rm_X5_totalCost s m ([.ref h_this, .ref h_p1]).toArray below meth c H locs 0 0 (MQ below (QL D cy A r0 [(h_this, .inr (5, [.int f_lists, .ref h_sizes, .ref h_above, .ref h_placeAbove, .ref h_items, .ref h_home, .ref h_placeHome, .ref h_tally])), (h_above, .inl (cy 0, 80, .inl g_above)), (h_placeAbove, .inl (cy 0, 80, .inl g_placeAbove)), (h_home, .inl (cy 0, 40, .inl g_home)), (h_placeHome, .inl (cy 0, 40, .inl g_placeHome)), (h_p1, .inr (6, [.int f_p1_size, .ref h_p1_counts, .ref h_p1_words, .ref h_p1_settings])), (h_p1_counts, .inl (cy 0, 40, .inl g_p1_counts)), (h_p1_settings, .inl (cy 0, 4, .inl g_p1_settings))]) ([.ref h_this, .ref h_p1]).toArray s 0 0 A) (F0 m 5 ls []) := by
    intro n
    induction n with
    | zero => intro x2 x4 h; exact absurd (show (none : Option _) = some _ from h) (by intro q; cases q)
    | succ n5 ih5 =>
      intro x2 x4 h H locs ls hP hD hS hl
      replace h : f_X5_totalCost_L5_F g_above g_placeAbove g_home g_placeHome f_p1_size g_p1_counts g_p1_settings (f_X5_totalCost_L5 g_above g_placeAbove g_home g_placeHome f_p1_size g_p1_counts g_p1_settings n5) x2 x4 = some r0 := h
      unfold f_X5_totalCost_L5_F at h
      refine lv_iload hx hb dX5_totalCost_5 (lv_at hl 3 rfl) ?_
      refine lv_aload_n hx hb dX5_totalCost_7 rfl (lv_at hl 1 rfl) ?_
      refine va_get (D := D) (ci := 6) (v := .int f_p1_size) (C := RX6) (T := TX6) (N := 4) hx hb hts hinX6 hown hK hP 5 rfl rfl 0 (by decide) wf50 (fun _ h9 => h9) rfl dX5_totalCost_8 ?_
      refine lv_icmp_ge (tgt := 40) hx hb dX5_totalCost_11 (by decide) (fun hc => ?_) (fun hc => ?_)
      · replace h := it_1 h hc
        refine lv_lload_n hx hb dX5_totalCost_40 rfl (lv_at hl 2 rfl) ?_
        have e0 := ret1 h
        subst e0
        exact rt_l hx hb hr hlk hK hP hD hS dX5_totalCost_41
      · replace h := it_0 h hc
        refine lv_lload_n hx hb dX5_totalCost_14 rfl (lv_at hl 2 rfl) ?_
        refine lv_aload_n hx hb dX5_totalCost_15 rfl (lv_at hl 1 rfl) ?_
        refine va_get (D := D) (ci := 6) (v := .ref h_p1_counts) (C := RX6) (T := TX6) (N := 4) hx hb hts hinX6 hown hK hP 5 rfl rfl 1 (by decide) wf53 (fun _ h9 => h9) rfl dX5_totalCost_16 ?_
        refine lv_iload hx hb dX5_totalCost_19 (lv_at hl 3 rfl) ?_
        have hi := gi_1 h; replace h := gi_2 h
        refine va_iald hx hb hK hP 6 0 rfl rfl hi dX5_totalCost_21 ?_
        refine lv_i2l hx hb dX5_totalCost_22 rfl ?_
        refine lv_aload_n hx hb dX5_totalCost_23 rfl (lv_at hl 0 rfl) ?_
        refine lv_iload hx hb dX5_totalCost_24 (lv_at hl 3 rfl) ?_
        refine lv_aload_n hx hb dX5_totalCost_26 rfl (lv_at hl 1 rfl) ?_
        obtain ⟨r_1, hu, h⟩ := ob_1 h
        refine cl_Vi (As := [.int x4, .ref h_p1]) (rest := [.long (Int32.toInt64 (g_p1_counts (Int32.toNatClampNeg x4))), .long x2]) [0, 1, 2, 3, 4, 5, 7] [6] [1, 2, 3, 4, 5, 6, 0, 7] [(h_p1_counts, .inl (cy 0, 40, .inl g_p1_counts))] [(h_this, .inr (5, [.int f_lists, .ref h_sizes, .ref h_above, .ref h_placeAbove, .ref h_items, .ref h_home, .ref h_placeHome, .ref h_tally])), (h_above, .inl (cy 0, 80, .inl g_above)), (h_placeAbove, .inl (cy 0, 80, .inl g_placeAbove)), (h_home, .inl (cy 0, 40, .inl g_home)), (h_placeHome, .inl (cy 0, 40, .inl g_placeHome)), (h_p1, .inr (6, [.int f_p1_size, .ref h_p1_counts, .ref h_p1_words, .ref h_p1_settings])), (h_p1_counts, .inl (cy 0, 40, .inl g_p1_counts)), (h_p1_settings, .inl (cy 0, 4, .inl g_p1_settings))] 5 ⟨hx, hb, hml, hown, hts⟩ (c_X5_stepsTo (l := l) (D := D) (cy := cy) (sz := H.size) (h_p2 := h_p1) (h_placeAbove := h_placeAbove) (h_placeHome := h_placeHome) (h_above := h_above) (h_home := h_home) (h_this := h_this) (h_p2_settings := h_p1_settings) (h_p2_counts := h_p1_counts) (h_p2_words := h_p1_words) (h_sizes := h_sizes) (h_items := h_items) (h_tally := h_tally) (f_lists := f_lists) (g_above := g_above) (g_placeAbove := g_placeAbove) (g_home := g_home) (g_placeHome := g_placeHome) (f_p2_size := f_p1_size) (g_p2_settings := g_p1_settings) (x1 := x4) (r0 := r_1) (hf := hu)) (cwV 2 hts gX5_totalCost_X5_stepsTo rfl rfl rfl (by decide +kernel) ⟨Nat.le_of_ble_eq_true rfl, Nat.le_of_ble_eq_true rfl⟩) hK hP hD hS hA rfl rfl rfl rfl (by decide) rfl rfl rfl rfl rfl rfl rfl rfl hl.1 rfl (Nat.le_of_ble_eq_true rfl) dX5_totalCost_27 ⟨Nat.zero_le _, Nat.zero_le _⟩ (fun H locs hP hD hS => ?_)
        refine lv_i2l hx hb dX5_totalCost_30 rfl ?_
        refine lv_lmul hx hb dX5_totalCost_31 ?_
        refine lv_ladd hx hb dX5_totalCost_32 ?_
        refine lv_topl (fun y2_2 ex => ?_)
        replace h := nm_1 h ex
        refine lv_lstore_n (lv' := [(2, .long y2_2), (0, .ref h_this), (1, .ref h_p1), (4, .int x4)]) hx hb dX5_totalCost_33 rfl hl (by decide) rfl (fun ls hl => ?_)
        refine lv_iinc (v := (x4 + 1)) (lv' := [(4, .int (x4 + 1)), (2, .long y2_2), (0, .ref h_this), (1, .ref h_p1)]) hx hb dX5_totalCost_34 hl (k := 3) rfl rfl (by decide) rfl (fun ls hl => ?_)
        refine lv_goto (tgt := 5) hx hb dX5_totalCost_37 (by decide) ?_
        exact ih5 _ _ h H locs ls hP hD hS (lv_sub hl [2, 3, 1, 0] rfl)
  clear hf
  refine lv_lconst (v := 0) hx hb dX5_totalCost_0 (by decide) ?_
  refine lv_lstore_n (lv' := [(2, .long 0), (0, .ref h_this), (1, .ref h_p1)]) hx hb dX5_totalCost_1 rfl hl (by decide) rfl (fun ls hl => ?_)
  refine lv_iconst (v := 0) hx hb dX5_totalCost_2 (by decide) ?_
  refine lv_istore (lv' := [(4, .int 0), (2, .long 0), (0, .ref h_this), (1, .ref h_p1)]) hx hb dX5_totalCost_3 hl (by decide) rfl (fun ls hl => ?_)
  exact L5 FU _ _ h H locs ls hP hD hS (lv_sub hl [2, 3, 1, 0] rfl)
