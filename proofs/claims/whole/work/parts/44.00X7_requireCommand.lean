abbrev rm_X7_requireCommand : Room := { frames := 0, cells := 0, slots := 0, locals := 0 }
set_option maxHeartbeats 4000000 in
set_option maxRecDepth 100000 in
theorem c_X7_requireCommand (l : Launch) (D : va_G) (cy : Nat → ClassId) (h_this h_tape h_reader h_tree h_draft h_page h_exchanges h_use h_use_counts h_use_words h_use_settings : Nat)  (v_spans : Value) (v_subsets : Value)  (sz : Nat) (f_taped : Int32) (f_faultPlace : Int32) (f_spansKnown : Int32) (f_freeCost : Int64) (f_freeKnown : Int32) (f_use_size : Int32) (a1 : Int32)   (hf : f_X7_requireCommand f_use_size a1 = some (.inr ())) : MV l yX7_requireCommand wsX7_requireCommand rm_X7_requireCommand D cy [.ref h_this, .int a1] sz [(h_this, .inr (7, [.ref h_use, .ref h_tape, .int f_taped, .ref h_reader, .int f_faultPlace, .ref h_tree, .ref h_draft, .ref h_page, .ref h_exchanges, v_spans, .int f_spansKnown, v_subsets, .long f_freeCost, .int f_freeKnown])), (h_use, .inr (6, [.int f_use_size, .ref h_use_counts, .ref h_use_words, .ref h_use_settings]))] [(h_this, .inr (7, [.ref h_use, .ref h_tape, .int f_taped, .ref h_reader, .int f_faultPlace, .ref h_tree, .ref h_draft, .ref h_page, .ref h_exchanges, v_spans, .int f_spansKnown, v_subsets, .long f_freeCost, .int f_freeKnown])), (h_use, .inr (6, [.int f_use_size, .ref h_use_counts, .ref h_use_words, .ref h_use_settings]))] := by
  refine MV.of (cc := cX7_requireCommand) (maxL := 2) (ret := none) (by decide) rfl (Nat.le_of_ble_eq_true rfl) ?_
  intro p e s m below meth c A ls hx hb hml hown hts hlk hr hK hA hP hD hS hl
  have h := hf
  unfold f_X7_requireCommand at h
  have wf10 := hts (.fieldLink RX7 10 "MenuPlanner" "use" "LMenuPlanner$Use;") (by decide +kernel)
  have hinX7 := (by decide +kernel : ∀ w ∈ u_ws RX7 TX7 14, w ∈ wsX7_requireCommand)
  have wf84 := hts (.fieldLink RX7 84 "MenuPlanner$Use" "size" "I") (by decide +kernel)
  have hinX6 := (by decide +kernel : ∀ w ∈ u_ws RX6 TX6 4, w ∈ wsX7_requireCommand)
  replace hl : lv_has ls 2 [(0, .ref h_this), (1, .int a1)] := hl
  clear hf
  refine lv_iload_n hx hb dX7_requireCommand_0 rfl (lv_at hl 1 rfl) ?_
  refine lv_if_lt (tgt := 15) hx hb dX7_requireCommand_1 (by decide) (fun hc => ?_) (fun hc => ?_)
  · replace h := it_1 h hc
    exact absurd h (by intro q; cases q)
  · replace h := it_0 h hc
    refine lv_iload_n hx hb dX7_requireCommand_4 rfl (lv_at hl 1 rfl) ?_
    refine lv_aload_n hx hb dX7_requireCommand_5 rfl (lv_at hl 0 rfl) ?_
    refine va_get (D := D) (ci := 7) (v := .ref h_use) (C := RX7) (T := TX7) (N := 14) hx hb hts hinX7 hown hK hP 0 rfl rfl 0 (by decide) wf10 (fun _ h9 => h9) rfl dX7_requireCommand_6 ?_
    refine va_get (D := D) (ci := 6) (v := .int f_use_size) (C := RX6) (T := TX6) (N := 4) hx hb hts hinX6 hown hK hP 1 rfl rfl 0 (by decide) wf84 (fun _ h9 => h9) rfl dX7_requireCommand_9 ?_
    refine lv_icmp_lt (tgt := 25) hx hb dX7_requireCommand_12 (by decide) (fun hc => ?_) (fun hc => ?_)
    · replace h := it_1 h hc
      replace h := inr_1 h
      exact rte_v rfl hx hb hr hlk hK hP hD hS dX7_requireCommand_25
    · replace h := it_0 h hc
      exact absurd h (by intro q; cases q)
theorem vxin_X7_requireCommand_228 : ∀ x ∈ (vx_atS RX7 228 "java/lang/IndexOutOfBoundsException" ["java/lang/RuntimeException", "java/lang/Exception"]).filter goodWord, x ∈ wsX7_requireCommand := by decide +kernel
abbrev rmx_X7_requireCommand : Room := { frames := 6, cells := 1, slots := 6, locals := 90 }
set_option maxHeartbeats 4000000 in
set_option maxRecDepth 100000 in
theorem x_X7_requireCommand (l : Launch) (D : va_G) (cy : Nat → ClassId) (sa : Nat → Nat) (tl th : Nat) (hlt : l.stackTraces = false) (q : String) (h_this h_tape h_reader h_tree h_draft h_page h_exchanges h_use h_use_counts h_use_words h_use_settings : Nat)  (v_spans : Value) (v_subsets : Value)  (sz : Nat) (f_taped : Int32) (f_faultPlace : Int32) (f_spansKnown : Int32) (f_freeCost : Int64) (f_freeKnown : Int32) (f_use_size : Int32) (a1 : Int32) (hf : f_X7_requireCommand f_use_size a1 = some (.inl q)) : MX l yX7_requireCommand wsX7_requireCommand rmx_X7_requireCommand D cy sa tl th q [.ref h_this, .int a1] sz [(h_this, .inr (7, [.ref h_use, .ref h_tape, .int f_taped, .ref h_reader, .int f_faultPlace, .ref h_tree, .ref h_draft, .ref h_page, .ref h_exchanges, v_spans, .int f_spansKnown, v_subsets, .long f_freeCost, .int f_freeKnown])), (h_use, .inr (6, [.int f_use_size, .ref h_use_counts, .ref h_use_words, .ref h_use_settings]))] := by
  refine MX.of (cc := cX7_requireCommand) (maxL := 2) (ret := none) (by decide) rfl (Nat.le_of_ble_eq_true rfl) ?_
  intro p e s m below meth c A ls hx hb hml hown hts hlk hr htab hG hK hA hP hD hS hl
  have h := hf
  unfold f_X7_requireCommand at h
  have wf10 := hts (.fieldLink RX7 10 "MenuPlanner" "use" "LMenuPlanner$Use;") (by decide +kernel)
  have hinX7 := (by decide +kernel : ∀ w ∈ u_ws RX7 TX7 14, w ∈ wsX7_requireCommand)
  have wf84 := hts (.fieldLink RX7 84 "MenuPlanner$Use" "size" "I") (by decide +kernel)
  have hinX6 := (by decide +kernel : ∀ w ∈ u_ws RX6 TX6 4, w ∈ wsX7_requireCommand)
  replace hl : lv_has ls 2 [(0, .ref h_this), (1, .int a1)] := hl
  clear hf
  refine lv_iload_n hx hb dX7_requireCommand_0 rfl (lv_at hl 1 rfl) ?_
  refine lv_if_lt (tgt := 15) hx hb dX7_requireCommand_1 (by decide) (fun hc => ?_) (fun hc => ?_)
  · replace h := it_1 h hc
    have hq0 := inl_1 h
    subst hq0
    exact th_S (tx := "no such command") hlt hx hb (hml.trans hl.1.symm) hown hlk htab hG hK hP hD hS (by decide +kernel) hG.2.2.2.1.2.2 hts (by decide +kernel) (by decide +kernel) (vxin_X7_requireCommand_228) (by decide +kernel) (by decide +kernel) (by decide +kernel) dX7_requireCommand_15 dX7_requireCommand_18 dX7_requireCommand_19 dX7_requireCommand_21 dX7_requireCommand_24 (Nat.le_of_ble_eq_true rfl) (Nat.le_of_ble_eq_true rfl) (Nat.le_of_ble_eq_true rfl) (Nat.le_of_ble_eq_true rfl)
  · replace h := it_0 h hc
    refine lv_iload_n hx hb dX7_requireCommand_4 rfl (lv_at hl 1 rfl) ?_
    refine lv_aload_n hx hb dX7_requireCommand_5 rfl (lv_at hl 0 rfl) ?_
    refine va_get (D := D) (ci := 7) (v := .ref h_use) (C := RX7) (T := TX7) (N := 14) hx hb hts hinX7 hown hK hP 0 rfl rfl 0 (by decide) wf10 (fun _ h9 => h9) rfl dX7_requireCommand_6 ?_
    refine va_get (D := D) (ci := 6) (v := .int f_use_size) (C := RX6) (T := TX6) (N := 4) hx hb hts hinX6 hown hK hP 1 rfl rfl 0 (by decide) wf84 (fun _ h9 => h9) rfl dX7_requireCommand_9 ?_
    refine lv_icmp_lt (tgt := 25) hx hb dX7_requireCommand_12 (by decide) (fun hc => ?_) (fun hc => ?_)
    · replace h := it_1 h hc
      exact absurd h (by intro q; cases q)
    · replace h := it_0 h hc
      have hq0 := inl_1 h
      subst hq0
      exact th_S (tx := "no such command") hlt hx hb (hml.trans hl.1.symm) hown hlk htab hG hK hP hD hS (by decide +kernel) hG.2.2.2.1.2.2 hts (by decide +kernel) (by decide +kernel) (vxin_X7_requireCommand_228) (by decide +kernel) (by decide +kernel) (by decide +kernel) dX7_requireCommand_15 dX7_requireCommand_18 dX7_requireCommand_19 dX7_requireCommand_21 dX7_requireCommand_24 (Nat.le_of_ble_eq_true rfl) (Nat.le_of_ble_eq_true rfl) (Nat.le_of_ble_eq_true rfl) (Nat.le_of_ble_eq_true rfl)
