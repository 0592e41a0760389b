abbrev rm_X7_set : Room := { frames := 2, cells := 0, slots := 0, locals := 40 }
set_option maxHeartbeats 4000000 in
set_option maxRecDepth 100000 in
theorem c_X7_set (l : Launch) (D : va_G) (cy : Nat → ClassId) (sa : Nat → Nat) (tl th : Nat) (h_this h_tape h_reader h_tree h_draft h_page h_use h_use_counts h_use_words h_use_settings h_exchanges h_exchanges_sums h_exchanges_lengths h_exchanges_rows h_exchanges_lower h_exchanges_upper h_exchanges_counts h_exchanges_steps h_exchanges_row : Nat)  (v_spans : Value) (v_subsets : Value)  (sz : Nat) (f_taped : Int32) (f_faultPlace : Int32) (f_spansKnown : Int32) (f_freeCost : Int64) (f_freeKnown : Int32) (f_use_size : Int32) (g_use_settings : Nat → Int32) (f_exchanges_reckoned : Int32) (f_exchanges_pairs : Int32) (f_exchanges_unlearn : Int64) (a1 : Int32) (a2 : Int32) (r0 : Int32) (o_f_spansKnown : Int32) (o_f_freeKnown : Int32) (o_g_use_settings : Nat → Int32) (o_f_exchanges_reckoned : Int32) (hf : f_X7_set f_spansKnown f_freeKnown g_use_settings f_exchanges_reckoned a1 a2 = some (.inr (r0, o_f_spansKnown, o_f_freeKnown, o_g_use_settings, o_f_exchanges_reckoned))) : MG l yX7_set wsX7_set rm_X7_set D cy sa tl th [.ref h_this, .int a1, .int a2] sz [(h_this, .inr (7, [.ref h_use, .ref h_tape, .int f_taped, .ref h_reader, .int f_faultPlace, .ref h_tree, .ref h_draft, .ref h_page, .ref h_exchanges, v_spans, .int f_spansKnown, v_subsets, .long f_freeCost, .int f_freeKnown])), (h_use, .inr (6, [.int f_use_size, .ref h_use_counts, .ref h_use_words, .ref h_use_settings])), (h_use_settings, .inl (cy 0, 4, .inl g_use_settings)), (h_exchanges, .inr (0, [.ref h_exchanges_sums, .ref h_exchanges_lengths, .ref h_exchanges_rows, .int f_exchanges_reckoned, .ref h_exchanges_lower, .ref h_exchanges_upper, .int f_exchanges_pairs, .ref h_exchanges_counts, .ref h_exchanges_steps, .long f_exchanges_unlearn, .ref h_exchanges_row]))] r0 [(h_this, .inr (7, [.ref h_use, .ref h_tape, .int f_taped, .ref h_reader, .int f_faultPlace, .ref h_tree, .ref h_draft, .ref h_page, .ref h_exchanges, v_spans, .int o_f_spansKnown, v_subsets, .long f_freeCost, .int o_f_freeKnown])), (h_use, .inr (6, [.int f_use_size, .ref h_use_counts, .ref h_use_words, .ref h_use_settings])), (h_use_settings, .inl (cy 0, 4, .inl o_g_use_settings)), (h_exchanges, .inr (0, [.ref h_exchanges_sums, .ref h_exchanges_lengths, .ref h_exchanges_rows, .int o_f_exchanges_reckoned, .ref h_exchanges_lower, .ref h_exchanges_upper, .int f_exchanges_pairs, .ref h_exchanges_counts, .ref h_exchanges_steps, .long f_exchanges_unlearn, .ref h_exchanges_row]))] := by
  refine MG.of (cc := cX7_set) (maxL := 4) (ret := (some .int)) (by decide) rfl (Nat.le_of_ble_eq_true rfl) ?_
  intro p e s m below meth c A ls hx hb hml hown hts hlk hr hG hK hA hP hD hS hl
  have h := hf
  unfold f_X7_set at h
  have wf115 := hts (.fieldLink RX7 115 "MenuPlanner" "LOWEST" "[I") (by decide +kernel)
  have wf118 := hts (.fieldLink RX7 118 "MenuPlanner" "HIGHEST" "[I") (by decide +kernel)
  have wf10 := hts (.fieldLink RX7 10 "MenuPlanner" "use" "LMenuPlanner$Use;") (by decide +kernel)
  have hinX7 := (by decide +kernel : ∀ w ∈ u_ws RX7 TX7 14, w ∈ wsX7_set)
  have wf123 := hts (.fieldLink RX7 123 "MenuPlanner$Use" "settings" "[I") (by decide +kernel)
  have hinX6 := (by decide +kernel : ∀ w ∈ u_ws RX6 TX6 4, w ∈ wsX7_set)
  replace hl : lv_has ls 4 [(0, .ref h_this), (1, .int a1), (2, .int a2)] := hl
  clear hf
  refine lv_iload_n hx hb dX7_set_0 rfl (lv_at hl 1 rfl) ?_
  refine lv_if_lt (tgt := 9) hx hb dX7_set_1 (by decide) (fun hc => ?_) (fun hc => ?_)
  · replace h := it_1 h hc
    exact absurd h (by intro q; cases q)
  · replace h := it_0 h hc
    refine lv_iload_n hx hb dX7_set_4 rfl (lv_at hl 1 rfl) ?_
    refine lv_iconst (v := 3) hx hb dX7_set_5 (by decide) ?_
    refine lv_icmp_le (tgt := 19) hx hb dX7_set_6 (by decide) (fun hc => ?_) (fun hc => ?_)
    · replace h := it_1 h hc
      refine lv_iload_n hx hb dX7_set_19 rfl (lv_at hl 2 rfl) ?_
      refine va_gets (C := RX7) (v := .ref tl) hx hb hG.2.2.2.2.2.1 hS hown wf115 (fun _ h9 => h9) dX7_set_20 ?_
      refine lv_iload_n hx hb dX7_set_23 rfl (lv_at hl 1 rfl) ?_
      have hi := gi_1 h; replace h := gi_2 h
      refine va_ti hx hb hG.2.2.2.2.2.2.1 hS hi rfl dX7_set_24 ?_
      refine lv_icmp_lt (tgt := 37) hx hb dX7_set_25 (by decide) (fun hc => ?_) (fun hc => ?_)
      · replace h := it_1 h hc
        exact absurd h (by intro q; cases q)
      · replace h := it_0 h hc
        refine lv_iload_n hx hb dX7_set_28 rfl (lv_at hl 2 rfl) ?_
        refine va_gets (C := RX7) (v := .ref th) hx hb hG.2.2.2.2.2.2.2.1 hS hown wf118 (fun _ h9 => h9) dX7_set_29 ?_
        refine lv_iload_n hx hb dX7_set_32 rfl (lv_at hl 1 rfl) ?_
        have hi := gi_1 h; replace h := gi_2 h
        refine va_ti hx hb hG.2.2.2.2.2.2.2.2 hS hi rfl dX7_set_33 ?_
        refine lv_icmp_le (tgt := 47) hx hb dX7_set_34 (by decide) (fun hc => ?_) (fun hc => ?_)
        · replace h := it_1 h hc
          refine lv_aload_n hx hb dX7_set_47 rfl (lv_at hl 0 rfl) ?_
          refine va_get (D := D) (ci := 7) (v := .ref h_use) (C := RX7) (T := TX7) (N := 14) hx hb hts hinX7 hown hK hP 0 rfl rfl 0 (by decide) wf10 (fun _ h9 => h9) rfl dX7_set_48 ?_
          refine va_get (D := D) (ci := 6) (v := .ref h_use_settings) (C := RX6) (T := TX6) (N := 4) hx hb hts hinX6 hown hK hP 1 rfl rfl 3 (by decide) wf123 (fun _ h9 => h9) rfl dX7_set_51 ?_
          refine lv_iload_n hx hb dX7_set_54 rfl (lv_at hl 1 rfl) ?_
          have hi := gi_1 h; replace h := gi_2 h
          refine va_iald hx hb hK hP 2 0 rfl rfl hi dX7_set_55 ?_
          refine lv_istore_n (lv' := [(3, .int (g_use_settings (Int32.toNatClampNeg a1))), (0, .ref h_this), (1, .int a1), (2, .int a2)]) hx hb dX7_set_56 rfl hl (by decide) rfl (fun ls hl => ?_)
          refine lv_aload_n hx hb dX7_set_57 rfl (lv_at hl 1 rfl) ?_
          refine va_get (D := D) (ci := 7) (v := .ref h_use) (C := RX7) (T := TX7) (N := 14) hx hb hts hinX7 hown hK hP 0 rfl rfl 0 (by decide) wf10 (fun _ h9 => h9) rfl dX7_set_58 ?_
          refine va_get (D := D) (ci := 6) (v := .ref h_use_settings) (C := RX6) (T := TX6) (N := 4) hx hb hts hinX6 hown hK hP 1 rfl rfl 3 (by decide) wf123 (fun _ h9 => h9) rfl dX7_set_61 ?_
          refine lv_iload_n hx hb dX7_set_64 rfl (lv_at hl 2 rfl) ?_
          refine lv_iload_n hx hb dX7_set_65 rfl (lv_at hl 3 rfl) ?_
          have hi := gi_1 h; replace h := gi_2 h
          refine va_iast hx hb hK hP hD hS 2 0 rfl rfl hi dX7_set_66 (fun H locs hP hD hS => ?_)
          replace hP : va_P D vwCl [(h_this, .inr (7, [.ref h_use, .ref h_tape, .int f_taped, .ref h_reader, .int f_faultPlace, .ref h_tree, .ref h_draft, .ref h_page, .ref h_exchanges, v_spans, .int f_spansKnown, v_subsets, .long f_freeCost, .int f_freeKnown])), (h_use, .inr (6, [.int f_use_size, .ref h_use_counts, .ref h_use_words, .ref h_use_settings])), (h_use_settings, .inl (cy 0, 4, .inl (upd g_use_settings (Int32.toNatClampNeg a1) a2))), (h_exchanges, .inr (0, [.ref h_exchanges_sums, .ref h_exchanges_lengths, .ref h_exchanges_rows, .int f_exchanges_reckoned, .ref h_exchanges_lower, .ref h_exchanges_upper, .int f_exchanges_pairs, .ref h_exchanges_counts, .ref h_exchanges_steps, .long f_exchanges_unlearn, .ref h_exchanges_row]))] H := hP
          replace hD : va_D A [(h_this, .inr (7, [.ref h_use, .ref h_tape, .int f_taped, .ref h_reader, .int f_faultPlace, .ref h_tree, .ref h_draft, .ref h_page, .ref h_exchanges, v_spans, .int f_spansKnown, v_subsets, .long f_freeCost, .int f_freeKnown])), (h_use, .inr (6, [.int f_use_size, .ref h_use_counts, .ref h_use_words, .ref h_use_settings])), (h_use_settings, .inl (cy 0, 4, .inl (upd g_use_settings (Int32.toNatClampNeg a1) a2))), (h_exchanges, .inr (0, [.ref h_exchanges_sums, .ref h_exchanges_lengths, .ref h_exchanges_rows, .int f_exchanges_reckoned, .ref h_exchanges_lower, .ref h_exchanges_upper, .int f_exchanges_pairs, .ref h_exchanges_counts, .ref h_exchanges_steps, .long f_exchanges_unlearn, .ref h_exchanges_row]))] := hD
          refine lv_aload_n hx hb dX7_set_67 rfl (lv_at hl 1 rfl) ?_
          obtain ⟨f_spansKnown_1, f_freeKnown_2, f_exchanges_reckoned_3, hu, h⟩ := ob3_1 h
          refine cl_Vv (As := []) (rest := []) [0, 3] [1, 2] [2, 0, 1, 3] [(h_use, .inr (6, [.int f_use_size, .ref h_use_counts, .ref h_use_words, .ref h_use_settings])), (h_use_settings, .inl (cy 0, 4, .inl (upd g_use_settings (Int32.toNatClampNeg a1) a2)))] [(h_this, .inr (7, [.ref h_use, .ref h_tape, .int f_taped, .ref h_reader, .int f_faultPlace, .ref h_tree, .ref h_draft, .ref h_page, .ref h_exchanges, v_spans, .int f_spansKnown_1, v_subsets, .long f_freeCost, .int f_freeKnown_2])), (h_use, .inr (6, [.int f_use_size, .ref h_use_counts, .ref h_use_words, .ref h_use_settings])), (h_use_settings, .inl (cy 0, 4, .inl (upd g_use_settings (Int32.toNatClampNeg a1) a2))), (h_exchanges, .inr (0, [.ref h_exchanges_sums, .ref h_exchanges_lengths, .ref h_exchanges_rows, .int f_exchanges_reckoned_3, .ref h_exchanges_lower, .ref h_exchanges_upper, .int f_exchanges_pairs, .ref h_exchanges_counts, .ref h_exchanges_steps, .long f_exchanges_unlearn, .ref h_exchanges_row]))] 7 ⟨hx, hb, hml, hown, hts⟩ (c_X7_useChanged (l := l) (D := D) (cy := cy) (sz := _) (h_this := h_this) (h_exchanges := h_exchanges) (h_use := h_use) (h_tape := h_tape) (h_reader := h_reader) (h_tree := h_tree) (h_draft := h_draft) (h_page := h_page) (v_spans := v_spans) (v_subsets := v_subsets) (h_exchanges_sums := h_exchanges_sums) (h_exchanges_lengths := h_exchanges_lengths) (h_exchanges_rows := h_exchanges_rows) (h_exchanges_lower := h_exchanges_lower) (h_exchanges_upper := h_exchanges_upper) (h_exchanges_counts := h_exchanges_counts) (h_exchanges_steps := h_exchanges_steps) (h_exchanges_row := h_exchanges_row) (f_taped := f_taped) (f_faultPlace := f_faultPlace) (f_spansKnown := f_spansKnown) (f_freeCost := f_freeCost) (f_freeKnown := f_freeKnown) (f_exchanges_reckoned := f_exchanges_reckoned) (f_exchanges_pairs := f_exchanges_pairs) (f_exchanges_unlearn := f_exchanges_unlearn) (o_f_spansKnown := f_spansKnown_1) (o_f_freeKnown := f_freeKnown_2) (o_f_exchanges_reckoned := f_exchanges_reckoned_3) (hf := hu)) (cwV 0 hts gX7_set_X7_useChanged rfl rfl rfl (by decide +kernel) ⟨Nat.le_of_ble_eq_true rfl, Nat.le_of_ble_eq_true rfl⟩) hK hP hD hS hA rfl rfl rfl rfl (by decide) rfl rfl rfl rfl rfl rfl rfl rfl hl.1 rfl (Nat.le_of_ble_eq_true rfl) dX7_set_68 ⟨Nat.zero_le _, Nat.zero_le _⟩ (fun H locs hP hD hS => ?_)
          refine lv_iload_n hx hb dX7_set_71 rfl (lv_at hl 0 rfl) ?_
          replace h := inr_1 h
          obtain ⟨e0, e1, e2, e3, e4⟩ := ret5 h
          exact rte_i e0 (by rw [← e1, ← e2, ← e3, ← e4]) hx hb hr hlk rfl hK hP hD hS dX7_set_72
        · replace h := it_0 h hc
          exact absurd h (by intro q; cases q)
    · replace h := it_0 h hc
      exact absurd h (by intro q; cases q)
theorem vxin_X7_set_114 : ∀ x ∈ (vx_atS RX7 114 "java/lang/IllegalArgumentException" ["java/lang/RuntimeException", "java/lang/Exception"]).filter goodWord, x ∈ wsX7_set := by decide +kernel
abbrev rmx_X7_set : Room := { frames := 6, cells := 1, slots := 6, locals := 90 }
set_option maxHeartbeats 4000000 in
set_option maxRecDepth 100000 in
theorem x_X7_set (l : Launch) (D : va_G) (cy : Nat → ClassId) (sa : Nat → Nat) (tl th : Nat) (hlt : l.stackTraces = false) (q : String) (h_this h_tape h_reader h_tree h_draft h_page h_use h_use_counts h_use_words h_use_settings h_exchanges h_exchanges_sums h_exchanges_lengths h_exchanges_rows h_exchanges_lower h_exchanges_upper h_exchanges_counts h_exchanges_steps h_exchanges_row : Nat)  (v_spans : Value) (v_subsets : Value)  (sz : Nat) (f_taped : Int32) (f_faultPlace : Int32) (f_spansKnown : Int32) (f_freeCost : Int64) (f_freeKnown : Int32) (f_use_size : Int32) (g_use_settings : Nat → Int32) (f_exchanges_reckoned : Int32) (f_exchanges_pairs : Int32) (f_exchanges_unlearn : Int64) (a1 : Int32) (a2 : Int32) (hf : f_X7_set f_spansKnown f_freeKnown g_use_settings f_exchanges_reckoned a1 a2 = some (.inl q)) : MX l yX7_set wsX7_set rmx_X7_set D cy sa tl th q [.ref h_this, .int a1, .int a2] sz [(h_this, .inr (7, [.ref h_use, .ref h_tape, .int f_taped, .ref h_reader, .int f_faultPlace, .ref h_tree, .ref h_draft, .ref h_page, .ref h_exchanges, v_spans, .int f_spansKnown, v_subsets, .long f_freeCost, .int f_freeKnown])), (h_use, .inr (6, [.int f_use_size, .ref h_use_counts, .ref h_use_words, .ref h_use_settings])), (h_use_settings, .inl (cy 0, 4, .inl g_use_settings)), (h_exchanges, .inr (0, [.ref h_exchanges_sums, .ref h_exchanges_lengths, .ref h_exchanges_rows, .int f_exchanges_reckoned, .ref h_exchanges_lower, .ref h_exchanges_upper, .int f_exchanges_pairs, .ref h_exchanges_counts, .ref h_exchanges_steps, .long f_exchanges_unlearn, .ref h_exchanges_row]))] := by
  refine MX.of (cc := cX7_set) (maxL := 4) (ret := (some .int)) (by decide) rfl (Nat.le_of_ble_eq_true rfl) ?_
  intro p e s m below meth c A ls hx hb hml hown hts hlk hr htab hG hK hA hP hD hS hl
  have h := hf
  unfold f_X7_set at h
  have wf115 := hts (.fieldLink RX7 115 "MenuPlanner" "LOWEST" "[I") (by decide +kernel)
  have wf118 := hts (.fieldLink RX7 118 "MenuPlanner" "HIGHEST" "[I") (by decide +kernel)
  have wf10 := hts (.fieldLink RX7 10 "MenuPlanner" "use" "LMenuPlanner$Use;") (by decide +kernel)
  have hinX7 := (by decide +kernel : ∀ w ∈ u_ws RX7 TX7 14, w ∈ wsX7_set)
  have wf123 := hts (.fieldLink RX7 123 "MenuPlanner$Use" "settings" "[I") (by decide +kernel)
  have hinX6 := (by decide +kernel : ∀ w ∈ u_ws RX6 TX6 4, w ∈ wsX7_set)
  replace hl : lv_has ls 4 [(0, .ref h_this), (1, .int a1), (2, .int a2)] := hl
  clear hf
  refine lv_iload_n hx hb dX7_set_0 rfl (lv_at hl 1 rfl) ?_
  refine lv_if_lt (tgt := 9) hx hb dX7_set_1 (by decide) (fun hc => ?_) (fun hc => ?_)
  · replace h := it_1 h hc
    have hq0 := inl_1 h
    subst hq0
    exact th_S (tx := "what is not 0 to 3") hlt hx hb (hml.trans hl.1.symm) hown hlk htab hG hK hP hD hS (by decide +kernel) hG.2.2.2.1.1 hts (by decide +kernel) (by decide +kernel) (vxin_X7_set_114) (by decide +kernel) (by decide +kernel) (by decide +kernel) dX7_set_9 dX7_set_12 dX7_set_13 dX7_set_15 dX7_set_18 (Nat.le_of_ble_eq_true rfl) (Nat.le_of_ble_eq_true rfl) (Nat.le_of_ble_eq_true rfl) (Nat.le_of_ble_eq_true rfl)
  · replace h := it_0 h hc
    refine lv_iload_n hx hb dX7_set_4 rfl (lv_at hl 1 rfl) ?_
    refine lv_iconst (v := 3) hx hb dX7_set_5 (by decide) ?_
    refine lv_icmp_le (tgt := 19) hx hb dX7_set_6 (by decide) (fun hc => ?_) (fun hc => ?_)
    · replace h := it_1 h hc
      refine lv_iload_n hx hb dX7_set_19 rfl (lv_at hl 2 rfl) ?_
      refine va_gets (C := RX7) (v := .ref tl) hx hb hG.2.2.2.2.2.1 hS hown wf115 (fun _ h9 => h9) dX7_set_20 ?_
      refine lv_iload_n hx hb dX7_set_23 rfl (lv_at hl 1 rfl) ?_
      have hi := gi_1 h; replace h := gi_2 h
      refine va_ti hx hb hG.2.2.2.2.2.2.1 hS hi rfl dX7_set_24 ?_
      refine lv_icmp_lt (tgt := 37) hx hb dX7_set_25 (by decide) (fun hc => ?_) (fun hc => ?_)
      · replace h := it_1 h hc
        have hq0 := inl_1 h
        subst hq0
        exact th_S (tx := "the value is out of its bounds") hlt hx hb (hml.trans hl.1.symm) hown hlk htab hG hK hP hD hS (by decide +kernel) hG.2.2.2.1.1 hts (by decide +kernel) (by decide +kernel) (vxin_X7_set_114) (by decide +kernel) (by decide +kernel) (by decide +kernel) dX7_set_37 dX7_set_40 dX7_set_41 dX7_set_43 dX7_set_46 (Nat.le_of_ble_eq_true rfl) (Nat.le_of_ble_eq_true rfl) (Nat.le_of_ble_eq_true rfl) (Nat.le_of_ble_eq_true rfl)
      · replace h := it_0 h hc
        refine lv_iload_n hx hb dX7_set_28 rfl (lv_at hl 2 rfl) ?_
        refine va_gets (C := RX7) (v := .ref th) hx hb hG.2.2.2.2.2.2.2.1 hS hown wf118 (fun _ h9 => h9) dX7_set_29 ?_
        refine lv_iload_n hx hb dX7_set_32 rfl (lv_at hl 1 rfl) ?_
        have hi := gi_1 h; replace h := gi_2 h
        refine va_ti hx hb hG.2.2.2.2.2.2.2.2 hS hi rfl dX7_set_33 ?_
        refine lv_icmp_le (tgt := 47) hx hb dX7_set_34 (by decide) (fun hc => ?_) (fun hc => ?_)
        · replace h := it_1 h hc
          refine lv_aload_n hx hb dX7_set_47 rfl (lv_at hl 0 rfl) ?_
          refine va_get (D := D) (ci := 7) (v := .ref h_use) (C := RX7) (T := TX7) (N := 14) hx hb hts hinX7 hown hK hP 0 rfl rfl 0 (by decide) wf10 (fun _ h9 => h9) rfl dX7_set_48 ?_
          refine va_get (D := D) (ci := 6) (v := .ref h_use_settings) (C := RX6) (T := TX6) (N := 4) hx hb hts hinX6 hown hK hP 1 rfl rfl 3 (by decide) wf123 (fun _ h9 => h9) rfl dX7_set_51 ?_
          refine lv_iload_n hx hb dX7_set_54 rfl (lv_at hl 1 rfl) ?_
          have hi := gi_1 h; replace h := gi_2 h
          refine va_iald hx hb hK hP 2 0 rfl rfl hi dX7_set_55 ?_
          refine lv_istore_n (lv' := [(3, .int (g_use_settings (Int32.toNatClampNeg a1))), (0, .ref h_this), (1, .int a1), (2, .int a2)]) hx hb dX7_set_56 rfl hl (by decide) rfl (fun ls hl => ?_)
          refine lv_aload_n hx hb dX7_set_57 rfl (lv_at hl 1 rfl) ?_
          refine va_get (D := D) (ci := 7) (v := .ref h_use) (C := RX7) (T := TX7) (N := 14) hx hb hts hinX7 hown hK hP 0 rfl rfl 0 (by decide) wf10 (fun _ h9 => h9) rfl dX7_set_58 ?_
          refine va_get (D := D) (ci := 6) (v := .ref h_use_settings) (C := RX6) (T := TX6) (N := 4) hx hb hts hinX6 hown hK hP 1 rfl rfl 3 (by decide) wf123 (fun _ h9 => h9) rfl dX7_set_61 ?_
          refine lv_iload_n hx hb dX7_set_64 rfl (lv_at hl 2 rfl) ?_
          refine lv_iload_n hx hb dX7_set_65 rfl (lv_at hl 3 rfl) ?_
          have hi := gi_1 h; replace h := gi_2 h
          refine va_iast hx hb hK hP hD hS 2 0 rfl rfl hi dX7_set_66 (fun H locs hP hD hS => ?_)
          replace hP : va_P D vwCl [(h_this, .inr (7, [.ref h_use, .ref h_tape, .int f_taped, .ref h_reader, .int f_faultPlace, .ref h_tree, .ref h_draft, .ref h_page, .ref h_exchanges, v_spans, .int f_spansKnown, v_subsets, .long f_freeCost, .int f_freeKnown])), (h_use, .inr (6, [.int f_use_size, .ref h_use_counts, .ref h_use_words, .ref h_use_settings])), (h_use_settings, .inl (cy 0, 4, .inl (upd g_use_settings (Int32.toNatClampNeg a1) a2))), (h_exchanges, .inr (0, [.ref h_exchanges_sums, .ref h_exchanges_lengths, .ref h_exchanges_rows, .int f_exchanges_reckoned, .ref h_exchanges_lower, .ref h_exchanges_upper, .int f_exchanges_pairs, .ref h_exchanges_counts, .ref h_exchanges_steps, .long f_exchanges_unlearn, .ref h_exchanges_row]))] H := hP
          replace hD : va_D A [(h_this, .inr (7, [.ref h_use, .ref h_tape, .int f_taped, .ref h_reader, .int f_faultPlace, .ref h_tree, .ref h_draft, .ref h_page, .ref h_exchanges, v_spans, .int f_spansKnown, v_subsets, .long f_freeCost, .int f_freeKnown])), (h_use, .inr (6, [.int f_use_size, .ref h_use_counts, .ref h_use_words, .ref h_use_settings])), (h_use_settings, .inl (cy 0, 4, .inl (upd g_use_settings (Int32.toNatClampNeg a1) a2))), (h_exchanges, .inr (0, [.ref h_exchanges_sums, .ref h_exchanges_lengths, .ref h_exchanges_rows, .int f_exchanges_reckoned, .ref h_exchanges_lower, .ref h_exchanges_upper, .int f_exchanges_pairs, .ref h_exchanges_counts, .ref h_exchanges_steps, .long f_exchanges_unlearn, .ref h_exchanges_row]))] := hD
          refine lv_aload_n hx hb dX7_set_67 rfl (lv_at hl 1 rfl) ?_
          obtain ⟨f_spansKnown_1, f_freeKnown_2, f_exchanges_reckoned_3, hu, h⟩ := ob3_1 h
          refine cl_Vv (As := []) (rest := []) [0, 3] [1, 2] [2, 0, 1, 3] [(h_use, .inr (6, [.int f_use_size, .ref h_use_counts, .ref h_use_words, .ref h_use_settings])), (h_use_settings, .inl (cy 0, 4, .inl (upd g_use_settings (Int32.toNatClampNeg a1) a2)))] [(h_this, .inr (7, [.ref h_use, .ref h_tape, .int f_taped, .ref h_reader, .int f_faultPlace, .ref h_tree, .ref h_draft, .ref h_page, .ref h_exchanges, v_spans, .int f_spansKnown_1, v_subsets, .long f_freeCost, .int f_freeKnown_2])), (h_use, .inr (6, [.int f_use_size, .ref h_use_counts, .ref h_use_words, .ref h_use_settings])), (h_use_settings, .inl (cy 0, 4, .inl (upd g_use_settings (Int32.toNatClampNeg a1) a2))), (h_exchanges, .inr (0, [.ref h_exchanges_sums, .ref h_exchanges_lengths, .ref h_exchanges_rows, .int f_exchanges_reckoned_3, .ref h_exchanges_lower, .ref h_exchanges_upper, .int f_exchanges_pairs, .ref h_exchanges_counts, .ref h_exchanges_steps, .long f_exchanges_unlearn, .ref h_exchanges_row]))] 7 ⟨hx, hb, hml, hown, hts⟩ (c_X7_useChanged (l := l) (D := D) (cy := cy) (sz := _) (h_this := h_this) (h_exchanges := h_exchanges) (h_use := h_use) (h_tape := h_tape) (h_reader := h_reader) (h_tree := h_tree) (h_draft := h_draft) (h_page := h_page) (v_spans := v_spans) (v_subsets := v_subsets) (h_exchanges_sums := h_exchanges_sums) (h_exchanges_lengths := h_exchanges_lengths) (h_exchanges_rows := h_exchanges_rows) (h_exchanges_lower := h_exchanges_lower) (h_exchanges_upper := h_exchanges_upper) (h_exchanges_counts := h_exchanges_counts) (h_exchanges_steps := h_exchanges_steps) (h_exchanges_row := h_exchanges_row) (f_taped := f_taped) (f_faultPlace := f_faultPlace) (f_spansKnown := f_spansKnown) (f_freeCost := f_freeCost) (f_freeKnown := f_freeKnown) (f_exchanges_reckoned := f_exchanges_reckoned) (f_exchanges_pairs := f_exchanges_pairs) (f_exchanges_unlearn := f_exchanges_unlearn) (o_f_spansKnown := f_spansKnown_1) (o_f_freeKnown := f_freeKnown_2) (o_f_exchanges_reckoned := f_exchanges_reckoned_3) (hf := hu)) (cwV 0 hts gX7_set_X7_useChanged rfl rfl rfl (by decide +kernel) ⟨Nat.le_of_ble_eq_true rfl, Nat.le_of_ble_eq_true rfl⟩) hK hP hD hS hA rfl rfl rfl rfl (by decide) rfl rfl rfl rfl rfl rfl rfl rfl hl.1 rfl (Nat.le_of_ble_eq_true rfl) dX7_set_68 ⟨Nat.zero_le _, Nat.zero_le _⟩ (fun H locs hP hD hS => ?_)
          refine lv_iload_n hx hb dX7_set_71 rfl (lv_at hl 0 rfl) ?_
          exact absurd h (by intro q; cases q)
        · replace h := it_0 h hc
          have hq0 := inl_1 h
          subst hq0
          exact th_S (tx := "the value is out of its bounds") hlt hx hb (hml.trans hl.1.symm) hown hlk htab hG hK hP hD hS (by decide +kernel) hG.2.2.2.1.1 hts (by decide +kernel) (by decide +kernel) (vxin_X7_set_114) (by decide +kernel) (by decide +kernel) (by decide +kernel) dX7_set_37 dX7_set_40 dX7_set_41 dX7_set_43 dX7_set_46 (Nat.le_of_ble_eq_true rfl) (Nat.le_of_ble_eq_true rfl) (Nat.le_of_ble_eq_true rfl) (Nat.le_of_ble_eq_true rfl)
    · replace h := it_0 h hc
      have hq0 := inl_1 h
      subst hq0
      exact th_S (tx := "what is not 0 to 3") hlt hx hb (hml.trans hl.1.symm) hown hlk htab hG hK hP hD hS (by decide +kernel) hG.2.2.2.1.1 hts (by decide +kernel) (by decide +kernel) (vxin_X7_set_114) (by decide +kernel) (by decide +kernel) (by decide +kernel) dX7_set_9 dX7_set_12 dX7_set_13 dX7_set_15 dX7_set_18 (Nat.le_of_ble_eq_true rfl) (Nat.le_of_ble_eq_true rfl) (Nat.le_of_ble_eq_true rfl) (Nat.le_of_ble_eq_true rfl)
