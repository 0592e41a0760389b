abbrev rm_X7_putOnTape : Room := { frames := 0, cells := 0, slots := 0, locals := 0 }
set_option maxHeartbeats 4000000 in
set_option maxRecDepth 100000 in
theorem c_X7_putOnTape (l : Launch) (D : va_G) (cy : Nat → ClassId) (h_this h_use h_tape h_reader h_tree h_draft h_page h_exchanges : Nat)  (v_spans : Value) (v_subsets : Value)  (sz : Nat) (f_taped : Int32) (f_faultPlace : Int32) (f_spansKnown : Int32) (f_freeCost : Int64) (f_freeKnown : Int32) (g_tape : Nat → Int32) (a1 : Int32)  (o_f_taped : Int32) (o_g_tape : Nat → Int32) (hf : f_X7_putOnTape f_taped g_tape a1 = some (o_f_taped, o_g_tape)) : MV l yX7_putOnTape wsX7_putOnTape rm_X7_putOnTape D cy [.ref h_this, .int a1] sz [(h_this, .inr (7, [.ref h_use, .ref h_tape, .int f_taped, .ref h_reader, .int f_faultPlace, .ref h_tree, .ref h_draft, .ref h_page, .ref h_exchanges, v_spans, .int f_spansKnown, v_subsets, .long f_freeCost, .int f_freeKnown])), (h_tape, .inl (cy 2, 400, .inl g_tape))] [(h_this, .inr (7, [.ref h_use, .ref h_tape, .int o_f_taped, .ref h_reader, .int f_faultPlace, .ref h_tree, .ref h_draft, .ref h_page, .ref h_exchanges, v_spans, .int f_spansKnown, v_subsets, .long f_freeCost, .int f_freeKnown])), (h_tape, .inl (cy 2, 400, .inl o_g_tape))] := by
  refine MV.of (cc := cX7_putOnTape) (maxL := 3) (ret := none) (by decide) rfl (Nat.le_of_ble_eq_true rfl) ?_
  intro p e s m below meth c A ls hx hb hml hown hts hlk hr hK hA hP hD hS hl
  have h := hf
  unfold f_X7_putOnTape at h
  have wf20 := hts (.fieldLink RX7 20 "MenuPlanner" "taped" "I") (by decide +kernel)
  have hinX7 := (by decide +kernel : ∀ w ∈ u_ws RX7 TX7 14, w ∈ wsX7_putOnTape)
  have wf16 := hts (.fieldLink RX7 16 "MenuPlanner" "tape" "[B") (by decide +kernel)
  replace hl : lv_has ls 3 [(0, .ref h_this), (1, .int a1)] := hl
  have L3 : ∀ (n : Nat) (f_taped : Int32) (g_tape : Nat → Int32) (x1 : Int32) (x2 : Int32), f_X7_putOnTape_L3 n f_taped g_tape x1 x2 = some (o_f_taped, o_g_tape) → ∀ (H : Heap) (locs : List Loc) (ls : Array Slot), va_P D vwCl [(h_this, .inr (7, [.ref h_use, .ref h_tape, .int f_taped, .ref h_reader, .int f_faultPlace, .ref h_tree, .ref h_draft, .ref h_page, .ref h_exchanges, v_spans, .int f_spansKnown, v_subsets, .long f_freeCost, .int f_freeKnown])), (h_tape, .inl (cy 2, 400, .inl g_tape))] H → va_D A [(h_this, .inr (7, [.ref h_use, .ref h_tape, .int f_taped, .ref h_reader, .int f_faultPlace, .ref h_tree, .ref h_draft, .ref h_page, .ref h_exchanges, v_spans, .int f_spansKnown, v_subsets, .long f_freeCost, .int f_freeKnown])), (h_tape, .inl (cy 2, 400, .inl g_tape))] → va_S A s.heap H locs → lv_has ls 3 [(0, .ref h_this), (1, .int x1), (2, .int x2)] → W p l e rm_X7_putOnTape s m ([.ref h_this, .int a1]).toArray below meth c H locs 0 0 (MQ below (QV D cy A [(h_this, .inr (7, [.ref h_use, .ref h_tape, .int o_f_taped, .ref h_reader, .int f_faultPlace, .ref h_tree, .ref h_draft, .ref h_page, .ref h_exchanges, v_spans, .int f_spansKnown, v_subsets, .long f_freeCost, .int f_freeKnown])), (h_tape, .inl (cy 2, 400, .inl o_g_tape))]) ([.ref h_this, .int a1]).toArray s 0 0 A) (F0 m 3 ls []) := by
    intro n
    induction n with
    | zero => intro f_taped g_tape x1 x2 h; exact absurd (show (none : Option _) = some _ from h) (by intro q; cases q)
    | succ n3 ih3 =>
      intro f_taped g_tape x1 x2 h H locs ls hP hD hS hl
      replace h : f_X7_putOnTape_L3_F (f_X7_putOnTape_L3 n3) f_taped g_tape x1 x2 = some (o_f_taped, o_g_tape) := h
      unfold f_X7_putOnTape_L3_F at h
      refine lv_iload_n hx hb dX7_putOnTape_3 rfl (lv_at hl 2 rfl) ?_
      refine lv_if_lt (tgt := 46) hx hb dX7_putOnTape_4 (by decide) (fun hc => ?_) (fun hc => ?_)
      · replace h := it_1 h hc
        obtain ⟨e0, e1⟩ := ret2 h
        exact rte_v (by rw [← e0, ← e1]) hx hb hr hlk hK hP hD hS dX7_putOnTape_46
      · replace h := it_0 h hc
        refine lv_aload_n hx hb dX7_putOnTape_7 rfl (lv_at hl 0 rfl) ?_
        refine va_get (D := D) (ci := 7) (v := .int f_taped) (C := RX7) (T := TX7) (N := 14) hx hb hts hinX7 hown hK hP 0 rfl rfl 2 (by decide) wf20 (fun _ h9 => h9) rfl dX7_putOnTape_8 ?_
        refine lv_sipush (v := 400) hx hb dX7_putOnTape_11 (by decide) ?_
        refine lv_icmp_ge (tgt := 46) hx hb dX7_putOnTape_14 (by decide) (fun hc => ?_) (fun hc => ?_)
        · replace h := it_1 h hc
          obtain ⟨e0, e1⟩ := ret2 h
          exact rte_v (by rw [← e0, ← e1]) hx hb hr hlk hK hP hD hS dX7_putOnTape_46
        · replace h := it_0 h hc
          refine lv_aload_n hx hb dX7_putOnTape_17 rfl (lv_at hl 0 rfl) ?_
          refine va_get (D := D) (ci := 7) (v := .ref h_tape) (C := RX7) (T := TX7) (N := 14) hx hb hts hinX7 hown hK hP 0 rfl rfl 1 (by decide) wf16 (fun _ h9 => h9) rfl dX7_putOnTape_18 ?_
          refine lv_aload_n hx hb dX7_putOnTape_21 rfl (lv_at hl 0 rfl) ?_
          refine va_get (D := D) (ci := 7) (v := .int f_taped) (C := RX7) (T := TX7) (N := 14) hx hb hts hinX7 hown hK hP 0 rfl rfl 2 (by decide) wf20 (fun _ h9 => h9) rfl dX7_putOnTape_22 ?_
          refine lv_iload_n hx hb dX7_putOnTape_25 rfl (lv_at hl 1 rfl) ?_
          refine lv_iload_n hx hb dX7_putOnTape_26 rfl (lv_at hl 2 rfl) ?_
          refine lv_iushr hx hb dX7_putOnTape_27 rfl ?_
          refine lv_i2b hx hb dX7_putOnTape_28 rfl ?_
          have hi := gi_1 h; replace h := gi_2 h
          refine va_bast hx hb hK hP hD hS 1 2 rfl rfl hi dX7_putOnTape_29 (fun H locs hP hD hS => ?_)
          replace hP : va_P D vwCl [(h_this, .inr (7, [.ref h_use, .ref h_tape, .int f_taped, .ref h_reader, .int f_faultPlace, .ref h_tree, .ref h_draft, .ref h_page, .ref h_exchanges, v_spans, .int f_spansKnown, v_subsets, .long f_freeCost, .int f_freeKnown])), (h_tape, .inl (cy 2, 400, .inl (upd g_tape (Int32.toNatClampNeg f_taped) (vp_nar .byte (Int8.toInt32 (Int32.toInt8 ((Int32.toUInt32 x1 >>> (Int32.toUInt32 x2 &&& Int32.toUInt32 31)).toInt32)))))))] H := hP
          replace hD : va_D A [(h_this, .inr (7, [.ref h_use, .ref h_tape, .int f_taped, .ref h_reader, .int f_faultPlace, .ref h_tree, .ref h_draft, .ref h_page, .ref h_exchanges, v_spans, .int f_spansKnown, v_subsets, .long f_freeCost, .int f_freeKnown])), (h_tape, .inl (cy 2, 400, .inl (upd g_tape (Int32.toNatClampNeg f_taped) (vp_nar .byte (Int8.toInt32 (Int32.toInt8 ((Int32.toUInt32 x1 >>> (Int32.toUInt32 x2 &&& Int32.toUInt32 31)).toInt32)))))))] := hD
          refine lv_aload_n hx hb dX7_putOnTape_30 rfl (lv_at hl 0 rfl) ?_
          refine lv_dup hx hb dX7_putOnTape_31 rfl ?_
          refine va_get (D := D) (ci := 7) (v := .int f_taped) (C := RX7) (T := TX7) (N := 14) hx hb hts hinX7 hown hK hP 0 rfl rfl 2 (by decide) wf20 (fun _ h9 => h9) rfl dX7_putOnTape_32 ?_
          refine lv_iconst (v := 1) hx hb dX7_putOnTape_35 (by decide) ?_
          refine lv_iadd hx hb dX7_putOnTape_36 ?_
          refine va_put (D := D) (ci := 7) (v := .int (f_taped + 1)) (ty := .int) (C := RX7) (T := TX7) (N := 14) hx hb hts hinX7 tyX7 tyX7_ok nmX7 hown hK hP hD hS 0 rfl rfl 2 (by decide) wf20 (fun _ h9 => h9) rfl (by decide +kernel) rfl rfl (Nat.le_of_ble_eq_true rfl) dX7_putOnTape_37 (fun H locs hP hD hS => ?_)
          replace hP : va_P D vwCl [(h_this, .inr (7, [.ref h_use, .ref h_tape, .int (f_taped + 1), .ref h_reader, .int f_faultPlace, .ref h_tree, .ref h_draft, .ref h_page, .ref h_exchanges, v_spans, .int f_spansKnown, v_subsets, .long f_freeCost, .int f_freeKnown])), (h_tape, .inl (cy 2, 400, .inl (upd g_tape (Int32.toNatClampNeg f_taped) (vp_nar .byte (Int8.toInt32 (Int32.toInt8 ((Int32.toUInt32 x1 >>> (Int32.toUInt32 x2 &&& Int32.toUInt32 31)).toInt32)))))))] H := hP
          replace hD : va_D A [(h_this, .inr (7, [.ref h_use, .ref h_tape, .int (f_taped + 1), .ref h_reader, .int f_faultPlace, .ref h_tree, .ref h_draft, .ref h_page, .ref h_exchanges, v_spans, .int f_spansKnown, v_subsets, .long f_freeCost, .int f_freeKnown])), (h_tape, .inl (cy 2, 400, .inl (upd g_tape (Int32.toNatClampNeg f_taped) (vp_nar .byte (Int8.toInt32 (Int32.toInt8 ((Int32.toUInt32 x1 >>> (Int32.toUInt32 x2 &&& Int32.toUInt32 31)).toInt32)))))))] := hD
          refine lv_iinc (v := (x2 + (-8))) (lv' := [(2, .int (x2 + (-8))), (0, .ref h_this), (1, .int x1)]) hx hb dX7_putOnTape_40 hl (k := 2) rfl (by rw [show Int32.ofInt (-8) = (-8 : Int32) by decide]) (by decide) rfl (fun ls hl => ?_)
          refine lv_goto (tgt := 3) hx hb dX7_putOnTape_43 (by decide) ?_
          exact ih3 _ _ _ _ h _ _ _ hP hD hS (lv_sub hl [1, 2, 0] rfl)
  clear hf
  refine lv_bipush (v := 24) hx hb dX7_putOnTape_0 (by decide) ?_
  refine lv_istore_n (lv' := [(2, .int 24), (0, .ref h_this), (1, .int a1)]) hx hb dX7_putOnTape_2 rfl hl (by decide) rfl (fun ls hl => ?_)
  exact L3 FU _ _ _ _ h _ _ _ hP hD hS (lv_sub hl [1, 2, 0] rfl)
abbrev rm_X7_feed : Room := { frames := 1, cells := 0, slots := 0, locals := 22 }
set_option maxHeartbeats 4000000 in
set_option maxRecDepth 100000 in
theorem c_X7_feed (l : Launch) (D : va_G) (cy : Nat → ClassId) (h_this h_use h_tape h_reader h_tree h_draft h_page h_exchanges : Nat)  (v_spans : Value) (v_subsets : Value)  (sz : Nat) (f_taped : Int32) (f_faultPlace : Int32) (f_spansKnown : Int32) (f_freeCost : Int64) (f_freeKnown : Int32) (g_tape : Nat → Int32) (a1 : Int32) (a2 : Int32) (a3 : Int32) (a4 : Int32) (a5 : Int32) (r0 : Int32) (o_f_taped : Int32) (o_g_tape : Nat → Int32) (hf : f_X7_feed f_taped g_tape a1 a2 a3 a4 a5 = some (r0, o_f_taped, o_g_tape)) : MI l yX7_feed wsX7_feed rm_X7_feed D cy [.ref h_this, .int a1, .int a2, .int a3, .int a4, .int a5] sz [(h_this, .inr (7, [.ref h_use, .ref h_tape, .int f_taped, .ref h_reader, .int f_faultPlace, .ref h_tree, .ref h_draft, .ref h_page, .ref h_exchanges, v_spans, .int f_spansKnown, v_subsets, .long f_freeCost, .int f_freeKnown])), (h_tape, .inl (cy 2, 400, .inl g_tape))] r0 [(h_this, .inr (7, [.ref h_use, .ref h_tape, .int o_f_taped, .ref h_reader, .int f_faultPlace, .ref h_tree, .ref h_draft, .ref h_page, .ref h_exchanges, v_spans, .int f_spansKnown, v_subsets, .long f_freeCost, .int f_freeKnown])), (h_tape, .inl (cy 2, 400, .inl o_g_tape))] := by
  refine MI.of (cc := cX7_feed) (maxL := 6) (ret := (some .int)) (by decide) rfl (Nat.le_of_ble_eq_true rfl) ?_
  intro p e s m below meth c A ls hx hb hml hown hts hlk hr hK hA hP hD hS hl
  have h := hf
  unfold f_X7_feed at h
  have wf20 := hts (.fieldLink RX7 20 "MenuPlanner" "taped" "I") (by decide +kernel)
  have hinX7 := (by decide +kernel : ∀ w ∈ u_ws RX7 TX7 14, w ∈ wsX7_feed)
  replace hl : lv_has ls 6 [(0, .ref h_this), (1, .int a1), (2, .int a2), (3, .int a3), (4, .int a4), (5, .int a5)] := hl
  clear hf
  refine lv_aload_n hx hb dX7_feed_0 rfl (lv_at hl 0 rfl) ?_
  refine va_get (D := D) (ci := 7) (v := .int f_taped) (C := RX7) (T := TX7) (N := 14) hx hb hts hinX7 hown hK hP 0 rfl rfl 2 (by decide) wf20 (fun _ h9 => h9) rfl dX7_feed_1 ?_
  refine lv_sipush (v := 380) hx hb dX7_feed_4 (by decide) ?_
  refine lv_icmp_le (tgt := 12) hx hb dX7_feed_7 (by decide) (fun hc => ?_) (fun hc => ?_)
  · replace h := it_1 h hc
    refine lv_aload_n hx hb dX7_feed_12 rfl (lv_at hl 0 rfl) ?_
    refine lv_iload_n hx hb dX7_feed_13 rfl (lv_at hl 1 rfl) ?_
    obtain ⟨f_taped_1, g_tape_2, hu, h⟩ := ob2_1 h
    refine cl_Vv (As := [.int a1]) (rest := []) [0, 1] [] [0, 1] [] [(h_this, .inr (7, [.ref h_use, .ref h_tape, .int f_taped_1, .ref h_reader, .int f_faultPlace, .ref h_tree, .ref h_draft, .ref h_page, .ref h_exchanges, v_spans, .int f_spansKnown, v_subsets, .long f_freeCost, .int f_freeKnown])), (h_tape, .inl (cy 2, 400, .inl g_tape_2))] 7 ⟨hx, hb, hml, hown, hts⟩ (c_X7_putOnTape (l := l) (D := D) (cy := cy) (sz := _) (h_this := h_this) (h_tape := h_tape) (h_use := h_use) (h_reader := h_reader) (h_tree := h_tree) (h_draft := h_draft) (h_page := h_page) (h_exchanges := h_exchanges) (v_spans := v_spans) (v_subsets := v_subsets) (f_taped := f_taped) (f_faultPlace := f_faultPlace) (f_spansKnown := f_spansKnown) (f_freeCost := f_freeCost) (f_freeKnown := f_freeKnown) (g_tape := g_tape) (a1 := a1) (o_f_taped := f_taped_1) (o_g_tape := g_tape_2) (hf := hu)) (cwV 1 hts gX7_feed_X7_putOnTape rfl rfl rfl (by decide +kernel) ⟨Nat.le_of_ble_eq_true rfl, Nat.le_of_ble_eq_true rfl⟩) hK hP hD hS hA rfl rfl rfl rfl (by decide) rfl rfl rfl rfl rfl rfl rfl rfl hl.1 rfl (Nat.le_of_ble_eq_true rfl) dX7_feed_14 ⟨Nat.zero_le _, Nat.zero_le _⟩ (fun H locs hP hD hS => ?_)
    refine lv_aload_n hx hb dX7_feed_17 rfl (lv_at hl 0 rfl) ?_
    refine lv_iload_n hx hb dX7_feed_18 rfl (lv_at hl 2 rfl) ?_
    obtain ⟨f_taped_3, g_tape_4, hu, h⟩ := ob2_1 h
    refine cl_Vv (As := [.int a2]) (rest := []) [0, 1] [] [0, 1] [] [(h_this, .inr (7, [.ref h_use, .ref h_tape, .int f_taped_3, .ref h_reader, .int f_faultPlace, .ref h_tree, .ref h_draft, .ref h_page, .ref h_exchanges, v_spans, .int f_spansKnown, v_subsets, .long f_freeCost, .int f_freeKnown])), (h_tape, .inl (cy 2, 400, .inl g_tape_4))] 7 ⟨hx, hb, hml, hown, hts⟩ (c_X7_putOnTape (l := l) (D := D) (cy := cy) (sz := _) (h_this := h_this) (h_tape := h_tape) (h_use := h_use) (h_reader := h_reader) (h_tree := h_tree) (h_draft := h_draft) (h_page := h_page) (h_exchanges := h_exchanges) (v_spans := v_spans) (v_subsets := v_subsets) (f_taped := f_taped_1) (f_faultPlace := f_faultPlace) (f_spansKnown := f_spansKnown) (f_freeCost := f_freeCost) (f_freeKnown := f_freeKnown) (g_tape := g_tape_2) (a1 := a2) (o_f_taped := f_taped_3) (o_g_tape := g_tape_4) (hf := hu)) (cwV 1 hts gX7_feed_X7_putOnTape rfl rfl rfl (by decide +kernel) ⟨Nat.le_of_ble_eq_true rfl, Nat.le_of_ble_eq_true rfl⟩) hK hP hD hS hA rfl rfl rfl rfl (by decide) rfl rfl rfl rfl rfl rfl rfl rfl hl.1 rfl (Nat.le_of_ble_eq_true rfl) dX7_feed_19 ⟨Nat.zero_le _, Nat.zero_le _⟩ (fun H locs hP hD hS => ?_)
    refine lv_aload_n hx hb dX7_feed_22 rfl (lv_at hl 0 rfl) ?_
    refine lv_iload_n hx hb dX7_feed_23 rfl (lv_at hl 3 rfl) ?_
    obtain ⟨f_taped_5, g_tape_6, hu, h⟩ := ob2_1 h
    refine cl_Vv (As := [.int a3]) (rest := []) [0, 1] [] [0, 1] [] [(h_this, .inr (7, [.ref h_use, .ref h_tape, .int f_taped_5, .ref h_reader, .int f_faultPlace, .ref h_tree, .ref h_draft, .ref h_page, .ref h_exchanges, v_spans, .int f_spansKnown, v_subsets, .long f_freeCost, .int f_freeKnown])), (h_tape, .inl (cy 2, 400, .inl g_tape_6))] 7 ⟨hx, hb, hml, hown, hts⟩ (c_X7_putOnTape (l := l) (D := D) (cy := cy) (sz := _) (h_this := h_this) (h_tape := h_tape) (h_use := h_use) (h_reader := h_reader) (h_tree := h_tree) (h_draft := h_draft) (h_page := h_page) (h_exchanges := h_exchanges) (v_spans := v_spans) (v_subsets := v_subsets) (f_taped := f_taped_3) (f_faultPlace := f_faultPlace) (f_spansKnown := f_spansKnown) (f_freeCost := f_freeCost) (f_freeKnown := f_freeKnown) (g_tape := g_tape_4) (a1 := a3) (o_f_taped := f_taped_5) (o_g_tape := g_tape_6) (hf := hu)) (cwV 1 hts gX7_feed_X7_putOnTape rfl rfl rfl (by decide +kernel) ⟨Nat.le_of_ble_eq_true rfl, Nat.le_of_ble_eq_true rfl⟩) hK hP hD hS hA rfl rfl rfl rfl (by decide) rfl rfl rfl rfl rfl rfl rfl rfl hl.1 rfl (Nat.le_of_ble_eq_true rfl) dX7_feed_24 ⟨Nat.zero_le _, Nat.zero_le _⟩ (fun H locs hP hD hS => ?_)
    refine lv_aload_n hx hb dX7_feed_27 rfl (lv_at hl 0 rfl) ?_
    refine lv_iload hx hb dX7_feed_28 (lv_at hl 4 rfl) ?_
    obtain ⟨f_taped_7, g_tape_8, hu, h⟩ := ob2_1 h
    refine cl_Vv (As := [.int a4]) (rest := []) [0, 1] [] [0, 1] [] [(h_this, .inr (7, [.ref h_use, .ref h_tape, .int f_taped_7, .ref h_reader, .int f_faultPlace, .ref h_tree, .ref h_draft, .ref h_page, .ref h_exchanges, v_spans, .int f_spansKnown, v_subsets, .long f_freeCost, .int f_freeKnown])), (h_tape, .inl (cy 2, 400, .inl g_tape_8))] 7 ⟨hx, hb, hml, hown, hts⟩ (c_X7_putOnTape (l := l) (D := D) (cy := cy) (sz := _) (h_this := h_this) (h_tape := h_tape) (h_use := h_use) (h_reader := h_reader) (h_tree := h_tree) (h_draft := h_draft) (h_page := h_page) (h_exchanges := h_exchanges) (v_spans := v_spans) (v_subsets := v_subsets) (f_taped := f_taped_5) (f_faultPlace := f_faultPlace) (f_spansKnown := f_spansKnown) (f_freeCost := f_freeCost) (f_freeKnown := f_freeKnown) (g_tape := g_tape_6) (a1 := a4) (o_f_taped := f_taped_7) (o_g_tape := g_tape_8) (hf := hu)) (cwV 1 hts gX7_feed_X7_putOnTape rfl rfl rfl (by decide +kernel) ⟨Nat.le_of_ble_eq_true rfl, Nat.le_of_ble_eq_true rfl⟩) hK hP hD hS hA rfl rfl rfl rfl (by decide) rfl rfl rfl rfl rfl rfl rfl rfl hl.1 rfl (Nat.le_of_ble_eq_true rfl) dX7_feed_30 ⟨Nat.zero_le _, Nat.zero_le _⟩ (fun H locs hP hD hS => ?_)
    refine lv_aload_n hx hb dX7_feed_33 rfl (lv_at hl 0 rfl) ?_
    refine lv_iload hx hb dX7_feed_34 (lv_at hl 5 rfl) ?_
    obtain ⟨f_taped_9, g_tape_10, hu, h⟩ := ob2_1 h
    refine cl_Vv (As := [.int a5]) (rest := []) [0, 1] [] [0, 1] [] [(h_this, .inr (7, [.ref h_use, .ref h_tape, .int f_taped_9, .ref h_reader, .int f_faultPlace, .ref h_tree, .ref h_draft, .ref h_page, .ref h_exchanges, v_spans, .int f_spansKnown, v_subsets, .long f_freeCost, .int f_freeKnown])), (h_tape, .inl (cy 2, 400, .inl g_tape_10))] 7 ⟨hx, hb, hml, hown, hts⟩ (c_X7_putOnTape (l := l) (D := D) (cy := cy) (sz := _) (h_this := h_this) (h_tape := h_tape) (h_use := h_use) (h_reader := h_reader) (h_tree := h_tree) (h_draft := h_draft) (h_page := h_page) (h_exchanges := h_exchanges) (v_spans := v_spans) (v_subsets := v_subsets) (f_taped := f_taped_7) (f_faultPlace := f_faultPlace) (f_spansKnown := f_spansKnown) (f_freeCost := f_freeCost) (f_freeKnown := f_freeKnown) (g_tape := g_tape_8) (a1 := a5) (o_f_taped := f_taped_9) (o_g_tape := g_tape_10) (hf := hu)) (cwV 1 hts gX7_feed_X7_putOnTape rfl rfl rfl (by decide +kernel) ⟨Nat.le_of_ble_eq_true rfl, Nat.le_of_ble_eq_true rfl⟩) hK hP hD hS hA rfl rfl rfl rfl (by decide) rfl rfl rfl rfl rfl rfl rfl rfl hl.1 rfl (Nat.le_of_ble_eq_true rfl) dX7_feed_36 ⟨Nat.zero_le _, Nat.zero_le _⟩ (fun H locs hP hD hS => ?_)
    refine lv_aload_n hx hb dX7_feed_39 rfl (lv_at hl 0 rfl) ?_
    refine va_get (D := D) (ci := 7) (v := .int f_taped_9) (C := RX7) (T := TX7) (N := 14) hx hb hts hinX7 hown hK hP 0 rfl rfl 2 (by decide) wf20 (fun _ h9 => h9) rfl dX7_feed_40 ?_
    obtain ⟨e0, e1, e2⟩ := ret3 h
    exact rte_i e0 (by rw [← e1, ← e2]) hx hb hr hlk rfl hK hP hD hS dX7_feed_43
  · replace h := it_0 h hc
    refine lv_iconst (v := (-1)) hx hb dX7_feed_10 (by decide) ?_
    obtain ⟨e0, e1, e2⟩ := ret3 h
    exact rte_i e0 (by rw [← e1, ← e2]) hx hb hr hlk rfl hK hP hD hS dX7_feed_11
abbrev rm_X7_fault : Room := { frames := 0, cells := 0, slots := 0, locals := 0 }
set_option maxHeartbeats 4000000 in
set_option maxRecDepth 100000 in
theorem c_X7_fault (l : Launch) (D : va_G) (cy : Nat → ClassId) (h_this h_use h_tape h_reader h_tree h_draft h_page h_exchanges : Nat)  (v_spans : Value) (v_subsets : Value)  (sz : Nat) (f_taped : Int32) (f_faultPlace : Int32) (f_spansKnown : Int32) (f_freeCost : Int64) (f_freeKnown : Int32)  (r0 : Int32)  (hf : f_X7_fault f_faultPlace = some r0) : MI l yX7_fault wsX7_fault rm_X7_fault D cy [.ref h_this] sz [(h_this, .inr (7, [.ref h_use, .ref h_tape, .int f_taped, .ref h_reader, .int f_faultPlace, .ref h_tree, .ref h_draft, .ref h_page, .ref h_exchanges, v_spans, .int f_spansKnown, v_subsets, .long f_freeCost, .int f_freeKnown]))] r0 [(h_this, .inr (7, [.ref h_use, .ref h_tape, .int f_taped, .ref h_reader, .int f_faultPlace, .ref h_tree, .ref h_draft, .ref h_page, .ref h_exchanges, v_spans, .int f_spansKnown, v_subsets, .long f_freeCost, .int f_freeKnown]))] := by
  refine MI.of (cc := cX7_fault) (maxL := 1) (ret := (some .int)) (by decide) rfl (Nat.le_of_ble_eq_true rfl) ?_
  intro p e s m below meth c A ls hx hb hml hown hts hlk hr hK hA hP hD hS hl
  have h := hf
  unfold f_X7_fault at h
  have wf31 := hts (.fieldLink RX7 31 "MenuPlanner" "faultPlace" "I") (by decide +kernel)
  have hinX7 := (by decide +kernel : ∀ w ∈ u_ws RX7 TX7 14, w ∈ wsX7_fault)
  replace hl : lv_has ls 1 [(0, .ref h_this)] := hl
  clear hf
  refine lv_aload_n hx hb dX7_fault_0 rfl (lv_at hl 0 rfl) ?_
  refine va_get (D := D) (ci := 7) (v := .int f_faultPlace) (C := RX7) (T := TX7) (N := 14) hx hb hts hinX7 hown hK hP 0 rfl rfl 4 (by decide) wf31 (fun _ h9 => h9) rfl dX7_fault_1 ?_
  have e0 := ret1 h
  exact rte_i e0 rfl hx hb hr hlk rfl hK hP hD hS dX7_fault_4
abbrev rm_X7_cost : Room := { frames := 2, cells := 0, slots := 0, locals := 51 }
set_option maxHeartbeats 4000000 in
set_option maxRecDepth 100000 in
theorem c_X7_cost (l : Launch) (D : va_G) (cy : Nat → ClassId) (h_this h_tape h_reader h_draft h_page h_exchanges h_use h_use_counts h_use_words h_use_settings h_tree h_tree_sizes h_tree_above h_tree_placeAbove h_tree_items h_tree_home h_tree_placeHome h_tree_tally : Nat)  (v_spans : Value) (v_subsets : Value)  (sz : Nat) (f_taped : Int32) (f_faultPlace : Int32) (f_spansKnown : Int32) (f_freeCost : Int64) (f_freeKnown : Int32) (f_use_size : Int32) (g_use_counts : Nat → Int32) (g_use_settings : Nat → Int32) (f_tree_lists : Int32) (g_tree_above : Nat → Int32) (g_tree_placeAbove : Nat → Int32) (g_tree_home : Nat → Int32) (g_tree_placeHome : Nat → Int32)  (r0 : Int64)  (hf : f_X7_cost f_use_size g_use_counts g_use_settings f_tree_lists g_tree_above g_tree_placeAbove g_tree_home g_tree_placeHome = some r0) : ML l yX7_cost wsX7_cost rm_X7_cost D cy [.ref h_this] sz [(h_this, .inr (7, [.ref h_use, .ref h_tape, .int f_taped, .ref h_reader, .int f_faultPlace, .ref h_tree, .ref h_draft, .ref h_page, .ref h_exchanges, v_spans, .int f_spansKnown, v_subsets, .long f_freeCost, .int f_freeKnown])), (h_use, .inr (6, [.int f_use_size, .ref h_use_counts, .ref h_use_words, .ref h_use_settings])), (h_use_counts, .inl (cy 0, 40, .inl g_use_counts)), (h_use_settings, .inl (cy 0, 4, .inl g_use_settings)), (h_tree, .inr (5, [.int f_tree_lists, .ref h_tree_sizes, .ref h_tree_above, .ref h_tree_placeAbove, .ref h_tree_items, .ref h_tree_home, .ref h_tree_placeHome, .ref h_tree_tally])), (h_tree_above, .inl (cy 0, 80, .inl g_tree_above)), (h_tree_placeAbove, .inl (cy 0, 80, .inl g_tree_placeAbove)), (h_tree_home, .inl (cy 0, 40, .inl g_tree_home)), (h_tree_placeHome, .inl (cy 0, 40, .inl g_tree_placeHome))] r0 [(h_this, .inr (7, [.ref h_use, .ref h_tape, .int f_taped, .ref h_reader, .int f_faultPlace, .ref h_tree, .ref h_draft, .ref h_page, .ref h_exchanges, v_spans, .int f_spansKnown, v_subsets, .long f_freeCost, .int f_freeKnown])), (h_use, .inr (6, [.int f_use_size, .ref h_use_counts, .ref h_use_words, .ref h_use_settings])), (h_use_counts, .inl (cy 0, 40, .inl g_use_counts)), (h_use_settings, .inl (cy 0, 4, .inl g_use_settings)), (h_tree, .inr (5, [.int f_tree_lists, .ref h_tree_sizes, .ref h_tree_above, .ref h_tree_placeAbove, .ref h_tree_items, .ref h_tree_home, .ref h_tree_placeHome, .ref h_tree_tally])), (h_tree_above, .inl (cy 0, 80, .inl g_tree_above)), (h_tree_placeAbove, .inl (cy 0, 80, .inl g_tree_placeAbove)), (h_tree_home, .inl (cy 0, 40, .inl g_tree_home)), (h_tree_placeHome, .inl (cy 0, 40, .inl g_tree_placeHome))] := by
  refine ML.of (cc := cX7_cost) (maxL := 1) (ret := (some .long)) (by decide) rfl (Nat.le_of_ble_eq_true rfl) ?_
  intro p e s m below meth c A ls hx hb hml hown hts hlk hr hK hA hP hD hS hl
  have h := hf
  unfold f_X7_cost at h
  have wf37 := hts (.fieldLink RX7 37 "MenuPlanner" "tree" "LMenuPlanner$Tree;") (by decide +kernel)
  have hinX7 := (by decide +kernel : ∀ w ∈ u_ws RX7 TX7 14, w ∈ wsX7_cost)
  have wl142 := hts (.constantLong RX7 142 (-1)) (by decide +kernel)
  have wf10 := hts (.fieldLink RX7 10 "MenuPlanner" "use" "LMenuPlanner$Use;") (by decide +kernel)
  replace hl : lv_has ls 1 [(0, .ref h_this)] := hl
  clear hf
  refine lv_aload_n hx hb dX7_cost_0 rfl (lv_at hl 0 rfl) ?_
  refine va_get (D := D) (ci := 7) (v := .ref h_tree) (C := RX7) (T := TX7) (N := 14) hx hb hts hinX7 hown hK hP 0 rfl rfl 5 (by decide) wf37 (fun _ h9 => h9) rfl dX7_cost_1 ?_
  obtain ⟨r_1, hu, h⟩ := ob_1 h
  refine cl_Vi (As := []) (rest := []) [4] [0, 1, 2, 3, 5, 6, 7, 8] [0, 1, 2, 3, 8, 4, 5, 6, 7] [(h_this, .inr (7, [.ref h_use, .ref h_tape, .int f_taped, .ref h_reader, .int f_faultPlace, .ref h_tree, .ref h_draft, .ref h_page, .ref h_exchanges, v_spans, .int f_spansKnown, v_subsets, .long f_freeCost, .int f_freeKnown])), (h_use, .inr (6, [.int f_use_size, .ref h_use_counts, .ref h_use_words, .ref h_use_settings])), (h_use_counts, .inl (cy 0, 40, .inl g_use_counts)), (h_use_settings, .inl (cy 0, 4, .inl g_use_settings)), (h_tree_above, .inl (cy 0, 80, .inl g_tree_above)), (h_tree_placeAbove, .inl (cy 0, 80, .inl g_tree_placeAbove)), (h_tree_home, .inl (cy 0, 40, .inl g_tree_home)), (h_tree_placeHome, .inl (cy 0, 40, .inl g_tree_placeHome))] [(h_this, .inr (7, [.ref h_use, .ref h_tape, .int f_taped, .ref h_reader, .int f_faultPlace, .ref h_tree, .ref h_draft, .ref h_page, .ref h_exchanges, v_spans, .int f_spansKnown, v_subsets, .long f_freeCost, .int f_freeKnown])), (h_use, .inr (6, [.int f_use_size, .ref h_use_counts, .ref h_use_words, .ref h_use_settings])), (h_use_counts, .inl (cy 0, 40, .inl g_use_counts)), (h_use_settings, .inl (cy 0, 4, .inl g_use_settings)), (h_tree, .inr (5, [.int f_tree_lists, .ref h_tree_sizes, .ref h_tree_above, .ref h_tree_placeAbove, .ref h_tree_items, .ref h_tree_home, .ref h_tree_placeHome, .ref h_tree_tally])), (h_tree_above, .inl (cy 0, 80, .inl g_tree_above)), (h_tree_placeAbove, .inl (cy 0, 80, .inl g_tree_placeAbove)), (h_tree_home, .inl (cy 0, 40, .inl g_tree_home)), (h_tree_placeHome, .inl (cy 0, 40, .inl g_tree_placeHome))] 5 ⟨hx, hb, hml, hown, hts⟩ (c_X5_exists (l := l) (D := D) (cy := cy) (sz := _) (h_this := h_tree) (h_sizes := h_tree_sizes) (h_above := h_tree_above) (h_placeAbove := h_tree_placeAbove) (h_items := h_tree_items) (h_home := h_tree_home) (h_placeHome := h_tree_placeHome) (h_tally := h_tree_tally) (f_lists := f_tree_lists) (r0 := r_1) (hf := hu)) (cwV 0 hts gX7_cost_X5_exists rfl rfl rfl (by decide +kernel) ⟨Nat.le_of_ble_eq_true rfl, Nat.le_of_ble_eq_true rfl⟩) hK hP hD hS hA rfl rfl rfl rfl (by decide) rfl rfl rfl rfl rfl rfl rfl rfl hl.1 rfl (Nat.le_of_ble_eq_true rfl) dX7_cost_4 ⟨Nat.zero_le _, Nat.zero_le _⟩ (fun H locs hP hD hS => ?_)
  refine lv_if_eq (tgt := 24) hx hb dX7_cost_7 (by decide) (fun hc => ?_) (fun hc => ?_)
  · replace h := it_1 h hc
    refine lv_ldc2 (v := (-1)) hx hb hown wl142 dX7_cost_24 ?_
    have e0 := ret1 h
    exact rte_l e0 rfl hx hb hr hlk hK hP hD hS dX7_cost_27
  · replace h := it_0 h hc
    refine lv_aload_n hx hb dX7_cost_10 rfl (lv_at hl 0 rfl) ?_
    refine va_get (D := D) (ci := 7) (v := .ref h_tree) (C := RX7) (T := TX7) (N := 14) hx hb hts hinX7 hown hK hP 0 rfl rfl 5 (by decide) wf37 (fun _ h9 => h9) rfl dX7_cost_11 ?_
    refine lv_aload_n hx hb dX7_cost_14 rfl (lv_at hl 0 rfl) ?_
    refine va_get (D := D) (ci := 7) (v := .ref h_use) (C := RX7) (T := TX7) (N := 14) hx hb hts hinX7 hown hK hP 0 rfl rfl 0 (by decide) wf10 (fun _ h9 => h9) rfl dX7_cost_15 ?_
    obtain ⟨r_2, hu, h⟩ := ob_1 h
    refine cl_Vl (As := [.ref h_use]) (rest := []) [4, 5, 6, 7, 8, 1, 2, 3] [0] [0, 6, 7, 8, 1, 2, 3, 4, 5] [(h_this, .inr (7, [.ref h_use, .ref h_tape, .int f_taped, .ref h_reader, .int f_faultPlace, .ref h_tree, .ref h_draft, .ref h_page, .ref h_exchanges, v_spans, .int f_spansKnown, v_subsets, .long f_freeCost, .int f_freeKnown]))] [(h_this, .inr (7, [.ref h_use, .ref h_tape, .int f_taped, .ref h_reader, .int f_faultPlace, .ref h_tree, .ref h_draft, .ref h_page, .ref h_exchanges, v_spans, .int f_spansKnown, v_subsets, .long f_freeCost, .int f_freeKnown])), (h_use, .inr (6, [.int f_use_size, .ref h_use_counts, .ref h_use_words, .ref h_use_settings])), (h_use_counts, .inl (cy 0, 40, .inl g_use_counts)), (h_use_settings, .inl (cy 0, 4, .inl g_use_settings)), (h_tree, .inr (5, [.int f_tree_lists, .ref h_tree_sizes, .ref h_tree_above, .ref h_tree_placeAbove, .ref h_tree_items, .ref h_tree_home, .ref h_tree_placeHome, .ref h_tree_tally])), (h_tree_above, .inl (cy 0, 80, .inl g_tree_above)), (h_tree_placeAbove, .inl (cy 0, 80, .inl g_tree_placeAbove)), (h_tree_home, .inl (cy 0, 40, .inl g_tree_home)), (h_tree_placeHome, .inl (cy 0, 40, .inl g_tree_placeHome))] 5 ⟨hx, hb, hml, hown, hts⟩ (c_X5_totalCost (l := l) (D := D) (cy := cy) (sz := _) (h_p1 := h_use) (h_p1_counts := h_use_counts) (h_p1_settings := h_use_settings) (h_this := h_tree) (h_above := h_tree_above) (h_home := h_tree_home) (h_placeAbove := h_tree_placeAbove) (h_placeHome := h_tree_placeHome) (h_p1_words := h_use_words) (h_sizes := h_tree_sizes) (h_items := h_tree_items) (h_tally := h_tree_tally) (f_lists := f_tree_lists) (g_above := g_tree_above) (g_placeAbove := g_tree_placeAbove) (g_home := g_tree_home) (g_placeHome := g_tree_placeHome) (f_p1_size := f_use_size) (g_p1_counts := g_use_counts) (g_p1_settings := g_use_settings) (r0 := r_2) (hf := hu)) (cwV 1 hts gX7_cost_X5_totalCost rfl rfl rfl (by decide +kernel) ⟨Nat.le_of_ble_eq_true rfl, Nat.le_of_ble_eq_true rfl⟩) hK hP hD hS hA rfl rfl rfl rfl (by decide) rfl rfl rfl rfl rfl rfl rfl rfl hl.1 rfl (Nat.le_of_ble_eq_true rfl) dX7_cost_18 ⟨Nat.zero_le _, Nat.zero_le _⟩ (fun H locs hP hD hS => ?_)
    refine lv_goto (tgt := 27) hx hb dX7_cost_21 (by decide) ?_
    have e0 := ret1 h
    exact rte_l e0 rfl hx hb hr hlk hK hP hD hS dX7_cost_27
abbrev rm_X7_print : Room := { frames := 3, cells := 0, slots := 0, locals := 67 }
set_option maxHeartbeats 4000000 in
set_option maxRecDepth 100000 in
theorem c_X7_print (l : Launch) (D : va_G) (cy : Nat → ClassId) (h_this h_use h_tape h_reader h_draft h_exchanges h_tree h_tree_sizes h_tree_above h_tree_placeAbove h_tree_items h_tree_home h_tree_placeHome h_tree_tally h_page h_page_bytes : Nat)  (v_spans : Value) (v_subsets : Value)  (sz : Nat) (f_taped : Int32) (f_faultPlace : Int32) (f_spansKnown : Int32) (f_freeCost : Int64) (f_freeKnown : Int32) (f_tree_lists : Int32) (g_tree_sizes : Nat → Int32) (g_tree_above : Nat → Int32) (g_tree_placeAbove : Nat → Int32) (g_tree_items : Nat → Int32) (f_page_length : Int32) (g_page_bytes : Nat → Int32)  (r0 : Int32) (o_f_page_length : Int32) (o_g_page_bytes : Nat → Int32) (hf : f_X7_print f_tree_lists g_tree_sizes g_tree_above g_tree_placeAbove g_tree_items f_page_length g_page_bytes = some (r0, o_f_page_length, o_g_page_bytes)) : MI l yX7_print wsX7_print rm_X7_print D cy [.ref h_this] sz [(h_this, .inr (7, [.ref h_use, .ref h_tape, .int f_taped, .ref h_reader, .int f_faultPlace, .ref h_tree, .ref h_draft, .ref h_page, .ref h_exchanges, v_spans, .int f_spansKnown, v_subsets, .long f_freeCost, .int f_freeKnown])), (h_tree, .inr (5, [.int f_tree_lists, .ref h_tree_sizes, .ref h_tree_above, .ref h_tree_placeAbove, .ref h_tree_items, .ref h_tree_home, .ref h_tree_placeHome, .ref h_tree_tally])), (h_tree_sizes, .inl (cy 0, 80, .inl g_tree_sizes)), (h_tree_above, .inl (cy 0, 80, .inl g_tree_above)), (h_tree_placeAbove, .inl (cy 0, 80, .inl g_tree_placeAbove)), (h_tree_items, .inl (cy 0, 720, .inl g_tree_items)), (h_page, .inr (1, [.ref h_page_bytes, .int f_page_length])), (h_page_bytes, .inl (cy 2, 189, .inl g_page_bytes))] r0 [(h_this, .inr (7, [.ref h_use, .ref h_tape, .int f_taped, .ref h_reader, .int f_faultPlace, .ref h_tree, .ref h_draft, .ref h_page, .ref h_exchanges, v_spans, .int f_spansKnown, v_subsets, .long f_freeCost, .int f_freeKnown])), (h_tree, .inr (5, [.int f_tree_lists, .ref h_tree_sizes, .ref h_tree_above, .ref h_tree_placeAbove, .ref h_tree_items, .ref h_tree_home, .ref h_tree_placeHome, .ref h_tree_tally])), (h_tree_sizes, .inl (cy 0, 80, .inl g_tree_sizes)), (h_tree_above, .inl (cy 0, 80, .inl g_tree_above)), (h_tree_placeAbove, .inl (cy 0, 80, .inl g_tree_placeAbove)), (h_tree_items, .inl (cy 0, 720, .inl g_tree_items)), (h_page, .inr (1, [.ref h_page_bytes, .int o_f_page_length])), (h_page_bytes, .inl (cy 2, 189, .inl o_g_page_bytes))] := by
  refine MI.of (cc := cX7_print) (maxL := 1) (ret := (some .int)) (by decide) rfl (Nat.le_of_ble_eq_true rfl) ?_
  intro p e s m below meth c A ls hx hb hml hown hts hlk hr hK hA hP hD hS hl
  have h := hf
  unfold f_X7_print at h
  have wf37 := hts (.fieldLink RX7 37 "MenuPlanner" "tree" "LMenuPlanner$Tree;") (by decide +kernel)
  have hinX7 := (by decide +kernel : ∀ w ∈ u_ws RX7 TX7 14, w ∈ wsX7_print)
  have wf47 := hts (.fieldLink RX7 47 "MenuPlanner" "page" "LMenuPlanner$Page;") (by decide +kernel)
  have wf167 := hts (.fieldLink RX7 167 "MenuPlanner$Page" "length" "I") (by decide +kernel)
  have hinX1 := (by decide +kernel : ∀ w ∈ u_ws RX1 TX1 2, w ∈ wsX7_print)
  replace hl : lv_has ls 1 [(0, .ref h_this)] := hl
  clear hf
  refine lv_aload_n hx hb dX7_print_0 rfl (lv_at hl 0 rfl) ?_
  refine va_get (D := D) (ci := 7) (v := .ref h_tree) (C := RX7) (T := TX7) (N := 14) hx hb hts hinX7 hown hK hP 0 rfl rfl 5 (by decide) wf37 (fun _ h9 => h9) rfl dX7_print_1 ?_
  obtain ⟨r_1, hu, h⟩ := ob_1 h
  refine cl_Vi (As := []) (rest := []) [1] [0, 2, 3, 4, 5, 6, 7] [0, 7, 1, 2, 3, 4, 5, 6] [(h_this, .inr (7, [.ref h_use, .ref h_tape, .int f_taped, .ref h_reader, .int f_faultPlace, .ref h_tree, .ref h_draft, .ref h_page, .ref h_exchanges, v_spans, .int f_spansKnown, v_subsets, .long f_freeCost, .int f_freeKnown])), (h_tree_sizes, .inl (cy 0, 80, .inl g_tree_sizes)), (h_tree_above, .inl (cy 0, 80, .inl g_tree_above)), (h_tree_placeAbove, .inl (cy 0, 80, .inl g_tree_placeAbove)), (h_tree_items, .inl (cy 0, 720, .inl g_tree_items)), (h_page, .inr (1, [.ref h_page_bytes, .int f_page_length])), (h_page_bytes, .inl (cy 2, 189, .inl g_page_bytes))] [(h_this, .inr (7, [.ref h_use, .ref h_tape, .int f_taped, .ref h_reader, .int f_faultPlace, .ref h_tree, .ref h_draft, .ref h_page, .ref h_exchanges, v_spans, .int f_spansKnown, v_subsets, .long f_freeCost, .int f_freeKnown])), (h_tree, .inr (5, [.int f_tree_lists, .ref h_tree_sizes, .ref h_tree_above, .ref h_tree_placeAbove, .ref h_tree_items, .ref h_tree_home, .ref h_tree_placeHome, .ref h_tree_tally])), (h_tree_sizes, .inl (cy 0, 80, .inl g_tree_sizes)), (h_tree_above, .inl (cy 0, 80, .inl g_tree_above)), (h_tree_placeAbove, .inl (cy 0, 80, .inl g_tree_placeAbove)), (h_tree_items, .inl (cy 0, 720, .inl g_tree_items)), (h_page, .inr (1, [.ref h_page_bytes, .int f_page_length])), (h_page_bytes, .inl (cy 2, 189, .inl g_page_bytes))] 5 ⟨hx, hb, hml, hown, hts⟩ (c_X5_exists (l := l) (D := D) (cy := cy) (sz := _) (h_this := h_tree) (h_sizes := h_tree_sizes) (h_above := h_tree_above) (h_placeAbove := h_tree_placeAbove) (h_items := h_tree_items) (h_home := h_tree_home) (h_placeHome := h_tree_placeHome) (h_tally := h_tree_tally) (f_lists := f_tree_lists) (r0 := r_1) (hf := hu)) (cwV 0 hts gX7_print_X5_exists rfl rfl rfl (by decide +kernel) ⟨Nat.le_of_ble_eq_true rfl, Nat.le_of_ble_eq_true rfl⟩) hK hP hD hS hA rfl rfl rfl rfl (by decide) rfl rfl rfl rfl rfl rfl rfl rfl hl.1 rfl (Nat.le_of_ble_eq_true rfl) dX7_print_4 ⟨Nat.zero_le _, Nat.zero_le _⟩ (fun H locs hP hD hS => ?_)
  refine lv_if_ne (tgt := 12) hx hb dX7_print_7 (by decide) (fun hc => ?_) (fun hc => ?_)
  · replace h := it_0 h hc
    refine lv_aload_n hx hb dX7_print_12 rfl (lv_at hl 0 rfl) ?_
    refine va_get (D := D) (ci := 7) (v := .ref h_page) (C := RX7) (T := TX7) (N := 14) hx hb hts hinX7 hown hK hP 0 rfl rfl 7 (by decide) wf47 (fun _ h9 => h9) rfl dX7_print_13 ?_
    refine lv_aload_n hx hb dX7_print_16 rfl (lv_at hl 0 rfl) ?_
    refine va_get (D := D) (ci := 7) (v := .ref h_tree) (C := RX7) (T := TX7) (N := 14) hx hb hts hinX7 hown hK hP 0 rfl rfl 5 (by decide) wf37 (fun _ h9 => h9) rfl dX7_print_17 ?_
    obtain ⟨f_page_length_2, g_page_bytes_3, hu, h⟩ := ob2_1 h
    refine cl_Vv (As := [.ref h_tree]) (rest := []) [6, 7, 1, 2, 3, 4, 5] [0] [0, 3, 4, 5, 6, 7, 1, 2] [(h_this, .inr (7, [.ref h_use, .ref h_tape, .int f_taped, .ref h_reader, .int f_faultPlace, .ref h_tree, .ref h_draft, .ref h_page, .ref h_exchanges, v_spans, .int f_spansKnown, v_subsets, .long f_freeCost, .int f_freeKnown]))] [(h_this, .inr (7, [.ref h_use, .ref h_tape, .int f_taped, .ref h_reader, .int f_faultPlace, .ref h_tree, .ref h_draft, .ref h_page, .ref h_exchanges, v_spans, .int f_spansKnown, v_subsets, .long f_freeCost, .int f_freeKnown])), (h_tree, .inr (5, [.int f_tree_lists, .ref h_tree_sizes, .ref h_tree_above, .ref h_tree_placeAbove, .ref h_tree_items, .ref h_tree_home, .ref h_tree_placeHome, .ref h_tree_tally])), (h_tree_sizes, .inl (cy 0, 80, .inl g_tree_sizes)), (h_tree_above, .inl (cy 0, 80, .inl g_tree_above)), (h_tree_placeAbove, .inl (cy 0, 80, .inl g_tree_placeAbove)), (h_tree_items, .inl (cy 0, 720, .inl g_tree_items)), (h_page, .inr (1, [.ref h_page_bytes, .int f_page_length_2])), (h_page_bytes, .inl (cy 2, 189, .inl g_page_bytes_3))] 1 ⟨hx, hb, hml, hown, hts⟩ (c_X1_write (l := l) (D := D) (cy := cy) (sz := _) (h_p1 := h_tree) (h_p1_above := h_tree_above) (h_p1_items := h_tree_items) (h_p1_placeAbove := h_tree_placeAbove) (h_p1_sizes := h_tree_sizes) (h_this := h_page) (h_bytes := h_page_bytes) (h_p1_home := h_tree_home) (h_p1_placeHome := h_tree_placeHome) (h_p1_tally := h_tree_tally) (f_length := f_page_length) (g_bytes := g_page_bytes) (f_p1_lists := f_tree_lists) (g_p1_sizes := g_tree_sizes) (g_p1_above := g_tree_above) (g_p1_placeAbove := g_tree_placeAbove) (g_p1_items := g_tree_items) (o_f_length := f_page_length_2) (o_g_bytes := g_page_bytes_3) (hf := hu)) (cwV 1 hts gX7_print_X1_write rfl rfl rfl (by decide +kernel) ⟨Nat.le_of_ble_eq_true rfl, Nat.le_of_ble_eq_true rfl⟩) hK hP hD hS hA rfl rfl rfl rfl (by decide) rfl rfl rfl rfl rfl rfl rfl rfl hl.1 rfl (Nat.le_of_ble_eq_true rfl) dX7_print_20 ⟨Nat.zero_le _, Nat.zero_le _⟩ (fun H locs hP hD hS => ?_)
    refine lv_aload_n hx hb dX7_print_23 rfl (lv_at hl 0 rfl) ?_
    refine va_get (D := D) (ci := 7) (v := .ref h_page) (C := RX7) (T := TX7) (N := 14) hx hb hts hinX7 hown hK hP 0 rfl rfl 7 (by decide) wf47 (fun _ h9 => h9) rfl dX7_print_24 ?_
    refine va_get (D := D) (ci := 1) (v := .int f_page_length_2) (C := RX1) (T := TX1) (N := 2) hx hb hts hinX1 hown hK hP 6 rfl rfl 1 (by decide) wf167 (fun _ h9 => h9) rfl dX7_print_27 ?_
    obtain ⟨e0, e1, e2⟩ := ret3 h
    exact rte_i e0 (by rw [← e1, ← e2]) hx hb hr hlk rfl hK hP hD hS dX7_print_30
  · replace h := it_1 h hc
    refine lv_iconst (v := (-1)) hx hb dX7_print_10 (by decide) ?_
    obtain ⟨e0, e1, e2⟩ := ret3 h
    exact rte_i e0 (by rw [← e1, ← e2]) hx hb hr hlk rfl hK hP hD hS dX7_print_11
abbrev rm_X7_octet : Room := { frames := 0, cells := 0, slots := 0, locals := 0 }
set_option maxHeartbeats 4000000 in
set_option maxRecDepth 100000 in
theorem c_X7_octet (l : Launch) (D : va_G) (cy : Nat → ClassId) (h_this h_use h_tape h_reader h_tree h_draft h_exchanges h_page h_page_bytes : Nat)  (v_spans : Value) (v_subsets : Value)  (sz : Nat) (f_taped : Int32) (f_faultPlace : Int32) (f_spansKnown : Int32) (f_freeCost : Int64) (f_freeKnown : Int32) (f_page_length : Int32) (g_page_bytes : Nat → Int32) (a1 : Int32) (r0 : Int32)  (hf : f_X7_octet f_page_length g_page_bytes a1 = some r0) : MI l yX7_octet wsX7_octet rm_X7_octet D cy [.ref h_this, .int a1] sz [(h_this, .inr (7, [.ref h_use, .ref h_tape, .int f_taped, .ref h_reader, .int f_faultPlace, .ref h_tree, .ref h_draft, .ref h_page, .ref h_exchanges, v_spans, .int f_spansKnown, v_subsets, .long f_freeCost, .int f_freeKnown])), (h_page, .inr (1, [.ref h_page_bytes, .int f_page_length])), (h_page_bytes, .inl (cy 2, 189, .inl g_page_bytes))] r0 [(h_this, .inr (7, [.ref h_use, .ref h_tape, .int f_taped, .ref h_reader, .int f_faultPlace, .ref h_tree, .ref h_draft, .ref h_page, .ref h_exchanges, v_spans, .int f_spansKnown, v_subsets, .long f_freeCost, .int f_freeKnown])), (h_page, .inr (1, [.ref h_page_bytes, .int f_page_length])), (h_page_bytes, .inl (cy 2, 189, .inl g_page_bytes))] := by
  refine MI.of (cc := cX7_octet) (maxL := 2) (ret := (some .int)) (by decide) rfl (Nat.le_of_ble_eq_true rfl) ?_
  intro p e s m below meth c A ls hx hb hml hown hts hlk hr hK hA hP hD hS hl
  have h := hf
  unfold f_X7_octet at h
  have wf47 := hts (.fieldLink RX7 47 "MenuPlanner" "page" "LMenuPlanner$Page;") (by decide +kernel)
  have hinX7 := (by decide +kernel : ∀ w ∈ u_ws RX7 TX7 14, w ∈ wsX7_octet)
  have wf167 := hts (.fieldLink RX7 167 "MenuPlanner$Page" "length" "I") (by decide +kernel)
  have hinX1 := (by decide +kernel : ∀ w ∈ u_ws RX1 TX1 2, w ∈ wsX7_octet)
  have wf170 := hts (.fieldLink RX7 170 "MenuPlanner$Page" "bytes" "[B") (by decide +kernel)
  replace hl : lv_has ls 2 [(0, .ref h_this), (1, .int a1)] := hl
  clear hf
  refine lv_iload_n hx hb dX7_octet_0 rfl (lv_at hl 1 rfl) ?_
  refine lv_if_lt (tgt := 27) hx hb dX7_octet_1 (by decide) (fun hc => ?_) (fun hc => ?_)
  · replace h := it_1 h hc
    refine lv_iconst (v := (-1)) hx hb dX7_octet_27 (by decide) ?_
    have e0 := ret1 h
    exact rte_i e0 rfl hx hb hr hlk rfl hK hP hD hS dX7_octet_28
  · replace h := it_0 h hc
    refine lv_iload_n hx hb dX7_octet_4 rfl (lv_at hl 1 rfl) ?_
    refine lv_aload_n hx hb dX7_octet_5 rfl (lv_at hl 0 rfl) ?_
    refine va_get (D := D) (ci := 7) (v := .ref h_page) (C := RX7) (T := TX7) (N := 14) hx hb hts hinX7 hown hK hP 0 rfl rfl 7 (by decide) wf47 (fun _ h9 => h9) rfl dX7_octet_6 ?_
    refine va_get (D := D) (ci := 1) (v := .int f_page_length) (C := RX1) (T := TX1) (N := 2) hx hb hts hinX1 hown hK hP 1 rfl rfl 1 (by decide) wf167 (fun _ h9 => h9) rfl dX7_octet_9 ?_
    refine lv_icmp_ge (tgt := 27) hx hb dX7_octet_12 (by decide) (fun hc => ?_) (fun hc => ?_)
    · replace h := it_1 h hc
      refine lv_iconst (v := (-1)) hx hb dX7_octet_27 (by decide) ?_
      have e0 := ret1 h
      exact rte_i e0 rfl hx hb hr hlk rfl hK hP hD hS dX7_octet_28
    · replace h := it_0 h hc
      refine lv_aload_n hx hb dX7_octet_15 rfl (lv_at hl 0 rfl) ?_
      refine va_get (D := D) (ci := 7) (v := .ref h_page) (C := RX7) (T := TX7) (N := 14) hx hb hts hinX7 hown hK hP 0 rfl rfl 7 (by decide) wf47 (fun _ h9 => h9) rfl dX7_octet_16 ?_
      refine va_get (D := D) (ci := 1) (v := .ref h_page_bytes) (C := RX1) (T := TX1) (N := 2) hx hb hts hinX1 hown hK hP 1 rfl rfl 0 (by decide) wf170 (fun _ h9 => h9) rfl dX7_octet_19 ?_
      refine lv_iload_n hx hb dX7_octet_22 rfl (lv_at hl 1 rfl) ?_
      have hi := gi_1 h; replace h := gi_2 h
      refine va_bald hx hb hK hP 2 2 rfl rfl hi dX7_octet_23 ?_
      refine lv_goto (tgt := 28) hx hb dX7_octet_24 (by decide) ?_
      have e0 := ret1 h
      exact rte_i e0 rfl hx hb hr hlk rfl hK hP hD hS dX7_octet_28
abbrev rm_X7_told : Room := { frames := 1, cells := 0, slots := 0, locals := 20 }
set_option maxHeartbeats 4000000 in
set_option maxRecDepth 100000 in
theorem c_X7_told (l : Launch) (D : va_G) (cy : Nat → ClassId) (h_this h_tape h_reader h_draft h_exchanges h_use h_use_counts h_use_words h_use_settings h_tree h_tree_sizes h_tree_above h_tree_placeAbove h_tree_items h_tree_home h_tree_placeHome h_tree_tally h_page h_page_bytes : Nat)  (v_spans : Value) (v_subsets : Value)  (sz : Nat) (f_taped : Int32) (f_faultPlace : Int32) (f_spansKnown : Int32) (f_freeCost : Int64) (f_freeKnown : Int32) (f_use_size : Int32) (f_tree_lists : Int32) (f_page_length : Int32) (a1 : Int32) (r0 : Int32)  (hf : f_X7_told f_taped f_use_size f_tree_lists f_page_length a1 = some r0) : MI l yX7_told wsX7_told rm_X7_told D cy [.ref h_this, .int a1] sz [(h_this, .inr (7, [.ref h_use, .ref h_tape, .int f_taped, .ref h_reader, .int f_faultPlace, .ref h_tree, .ref h_draft, .ref h_page, .ref h_exchanges, v_spans, .int f_spansKnown, v_subsets, .long f_freeCost, .int f_freeKnown])), (h_use, .inr (6, [.int f_use_size, .ref h_use_counts, .ref h_use_words, .ref h_use_settings])), (h_tree, .inr (5, [.int f_tree_lists, .ref h_tree_sizes, .ref h_tree_above, .ref h_tree_placeAbove, .ref h_tree_items, .ref h_tree_home, .ref h_tree_placeHome, .ref h_tree_tally])), (h_page, .inr (1, [.ref h_page_bytes, .int f_page_length]))] r0 [(h_this, .inr (7, [.ref h_use, .ref h_tape, .int f_taped, .ref h_reader, .int f_faultPlace, .ref h_tree, .ref h_draft, .ref h_page, .ref h_exchanges, v_spans, .int f_spansKnown, v_subsets, .long f_freeCost, .int f_freeKnown])), (h_use, .inr (6, [.int f_use_size, .ref h_use_counts, .ref h_use_words, .ref h_use_settings])), (h_tree, .inr (5, [.int f_tree_lists, .ref h_tree_sizes, .ref h_tree_above, .ref h_tree_placeAbove, .ref h_tree_items, .ref h_tree_home, .ref h_tree_placeHome, .ref h_tree_tally])), (h_page, .inr (1, [.ref h_page_bytes, .int f_page_length]))] := by
  refine MI.of (cc := cX7_told) (maxL := 2) (ret := (some .int)) (by decide) rfl (Nat.le_of_ble_eq_true rfl) ?_
  intro p e s m below meth c A ls hx hb hml hown hts hlk hr hK hA hP hD hS hl
  have h := hf
  unfold f_X7_told at h
  have wf10 := hts (.fieldLink RX7 10 "MenuPlanner" "use" "LMenuPlanner$Use;") (by decide +kernel)
  have hinX7 := (by decide +kernel : ∀ w ∈ u_ws RX7 TX7 14, w ∈ wsX7_told)
  have wf84 := hts (.fieldLink RX7 84 "MenuPlanner$Use" "size" "I") (by decide +kernel)
  have hinX6 := (by decide +kernel : ∀ w ∈ u_ws RX6 TX6 4, w ∈ wsX7_told)
  have wf37 := hts (.fieldLink RX7 37 "MenuPlanner" "tree" "LMenuPlanner$Tree;") (by decide +kernel)
  have wf221 := hts (.fieldLink RX7 221 "MenuPlanner$Tree" "lists" "I") (by decide +kernel)
  have hinX5 := (by decide +kernel : ∀ w ∈ u_ws RX5 TX5 8, w ∈ wsX7_told)
  have wf20 := hts (.fieldLink RX7 20 "MenuPlanner" "taped" "I") (by decide +kernel)
  have wf47 := hts (.fieldLink RX7 47 "MenuPlanner" "page" "LMenuPlanner$Page;") (by decide +kernel)
  have wf167 := hts (.fieldLink RX7 167 "MenuPlanner$Page" "length" "I") (by decide +kernel)
  have hinX1 := (by decide +kernel : ∀ w ∈ u_ws RX1 TX1 2, w ∈ wsX7_told)
  replace hl : lv_has ls 2 [(0, .ref h_this), (1, .int a1)] := hl
  clear hf
  refine lv_iload_n hx hb dX7_told_0 rfl (lv_at hl 1 rfl) ?_
  by_cases hc0 : a1 = 0
  · replace h := it_1 h hc0
    refine lv_tableIn (off := 31) (tgt := 32) hx hb dX7_told_1 (by rw [hc0]; decide) (by rw [hc0]; decide) (by rw [hc0]; decide) (by decide) ?_
    refine lv_aload_n hx hb dX7_told_32 rfl (lv_at hl 0 rfl) ?_
    refine va_get (D := D) (ci := 7) (v := .ref h_use) (C := RX7) (T := TX7) (N := 14) hx hb hts hinX7 hown hK hP 0 rfl rfl 0 (by decide) wf10 (fun _ h9 => h9) rfl dX7_told_33 ?_
    refine va_get (D := D) (ci := 6) (v := .int f_use_size) (C := RX6) (T := TX6) (N := 4) hx hb hts hinX6 hown hK hP 1 rfl rfl 0 (by decide) wf84 (fun _ h9 => h9) rfl dX7_told_36 ?_
    have e0 := ret1 h
    exact rte_i e0 rfl hx hb hr hlk rfl hK hP hD hS dX7_told_39
  replace h := it_0 h hc0
  by_cases hc1 : a1 = 1
  · replace h := it_1 h hc1
    refine lv_tableIn (off := 39) (tgt := 40) hx hb dX7_told_1 (by rw [hc1]; decide) (by rw [hc1]; decide) (by rw [hc1]; decide) (by decide) ?_
    refine lv_aload_n hx hb dX7_told_40 rfl (lv_at hl 0 rfl) ?_
    refine va_get (D := D) (ci := 7) (v := .ref h_tree) (C := RX7) (T := TX7) (N := 14) hx hb hts hinX7 hown hK hP 0 rfl rfl 5 (by decide) wf37 (fun _ h9 => h9) rfl dX7_told_41 ?_
    obtain ⟨r_1, hu, h⟩ := ob_1 h
    refine cl_Vi (As := []) (rest := []) [2] [0, 1, 3] [0, 1, 3, 2] [(h_this, .inr (7, [.ref h_use, .ref h_tape, .int f_taped, .ref h_reader, .int f_faultPlace, .ref h_tree, .ref h_draft, .ref h_page, .ref h_exchanges, v_spans, .int f_spansKnown, v_subsets, .long f_freeCost, .int f_freeKnown])), (h_use, .inr (6, [.int f_use_size, .ref h_use_counts, .ref h_use_words, .ref h_use_settings])), (h_page, .inr (1, [.ref h_page_bytes, .int f_page_length]))] [(h_this, .inr (7, [.ref h_use, .ref h_tape, .int f_taped, .ref h_reader, .int f_faultPlace, .ref h_tree, .ref h_draft, .ref h_page, .ref h_exchanges, v_spans, .int f_spansKnown, v_subsets, .long f_freeCost, .int f_freeKnown])), (h_use, .inr (6, [.int f_use_size, .ref h_use_counts, .ref h_use_words, .ref h_use_settings])), (h_tree, .inr (5, [.int f_tree_lists, .ref h_tree_sizes, .ref h_tree_above, .ref h_tree_placeAbove, .ref h_tree_items, .ref h_tree_home, .ref h_tree_placeHome, .ref h_tree_tally])), (h_page, .inr (1, [.ref h_page_bytes, .int f_page_length]))] 5 ⟨hx, hb, hml, hown, hts⟩ (c_X5_exists (l := l) (D := D) (cy := cy) (sz := _) (h_this := h_tree) (h_sizes := h_tree_sizes) (h_above := h_tree_above) (h_placeAbove := h_tree_placeAbove) (h_items := h_tree_items) (h_home := h_tree_home) (h_placeHome := h_tree_placeHome) (h_tally := h_tree_tally) (f_lists := f_tree_lists) (r0 := r_1) (hf := hu)) (cwV 0 hts gX7_told_X5_exists rfl rfl rfl (by decide +kernel) ⟨Nat.le_of_ble_eq_true rfl, Nat.le_of_ble_eq_true rfl⟩) hK hP hD hS hA rfl rfl rfl rfl (by decide) rfl rfl rfl rfl rfl rfl rfl rfl hl.1 rfl (Nat.le_of_ble_eq_true rfl) dX7_told_44 ⟨Nat.zero_le _, Nat.zero_le _⟩ (fun H locs hP hD hS => ?_)
    refine lv_if_eq (tgt := 62) hx hb dX7_told_47 (by decide) (fun hc => ?_) (fun hc => ?_)
    · replace h := it_1 h hc
      refine lv_iconst (v := 0) hx hb dX7_told_62 (by decide) ?_
      have e0 := ret1 h
      exact rte_i e0 rfl hx hb hr hlk rfl hK hP hD hS dX7_told_63
    · replace h := it_0 h hc
      refine lv_aload_n hx hb dX7_told_50 rfl (lv_at hl 0 rfl) ?_
      refine va_get (D := D) (ci := 7) (v := .ref h_tree) (C := RX7) (T := TX7) (N := 14) hx hb hts hinX7 hown hK hP 0 rfl rfl 5 (by decide) wf37 (fun _ h9 => h9) rfl dX7_told_51 ?_
      refine va_get (D := D) (ci := 5) (v := .int f_tree_lists) (C := RX5) (T := TX5) (N := 8) hx hb hts hinX5 hown hK hP 2 rfl rfl 0 (by decide) wf221 (fun _ h9 => h9) rfl dX7_told_54 ?_
      refine lv_iconst (v := 1) hx hb dX7_told_57 (by decide) ?_
      refine lv_isub hx hb dX7_told_58 ?_
      refine lv_goto (tgt := 63) hx hb dX7_told_59 (by decide) ?_
      have e0 := ret1 h
      exact rte_i e0 rfl hx hb hr hlk rfl hK hP hD hS dX7_told_63
  replace h := it_0 h hc1
  by_cases hc2 : a1 = 2
  · replace h := it_1 h hc2
    refine lv_tableIn (off := 63) (tgt := 64) hx hb dX7_told_1 (by rw [hc2]; decide) (by rw [hc2]; decide) (by rw [hc2]; decide) (by decide) ?_
    refine lv_aload_n hx hb dX7_told_64 rfl (lv_at hl 0 rfl) ?_
    refine va_get (D := D) (ci := 7) (v := .int f_taped) (C := RX7) (T := TX7) (N := 14) hx hb hts hinX7 hown hK hP 0 rfl rfl 2 (by decide) wf20 (fun _ h9 => h9) rfl dX7_told_65 ?_
    have e0 := ret1 h
    exact rte_i e0 rfl hx hb hr hlk rfl hK hP hD hS dX7_told_68
  replace h := it_0 h hc2
  by_cases hc3 : a1 = 3
  · replace h := it_1 h hc3
    refine lv_tableIn (off := 68) (tgt := 69) hx hb dX7_told_1 (by rw [hc3]; decide) (by rw [hc3]; decide) (by rw [hc3]; decide) (by decide) ?_
    refine lv_aload_n hx hb dX7_told_69 rfl (lv_at hl 0 rfl) ?_
    refine va_get (D := D) (ci := 7) (v := .ref h_page) (C := RX7) (T := TX7) (N := 14) hx hb hts hinX7 hown hK hP 0 rfl rfl 7 (by decide) wf47 (fun _ h9 => h9) rfl dX7_told_70 ?_
    refine va_get (D := D) (ci := 1) (v := .int f_page_length) (C := RX1) (T := TX1) (N := 2) hx hb hts hinX1 hown hK hP 3 rfl rfl 1 (by decide) wf167 (fun _ h9 => h9) rfl dX7_told_73 ?_
    have e0 := ret1 h
    exact rte_i e0 rfl hx hb hr hlk rfl hK hP hD hS dX7_told_76
  replace h := it_0 h hc3
  refine lv_tableOut (tgt := 77) hx hb dX7_told_1 (sw_out hc0 hc1 hc2 hc3) (by decide) ?_
  refine lv_iconst (v := (-1)) hx hb dX7_told_77 (by decide) ?_
  have e0 := ret1 h
  exact rte_i e0 rfl hx hb hr hlk rfl hK hP hD hS dX7_told_78
abbrev rm_X7_tellsBest : Room := { frames := 1, cells := 0, slots := 0, locals := 20 }
set_option maxHeartbeats 4000000 in
set_option maxRecDepth 100000 in
theorem c_X7_tellsBest (l : Launch) (D : va_G) (cy : Nat → ClassId) (h_this h_tape h_reader h_draft h_page h_exchanges h_use h_use_counts h_use_words h_use_settings h_tree h_tree_sizes h_tree_above h_tree_placeAbove h_tree_items h_tree_home h_tree_placeHome h_tree_tally : Nat)  (v_spans : Value) (v_subsets : Value)  (sz : Nat) (f_taped : Int32) (f_faultPlace : Int32) (f_spansKnown : Int32) (f_freeCost : Int64) (f_freeKnown : Int32) (f_use_size : Int32) (f_tree_lists : Int32)  (r0 : Int32)  (hf : f_X7_tellsBest f_use_size f_tree_lists = some r0) : MI l yX7_tellsBest wsX7_tellsBest rm_X7_tellsBest D cy [.ref h_this] sz [(h_this, .inr (7, [.ref h_use, .ref h_tape, .int f_taped, .ref h_reader, .int f_faultPlace, .ref h_tree, .ref h_draft, .ref h_page, .ref h_exchanges, v_spans, .int f_spansKnown, v_subsets, .long f_freeCost, .int f_freeKnown])), (h_use, .inr (6, [.int f_use_size, .ref h_use_counts, .ref h_use_words, .ref h_use_settings])), (h_tree, .inr (5, [.int f_tree_lists, .ref h_tree_sizes, .ref h_tree_above, .ref h_tree_placeAbove, .ref h_tree_items, .ref h_tree_home, .ref h_tree_placeHome, .ref h_tree_tally]))] r0 [(h_this, .inr (7, [.ref h_use, .ref h_tape, .int f_taped, .ref h_reader, .int f_faultPlace, .ref h_tree, .ref h_draft, .ref h_page, .ref h_exchanges, v_spans, .int f_spansKnown, v_subsets, .long f_freeCost, .int f_freeKnown])), (h_use, .inr (6, [.int f_use_size, .ref h_use_counts, .ref h_use_words, .ref h_use_settings])), (h_tree, .inr (5, [.int f_tree_lists, .ref h_tree_sizes, .ref h_tree_above, .ref h_tree_placeAbove, .ref h_tree_items, .ref h_tree_home, .ref h_tree_placeHome, .ref h_tree_tally]))] := by
  refine MI.of (cc := cX7_tellsBest) (maxL := 1) (ret := (some .boolean)) (by decide) rfl (Nat.le_of_ble_eq_true rfl) ?_
  intro p e s m below meth c A ls hx hb hml hown hts hlk hr hK hA hP hD hS hl
  have h := hf
  unfold f_X7_tellsBest at h
  have wf37 := hts (.fieldLink RX7 37 "MenuPlanner" "tree" "LMenuPlanner$Tree;") (by decide +kernel)
  have hinX7 := (by decide +kernel : ∀ w ∈ u_ws RX7 TX7 14, w ∈ wsX7_tellsBest)
  have wf10 := hts (.fieldLink RX7 10 "MenuPlanner" "use" "LMenuPlanner$Use;") (by decide +kernel)
  have wf84 := hts (.fieldLink RX7 84 "MenuPlanner$Use" "size" "I") (by decide +kernel)
  have hinX6 := (by decide +kernel : ∀ w ∈ u_ws RX6 TX6 4, w ∈ wsX7_tellsBest)
  replace hl : lv_has ls 1 [(0, .ref h_this)] := hl
  clear hf
  refine lv_aload_n hx hb dX7_tellsBest_0 rfl (lv_at hl 0 rfl) ?_
  refine va_get (D := D) (ci := 7) (v := .ref h_tree) (C := RX7) (T := TX7) (N := 14) hx hb hts hinX7 hown hK hP 0 rfl rfl 5 (by decide) wf37 (fun _ h9 => h9) rfl dX7_tellsBest_1 ?_
  obtain ⟨r_1, hu, h⟩ := ob_1 h
  refine cl_Vi (As := []) (rest := []) [2] [0, 1] [0, 1, 2] [(h_this, .inr (7, [.ref h_use, .ref h_tape, .int f_taped, .ref h_reader, .int f_faultPlace, .ref h_tree, .ref h_draft, .ref h_page, .ref h_exchanges, v_spans, .int f_spansKnown, v_subsets, .long f_freeCost, .int f_freeKnown])), (h_use, .inr (6, [.int f_use_size, .ref h_use_counts, .ref h_use_words, .ref h_use_settings]))] [(h_this, .inr (7, [.ref h_use, .ref h_tape, .int f_taped, .ref h_reader, .int f_faultPlace, .ref h_tree, .ref h_draft, .ref h_page, .ref h_exchanges, v_spans, .int f_spansKnown, v_subsets, .long f_freeCost, .int f_freeKnown])), (h_use, .inr (6, [.int f_use_size, .ref h_use_counts, .ref h_use_words, .ref h_use_settings])), (h_tree, .inr (5, [.int f_tree_lists, .ref h_tree_sizes, .ref h_tree_above, .ref h_tree_placeAbove, .ref h_tree_items, .ref h_tree_home, .ref h_tree_placeHome, .ref h_tree_tally]))] 5 ⟨hx, hb, hml, hown, hts⟩ (c_X5_exists (l := l) (D := D) (cy := cy) (sz := _) (h_this := h_tree) (h_sizes := h_tree_sizes) (h_above := h_tree_above) (h_placeAbove := h_tree_placeAbove) (h_items := h_tree_items) (h_home := h_tree_home) (h_placeHome := h_tree_placeHome) (h_tally := h_tree_tally) (f_lists := f_tree_lists) (r0 := r_1) (hf := hu)) (cwV 0 hts gX7_tellsBest_X5_exists rfl rfl rfl (by decide +kernel) ⟨Nat.le_of_ble_eq_true rfl, Nat.le_of_ble_eq_true rfl⟩) hK hP hD hS hA rfl rfl rfl rfl (by decide) rfl rfl rfl rfl rfl rfl rfl rfl hl.1 rfl (Nat.le_of_ble_eq_true rfl) dX7_tellsBest_4 ⟨Nat.zero_le _, Nat.zero_le _⟩ (fun H locs hP hD hS => ?_)
  refine lv_if_eq (tgt := 26) hx hb dX7_tellsBest_7 (by decide) (fun hc => ?_) (fun hc => ?_)
  · replace h := it_1 h hc
    refine lv_iconst (v := 0) hx hb dX7_tellsBest_26 (by decide) ?_
    have e0 := ret1 h
    exact rte_i e0 rfl hx hb hr hlk rfl hK hP hD hS dX7_tellsBest_27
  · replace h := it_0 h hc
    refine lv_aload_n hx hb dX7_tellsBest_10 rfl (lv_at hl 0 rfl) ?_
    refine va_get (D := D) (ci := 7) (v := .ref h_use) (C := RX7) (T := TX7) (N := 14) hx hb hts hinX7 hown hK hP 0 rfl rfl 0 (by decide) wf10 (fun _ h9 => h9) rfl dX7_tellsBest_11 ?_
    refine va_get (D := D) (ci := 6) (v := .int f_use_size) (C := RX6) (T := TX6) (N := 4) hx hb hts hinX6 hown hK hP 1 rfl rfl 0 (by decide) wf84 (fun _ h9 => h9) rfl dX7_tellsBest_14 ?_
    refine lv_bipush (v := 12) hx hb dX7_tellsBest_17 (by decide) ?_
    refine lv_icmp_gt (tgt := 26) hx hb dX7_tellsBest_19 (by decide) (fun hc => ?_) (fun hc => ?_)
    · replace h := it_1 h hc
      refine lv_iconst (v := 0) hx hb dX7_tellsBest_26 (by decide) ?_
      have e0 := ret1 h
      exact rte_i e0 rfl hx hb hr hlk rfl hK hP hD hS dX7_tellsBest_27
    · replace h := it_0 h hc
      refine lv_iconst (v := 1) hx hb dX7_tellsBest_22 (by decide) ?_
      refine lv_goto (tgt := 27) hx hb dX7_tellsBest_23 (by decide) ?_
      have e0 := ret1 h
      exact rte_i e0 rfl hx hb hr hlk rfl hK hP hD hS dX7_tellsBest_27
abbrev rm_X7_useChanged : Room := { frames := 1, cells := 0, slots := 0, locals := 20 }
set_option maxHeartbeats 4000000 in
set_option maxRecDepth 100000 in
theorem c_X7_useChanged (l : Launch) (D : va_G) (cy : Nat → ClassId) (h_this h_use h_tape h_reader h_tree h_draft h_page h_exchanges h_exchanges_sums h_exchanges_lengths h_exchanges_rows h_exchanges_lower h_exchanges_upper h_exchanges_counts h_exchanges_steps h_exchanges_row : Nat)  (v_spans : Value) (v_subsets : Value)  (sz : Nat) (f_taped : Int32) (f_faultPlace : Int32) (f_spansKnown : Int32) (f_freeCost : Int64) (f_freeKnown : Int32) (f_exchanges_reckoned : Int32) (f_exchanges_pairs : Int32) (f_exchanges_unlearn : Int64)   (o_f_spansKnown : Int32) (o_f_freeKnown : Int32) (o_f_exchanges_reckoned : Int32) (hf : f_X7_useChanged f_spansKnown f_freeKnown f_exchanges_reckoned = some (o_f_spansKnown, o_f_freeKnown, o_f_exchanges_reckoned)) : MV l yX7_useChanged wsX7_useChanged rm_X7_useChanged D cy [.ref h_this] sz [(h_this, .inr (7, [.ref h_use, .ref h_tape, .int f_taped, .ref h_reader, .int f_faultPlace, .ref h_tree, .ref h_draft, .ref h_page, .ref h_exchanges, v_spans, .int f_spansKnown, v_subsets, .long f_freeCost, .int f_freeKnown])), (h_exchanges, .inr (0, [.ref h_exchanges_sums, .ref h_exchanges_lengths, .ref h_exchanges_rows, .int f_exchanges_reckoned, .ref h_exchanges_lower, .ref h_exchanges_upper, .int f_exchanges_pairs, .ref h_exchanges_counts, .ref h_exchanges_steps, .long f_exchanges_unlearn, .ref h_exchanges_row]))] [(h_this, .inr (7, [.ref h_use, .ref h_tape, .int f_taped, .ref h_reader, .int f_faultPlace, .ref h_tree, .ref h_draft, .ref h_page, .ref h_exchanges, v_spans, .int o_f_spansKnown, v_subsets, .long f_freeCost, .int o_f_freeKnown])), (h_exchanges, .inr (0, [.ref h_exchanges_sums, .ref h_exchanges_lengths, .ref h_exchanges_rows, .int o_f_exchanges_reckoned, .ref h_exchanges_lower, .ref h_exchanges_upper, .int f_exchanges_pairs, .ref h_exchanges_counts, .ref h_exchanges_steps, .long f_exchanges_unlearn, .ref h_exchanges_row]))] := by
  refine MV.of (cc := cX7_useChanged) (maxL := 1) (ret := none) (by decide) rfl (Nat.le_of_ble_eq_true rfl) ?_
  intro p e s m below meth c A ls hx hb hml hown hts hlk hr hK hA hP hD hS hl
  have h := hf
  unfold f_X7_useChanged at h
  have wf62 := hts (.fieldLink RX7 62 "MenuPlanner" "spansKnown" "Z") (by decide +kernel)
  have hinX7 := (by decide +kernel : ∀ w ∈ u_ws RX7 TX7 14, w ∈ wsX7_useChanged)
  have wf74 := hts (.fieldLink RX7 74 "MenuPlanner" "freeKnown" "Z") (by decide +kernel)
  have wf54 := hts (.fieldLink RX7 54 "MenuPlanner" "exchanges" "LMenuPlanner$Exchanges;") (by decide +kernel)
  replace hl : lv_has ls 1 [(0, .ref h_this)] := hl
  clear hf
  refine lv_aload_n hx hb dX7_useChanged_0 rfl (lv_at hl 0 rfl) ?_
  refine lv_iconst (v := 0) hx hb dX7_useChanged_1 (by decide) ?_
  refine va_put (D := D) (ci := 7) (v := .int 0) (ty := .boolean) (C := RX7) (T := TX7) (N := 14) hx hb hts hinX7 tyX7 tyX7_ok nmX7 hown hK hP hD hS 0 rfl rfl 10 (by decide) wf62 (fun _ h9 => h9) rfl (by decide +kernel) rfl rfl (Nat.le_of_ble_eq_true rfl) dX7_useChanged_2 (fun H locs hP hD hS => ?_)
  replace hP : va_P D vwCl [(h_this, .inr (7, [.ref h_use, .ref h_tape, .int f_taped, .ref h_reader, .int f_faultPlace, .ref h_tree, .ref h_draft, .ref h_page, .ref h_exchanges, v_spans, .int 0, v_subsets, .long f_freeCost, .int f_freeKnown])), (h_exchanges, .inr (0, [.ref h_exchanges_sums, .ref h_exchanges_lengths, .ref h_exchanges_rows, .int f_exchanges_reckoned, .ref h_exchanges_lower, .ref h_exchanges_upper, .int f_exchanges_pairs, .ref h_exchanges_counts, .ref h_exchanges_steps, .long f_exchanges_unlearn, .ref h_exchanges_row]))] H := hP
  replace hD : va_D A [(h_this, .inr (7, [.ref h_use, .ref h_tape, .int f_taped, .ref h_reader, .int f_faultPlace, .ref h_tree, .ref h_draft, .ref h_page, .ref h_exchanges, v_spans, .int 0, v_subsets, .long f_freeCost, .int f_freeKnown])), (h_exchanges, .inr (0, [.ref h_exchanges_sums, .ref h_exchanges_lengths, .ref h_exchanges_rows, .int f_exchanges_reckoned, .ref h_exchanges_lower, .ref h_exchanges_upper, .int f_exchanges_pairs, .ref h_exchanges_counts, .ref h_exchanges_steps, .long f_exchanges_unlearn, .ref h_exchanges_row]))] := hD
  refine lv_aload_n hx hb dX7_useChanged_5 rfl (lv_at hl 0 rfl) ?_
  refine lv_iconst (v := 0) hx hb dX7_useChanged_6 (by decide) ?_
  refine va_put (D := D) (ci := 7) (v := .int 0) (ty := .boolean) (C := RX7) (T := TX7) (N := 14) hx hb hts hinX7 tyX7 tyX7_ok nmX7 hown hK hP hD hS 0 rfl rfl 13 (by decide) wf74 (fun _ h9 => h9) rfl (by decide +kernel) rfl rfl (Nat.le_of_ble_eq_true rfl) dX7_useChanged_7 (fun H locs hP hD hS => ?_)
  replace hP : va_P D vwCl [(h_this, .inr (7, [.ref h_use, .ref h_tape, .int f_taped, .ref h_reader, .int f_faultPlace, .ref h_tree, .ref h_draft, .ref h_page, .ref h_exchanges, v_spans, .int 0, v_subsets, .long f_freeCost, .int 0])), (h_exchanges, .inr (0, [.ref h_exchanges_sums, .ref h_exchanges_lengths, .ref h_exchanges_rows, .int f_exchanges_reckoned, .ref h_exchanges_lower, .ref h_exchanges_upper, .int f_exchanges_pairs, .ref h_exchanges_counts, .ref h_exchanges_steps, .long f_exchanges_unlearn, .ref h_exchanges_row]))] H := hP
  replace hD : va_D A [(h_this, .inr (7, [.ref h_use, .ref h_tape, .int f_taped, .ref h_reader, .int f_faultPlace, .ref h_tree, .ref h_draft, .ref h_page, .ref h_exchanges, v_spans, .int 0, v_subsets, .long f_freeCost, .int 0])), (h_exchanges, .inr (0, [.ref h_exchanges_sums, .ref h_exchanges_lengths, .ref h_exchanges_rows, .int f_exchanges_reckoned, .ref h_exchanges_lower, .ref h_exchanges_upper, .int f_exchanges_pairs, .ref h_exchanges_counts, .ref h_exchanges_steps, .long f_exchanges_unlearn, .ref h_exchanges_row]))] := hD
  refine lv_aload_n hx hb dX7_useChanged_10 rfl (lv_at hl 0 rfl) ?_
  refine va_get (D := D) (ci := 7) (v := .ref h_exchanges) (C := RX7) (T := TX7) (N := 14) hx hb hts hinX7 hown hK hP 0 rfl rfl 8 (by decide) wf54 (fun _ h9 => h9) rfl dX7_useChanged_11 ?_
  obtain ⟨f_exchanges_reckoned_1, hu, h⟩ := ob_1 h
  refine cl_Vv (As := []) (rest := []) [1] [0] [0, 1] [(h_this, .inr (7, [.ref h_use, .ref h_tape, .int f_taped, .ref h_reader, .int f_faultPlace, .ref h_tree, .ref h_draft, .ref h_page, .ref h_exchanges, v_spans, .int 0, v_subsets, .long f_freeCost, .int 0]))] [(h_this, .inr (7, [.ref h_use, .ref h_tape, .int f_taped, .ref h_reader, .int f_faultPlace, .ref h_tree, .ref h_draft, .ref h_page, .ref h_exchanges, v_spans, .int 0, v_subsets, .long f_freeCost, .int 0])), (h_exchanges, .inr (0, [.ref h_exchanges_sums, .ref h_exchanges_lengths, .ref h_exchanges_rows, .int f_exchanges_reckoned_1, .ref h_exchanges_lower, .ref h_exchanges_upper, .int f_exchanges_pairs, .ref h_exchanges_counts, .ref h_exchanges_steps, .long f_exchanges_unlearn, .ref h_exchanges_row]))] 0 ⟨hx, hb, hml, hown, hts⟩ (c_X0_forget (l := l) (D := D) (cy := cy) (sz := _) (h_this := h_exchanges) (h_sums := h_exchanges_sums) (h_lengths := h_exchanges_lengths) (h_rows := h_exchanges_rows) (h_lower := h_exchanges_lower) (h_upper := h_exchanges_upper) (h_counts := h_exchanges_counts) (h_steps := h_exchanges_steps) (h_row := h_exchanges_row) (f_reckoned := f_exchanges_reckoned) (f_pairs := f_exchanges_pairs) (f_unlearn := f_exchanges_unlearn) (o_f_reckoned := f_exchanges_reckoned_1) (hf := hu)) (cwV 0 hts gX7_useChanged_X0_forget rfl rfl rfl (by decide +kernel) ⟨Nat.le_of_ble_eq_true rfl, Nat.le_of_ble_eq_true rfl⟩) hK hP hD hS hA rfl rfl rfl rfl (by decide) rfl rfl rfl rfl rfl rfl rfl rfl hl.1 rfl (Nat.le_of_ble_eq_true rfl) dX7_useChanged_14 ⟨Nat.zero_le _, Nat.zero_le _⟩ (fun H locs hP hD hS => ?_)
  obtain ⟨e0, e1, e2⟩ := ret3 h
  exact rte_v (by rw [← e0, ← e1, ← e2]) hx hb hr hlk hK hP hD hS dX7_useChanged_17
