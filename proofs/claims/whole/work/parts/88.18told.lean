/-! the law: told -/
section OP
variable {p : Program} {l : Launch} {e : Env} {s : State} {m : MethodId} {below : List Frame} {meth : Method} {c : Code} {b L : Nat} {xs : Nat → Int32} {D : va_G} {cy : Nat → ClassId} {sa : Nat → Nat} {tl th : Nat} {H : Heap} {locs : List Loc} {cells slots : Nat} {Q : State → Prop} {ls : Array Slot} {a : CA} {z : CZ} {ra : RA} {y : RZ} {o : Nat} {g : Nat → Int64} {vs vu : Value} {pl : va_W} {i : Nat}
set_option maxHeartbeats 4000000 in
set_option maxRecDepth 100000 in
theorem oA_c_X7_told (F : FX p l s m c b L xs D cy sa tl th) (hi : i + 6 ≤ L) (hL : L ≤ 3072) (hl : lv_has ls 8 (LV b a ra o i)) (hw : WD D s (WB cy a z ra y o g vs vu ++ pl) H locs) (hc : cells ≤ 601024 ∧ slots ≤ 7293034) {r0 : Int32}  (hf : f_X7_told z.f_taped z.f_use_size z.f_tree_lists z.f_page_length (xs (Int32.toNatClampNeg (nI i + 1))) = some r0)
    (kk : ∀ (H1 : Heap) (locs1 : List Loc), WD D s (WB cy a z ra y o g vs vu ++ pl) H1 locs1 → W p l e room_1 s m #[Value.ref b] below meth c H1 locs1 cells slots Q (F0 m 1018 ls [.int r0])) : W p l e room_1 s m #[Value.ref b] below meth c H locs cells slots Q (F0 m 1008 ls []) := by
  obtain ⟨hx, hb, hml, hown, hts, hX, hbl, htr, hXH, hK, hN⟩ := F
  obtain ⟨hP, hD, hS⟩ := hw
  obtain ⟨i0, i1, i2, i3, i4, i5⟩ := in_k hi hL
  have hbA : ¬ AL s b := Nat.not_le.mpr hbl
  have hA : ∀ q, s.heap.size ≤ q → AL s q := fun _ h => h
  replace hl : lv_has ls 8 [(0, .ref b), (1, .ref a.h_this), (2, .ref ra.h_this), (3, .ref o), (4, .int (nI i))] := hl
  refine lv_aload_n hx hb dL_law_1008 rfl (lv_at hl 1 rfl) ?_
  refine lv_aload_n hx hb dL_law_1009 rfl (lv_at hl 0 rfl) ?_
  refine lv_iload hx hb dL_law_1010 (lv_at hl 4 rfl) ?_
  refine lv_iconst (v := 1) hx hb dL_law_1012 (by decide) ?_
  refine lv_iadd hx hb dL_law_1013 ?_
  refine va_sld hx hb hX hbl hbA hS i1 dL_law_1014 ?_
  exact cq_Vi (As := [.int (xs (Int32.toNatClampNeg (nI i + 1)))]) (rest := []) [0, 1, 9, 25] (WB cy a z ra y o g vs vu) 7 ⟨hx, hb, hml, hown, hts⟩ (c_X7_told (l := l) (D := D) (cy := cy) (h_this := a.h_this) (h_tape := a.h_tape) (h_reader := a.h_reader) (h_draft := a.h_draft) (h_exchanges := a.h_exchanges) (h_use := a.h_use) (h_use_counts := a.h_use_counts) (h_use_words := a.h_use_words) (h_use_settings := a.h_use_settings) (h_tree := a.h_tree) (h_tree_sizes := a.h_tree_sizes) (h_tree_above := a.h_tree_above) (h_tree_placeAbove := a.h_tree_placeAbove) (h_tree_items := a.h_tree_items) (h_tree_home := a.h_tree_home) (h_tree_placeHome := a.h_tree_placeHome) (h_tree_tally := a.h_tree_tally) (h_page := a.h_page) (h_page_bytes := a.h_page_bytes) (v_spans := vs) (v_subsets := vu) (sz := _) (f_taped := z.f_taped) (f_faultPlace := z.f_faultPlace) (f_spansKnown := z.f_spansKnown) (f_freeCost := z.f_freeCost) (f_freeKnown := z.f_freeKnown) (f_use_size := z.f_use_size) (f_tree_lists := z.f_tree_lists) (f_page_length := z.f_page_length) (a1 := (xs (Int32.toNatClampNeg (nI i + 1)))) (r0 := r0) (hf := hf)) (cwV 1 hts gL_law_X7_told rfl rfl rfl (by decide +kernel) ⟨Nat.le_of_ble_eq_true rfl, Nat.le_of_ble_eq_true rfl⟩) hK hP hD hS hA rfl rfl rfl rfl rfl rfl rfl rfl rfl rfl hl.1 rfl (Nat.le_of_ble_eq_true rfl) dL_law_1015 hc (fun H1 locs1 hP1 hD1 hS1 => kk H1 locs1 ⟨hP1, hD1, hS1⟩)
set_option maxHeartbeats 4000000 in
set_option maxRecDepth 100000 in
theorem oB_told {r7 : Int32} (F : FX p l s m c b L xs D cy sa tl th) (hi : i + 6 ≤ L) (hL : L ≤ 3072) (hl : lv_has ls 8 (LV b a ra o i)) (hw : WD D s (WB cy a z ra y o g vs vu ++ pl) H locs) (hc : cells ≤ 601024 ∧ slots ≤ 7293034) {r0 : Int32} {o_f_thrown : Int32} (hf : f_X8_told y.f_commands y.f_taped y.f_paged y.f_lists y.f_thrown (xs (Int32.toNatClampNeg (nI i + 1))) = some (r0, o_f_thrown)) (hr : r7 = r0)
    (kk : ∀ (H1 : Heap) (locs1 : List Loc) (ls1 : Array Slot), WD D s (WB cy a z ra (RZ.mk o_f_thrown y.f_commands y.f_look y.f_down y.f_breadth y.f_unlearn y.f_taped y.f_size y.f_paged y.f_lists y.f_newLists y.f_at y.f_fault y.f_place y.f_ways y.f_pairs y.f_bestMany y.f_bestSum y.g_counts y.g_words y.g_tape y.g_page y.g_items y.g_many y.g_newItems y.g_newMany y.g_has y.g_open y.g_wayList y.g_wayPlace y.g_bits y.g_least y.g_menus y.g_firsts y.g_weights y.g_free y.g_setWeights y.g_stepsAt y.g_pairOne y.g_pairOther y.g_row y.g_best) o g vs vu ++ pl) H1 locs1 → lv_has ls1 8 (LV b a ra o i) → W p l e room_1 s m #[Value.ref b] below meth c H1 locs1 cells slots Q (F0 m 1033 ls1 [])) : W p l e room_1 s m #[Value.ref b] below meth c H locs cells slots Q (F0 m 1018 ls [.int r7]) := by
  obtain ⟨hx, hb, hml, hown, hts, hX, hbl, htr, hXH, hK, hN⟩ := F
  obtain ⟨hP, hD, hS⟩ := hw
  obtain ⟨i0, i1, i2, i3, i4, i5⟩ := in_k hi hL
  have hbA : ¬ AL s b := Nat.not_le.mpr hbl
  have hA : ∀ q, s.heap.size ≤ q → AL s q := fun _ h => h
  replace hl : lv_has ls 8 [(0, .ref b), (1, .ref a.h_this), (2, .ref ra.h_this), (3, .ref o), (4, .int (nI i))] := hl
  refine lv_aload_n hx hb dL_law_1018 rfl (lv_at hl 2 rfl) ?_
  refine lv_aload_n hx hb dL_law_1019 rfl (lv_at hl 0 rfl) ?_
  refine lv_iload hx hb dL_law_1020 (lv_at hl 4 rfl) ?_
  refine lv_iconst (v := 1) hx hb dL_law_1022 (by decide) ?_
  refine lv_iadd hx hb dL_law_1023 ?_
  refine va_sld hx hb hX hbl hbA hS i1 dL_law_1024 ?_
  refine cq_Vi (As := [.int (xs (Int32.toNatClampNeg (nI i + 1)))]) (rest := [.int r7]) [40] (WB cy a z ra (RZ.mk o_f_thrown y.f_commands y.f_look y.f_down y.f_breadth y.f_unlearn y.f_taped y.f_size y.f_paged y.f_lists y.f_newLists y.f_at y.f_fault y.f_place y.f_ways y.f_pairs y.f_bestMany y.f_bestSum y.g_counts y.g_words y.g_tape y.g_page y.g_items y.g_many y.g_newItems y.g_newMany y.g_has y.g_open y.g_wayList y.g_wayPlace y.g_bits y.g_least y.g_menus y.g_firsts y.g_weights y.g_free y.g_setWeights y.g_stepsAt y.g_pairOne y.g_pairOther y.g_row y.g_best) o g vs vu) 8 ⟨hx, hb, hml, hown, hts⟩ (c_X8_told (l := l) (D := D) (cy := cy) (h_this := ra.h_this) (h_counts := ra.h_counts) (h_words := ra.h_words) (h_tape := ra.h_tape) (h_page := ra.h_page) (h_items := ra.h_items) (h_many := ra.h_many) (h_newItems := ra.h_newItems) (h_newMany := ra.h_newMany) (h_has := ra.h_has) (h_open := ra.h_open) (h_wayList := ra.h_wayList) (h_wayPlace := ra.h_wayPlace) (h_bits := ra.h_bits) (h_least := ra.h_least) (h_menus := ra.h_menus) (h_firsts := ra.h_firsts) (h_weights := ra.h_weights) (h_free := ra.h_free) (h_setWeights := ra.h_setWeights) (h_stepsAt := ra.h_stepsAt) (h_pairOne := ra.h_pairOne) (h_pairOther := ra.h_pairOther) (h_row := ra.h_row) (h_best := ra.h_best) (sz := _) (f_thrown := y.f_thrown) (f_commands := y.f_commands) (f_look := y.f_look) (f_down := y.f_down) (f_breadth := y.f_breadth) (f_unlearn := y.f_unlearn) (f_taped := y.f_taped) (f_size := y.f_size) (f_paged := y.f_paged) (f_lists := y.f_lists) (f_newLists := y.f_newLists) (f_at := y.f_at) (f_fault := y.f_fault) (f_place := y.f_place) (f_ways := y.f_ways) (f_pairs := y.f_pairs) (f_bestMany := y.f_bestMany) (f_bestSum := y.f_bestSum) (a1 := (xs (Int32.toNatClampNeg (nI i + 1)))) (r0 := r0) (o_f_thrown := o_f_thrown) (hf := hf)) (cwV 1 hts gL_law_X8_told rfl rfl rfl (by decide +kernel) ⟨Nat.le_of_ble_eq_true rfl, Nat.le_of_ble_eq_true rfl⟩) hK hP hD hS hA rfl rfl rfl rfl rfl rfl rfl rfl rfl rfl hl.1 rfl (Nat.le_of_ble_eq_true rfl) dL_law_1025 hc (fun H locs hP hD hS => ?_)
  refine lv_icmp_eq (tgt := 1033) hx hb dL_law_1028 (by decide) (fun h5 => ?_) (fun h5 => absurd hr h5)
  exact kk H locs ls ⟨hP, hD, hS⟩ hl
end OP
