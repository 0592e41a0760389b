/-! the law: command -/
section OP
variable {p : Program} {l : Launch} {e : Env} {s : State} {m : MethodId} {below : List Frame} {meth : Method} {c : Code} {b L : Nat} {xs : Nat → Int32} {D : va_G} {cy : Nat → ClassId} {sa : Nat → Nat} {tl th : Nat} {H : Heap} {locs : List Loc} {cells slots : Nat} {Q : State → Prop} {ls : Array Slot} {a : CA} {z : CZ} {ra : RA} {y : RZ} {o : Nat} {g : Nat → Int64} {vs vu : Value} {pl : va_W} {i : Nat}
set_option maxHeartbeats 4000000 in
set_option maxRecDepth 100000 in
theorem oA_n_L_command (F : FX p l s m c b L xs D cy sa tl th) (hi : i + 6 ≤ L) (hL : L ≤ 3072) (hl : lv_has ls 8 (LV b a ra o i)) (hw : WD D s (WB cy a z ra y o g vs vu ++ pl) H locs) (hc : cells + 1 ≤ 601024 ∧ slots + 6 ≤ 7293034) {r0 : Int32} {o_f_spansKnown : Int32} {o_f_freeKnown : Int32} {o_f_use_size : Int32} {o_g_use_counts : Nat → Int32} {o_g_use_words : Nat → Int32} {o_f_tree_lists : Int32} {o_f_exchanges_reckoned : Int32}  (hf : f_X7_command z.f_spansKnown z.f_freeKnown z.f_use_size z.g_use_counts z.g_use_words z.f_tree_lists z.f_exchanges_reckoned (xs (Int32.toNatClampNeg (nI i + 1))) (xs (Int32.toNatClampNeg (nI i + 2))) = some (.inr (r0, o_f_spansKnown, o_f_freeKnown, o_f_use_size, o_g_use_counts, o_g_use_words, o_f_tree_lists, o_f_exchanges_reckoned)))
    (kk : ∀ (H1 : Heap) (locs1 : List Loc), WD D s (WB cy a (CZ.mk z.f_taped z.f_faultPlace o_f_spansKnown z.f_freeCost o_f_freeKnown o_f_use_size o_g_use_counts o_g_use_words z.g_use_settings z.g_tape z.f_reader_faultNumber z.f_reader_faultPlace z.f_reader_depth z.f_reader_seenCount z.g_reader_open z.g_reader_seen o_f_tree_lists z.g_tree_sizes z.g_tree_above z.g_tree_placeAbove z.g_tree_items z.g_tree_home z.g_tree_placeHome z.g_tree_tally z.f_draft_lists z.g_draft_sizes z.g_draft_above z.g_draft_placeAbove z.g_draft_items z.g_draft_home z.g_draft_placeHome z.g_draft_tally z.f_page_length z.g_page_bytes o_f_exchanges_reckoned z.f_exchanges_pairs z.f_exchanges_unlearn z.g_exchanges_sums z.g_exchanges_lengths z.g_exchanges_rows z.g_exchanges_lower z.g_exchanges_upper z.g_exchanges_counts z.g_exchanges_steps z.g_exchanges_row) ra y o (vp_updL g (Int32.toNatClampNeg 0) (Int32.toInt64 r0)) vs vu ++ pl) H1 locs1 → W p l e room_1 s m #[Value.ref b] below meth c H1 locs1 (cells + 1) (slots + 6) Q (F0 m 149 ls [.int 0])) : W p l e room_1 s m #[Value.ref b] below meth c H locs cells slots Q (F0 m 132 ls []) := by
  obtain ⟨hx, hb, hml, hown, hts, hX, hbl, htr, hXH, hK, hN⟩ := F
  obtain ⟨hP, hD, hS⟩ := hw
  obtain ⟨i0, i1, i2, i3, i4, i5⟩ := in_k hi hL
  have hbA : ¬ AL s b := Nat.not_le.mpr hbl
  have hA : ∀ q, s.heap.size ≤ q → AL s q := fun _ h => h
  replace hl : lv_has ls 8 [(0, .ref b), (1, .ref a.h_this), (2, .ref ra.h_this), (3, .ref o), (4, .int (nI i))] := hl
  refine lv_aload_n hx hb dL_law_132 rfl (lv_at hl 1 rfl) ?_
  refine lv_aload_n hx hb dL_law_133 rfl (lv_at hl 0 rfl) ?_
  refine lv_iload hx hb dL_law_134 (lv_at hl 4 rfl) ?_
  refine lv_iconst (v := 1) hx hb dL_law_136 (by decide) ?_
  refine lv_iadd hx hb dL_law_137 ?_
  refine va_sld hx hb hX hbl hbA hS i1 dL_law_138 ?_
  refine lv_aload_n hx hb dL_law_139 rfl (lv_at hl 0 rfl) ?_
  refine lv_iload hx hb dL_law_140 (lv_at hl 4 rfl) ?_
  refine lv_iconst (v := 2) hx hb dL_law_142 (by decide) ?_
  refine lv_iadd hx hb dL_law_143 ?_
  refine va_sld hx hb hX hbl hbA hS i2 dL_law_144 ?_
  refine lv_aload_n hx hb dL_law_145 rfl (lv_at hl 3 rfl) ?_
  exact cq_H (As := [.ref a.h_this, .int (xs (Int32.toNatClampNeg (nI i + 1))), .int (xs (Int32.toNatClampNeg (nI i + 2))), .ref o]) (rest := []) [0, 1, 2, 3, 9, 27, 65] (WB cy a (CZ.mk z.f_taped z.f_faultPlace o_f_spansKnown z.f_freeCost o_f_freeKnown o_f_use_size o_g_use_counts o_g_use_words z.g_use_settings z.g_tape z.f_reader_faultNumber z.f_reader_faultPlace z.f_reader_depth z.f_reader_seenCount z.g_reader_open z.g_reader_seen o_f_tree_lists z.g_tree_sizes z.g_tree_above z.g_tree_placeAbove z.g_tree_items z.g_tree_home z.g_tree_placeHome z.g_tree_tally z.f_draft_lists z.g_draft_sizes z.g_draft_above z.g_draft_placeAbove z.g_draft_items z.g_draft_home z.g_draft_placeHome z.g_draft_tally z.f_page_length z.g_page_bytes o_f_exchanges_reckoned z.f_exchanges_pairs z.f_exchanges_unlearn z.g_exchanges_sums z.g_exchanges_lengths z.g_exchanges_rows z.g_exchanges_lower z.g_exchanges_upper z.g_exchanges_counts z.g_exchanges_steps z.g_exchanges_row) ra y o (vp_updL g (Int32.toNatClampNeg 0) (Int32.toInt64 r0)) vs vu) ⟨hx, hb, hml, hown, hts⟩ (n_L_command (l := l) (D := D) (cy := cy) (sa := sa) (tl := tl) (th := th) (h_this := a.h_this) (h_tape := a.h_tape) (h_reader := a.h_reader) (h_draft := a.h_draft) (h_page := a.h_page) (h_use := a.h_use) (h_use_counts := a.h_use_counts) (h_use_words := a.h_use_words) (h_use_settings := a.h_use_settings) (h_tree := a.h_tree) (h_tree_sizes := a.h_tree_sizes) (h_tree_above := a.h_tree_above) (h_tree_placeAbove := a.h_tree_placeAbove) (h_tree_items := a.h_tree_items) (h_tree_home := a.h_tree_home) (h_tree_placeHome := a.h_tree_placeHome) (h_tree_tally := a.h_tree_tally) (h_exchanges := a.h_exchanges) (h_exchanges_sums := a.h_exchanges_sums) (h_exchanges_lengths := a.h_exchanges_lengths) (h_exchanges_rows := a.h_exchanges_rows) (h_exchanges_lower := a.h_exchanges_lower) (h_exchanges_upper := a.h_exchanges_upper) (h_exchanges_counts := a.h_exchanges_counts) (h_exchanges_steps := a.h_exchanges_steps) (h_exchanges_row := a.h_exchanges_row) (h_out := o) (v_spans := vs) (v_subsets := vu) (sz := _) (f_taped := z.f_taped) (f_faultPlace := z.f_faultPlace) (f_spansKnown := z.f_spansKnown) (f_freeCost := z.f_freeCost) (f_freeKnown := z.f_freeKnown) (f_use_size := z.f_use_size) (g_use_counts := z.g_use_counts) (g_use_words := z.g_use_words) (f_tree_lists := z.f_tree_lists) (f_exchanges_reckoned := z.f_exchanges_reckoned) (f_exchanges_pairs := z.f_exchanges_pairs) (f_exchanges_unlearn := z.f_exchanges_unlearn) (g_out := g) (a1 := (xs (Int32.toNatClampNeg (nI i + 1)))) (a2 := (xs (Int32.toNatClampNeg (nI i + 2)))) (r0 := r0) (o_f_spansKnown := o_f_spansKnown) (o_f_freeKnown := o_f_freeKnown) (o_f_use_size := o_f_use_size) (o_g_use_counts := o_g_use_counts) (o_g_use_words := o_g_use_words) (o_f_tree_lists := o_f_tree_lists) (o_f_exchanges_reckoned := o_f_exchanges_reckoned) (hf := hf)) (vx_cwSW 4 hts gL_law_L_command rfl rfl rfl (by decide +kernel) ⟨Nat.le_of_ble_eq_true rfl, Nat.le_of_ble_eq_true rfl⟩) hXH hK hP hD hS hA rfl rfl rfl rfl rfl hl.1 rfl (Nat.le_of_ble_eq_true rfl) dL_law_146 hc (fun H1 locs1 hP1 hD1 hS1 => kk H1 locs1 ⟨hP1, hD1, hS1⟩)
set_option maxHeartbeats 4000000 in
set_option maxRecDepth 100000 in
theorem oA_x0_L_command (F : FX p l s m c b L xs D cy sa tl th) (hi : i + 6 ≤ L) (hL : L ≤ 3072) (hl : lv_has ls 8 (LV b a ra o i)) (hw : WD D s (WB cy a z ra y o g vs vu ++ pl) H locs) (hc : cells + 1 ≤ 601024 ∧ slots + 6 ≤ 7293034)   (hf : f_X7_command z.f_spansKnown z.f_freeKnown z.f_use_size z.g_use_counts z.g_use_words z.f_tree_lists z.f_exchanges_reckoned (xs (Int32.toNatClampNeg (nI i + 1))) (xs (Int32.toNatClampNeg (nI i + 2))) = some (.inl "java/lang/IllegalArgumentException"))
    (kk : ∀ (H1 : Heap) (locs1 : List Loc), WD D s (WB cy a z ra y o g vs vu ++ pl) H1 locs1 → W p l e room_1 s m #[Value.ref b] below meth c H1 locs1 (cells + 1) (slots + 6) Q (F0 m 149 ls [.int 1])) : W p l e room_1 s m #[Value.ref b] below meth c H locs cells slots Q (F0 m 132 ls []) := by
  obtain ⟨hx, hb, hml, hown, hts, hX, hbl, htr, hXH, hK, hN⟩ := F
  obtain ⟨hP, hD, hS⟩ := hw
  obtain ⟨i0, i1, i2, i3, i4, i5⟩ := in_k hi hL
  have hbA : ¬ AL s b := Nat.not_le.mpr hbl
  have hA : ∀ q, s.heap.size ≤ q → AL s q := fun _ h => h
  replace hl : lv_has ls 8 [(0, .ref b), (1, .ref a.h_this), (2, .ref ra.h_this), (3, .ref o), (4, .int (nI i))] := hl
  refine lv_aload_n hx hb dL_law_132 rfl (lv_at hl 1 rfl) ?_
  refine lv_aload_n hx hb dL_law_133 rfl (lv_at hl 0 rfl) ?_
  refine lv_iload hx hb dL_law_134 (lv_at hl 4 rfl) ?_
  refine lv_iconst (v := 1) hx hb dL_law_136 (by decide) ?_
  refine lv_iadd hx hb dL_law_137 ?_
  refine va_sld hx hb hX hbl hbA hS i1 dL_law_138 ?_
  refine lv_aload_n hx hb dL_law_139 rfl (lv_at hl 0 rfl) ?_
  refine lv_iload hx hb dL_law_140 (lv_at hl 4 rfl) ?_
  refine lv_iconst (v := 2) hx hb dL_law_142 (by decide) ?_
  refine lv_iadd hx hb dL_law_143 ?_
  refine va_sld hx hb hX hbl hbA hS i2 dL_law_144 ?_
  refine lv_aload_n hx hb dL_law_145 rfl (lv_at hl 3 rfl) ?_
  exact cq_H (As := [.ref a.h_this, .int (xs (Int32.toNatClampNeg (nI i + 1))), .int (xs (Int32.toNatClampNeg (nI i + 2))), .ref o]) (rest := []) [0, 1, 2, 3, 9, 27, 65] (WB cy a z ra y o g vs vu) ⟨hx, hb, hml, hown, hts⟩ (x0_L_command (l := l) (D := D) (cy := cy) (sa := sa) (tl := tl) (th := th) (h_this := a.h_this) (h_tape := a.h_tape) (h_reader := a.h_reader) (h_draft := a.h_draft) (h_page := a.h_page) (h_use := a.h_use) (h_use_counts := a.h_use_counts) (h_use_words := a.h_use_words) (h_use_settings := a.h_use_settings) (h_tree := a.h_tree) (h_tree_sizes := a.h_tree_sizes) (h_tree_above := a.h_tree_above) (h_tree_placeAbove := a.h_tree_placeAbove) (h_tree_items := a.h_tree_items) (h_tree_home := a.h_tree_home) (h_tree_placeHome := a.h_tree_placeHome) (h_tree_tally := a.h_tree_tally) (h_exchanges := a.h_exchanges) (h_exchanges_sums := a.h_exchanges_sums) (h_exchanges_lengths := a.h_exchanges_lengths) (h_exchanges_rows := a.h_exchanges_rows) (h_exchanges_lower := a.h_exchanges_lower) (h_exchanges_upper := a.h_exchanges_upper) (h_exchanges_counts := a.h_exchanges_counts) (h_exchanges_steps := a.h_exchanges_steps) (h_exchanges_row := a.h_exchanges_row) (h_out := o) (v_spans := vs) (v_subsets := vu) (sz := _) (f_taped := z.f_taped) (f_faultPlace := z.f_faultPlace) (f_spansKnown := z.f_spansKnown) (f_freeCost := z.f_freeCost) (f_freeKnown := z.f_freeKnown) (f_use_size := z.f_use_size) (g_use_counts := z.g_use_counts) (g_use_words := z.g_use_words) (f_tree_lists := z.f_tree_lists) (f_exchanges_reckoned := z.f_exchanges_reckoned) (f_exchanges_pairs := z.f_exchanges_pairs) (f_exchanges_unlearn := z.f_exchanges_unlearn) (g_out := g) (a1 := (xs (Int32.toNatClampNeg (nI i + 1)))) (a2 := (xs (Int32.toNatClampNeg (nI i + 2)))) (hlt := htr) (hf := hf)) (vx_cwSW 4 hts gL_law_L_command rfl rfl rfl (by decide +kernel) ⟨Nat.le_of_ble_eq_true rfl, Nat.le_of_ble_eq_true rfl⟩) hXH hK hP hD hS hA rfl rfl rfl rfl rfl hl.1 rfl (Nat.le_of_ble_eq_true rfl) dL_law_146 hc (fun H1 locs1 hP1 hD1 hS1 => kk H1 locs1 ⟨hP1, hD1, hS1⟩)
set_option maxHeartbeats 4000000 in
set_option maxRecDepth 100000 in
theorem oA_x1_L_command (F : FX p l s m c b L xs D cy sa tl th) (hi : i + 6 ≤ L) (hL : L ≤ 3072) (hl : lv_has ls 8 (LV b a ra o i)) (hw : WD D s (WB cy a z ra y o g vs vu ++ pl) H locs) (hc : cells + 1 ≤ 601024 ∧ slots + 6 ≤ 7293034)   (hf : f_X7_command z.f_spansKnown z.f_freeKnown z.f_use_size z.g_use_counts z.g_use_words z.f_tree_lists z.f_exchanges_reckoned (xs (Int32.toNatClampNeg (nI i + 1))) (xs (Int32.toNatClampNeg (nI i + 2))) = some (.inl "java/lang/IllegalStateException"))
    (kk : ∀ (H1 : Heap) (locs1 : List Loc), WD D s (WB cy a z ra y o g vs vu ++ pl) H1 locs1 → W p l e room_1 s m #[Value.ref b] below meth c H1 locs1 (cells + 1) (slots + 6) Q (F0 m 149 ls [.int 2])) : W p l e room_1 s m #[Value.ref b] below meth c H locs cells slots Q (F0 m 132 ls []) := by
  obtain ⟨hx, hb, hml, hown, hts, hX, hbl, htr, hXH, hK, hN⟩ := F
  obtain ⟨hP, hD, hS⟩ := hw
  obtain ⟨i0, i1, i2, i3, i4, i5⟩ := in_k hi hL
  have hbA : ¬ AL s b := Nat.not_le.mpr hbl
  have hA : ∀ q, s.heap.size ≤ q → AL s q := fun _ h => h
  replace hl : lv_has ls 8 [(0, .ref b), (1, .ref a.h_this), (2, .ref ra.h_this), (3, .ref o), (4, .int (nI i))] := hl
  refine lv_aload_n hx hb dL_law_132 rfl (lv_at hl 1 rfl) ?_
  refine lv_aload_n hx hb dL_law_133 rfl (lv_at hl 0 rfl) ?_
  refine lv_iload hx hb dL_law_134 (lv_at hl 4 rfl) ?_
  refine lv_iconst (v := 1) hx hb dL_law_136 (by decide) ?_
  refine lv_iadd hx hb dL_law_137 ?_
  refine va_sld hx hb hX hbl hbA hS i1 dL_law_138 ?_
  refine lv_aload_n hx hb dL_law_139 rfl (lv_at hl 0 rfl) ?_
  refine lv_iload hx hb dL_law_140 (lv_at hl 4 rfl) ?_
  refine lv_iconst (v := 2) hx hb dL_law_142 (by decide) ?_
  refine lv_iadd hx hb dL_law_143 ?_
  refine va_sld hx hb hX hbl hbA hS i2 dL_law_144 ?_
  refine lv_aload_n hx hb dL_law_145 rfl (lv_at hl 3 rfl) ?_
  exact cq_H (As := [.ref a.h_this, .int (xs (Int32.toNatClampNeg (nI i + 1))), .int (xs (Int32.toNatClampNeg (nI i + 2))), .ref o]) (rest := []) [0, 1, 2, 3, 9, 27, 65] (WB cy a z ra y o g vs vu) ⟨hx, hb, hml, hown, hts⟩ (x1_L_command (l := l) (D := D) (cy := cy) (sa := sa) (tl := tl) (th := th) (h_this := a.h_this) (h_tape := a.h_tape) (h_reader := a.h_reader) (h_draft := a.h_draft) (h_page := a.h_page) (h_use := a.h_use) (h_use_counts := a.h_use_counts) (h_use_words := a.h_use_words) (h_use_settings := a.h_use_settings) (h_tree := a.h_tree) (h_tree_sizes := a.h_tree_sizes) (h_tree_above := a.h_tree_above) (h_tree_placeAbove := a.h_tree_placeAbove) (h_tree_items := a.h_tree_items) (h_tree_home := a.h_tree_home) (h_tree_placeHome := a.h_tree_placeHome) (h_tree_tally := a.h_tree_tally) (h_exchanges := a.h_exchanges) (h_exchanges_sums := a.h_exchanges_sums) (h_exchanges_lengths := a.h_exchanges_lengths) (h_exchanges_rows := a.h_exchanges_rows) (h_exchanges_lower := a.h_exchanges_lower) (h_exchanges_upper := a.h_exchanges_upper) (h_exchanges_counts := a.h_exchanges_counts) (h_exchanges_steps := a.h_exchanges_steps) (h_exchanges_row := a.h_exchanges_row) (h_out := o) (v_spans := vs) (v_subsets := vu) (sz := _) (f_taped := z.f_taped) (f_faultPlace := z.f_faultPlace) (f_spansKnown := z.f_spansKnown) (f_freeCost := z.f_freeCost) (f_freeKnown := z.f_freeKnown) (f_use_size := z.f_use_size) (g_use_counts := z.g_use_counts) (g_use_words := z.g_use_words) (f_tree_lists := z.f_tree_lists) (f_exchanges_reckoned := z.f_exchanges_reckoned) (f_exchanges_pairs := z.f_exchanges_pairs) (f_exchanges_unlearn := z.f_exchanges_unlearn) (g_out := g) (a1 := (xs (Int32.toNatClampNeg (nI i + 1)))) (a2 := (xs (Int32.toNatClampNeg (nI i + 2)))) (hlt := htr) (hf := hf)) (vx_cwSW 4 hts gL_law_L_command rfl rfl rfl (by decide +kernel) ⟨Nat.le_of_ble_eq_true rfl, Nat.le_of_ble_eq_true rfl⟩) hXH hK hP hD hS hA rfl rfl rfl rfl rfl hl.1 rfl (Nat.le_of_ble_eq_true rfl) dL_law_146 hc (fun H1 locs1 hP1 hD1 hS1 => kk H1 locs1 ⟨hP1, hD1, hS1⟩)
set_option maxHeartbeats 4000000 in
set_option maxRecDepth 100000 in
theorem oB_command {r5 : Int32} (F : FX p l s m c b L xs D cy sa tl th) (hi : i + 6 ≤ L) (hL : L ≤ 3072) (hl : lv_has ls 8 (LV b a ra o i)) (hw : WD D s (WB cy a z ra y o g vs vu ++ pl) H locs) (hc : cells ≤ 601024 ∧ slots ≤ 7293034) {r0 : Int32} {o_f_thrown : Int32} {o_f_commands : Int32} {o_f_lists : Int32} {o_g_counts : Nat → Int32} {o_g_words : Nat → Int32} (hf : f_X8_command y.f_thrown y.f_commands y.f_lists y.g_counts y.g_words (xs (Int32.toNatClampNeg (nI i + 1))) (xs (Int32.toNatClampNeg (nI i + 2))) = some (r0, o_f_thrown, o_f_commands, o_f_lists, o_g_counts, o_g_words)) (ht : o_f_thrown = r5) (hg : r5 = 0 → g 0 = Int32.toInt64 r0)
    (kk : ∀ (H1 : Heap) (locs1 : List Loc) (ls1 : Array Slot), WD D s (WB cy a z ra (RZ.mk o_f_thrown o_f_commands y.f_look y.f_down y.f_breadth y.f_unlearn y.f_taped y.f_size y.f_paged o_f_lists y.f_newLists y.f_at y.f_fault y.f_place y.f_ways y.f_pairs y.f_bestMany y.f_bestSum o_g_counts o_g_words y.g_tape y.g_page y.g_items y.g_many y.g_newItems y.g_newMany y.g_has y.g_open y.g_wayList y.g_wayPlace y.g_bits y.g_least y.g_menus y.g_firsts y.g_weights y.g_free y.g_setWeights y.g_stepsAt y.g_pairOne y.g_pairOther y.g_row y.g_best) o g vs vu ++ pl) H1 locs1 → lv_has ls1 8 (LV b a ra o i) → W p l e room_1 s m #[Value.ref b] below meth c H1 locs1 cells slots Q (F0 m 1033 ls1 [])) : W p l e room_1 s m #[Value.ref b] below meth c H locs cells slots Q (F0 m 149 ls [.int r5]) := by
  obtain ⟨hx, hb, hml, hown, hts, hX, hbl, htr, hXH, hK, hN⟩ := F
  obtain ⟨hP, hD, hS⟩ := hw
  obtain ⟨i0, i1, i2, i3, i4, i5⟩ := in_k hi hL
  have hbA : ¬ AL s b := Nat.not_le.mpr hbl
  have hA : ∀ q, s.heap.size ≤ q → AL s q := fun _ h => h
  replace hl : lv_has ls 8 [(0, .ref b), (1, .ref a.h_this), (2, .ref ra.h_this), (3, .ref o), (4, .int (nI i))] := hl
  refine lv_istore (lv' := [(5, .int r5), (0, .ref b), (1, .ref a.h_this), (2, .ref ra.h_this), (3, .ref o), (4, .int (nI i))]) hx hb dL_law_149 hl (by decide) rfl (fun ls hl => ?_)
  refine lv_aload_n hx hb dL_law_151 rfl (lv_at hl 3 rfl) ?_
  refine lv_aload_n hx hb dL_law_152 rfl (lv_at hl 1 rfl) ?_
  refine lv_iload hx hb dL_law_153 (lv_at hl 5 rfl) ?_
  refine lv_iconst (v := 1) hx hb dL_law_155 (by decide) ?_
  refine lv_iadd hx hb dL_law_156 ?_
  refine va_sld hx hb hX hbl hbA hS i1 dL_law_157 ?_
  refine lv_aload_n hx hb dL_law_158 rfl (lv_at hl 1 rfl) ?_
  refine lv_iload hx hb dL_law_159 (lv_at hl 5 rfl) ?_
  refine lv_iconst (v := 2) hx hb dL_law_161 (by decide) ?_
  refine lv_iadd hx hb dL_law_162 ?_
  refine va_sld hx hb hX hbl hbA hS i2 dL_law_163 ?_
  refine cq_Vi (As := [.int (xs (Int32.toNatClampNeg (nI i + 1))), .int (xs (Int32.toNatClampNeg (nI i + 2)))]) (rest := []) [40, 41, 42] (WB cy a z ra (RZ.mk o_f_thrown o_f_commands y.f_look y.f_down y.f_breadth y.f_unlearn y.f_taped y.f_size y.f_paged o_f_lists y.f_newLists y.f_at y.f_fault y.f_place y.f_ways y.f_pairs y.f_bestMany y.f_bestSum o_g_counts o_g_words y.g_tape y.g_page y.g_items y.g_many y.g_newItems y.g_newMany y.g_has y.g_open y.g_wayList y.g_wayPlace y.g_bits y.g_least y.g_menus y.g_firsts y.g_weights y.g_free y.g_setWeights y.g_stepsAt y.g_pairOne y.g_pairOther y.g_row y.g_best) o g vs vu) 8 ⟨hx, hb, hml, hown, hts⟩ (c_X8_command (l := l) (D := D) (cy := cy) (h_this := ra.h_this) (h_counts := ra.h_counts) (h_words := ra.h_words) (h_tape := ra.h_tape) (h_page := ra.h_page) (h_items := ra.h_items) (h_many := ra.h_many) (h_newItems := ra.h_newItems) (h_newMany := ra.h_newMany) (h_has := ra.h_has) (h_open := ra.h_open) (h_wayList := ra.h_wayList) (h_wayPlace := ra.h_wayPlace) (h_bits := ra.h_bits) (h_least := ra.h_least) (h_menus := ra.h_menus) (h_firsts := ra.h_firsts) (h_weights := ra.h_weights) (h_free := ra.h_free) (h_setWeights := ra.h_setWeights) (h_stepsAt := ra.h_stepsAt) (h_pairOne := ra.h_pairOne) (h_pairOther := ra.h_pairOther) (h_row := ra.h_row) (h_best := ra.h_best) (sz := _) (f_thrown := y.f_thrown) (f_commands := y.f_commands) (f_look := y.f_look) (f_down := y.f_down) (f_breadth := y.f_breadth) (f_unlearn := y.f_unlearn) (f_taped := y.f_taped) (f_size := y.f_size) (f_paged := y.f_paged) (f_lists := y.f_lists) (f_newLists := y.f_newLists) (f_at := y.f_at) (f_fault := y.f_fault) (f_place := y.f_place) (f_ways := y.f_ways) (f_pairs := y.f_pairs) (f_bestMany := y.f_bestMany) (f_bestSum := y.f_bestSum) (g_counts := y.g_counts) (g_words := y.g_words) (a1 := (xs (Int32.toNatClampNeg (nI i + 1)))) (a2 := (xs (Int32.toNatClampNeg (nI i + 2)))) (r0 := r0) (o_f_thrown := o_f_thrown) (o_f_commands := o_f_commands) (o_f_lists := o_f_lists) (o_g_counts := o_g_counts) (o_g_words := o_g_words) (hf := hf)) (cwV 2 hts gL_law_X8_command rfl rfl rfl (by decide +kernel) ⟨Nat.le_of_ble_eq_true rfl, Nat.le_of_ble_eq_true rfl⟩) hK hP hD hS hA rfl rfl rfl rfl rfl rfl rfl rfl rfl rfl hl.1 rfl (Nat.le_of_ble_eq_true rfl) dL_law_164 hc (fun H locs hP hD hS => ?_)
  refine lv_istore (lv' := [(6, .int r0), (5, .int r5), (0, .ref b), (1, .ref a.h_this), (2, .ref ra.h_this), (3, .ref o), (4, .int (nI i))]) hx hb dL_law_167 hl (by decide) rfl (fun ls hl => ?_)
  refine lv_aload_n hx hb dL_law_169 rfl (lv_at hl 4 rfl) ?_
  refine cq_Vi (As := []) (rest := []) [40] (WB cy a z ra (RZ.mk o_f_thrown o_f_commands y.f_look y.f_down y.f_breadth y.f_unlearn y.f_taped y.f_size y.f_paged o_f_lists y.f_newLists y.f_at y.f_fault y.f_place y.f_ways y.f_pairs y.f_bestMany y.f_bestSum o_g_counts o_g_words y.g_tape y.g_page y.g_items y.g_many y.g_newItems y.g_newMany y.g_has y.g_open y.g_wayList y.g_wayPlace y.g_bits y.g_least y.g_menus y.g_firsts y.g_weights y.g_free y.g_setWeights y.g_stepsAt y.g_pairOne y.g_pairOther y.g_row y.g_best) o g vs vu) 8 ⟨hx, hb, hml, hown, hts⟩ (c_X8_thrown (l := l) (D := D) (cy := cy) (h_this := ra.h_this) (h_counts := ra.h_counts) (h_words := ra.h_words) (h_tape := ra.h_tape) (h_page := ra.h_page) (h_items := ra.h_items) (h_many := ra.h_many) (h_newItems := ra.h_newItems) (h_newMany := ra.h_newMany) (h_has := ra.h_has) (h_open := ra.h_open) (h_wayList := ra.h_wayList) (h_wayPlace := ra.h_wayPlace) (h_bits := ra.h_bits) (h_least := ra.h_least) (h_menus := ra.h_menus) (h_firsts := ra.h_firsts) (h_weights := ra.h_weights) (h_free := ra.h_free) (h_setWeights := ra.h_setWeights) (h_stepsAt := ra.h_stepsAt) (h_pairOne := ra.h_pairOne) (h_pairOther := ra.h_pairOther) (h_row := ra.h_row) (h_best := ra.h_best) (sz := _) (f_thrown := o_f_thrown) (f_commands := o_f_commands) (f_look := y.f_look) (f_down := y.f_down) (f_breadth := y.f_breadth) (f_unlearn := y.f_unlearn) (f_taped := y.f_taped) (f_size := y.f_size) (f_paged := y.f_paged) (f_lists := o_f_lists) (f_newLists := y.f_newLists) (f_at := y.f_at) (f_fault := y.f_fault) (f_place := y.f_place) (f_ways := y.f_ways) (f_pairs := y.f_pairs) (f_bestMany := y.f_bestMany) (f_bestSum := y.f_bestSum) (r0 := o_f_thrown) (hf := rfl)) (cwV 0 hts gL_law_X8_thrown rfl rfl rfl (by decide +kernel) ⟨Nat.le_of_ble_eq_true rfl, Nat.le_of_ble_eq_true rfl⟩) hK hP hD hS hA rfl rfl rfl rfl rfl rfl rfl rfl rfl rfl hl.1 rfl (Nat.le_of_ble_eq_true rfl) dL_law_170 hc (fun H locs hP hD hS => ?_)
  refine lv_iload hx hb dL_law_173 (lv_at hl 1 rfl) ?_
  refine lv_icmp_eq (tgt := 180) hx hb dL_law_175 (by decide) (fun h5 => ?_) (fun h5 => absurd ht h5)
  refine lv_iload hx hb dL_law_180 (lv_at hl 1 rfl) ?_
  refine lv_if_ne (tgt := 197) hx hb dL_law_182 (by decide) (fun h5 => ?_) (fun h5 => ?_)
  · refine lv_goto (tgt := 1033) hx hb dL_law_197 (by decide) ?_
    exact kk H locs ls ⟨hP, hD, hS⟩ (lv_sub hl [2, 3, 4, 5, 6] rfl)
  · refine lv_aload_n hx hb dL_law_185 rfl (lv_at hl 5 rfl) ?_
    refine lv_iconst (v := 0) hx hb dL_law_186 (by decide) ?_
    refine va_lald hx hb hK hP 65 1 rfl rfl (vp_in_iff.mpr (by decide)) dL_law_187 ?_
    refine lv_iload hx hb dL_law_188 (lv_at hl 0 rfl) ?_
    refine lv_i2l hx hb dL_law_190 rfl ?_
    refine W.lcmp hx hb dL_law_191 ?_
    refine lv_if_eq (tgt := 197) hx hb dL_law_192 (by decide) (fun h6 => ?_) (fun h6 => absurd (lcmp_eq.mpr (hg (by first | exact h5 | exact Decidable.not_not.mp h5))) h6)
    refine lv_goto (tgt := 1033) hx hb dL_law_197 (by decide) ?_
    exact kk H locs ls ⟨hP, hD, hS⟩ (lv_sub hl [2, 3, 4, 5, 6] rfl)
end OP
