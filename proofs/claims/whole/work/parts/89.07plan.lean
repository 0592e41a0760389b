/-! the law's case: plan -/
section OP
variable {p : Program} {l : Launch} {e : Env} {s : State} {m : MethodId} {below : List Frame} {meth : Method} {c : Code} {b L : Nat} {xs : Nat → Int32} {D : va_G} {cy : Nat → ClassId} {sa : Nat → Nat} {tl th : Nat} {H : Heap} {locs : List Loc} {Q : State → Prop} {ls : Array Slot} {a : CA} {z : CZ} {ra : RA} {y : RZ} {o : Nat} {g : Nat → Int64} {i : Nat}
set_option maxHeartbeats 4000000 in
set_option maxRecDepth 100000 in
theorem op_plan {sp : Option SP} {su : Option SU} {n : Nat} (F : FX p l s m c b L xs D cy sa tl th) (hi : i + 6 ≤ L) (hL : L ≤ 3072) (hl : lv_has ls 8 (LV b a ra o i)) (hn : n ≤ 600) (hw : WD D s (WB cy a z ra y o g (vS sp) (vU su) ++ (spP cy sp ++ suP cy su)) H locs) (hR : REL z y sp su)
    (kk : ∀ (a' : CA) (z' : CZ) (y' : RZ) (g' : Nat → Int64) (sp' : Option SP) (su' : Option SU) (H1 : Heap) (locs1 : List Loc) (ls1 : Array Slot), WD D s (WB cy a' z' ra y' o g' (vS sp') (vU su') ++ (spP cy sp' ++ suP cy su')) H1 locs1 → lv_has ls1 8 (LV b a' ra o i) → REL z' y' sp' su' → W p l e room_1 s m #[Value.ref b] below meth c H1 locs1 (kC sp' su' (n + 1)) (kS sp' su' (n + 1)) Q (F0 m 1033 ls1 [])) : W p l e room_1 s m #[Value.ref b] below meth c H locs (kC sp su n) (kS sp su n) Q (F0 m 546 ls []) := by
  obtain ⟨N, Lt, T, P, ⟨e1, e2⟩, ⟨e3, e4⟩, ⟨e5, e6⟩, ⟨e7, e8⟩, e9, hu, ht, hp, htr, hsp, hfr, hsu, hwt, hrx⟩ := hR
  have hk := kC_le (sp := sp) (su := su) hn
  by_cases h0 : N = 0
  · subst h0
    have f1 : f_X7_planz z.f_use_size = some (-1) := by unfold f_X7_planz; rw [e1]; exact if_pos nI_0
    have f2 := (s_plan0 (ct := z.g_use_counts) (se := z.g_use_settings) (lk := y.f_look) (dn := y.f_down) (br := y.f_breadth) 0 0 0 y.f_thrown y.f_lists y.f_newLists z1I z1I z1I z1I z1I z1I z1I z1I y.g_items y.g_many y.g_newItems y.g_newMany y.g_menus y.g_firsts y.g_counts z1L z1L y.g_weights y.g_least z2L).2
    rw [← e2] at f2
    refine oA_c_X7_planz F hi hL hl hw ⟨by omega, by omega⟩ f1 (fun H1 locs1 hw1 => ?_)
    refine oB_plan F hi hL hl hw1 ⟨by omega, by omega⟩ f2 rfl (fun H2 locs2 ls2 hw2 hl2 => ?_)
    refine W.widen (k := kC sp su (n + 1)) (n := kS sp su (n + 1)) (by unfold kC; omega) (by unfold kS; omega) ?_
    exact kk _ _ _ _ sp su H2 locs2 ls2 hw2 hl2 ⟨0, Lt, T, P, ⟨e1, e2⟩, ⟨e3, e4⟩, ⟨e5, e6⟩, ⟨e7, e8⟩, e9, hu, ht, hp, htr, hsp, hfr, hsu, hwt, hrx⟩
  · cases sp with
    | none =>
      have hs0 : RSp N z.g_use_counts z.g_use_settings z.f_spansKnown z1L z1L z2L := ⟨rfl, .inl hsp⟩
      obtain ⟨r, L2, sz', av', pv', im', hh', pp', be', ai', ar', lf', lt', nl8', im8', mn8', ni', nm', le', me', fi', wt', f1, f2, hL2, htr2, hsp2, hwt2⟩ := s_plan hu (by omega) hs0 hwt (le := y.g_least) z.f_tree_lists z.f_exchanges_reckoned y.f_thrown y.f_lists y.f_newLists z.g_tree_sizes z.g_tree_above z.g_tree_placeAbove z.g_tree_items z.g_tree_home z.g_tree_placeHome z1I z1I y.g_items y.g_many y.g_newItems y.g_newMany y.g_menus y.g_firsts
      have hne : ¬ z.f_use_size = 0 := by rw [e1]; exact nI_ne0 (by omega) (by have := hu.1; omega)
      rw [← e1] at f1
      rw [← e2] at f2
      refine oA_n_X7_plan F hi hL hl hw ⟨by omega, by omega⟩ hne f1 (fun u v H1 locs1 hw1 => ?_)
      refine oB_plan F hi hL hl hw1 ⟨by omega, by omega⟩ f2 rfl (fun H2 locs2 ls2 hw2 hl2 => ?_)
      refine W.widen (k := kC (some (SP.mk (u 0) (u 1) (u 2) (u 3) (u 4) (u 5) v be' ai' lf' lt' ar')) su (n + 1)) (n := kS (some (SP.mk (u 0) (u 1) (u 2) (u 3) (u 4) (u 5) v be' ai' lf' lt' ar')) su (n + 1)) (by unfold kC; dsimp only [cnS]; omega) (by unfold kS; dsimp only [cnS]; omega) ?_
      exact kk _ _ _ _ (some (SP.mk (u 0) (u 1) (u 2) (u 3) (u 4) (u 5) v be' ai' lf' lt' ar')) su H2 locs2 ls2 (wd_sa hw2) hl2 ⟨N, L2, T, P, ⟨e1, e2⟩, ⟨rfl, rfl⟩, ⟨e5, e6⟩, ⟨e7, e8⟩, e9, hu, ht, hp, htr2, hsp2, hfr, hsu, hwt2, .inl rfl⟩
    | some x =>
      obtain ⟨r, L2, sz', av', pv', im', hh', pp', be', ai', ar', lf', lt', nl8', im8', mn8', ni', nm', le', me', fi', wt', f1, f2, hL2, htr2, hsp2, hwt2⟩ := s_plan hu (by omega) hsp hwt (le := y.g_least) z.f_tree_lists z.f_exchanges_reckoned y.f_thrown y.f_lists y.f_newLists z.g_tree_sizes z.g_tree_above z.g_tree_placeAbove z.g_tree_items z.g_tree_home z.g_tree_placeHome x.g_spans_listFrom x.g_spans_listTo y.g_items y.g_many y.g_newItems y.g_newMany y.g_menus y.g_firsts
      rw [← e1] at f1
      rw [← e2] at f2
      refine oA_c_X7_plan F hi hL hl (wd_as hw) ⟨by omega, by omega⟩ f1 (fun H1 locs1 hw1 => ?_)
      refine oB_plan F hi hL hl (wd_sa hw1) ⟨by omega, by omega⟩ f2 rfl (fun H2 locs2 ls2 hw2 hl2 => ?_)
      refine W.widen (k := kC (some (SP.mk x.h_spans x.h_spans_before x.h_spans_asItem x.h_spans_asRest x.h_spans_listFrom x.h_spans_listTo x.r_spans_asRest be' ai' lf' lt' ar')) su (n + 1)) (n := kS (some (SP.mk x.h_spans x.h_spans_before x.h_spans_asItem x.h_spans_asRest x.h_spans_listFrom x.h_spans_listTo x.r_spans_asRest be' ai' lf' lt' ar')) su (n + 1)) (by unfold kC; dsimp only [cnS]; omega) (by unfold kS; dsimp only [cnS]; omega) ?_
      exact kk _ _ _ _ (some (SP.mk x.h_spans x.h_spans_before x.h_spans_asItem x.h_spans_asRest x.h_spans_listFrom x.h_spans_listTo x.r_spans_asRest be' ai' lf' lt' ar')) su H2 locs2 ls2 hw2 hl2 ⟨N, L2, T, P, ⟨e1, e2⟩, ⟨rfl, rfl⟩, ⟨e5, e6⟩, ⟨e7, e8⟩, e9, hu, ht, hp, htr2, hsp2, hfr, hsu, hwt2, .inl rfl⟩
end OP
