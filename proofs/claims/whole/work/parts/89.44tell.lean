/-! the law's case: tell -/
theorem rt_0 {tp tp8 : Nat → Int32} : RT 0 tp tp8 := ⟨Nat.zero_le _, fun k hk => absurd hk (Nat.not_lt_zero k)⟩
section OP
variable {p : Program} {l : Launch} {e : Env} {s : State} {m : MethodId} {below : List Frame} {meth : Method} {c : Code} {b L : Nat} {xs : Nat → Int32} {D : va_G} {cy : Nat → ClassId} {sa : Nat → Nat} {tl th : Nat} {H : Heap} {locs : List Loc} {Q : State → Prop} {ls : Array Slot} {a : CA} {z : CZ} {ra : RA} {y : RZ} {o : Nat} {g : Nat → Int64} {i : Nat}
set_option maxHeartbeats 4000000 in
set_option maxRecDepth 100000 in
theorem op_tell {sp : Option SP} {su : Option SU} {n : Nat} (F : FX p l s m c b L xs D cy sa tl th) (hi : i + 6 ≤ L) (hL : L ≤ 3072) (hl : lv_has ls 8 (LV b a ra o i)) (hn : n ≤ 600) (hw : WD D s (WB cy a z ra y o g (vS sp) (vU su) ++ (spP cy sp ++ suP cy su)) H locs) (hR : REL z y sp su)
    (kk : ∀ (a' : CA) (z' : CZ) (y' : RZ) (g' : Nat → Int64) (sp' : Option SP) (su' : Option SU) (H1 : Heap) (locs1 : List Loc) (ls1 : Array Slot), WD D s (WB cy a' z' ra y' o g' (vS sp') (vU su') ++ (spP cy sp' ++ suP cy su')) H1 locs1 → lv_has ls1 8 (LV b a' ra o i) → REL z' y' sp' su' → W p l e room_1 s m #[Value.ref b] below meth c H1 locs1 (kC sp' su' (n + 1)) (kS sp' su' (n + 1)) Q (F0 m 1033 ls1 [])) : W p l e room_1 s m #[Value.ref b] below meth c H locs (kC sp su n) (kS sp su n) Q (F0 m 477 ls []) := by
  obtain ⟨N, Lt, T, P, ⟨e1, e2⟩, ⟨e3, e4⟩, ⟨e5, e6⟩, ⟨e7, e8⟩, e9, hu, ht, hp, htr, hsp, hfr, hsu, hwt, hrx⟩ := hR
  have hk := kC_le (sp := sp) (su := su) hn
  rcases s_tell hu ht z.f_faultPlace z.f_reader_faultNumber z.f_reader_faultPlace z.f_reader_depth z.f_reader_seenCount z.f_draft_lists z.f_exchanges_reckoned y.f_thrown y.f_size y.f_lists y.f_newLists y.f_at y.f_fault y.f_place (xs (Int32.toNatClampNeg (nI i + 1))) z.g_reader_open z.g_reader_seen z.g_draft_sizes z.g_draft_above z.g_draft_placeAbove z.g_draft_items z.g_draft_home z.g_draft_placeHome y.g_items y.g_many y.g_newItems y.g_newMany y.g_has y.g_open with ⟨f1, f2⟩ | ⟨r, fp, fn', dp', sc', og', sg', ls', sz', av', pv', im', hh', pp', z8', nl8', at8', ni', nm', hs', o8', f1, f2⟩ | ⟨L2, fn', dp', sc', og', sg', sz', av', pv', im', hh', pp', z8', nl8', at8', im8', mn8', ni', nm', hs', o8', f1, f2, hL2, htr2⟩ <;> rw [← e1, ← e5] at f1 <;> rw [← e2, ← e6] at f2
  · refine oA_x0_L_tell F hi hL hl hw ⟨by omega, by omega⟩ f1 (fun H1 locs1 hw1 => ?_)
    refine oB_tell (r5 := 1) F hi hL hl hw1 ⟨by omega, by omega⟩ f2 rfl (fun q => absurd q (by decide)) (fun H2 locs2 ls2 hw2 hl2 => ?_)
    refine W.widen (k := kC sp su (n + 1)) (n := kS sp su (n + 1)) (by unfold kC; omega) (by unfold kS; omega) ?_
    exact kk _ _ _ _ sp su H2 locs2 ls2 hw2 hl2 ⟨N, Lt, T, P, ⟨e1, e2⟩, ⟨e3, e4⟩, ⟨e5, e6⟩, ⟨e7, e8⟩, e9, hu, ht, hp, htr, hsp, hfr, hsu, hwt, hrx⟩
  · refine oA_n0_L_tell F hi hL hl hw ⟨by omega, by omega⟩ f1 (fun H1 locs1 hw1 => ?_)
    refine oB_tell (r5 := 0) F hi hL hl hw1 ⟨by omega, by omega⟩ f2 rfl (fun _ => pk_uLs) (fun H2 locs2 ls2 hw2 hl2 => ?_)
    refine W.widen (k := kC sp su (n + 1)) (n := kS sp su (n + 1)) (by unfold kC; omega) (by unfold kS; omega) ?_
    exact kk _ _ _ _ sp su H2 locs2 ls2 hw2 hl2 ⟨N, Lt, 0, P, ⟨e1, e2⟩, ⟨e3, e4⟩, ⟨nI_0.symm, nI_0.symm⟩, ⟨e7, e8⟩, rfl, hu, rt_0, hp, htr, hsp, hfr, hsu, hwt, hrx⟩
  · refine oA_n1_L_tell F hi hL hl hw ⟨by omega, by omega⟩ f1 (fun H1 locs1 hw1 => ?_)
    refine oB_tell (a := (CA.mk a.h_this a.h_use a.h_use_counts a.h_use_words a.h_use_settings a.h_tape a.h_reader a.h_reader_open a.h_reader_seen a.h_draft a.h_draft_sizes a.h_draft_above a.h_draft_placeAbove a.h_draft_items a.h_draft_home a.h_draft_placeHome a.h_draft_tally a.h_tree a.h_tree_sizes a.h_tree_above a.h_tree_placeAbove a.h_tree_items a.h_tree_home a.h_tree_placeHome a.h_tree_tally a.h_page a.h_page_bytes a.h_exchanges a.h_exchanges_sums a.h_exchanges_lengths a.h_exchanges_rows a.h_exchanges_lower a.h_exchanges_upper a.h_exchanges_counts a.h_exchanges_steps a.h_exchanges_row a.r_exchanges_rows)) (r5 := 0) F hi hL hl hw1 ⟨by omega, by omega⟩ f2 rfl (fun _ => pk_uLs) (fun H2 locs2 ls2 hw2 hl2 => ?_)
    refine W.widen (k := kC sp su (n + 1)) (n := kS sp su (n + 1)) (by unfold kC; omega) (by unfold kS; omega) ?_
    exact kk _ _ _ _ sp su H2 locs2 ls2 hw2 hl2 ⟨N, L2, 0, P, ⟨e1, e2⟩, ⟨rfl, rfl⟩, ⟨nI_0.symm, nI_0.symm⟩, ⟨e7, e8⟩, rfl, hu, rt_0, hp, htr2, hsp, hfr, hsu, hwt, .inl rfl⟩
end OP
