/-! the law's case: free -/
theorem freez_eq {sz fk : Int32} {fc q r fc' : Int64} {fk' : Int32} {ct se : Nat → Int32} {we ai le we' ai' le' : Nat → Int64} {ar ar' : Nat → Nat → Int64} (h : f_X7_freez fc fk sz = some q) (h1 : f_X7_free sz ct se fc fk we ai ar le = some (r, fc', fk', we', ai', ar', le')) : q = r ∧ fc' = fc ∧ fk' = fk := by
  unfold f_X7_freez at h
  unfold f_X7_free at h1
  by_cases c0 : sz = 0
  · rw [if_pos c0] at h h1
    injection h with h; injection h1 with h1
    injection h1 with a1 h1; injection h1 with a2 h1; injection h1 with a3 h1
    exact ⟨by rw [← h, ← a1], a2.symm, a3.symm⟩
  · rw [if_neg c0] at h h1
    by_cases c1 : sz ≤ 10
    · rw [if_pos c1] at h h1
      by_cases c2 : fk = 0
      · rw [if_pos c2] at h; cases h
      · rw [if_neg c2] at h h1
        injection h with h; injection h1 with h1
        injection h1 with a1 h1; injection h1 with a2 h1; injection h1 with a3 h1
        exact ⟨by rw [← h, ← a1], a2.symm, a3.symm⟩
    · rw [if_neg c1] at h h1
      injection h with h; injection h1 with h1
      injection h1 with a1 h1; injection h1 with a2 h1; injection h1 with a3 h1
      exact ⟨by rw [← h, ← a1], a2.symm, a3.symm⟩
theorem freez_no {sz fk : Int32} {fc : Int64} (h : ¬ ∃ q, f_X7_freez fc fk sz = some q) : ¬ sz = 0 ∧ sz ≤ 10 ∧ fk = 0 := by
  unfold f_X7_freez at h
  by_cases c0 : sz = 0
  · rw [if_pos c0] at h; exact absurd ⟨_, rfl⟩ h
  · rw [if_neg c0] at h
    by_cases c1 : sz ≤ 10
    · rw [if_pos c1] at h
      by_cases c2 : fk = 0
      · exact ⟨c0, c1, c2⟩
      · rw [if_neg c2] at h; exact absurd ⟨_, rfl⟩ h
    · rw [if_neg c1] at h; exact absurd ⟨_, rfl⟩ h
theorem wd_nil {D : va_G} {s : State} {w p x : va_W} {H : Heap} {locs : List Loc} (h : WD D s (w ++ x ++ (p ++ [])) H locs) : WD D s (w ++ x ++ p) H locs := by rw [List.append_nil] at h; exact h
section OP
variable {p : Program} {l : Launch} {e : Env} {s : State} {m : MethodId} {below : List Frame} {meth : Method} {c : Code} {b L : Nat} {xs : Nat → Int32} {D : va_G} {cy : Nat → ClassId} {sa : Nat → Nat} {tl th : Nat} {H : Heap} {locs : List Loc} {Q : State → Prop} {ls : Array Slot} {a : CA} {z : CZ} {ra : RA} {y : RZ} {o : Nat} {g : Nat → Int64} {i : Nat}
set_option maxHeartbeats 4000000 in
set_option maxRecDepth 100000 in
theorem op_free {sp : Option SP} {su : Option SU} {n : Nat} (F : FX p l s m c b L xs D cy sa tl th) (hi : i + 6 ≤ L) (hL : L ≤ 3072) (hl : lv_has ls 8 (LV b a ra o i)) (hn : n ≤ 600) (hw : WD D s (WB cy a z ra y o g (vS sp) (vU su) ++ (spP cy sp ++ suP cy su)) H locs) (hR : REL z y sp su)
    (kk : ∀ (a' : CA) (z' : CZ) (y' : RZ) (g' : Nat → Int64) (sp' : Option SP) (su' : Option SU) (H1 : Heap) (locs1 : List Loc) (ls1 : Array Slot), WD D s (WB cy a' z' ra y' o g' (vS sp') (vU su') ++ (spP cy sp' ++ suP cy su')) H1 locs1 → lv_has ls1 8 (LV b a' ra o i) → REL z' y' sp' su' → W p l e room_1 s m #[Value.ref b] below meth c H1 locs1 (kC sp' su' (n + 1)) (kS sp' su' (n + 1)) Q (F0 m 1033 ls1 [])) : W p l e room_1 s m #[Value.ref b] below meth c H locs (kC sp su n) (kS sp su n) Q (F0 m 792 ls []) := by
  obtain ⟨N, Lt, T, P, ⟨e1, e2⟩, ⟨e3, e4⟩, ⟨e5, e6⟩, ⟨e7, e8⟩, e9, hu, ht, hp, htr, hsp, hfr, hsu, hwt, hrx⟩ := hR
  have hk := kC_le (sp := sp) (su := su) hn
  cases su with
  | none =>
    obtain ⟨r, fc', fk', we', ai', ar', le', fr', sw', f1, f2, hfr2, hwe2⟩ := s_free hu hfr (ai := z1L) (le := z1L) (ar := z2L) (we := z1L) rfl y.f_thrown y.g_free y.g_setWeights
    rw [← e1] at f1
    rw [← e2] at f2
    by_cases hz : ∃ q, f_X7_freez z.f_freeCost z.f_freeKnown z.f_use_size = some q
    · obtain ⟨q, f3⟩ := hz
      have hq := freez_eq f3 f1
      obtain ⟨rfl, hq2, hq3⟩ := hq
      refine oA_c_X7_freez F hi hL hl hw ⟨by omega, by omega⟩ f3 (fun H1 locs1 hw1 => ?_)
      refine oB_free F hi hL hl hw1 ⟨by omega, by omega⟩ f2 rfl (fun H2 locs2 ls2 hw2 hl2 => ?_)
      refine W.widen (k := kC sp none (n + 1)) (n := kS sp none (n + 1)) (by unfold kC; omega) (by unfold kS; omega) ?_
      exact kk _ _ _ _ sp none H2 locs2 ls2 hw2 hl2 ⟨N, Lt, T, P, ⟨e1, e2⟩, ⟨e3, e4⟩, ⟨e5, e6⟩, ⟨e7, e8⟩, e9, hu, ht, hp, htr, hsp, hfr, hsu, hwt, hrx⟩
    · have hz2 := freez_no hz
      refine oA_n_X7_free F hi hL hl hw ⟨by omega, by omega⟩ hz2.1 hz2.2.1 hz2.2.2 f1 (fun u v H1 locs1 hw1 => ?_)
      refine oB_free F hi hL hl hw1 ⟨by omega, by omega⟩ f2 rfl (fun H2 locs2 ls2 hw2 hl2 => ?_)
      refine W.widen (k := kC sp (some (SU.mk (u 0) (u 1) (u 2) (u 3) (u 4) v we' ai' le' ar')) (n + 1)) (n := kS sp (some (SU.mk (u 0) (u 1) (u 2) (u 3) (u 4) v we' ai' le' ar')) (n + 1)) (by unfold kC; dsimp only [cnU]; omega) (by unfold kS; dsimp only [cnU]; omega) ?_
      exact kk _ _ _ _ sp (some (SU.mk (u 0) (u 1) (u 2) (u 3) (u 4) v we' ai' le' ar')) H2 locs2 ls2 (wd_ws (wd_nil hw2)) hl2 ⟨N, Lt, T, P, ⟨e1, e2⟩, ⟨e3, e4⟩, ⟨e5, e6⟩, ⟨e7, e8⟩, e9, hu, ht, hp, htr, hsp, hfr2, hwe2, hwt, hrx⟩
  | some x =>
    obtain ⟨r, fc', fk', we', ai', ar', le', fr', sw', f1, f2, hfr2, hwe2⟩ := s_free hu hfr (ai := x.g_subsets_asItem) (le := x.g_subsets_least) (ar := x.g_subsets_asRest) (we := x.g_subsets_weight) hsu y.f_thrown y.g_free y.g_setWeights
    rw [← e1] at f1
    rw [← e2] at f2
    refine oA_c_X7_free F hi hL hl (wd_sw hw) ⟨by omega, by omega⟩ f1 (fun H1 locs1 hw1 => ?_)
    refine oB_free F hi hL hl (wd_sa hw1) ⟨by omega, by omega⟩ f2 rfl (fun H2 locs2 ls2 hw2 hl2 => ?_)
    refine W.widen (k := kC sp (some (SU.mk x.h_subsets x.h_subsets_weight x.h_subsets_asItem x.h_subsets_asRest x.h_subsets_least x.r_subsets_asRest we' ai' le' ar')) (n + 1)) (n := kS sp (some (SU.mk x.h_subsets x.h_subsets_weight x.h_subsets_asItem x.h_subsets_asRest x.h_subsets_least x.r_subsets_asRest we' ai' le' ar')) (n + 1)) (by unfold kC; dsimp only [cnU]; omega) (by unfold kS; dsimp only [cnU]; omega) ?_
    exact kk _ _ _ _ sp (some (SU.mk x.h_subsets x.h_subsets_weight x.h_subsets_asItem x.h_subsets_asRest x.h_subsets_least x.r_subsets_asRest we' ai' le' ar')) H2 locs2 ls2 (wd_ws (wd_as hw2)) hl2 ⟨N, Lt, T, P, ⟨e1, e2⟩, ⟨e3, e4⟩, ⟨e5, e6⟩, ⟨e7, e8⟩, e9, hu, ht, hp, htr, hsp, hfr2, hwe2, hwt, hrx⟩
end OP
