/-! the law's case: steps -/
section OP
variable {p : Program} {l : Launch} {e : Env} {s : State} {m : MethodId} {below : List Frame} {meth : Method} {c : Code} {b L : Nat} {xs : Nat → Int32} {D : va_G} {cy : Nat → ClassId} {sa : Nat → Nat} {tl th : Nat} {H : Heap} {locs : List Loc} {Q : State → Prop} {ls : Array Slot} {a : CA} {z : CZ} {ra : RA} {y : RZ} {o : Nat} {g : Nat → Int64} {i : Nat}
set_option maxHeartbeats 4000000 in
set_option maxRecDepth 100000 in
theorem op_steps {sp : Option SP} {su : Option SU} {n : Nat} (F : FX p l s m c b L xs D cy sa tl th) (hi : i + 6 ≤ L) (hL : L ≤ 3072) (hl : lv_has ls 8 (LV b a ra o i)) (hn : n ≤ 600) (hw : WD D s (WB cy a z ra y o g (vS sp) (vU su) ++ (spP cy sp ++ suP cy su)) H locs) (hR : REL z y sp su)
    (kk : ∀ (a' : CA) (z' : CZ) (y' : RZ) (g' : Nat → Int64) (sp' : Option SP) (su' : Option SU) (H1 : Heap) (locs1 : List Loc) (ls1 : Array Slot), WD D s (WB cy a' z' ra y' o g' (vS sp') (vU su') ++ (spP cy sp' ++ suP cy su')) H1 locs1 → lv_has ls1 8 (LV b a' ra o i) → REL z' y' sp' su' → W p l e room_1 s m #[Value.ref b] below meth c H1 locs1 (kC sp' su' (n + 1)) (kS sp' su' (n + 1)) Q (F0 m 1033 ls1 [])) : W p l e room_1 s m #[Value.ref b] below meth c H locs (kC sp su n) (kS sp su n) Q (F0 m 612 ls []) := by
  obtain ⟨N, Lt, T, P, ⟨e1, e2⟩, ⟨e3, e4⟩, ⟨e5, e6⟩, ⟨e7, e8⟩, e9, hu, ht, hp, htr, hsp, hfr, hsu, hwt, hrx⟩ := hR
  have hk := kC_le (sp := sp) (su := su) hn
  rcases s_steps hu htr y.f_thrown y.f_ways (xs (Int32.toNatClampNeg (nI i + 1))) y.g_wayList y.g_wayPlace with ⟨f1, f2⟩ | ⟨r, w', wl', wp', f1, f2⟩ <;> rw [← e1, ← e3] at f1 <;> rw [← e2, ← e4] at f2
  · refine oA_x0_L_steps F hi hL hl hw ⟨by omega, by omega⟩ f1 (fun H1 locs1 hw1 => ?_)
    refine oB_steps (r5 := 1) F hi hL hl hw1 ⟨by omega, by omega⟩ f2 rfl (fun q => absurd q (by decide)) (fun H2 locs2 ls2 hw2 hl2 => ?_)
    refine W.widen (k := kC sp su (n + 1)) (n := kS sp su (n + 1)) (by unfold kC; omega) (by unfold kS; omega) ?_
    exact kk _ _ _ _ sp su H2 locs2 ls2 hw2 hl2 ⟨N, Lt, T, P, ⟨e1, e2⟩, ⟨e3, e4⟩, ⟨e5, e6⟩, ⟨e7, e8⟩, e9, hu, ht, hp, htr, hsp, hfr, hsu, hwt, hrx⟩
  · refine oA_n_L_steps F hi hL hl hw ⟨by omega, by omega⟩ f1 (fun H1 locs1 hw1 => ?_)
    refine oB_steps (r5 := 0) F hi hL hl hw1 ⟨by omega, by omega⟩ f2 rfl (fun _ => pk_uLs) (fun H2 locs2 ls2 hw2 hl2 => ?_)
    refine W.widen (k := kC sp su (n + 1)) (n := kS sp su (n + 1)) (by unfold kC; omega) (by unfold kS; omega) ?_
    exact kk _ _ _ _ sp su H2 locs2 ls2 hw2 hl2 ⟨N, Lt, T, P, ⟨e1, e2⟩, ⟨e3, e4⟩, ⟨e5, e6⟩, ⟨e7, e8⟩, e9, hu, ht, hp, htr, hsp, hfr, hsu, hwt, hrx⟩
end OP
