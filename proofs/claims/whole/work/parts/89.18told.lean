/-! the law's case: told -/
theorem told_some {tp sz ls pg a : Int32} : ∃ r, f_X7_told tp sz ls pg a = some r := by
  obtain ⟨b, hb⟩ : ∃ b, f_X5_exists ls = some b := by
    unfold f_X5_exists
    by_cases h : ls ≤ 0
    · exact ⟨_, if_pos h⟩
    · exact ⟨_, if_neg h⟩
  unfold f_X7_told
  rw [hb]
  dsimp only [ob]
  repeat' (first | exact ⟨_, rfl⟩ | split)
section OP
variable {p : Program} {l : Launch} {e : Env} {s : State} {m : MethodId} {below : List Frame} {meth : Method} {c : Code} {b L : Nat} {xs : Nat → Int32} {D : va_G} {cy : Nat → ClassId} {sa : Nat → Nat} {tl th : Nat} {H : Heap} {locs : List Loc} {Q : State → Prop} {ls : Array Slot} {a : CA} {z : CZ} {ra : RA} {y : RZ} {o : Nat} {g : Nat → Int64} {i : Nat}
set_option maxHeartbeats 4000000 in
set_option maxRecDepth 100000 in
theorem op_told {sp : Option SP} {su : Option SU} {n : Nat} (F : FX p l s m c b L xs D cy sa tl th) (hi : i + 6 ≤ L) (hL : L ≤ 3072) (hl : lv_has ls 8 (LV b a ra o i)) (hn : n ≤ 600) (hw : WD D s (WB cy a z ra y o g (vS sp) (vU su) ++ (spP cy sp ++ suP cy su)) H locs) (hR : REL z y sp su)
    (kk : ∀ (a' : CA) (z' : CZ) (y' : RZ) (g' : Nat → Int64) (sp' : Option SP) (su' : Option SU) (H1 : Heap) (locs1 : List Loc) (ls1 : Array Slot), WD D s (WB cy a' z' ra y' o g' (vS sp') (vU su') ++ (spP cy sp' ++ suP cy su')) H1 locs1 → lv_has ls1 8 (LV b a' ra o i) → REL z' y' sp' su' → W p l e room_1 s m #[Value.ref b] below meth c H1 locs1 (kC sp' su' (n + 1)) (kS sp' su' (n + 1)) Q (F0 m 1033 ls1 [])) : W p l e room_1 s m #[Value.ref b] below meth c H locs (kC sp su n) (kS sp su n) Q (F0 m 1008 ls []) := by
  obtain ⟨N, Lt, T, P, ⟨e1, e2⟩, ⟨e3, e4⟩, ⟨e5, e6⟩, ⟨e7, e8⟩, e9, hu, ht, hp, htr, hsp, hfr, hsu, hwt, hrx⟩ := hR
  have hk := kC_le (sp := sp) (su := su) hn
  have hLt : Lt < 2 ^ 31 := by
    rcases htr with q | ⟨ab, pa, hm, ph, cn, it, pi, qi, q, _⟩
    · omega
    · have := q.2.1; omega
  have f0 := told_eq (tp := nI T) (sz := nI N) (pg := nI P) (th := y.f_thrown) (a := (xs (Int32.toNatClampNeg (nI i + 1)))) (ls := nI Lt) rfl hLt
  obtain ⟨r, f1⟩ : ∃ r, f_X7_told (nI T) (nI N) (nI Lt) (nI P) (xs (Int32.toNatClampNeg (nI i + 1))) = some r := told_some
  rw [f1] at f0
  have f2 : f_X8_told (nI N) (nI T) (nI P) (nI Lt) y.f_thrown (xs (Int32.toNatClampNeg (nI i + 1))) = some (r, 0) := f0
  rw [← e5, ← e1, ← e3, ← e7] at f1
  rw [← e2, ← e6, ← e8, ← e4] at f2
  refine oA_c_X7_told F hi hL hl hw ⟨by omega, by omega⟩ f1 (fun H1 locs1 hw1 => ?_)
  refine oB_told F hi hL hl hw1 ⟨by omega, by omega⟩ f2 rfl (fun H2 locs2 ls2 hw2 hl2 => ?_)
  refine W.widen (k := kC sp su (n + 1)) (n := kS sp su (n + 1)) (by unfold kC; omega) (by unfold kS; omega) ?_
  exact kk _ _ _ _ sp su H2 locs2 ls2 hw2 hl2 ⟨N, Lt, T, P, ⟨e1, e2⟩, ⟨e3, e4⟩, ⟨e5, e6⟩, ⟨e7, e8⟩, e9, hu, ht, hp, htr, hsp, hfr, hsu, hwt, hrx⟩
end OP
