abbrev rm_X8_ones : Room := { frames := 0, cells := 0, slots := 0, locals := 0 }
set_option maxHeartbeats 4000000 in
set_option maxRecDepth 100000 in
theorem c_X8_ones (l : Launch) (D : va_G) (cy : Nat → ClassId)     (sz : Nat)  (a0 : Int32) (r0 : Int32)  (hf : f_X8_ones a0 = some r0) : MI l yX8_ones wsX8_ones rm_X8_ones D cy [.int a0] sz [] r0 [] := by
  refine MI.of (cc := cX8_ones) (maxL := 3) (ret := (some .int)) (by decide) rfl (Nat.le_of_ble_eq_true rfl) ?_
  intro p e s m below meth c A ls hx hb hml hown hts hlk hr hK hA hP hD hS hl
  have h := hf
  unfold f_X8_ones at h
  replace hl : lv_has ls 3 [(0, .int a0)] := hl
  have L4 : ∀ (n : Nat) (x0 : Int32) (x1 : Int32) (x2 : Int32), f_X8_ones_L4 n x0 x1 x2 = some r0 → ∀ (H : Heap) (locs : List Loc) (ls : Array Slot), va_P D vwCl [] H → va_D A [] → va_S A s.heap H locs → lv_has ls 3 [(0, .int x0), (1, .int x1), (2, .int x2)] → W p l e rm_X8_ones s m ([.int a0]).toArray below meth c H locs 0 0 (MQ below (QI D cy A r0 []) ([.int a0]).toArray s 0 0 A) (F0 m 4 ls []) := by
    intro n
    induction n with
    | zero => intro x0 x1 x2 h; exact absurd (show (none : Option _) = some _ from h) (by intro q; cases q)
    | succ n4 ih4 =>
      intro x0 x1 x2 h H locs ls hP hD hS hl
      replace h : f_X8_ones_L4_F (f_X8_ones_L4 n4) x0 x1 x2 = some r0 := h
      unfold f_X8_ones_L4_F at h
      refine lv_iload_n hx hb dX8_ones_4 rfl (lv_at hl 2 rfl) ?_
      refine lv_bipush (v := 24) hx hb dX8_ones_5 (by decide) ?_
      refine lv_icmp_ge (tgt := 24) hx hb dX8_ones_7 (by decide) (fun hc => ?_) (fun hc => ?_)
      · replace h := it_1 h hc
        refine lv_iload_n hx hb dX8_ones_24 rfl (lv_at hl 1 rfl) ?_
        have e0 := ret1 h
        exact rte_i e0 rfl hx hb hr hlk rfl hK hP hD hS dX8_ones_25
      · replace h := it_0 h hc
        refine lv_iload_n hx hb dX8_ones_10 rfl (lv_at hl 1 rfl) ?_
        refine lv_iload_n hx hb dX8_ones_11 rfl (lv_at hl 0 rfl) ?_
        refine lv_iload_n hx hb dX8_ones_12 rfl (lv_at hl 2 rfl) ?_
        refine lv_ishr hx hb dX8_ones_13 ?_
        refine lv_iconst (v := 1) hx hb dX8_ones_14 (by decide) ?_
        refine lv_iand hx hb dX8_ones_15 ?_
        refine lv_iadd hx hb dX8_ones_16 ?_
        refine lv_istore_n (lv' := [(1, .int (x1 + ((x0 >>> (x2 &&& 31)) &&& 1))), (0, .int x0), (2, .int x2)]) hx hb dX8_ones_17 rfl hl (by decide) rfl (fun ls hl => ?_)
        refine lv_iinc (v := (x2 + 1)) (lv' := [(2, .int (x2 + 1)), (1, .int (x1 + ((x0 >>> (x2 &&& 31)) &&& 1))), (0, .int x0)]) hx hb dX8_ones_18 hl (k := 2) rfl rfl (by decide) rfl (fun ls hl => ?_)
        refine lv_goto (tgt := 4) hx hb dX8_ones_21 (by decide) ?_
        exact ih4 _ _ _ h _ _ _ hP hD hS (lv_sub hl [2, 1, 0] rfl)
  clear hf
  refine lv_iconst (v := 0) hx hb dX8_ones_0 (by decide) ?_
  refine lv_istore_n (lv' := [(1, .int 0), (0, .int a0)]) hx hb dX8_ones_1 rfl hl (by decide) rfl (fun ls hl => ?_)
  refine lv_iconst (v := 0) hx hb dX8_ones_2 (by decide) ?_
  refine lv_istore_n (lv' := [(2, .int 0), (1, .int 0), (0, .int a0)]) hx hb dX8_ones_3 rfl hl (by decide) rfl (fun ls hl => ?_)
  exact L4 FU _ _ _ h _ _ _ hP hD hS (lv_sub hl [2, 1, 0] rfl)
