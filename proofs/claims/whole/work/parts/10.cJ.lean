abbrev rm_J6_bitCount_0f7a4 : Room := { frames := 0, cells := 0, slots := 0, locals := 0 }
set_option maxHeartbeats 4000000 in
set_option maxRecDepth 100000 in
theorem c_J6_bitCount_0f7a4 (l : Launch) (D : va_G) (cy : Nat → ClassId)     (sz : Nat)  (a0 : Int32) (r0 : Int32)  (hf : f_J6_bitCount_0f7a4 a0 = some r0) : MI l yJ6_bitCount_0f7a4 wsJ6_bitCount_0f7a4 rm_J6_bitCount_0f7a4 D cy [.int a0] sz [] r0 [] := by
  refine MI.of (cc := cJ6_bitCount_0f7a4) (maxL := 1) (ret := (some .int)) (by decide) rfl (Nat.le_of_ble_eq_true rfl) ?_
  intro p e s m below meth c A ls hx hb hml hown hts hlk hr hK hA hP hD hS hl
  have h := hf
  unfold f_J6_bitCount_0f7a4 at h
  have wc265 := hts (.constant RJ6 265 (1431655765)) (by decide +kernel)
  have wc266 := hts (.constant RJ6 266 (858993459)) (by decide +kernel)
  have wc267 := hts (.constant RJ6 267 (252645135)) (by decide +kernel)
  replace hl : lv_has ls 1 [(0, .int a0)] := hl
  clear hf
  refine lv_iload_n hx hb dJ6_bitCount_0f7a4_0 rfl (lv_at hl 0 rfl) ?_
  refine lv_iload_n hx hb dJ6_bitCount_0f7a4_1 rfl (lv_at hl 0 rfl) ?_
  refine lv_iconst (v := 1) hx hb dJ6_bitCount_0f7a4_2 (by decide) ?_
  refine lv_iushr hx hb dJ6_bitCount_0f7a4_3 rfl ?_
  refine lv_ldcw (v := 1431655765) hx hb hown wc265 dJ6_bitCount_0f7a4_4 ?_
  refine lv_iand hx hb dJ6_bitCount_0f7a4_7 ?_
  refine lv_isub hx hb dJ6_bitCount_0f7a4_8 ?_
  refine lv_topi (fun y0_1 ex => ?_)
  replace h := nm_1 h ex
  refine lv_istore_n (lv' := [(0, .int y0_1)]) hx hb dJ6_bitCount_0f7a4_9 rfl hl (by decide) rfl (fun ls hl => ?_)
  refine lv_iload_n hx hb dJ6_bitCount_0f7a4_10 rfl (lv_at hl 0 rfl) ?_
  refine lv_ldcw (v := 858993459) hx hb hown wc266 dJ6_bitCount_0f7a4_11 ?_
  refine lv_iand hx hb dJ6_bitCount_0f7a4_14 ?_
  refine lv_iload_n hx hb dJ6_bitCount_0f7a4_15 rfl (lv_at hl 0 rfl) ?_
  refine lv_iconst (v := 2) hx hb dJ6_bitCount_0f7a4_16 (by decide) ?_
  refine lv_iushr hx hb dJ6_bitCount_0f7a4_17 rfl ?_
  refine lv_ldcw (v := 858993459) hx hb hown wc266 dJ6_bitCount_0f7a4_18 ?_
  refine lv_iand hx hb dJ6_bitCount_0f7a4_21 ?_
  refine lv_iadd hx hb dJ6_bitCount_0f7a4_22 ?_
  refine lv_topi (fun y0_2 ex => ?_)
  replace h := nm_1 h ex
  refine lv_istore_n (lv' := [(0, .int y0_2)]) hx hb dJ6_bitCount_0f7a4_23 rfl hl (by decide) rfl (fun ls hl => ?_)
  refine lv_iload_n hx hb dJ6_bitCount_0f7a4_24 rfl (lv_at hl 0 rfl) ?_
  refine lv_iload_n hx hb dJ6_bitCount_0f7a4_25 rfl (lv_at hl 0 rfl) ?_
  refine lv_iconst (v := 4) hx hb dJ6_bitCount_0f7a4_26 (by decide) ?_
  refine lv_iushr hx hb dJ6_bitCount_0f7a4_27 rfl ?_
  refine lv_iadd hx hb dJ6_bitCount_0f7a4_28 ?_
  refine lv_ldcw (v := 252645135) hx hb hown wc267 dJ6_bitCount_0f7a4_29 ?_
  refine lv_iand hx hb dJ6_bitCount_0f7a4_32 ?_
  refine lv_topi (fun y0_3 ex => ?_)
  replace h := nm_1 h ex
  refine lv_istore_n (lv' := [(0, .int y0_3)]) hx hb dJ6_bitCount_0f7a4_33 rfl hl (by decide) rfl (fun ls hl => ?_)
  refine lv_iload_n hx hb dJ6_bitCount_0f7a4_34 rfl (lv_at hl 0 rfl) ?_
  refine lv_iload_n hx hb dJ6_bitCount_0f7a4_35 rfl (lv_at hl 0 rfl) ?_
  refine lv_bipush (v := 8) hx hb dJ6_bitCount_0f7a4_36 (by decide) ?_
  refine lv_iushr hx hb dJ6_bitCount_0f7a4_38 rfl ?_
  refine lv_iadd hx hb dJ6_bitCount_0f7a4_39 ?_
  refine lv_topi (fun y0_4 ex => ?_)
  replace h := nm_1 h ex
  refine lv_istore_n (lv' := [(0, .int y0_4)]) hx hb dJ6_bitCount_0f7a4_40 rfl hl (by decide) rfl (fun ls hl => ?_)
  refine lv_iload_n hx hb dJ6_bitCount_0f7a4_41 rfl (lv_at hl 0 rfl) ?_
  refine lv_iload_n hx hb dJ6_bitCount_0f7a4_42 rfl (lv_at hl 0 rfl) ?_
  refine lv_bipush (v := 16) hx hb dJ6_bitCount_0f7a4_43 (by decide) ?_
  refine lv_iushr hx hb dJ6_bitCount_0f7a4_45 rfl ?_
  refine lv_iadd hx hb dJ6_bitCount_0f7a4_46 ?_
  refine lv_topi (fun y0_5 ex => ?_)
  replace h := nm_1 h ex
  refine lv_istore_n (lv' := [(0, .int y0_5)]) hx hb dJ6_bitCount_0f7a4_47 rfl hl (by decide) rfl (fun ls hl => ?_)
  refine lv_iload_n hx hb dJ6_bitCount_0f7a4_48 rfl (lv_at hl 0 rfl) ?_
  refine lv_bipush (v := 63) hx hb dJ6_bitCount_0f7a4_49 (by decide) ?_
  refine lv_iand hx hb dJ6_bitCount_0f7a4_51 ?_
  have e0 := ret1 h
  exact rte_i e0 rfl hx hb hr hlk rfl hK hP hD hS dJ6_bitCount_0f7a4_52
abbrev rm_J6_numberOfTrailingZeros_0f7a4 : Room := { frames := 0, cells := 0, slots := 0, locals := 0 }
set_option maxHeartbeats 4000000 in
set_option maxRecDepth 100000 in
theorem c_J6_numberOfTrailingZeros_0f7a4 (l : Launch) (D : va_G) (cy : Nat → ClassId)     (sz : Nat)  (a0 : Int32) (r0 : Int32)  (hf : f_J6_numberOfTrailingZeros_0f7a4 a0 = some r0) : MI l yJ6_numberOfTrailingZeros_0f7a4 wsJ6_numberOfTrailingZeros_0f7a4 rm_J6_numberOfTrailingZeros_0f7a4 D cy [.int a0] sz [] r0 [] := by
  refine MI.of (cc := cJ6_numberOfTrailingZeros_0f7a4) (maxL := 2) (ret := (some .int)) (by decide) rfl (Nat.le_of_ble_eq_true rfl) ?_
  intro p e s m below meth c A ls hx hb hml hown hts hlk hr hK hA hP hD hS hl
  have h := hf
  unfold f_J6_numberOfTrailingZeros_0f7a4 at h
  have wc264 := hts (.constant RJ6 264 (65536)) (by decide +kernel)
  replace hl : lv_has ls 2 [(0, .int a0)] := hl
  have L74 : ∀ (x0 : Int32) (x1 : Int32), f_J6_numberOfTrailingZeros_0f7a4_L74 x0 x1 = some r0 → ∀ (H : Heap) (locs : List Loc) (ls : Array Slot), va_P D vwCl [] H → va_D A [] → va_S A s.heap H locs → lv_has ls 2 [(0, .int x0), (1, .int x1)] → W p l e rm_J6_numberOfTrailingZeros_0f7a4 s m ([.int a0]).toArray below meth c H locs 0 0 (MQ below (QI D cy A r0 []) ([.int a0]).toArray s 0 0 A) (F0 m 74 ls []) := by
    intro x0 x1 h H locs ls hP hD hS hl
    unfold f_J6_numberOfTrailingZeros_0f7a4_L74 at h
    refine lv_iload_n hx hb dJ6_numberOfTrailingZeros_0f7a4_74 rfl (lv_at hl 1 rfl) ?_
    refine lv_iload_n hx hb dJ6_numberOfTrailingZeros_0f7a4_75 rfl (lv_at hl 0 rfl) ?_
    refine lv_iconst (v := 1) hx hb dJ6_numberOfTrailingZeros_0f7a4_76 (by decide) ?_
    refine lv_iushr hx hb dJ6_numberOfTrailingZeros_0f7a4_77 rfl ?_
    refine lv_iadd hx hb dJ6_numberOfTrailingZeros_0f7a4_78 ?_
    have e0 := ret1 h
    exact rte_i e0 rfl hx hb hr hlk rfl hK hP hD hS dJ6_numberOfTrailingZeros_0f7a4_79
  have L62 : ∀ (x0 : Int32) (x1 : Int32), f_J6_numberOfTrailingZeros_0f7a4_L62 x0 x1 = some r0 → ∀ (H : Heap) (locs : List Loc) (ls : Array Slot), va_P D vwCl [] H → va_D A [] → va_S A s.heap H locs → lv_has ls 2 [(0, .int x0), (1, .int x1)] → W p l e rm_J6_numberOfTrailingZeros_0f7a4 s m ([.int a0]).toArray below meth c H locs 0 0 (MQ below (QI D cy A r0 []) ([.int a0]).toArray s 0 0 A) (F0 m 62 ls []) := by
    intro x0 x1 h H locs ls hP hD hS hl
    unfold f_J6_numberOfTrailingZeros_0f7a4_L62 at h
    refine lv_iload_n hx hb dJ6_numberOfTrailingZeros_0f7a4_62 rfl (lv_at hl 0 rfl) ?_
    refine lv_iconst (v := 4) hx hb dJ6_numberOfTrailingZeros_0f7a4_63 (by decide) ?_
    refine lv_icmp_le (tgt := 74) hx hb dJ6_numberOfTrailingZeros_0f7a4_64 (by decide) (fun hc => ?_) (fun hc => ?_)
    · replace h := it_1 h hc
      exact L74 _ _ h _ _ _ hP hD hS (lv_sub hl [0, 1] rfl)
    · replace h := it_0 h hc
      refine lv_iinc (v := (x1 + 2)) (lv' := [(1, .int (x1 + 2)), (0, .int x0)]) hx hb dJ6_numberOfTrailingZeros_0f7a4_67 hl (k := 1) rfl rfl (by decide) rfl (fun ls hl => ?_)
      refine lv_iload_n hx hb dJ6_numberOfTrailingZeros_0f7a4_70 rfl (lv_at hl 1 rfl) ?_
      refine lv_iconst (v := 2) hx hb dJ6_numberOfTrailingZeros_0f7a4_71 (by decide) ?_
      refine lv_iushr hx hb dJ6_numberOfTrailingZeros_0f7a4_72 rfl ?_
      refine lv_topi (fun y0_1 ex => ?_)
      replace h := nm_1 h ex
      refine lv_istore_n (lv' := [(0, .int y0_1), (1, .int (x1 + 2))]) hx hb dJ6_numberOfTrailingZeros_0f7a4_73 rfl hl (by decide) rfl (fun ls hl => ?_)
      exact L74 _ _ h _ _ _ hP hD hS (lv_sub hl [0, 1] rfl)
  have L49 : ∀ (x0 : Int32) (x1 : Int32), f_J6_numberOfTrailingZeros_0f7a4_L49 x0 x1 = some r0 → ∀ (H : Heap) (locs : List Loc) (ls : Array Slot), va_P D vwCl [] H → va_D A [] → va_S A s.heap H locs → lv_has ls 2 [(0, .int x0), (1, .int x1)] → W p l e rm_J6_numberOfTrailingZeros_0f7a4 s m ([.int a0]).toArray below meth c H locs 0 0 (MQ below (QI D cy A r0 []) ([.int a0]).toArray s 0 0 A) (F0 m 49 ls []) := by
    intro x0 x1 h H locs ls hP hD hS hl
    unfold f_J6_numberOfTrailingZeros_0f7a4_L49 at h
    refine lv_iload_n hx hb dJ6_numberOfTrailingZeros_0f7a4_49 rfl (lv_at hl 0 rfl) ?_
    refine lv_bipush (v := 16) hx hb dJ6_numberOfTrailingZeros_0f7a4_50 (by decide) ?_
    refine lv_icmp_le (tgt := 62) hx hb dJ6_numberOfTrailingZeros_0f7a4_52 (by decide) (fun hc => ?_) (fun hc => ?_)
    · replace h := it_1 h hc
      exact L62 _ _ h _ _ _ hP hD hS (lv_sub hl [0, 1] rfl)
    · replace h := it_0 h hc
      refine lv_iinc (v := (x1 + 4)) (lv' := [(1, .int (x1 + 4)), (0, .int x0)]) hx hb dJ6_numberOfTrailingZeros_0f7a4_55 hl (k := 1) rfl rfl (by decide) rfl (fun ls hl => ?_)
      refine lv_iload_n hx hb dJ6_numberOfTrailingZeros_0f7a4_58 rfl (lv_at hl 1 rfl) ?_
      refine lv_iconst (v := 4) hx hb dJ6_numberOfTrailingZeros_0f7a4_59 (by decide) ?_
      refine lv_iushr hx hb dJ6_numberOfTrailingZeros_0f7a4_60 rfl ?_
      refine lv_topi (fun y0_2 ex => ?_)
      replace h := nm_1 h ex
      refine lv_istore_n (lv' := [(0, .int y0_2), (1, .int (x1 + 4))]) hx hb dJ6_numberOfTrailingZeros_0f7a4_61 rfl hl (by decide) rfl (fun ls hl => ?_)
      exact L62 _ _ h _ _ _ hP hD hS (lv_sub hl [0, 1] rfl)
  have L34 : ∀ (x0 : Int32) (x1 : Int32), f_J6_numberOfTrailingZeros_0f7a4_L34 x0 x1 = some r0 → ∀ (H : Heap) (locs : List Loc) (ls : Array Slot), va_P D vwCl [] H → va_D A [] → va_S A s.heap H locs → lv_has ls 2 [(0, .int x0), (1, .int x1)] → W p l e rm_J6_numberOfTrailingZeros_0f7a4 s m ([.int a0]).toArray below meth c H locs 0 0 (MQ below (QI D cy A r0 []) ([.int a0]).toArray s 0 0 A) (F0 m 34 ls []) := by
    intro x0 x1 h H locs ls hP hD hS hl
    unfold f_J6_numberOfTrailingZeros_0f7a4_L34 at h
    refine lv_iload_n hx hb dJ6_numberOfTrailingZeros_0f7a4_34 rfl (lv_at hl 0 rfl) ?_
    refine lv_sipush (v := 256) hx hb dJ6_numberOfTrailingZeros_0f7a4_35 (by decide) ?_
    refine lv_icmp_le (tgt := 49) hx hb dJ6_numberOfTrailingZeros_0f7a4_38 (by decide) (fun hc => ?_) (fun hc => ?_)
    · replace h := it_1 h hc
      exact L49 _ _ h _ _ _ hP hD hS (lv_sub hl [0, 1] rfl)
    · replace h := it_0 h hc
      refine lv_iinc (v := (x1 + 8)) (lv' := [(1, .int (x1 + 8)), (0, .int x0)]) hx hb dJ6_numberOfTrailingZeros_0f7a4_41 hl (k := 1) rfl rfl (by decide) rfl (fun ls hl => ?_)
      refine lv_iload_n hx hb dJ6_numberOfTrailingZeros_0f7a4_44 rfl (lv_at hl 1 rfl) ?_
      refine lv_bipush (v := 8) hx hb dJ6_numberOfTrailingZeros_0f7a4_45 (by decide) ?_
      refine lv_iushr hx hb dJ6_numberOfTrailingZeros_0f7a4_47 rfl ?_
      refine lv_topi (fun y0_3 ex => ?_)
      replace h := nm_1 h ex
      refine lv_istore_n (lv' := [(0, .int y0_3), (1, .int (x1 + 8))]) hx hb dJ6_numberOfTrailingZeros_0f7a4_48 rfl hl (by decide) rfl (fun ls hl => ?_)
      exact L49 _ _ h _ _ _ hP hD hS (lv_sub hl [0, 1] rfl)
  clear hf
  refine lv_iload_n hx hb dJ6_numberOfTrailingZeros_0f7a4_0 rfl (lv_at hl 0 rfl) ?_
  refine lv_iconst (v := (-1)) hx hb dJ6_numberOfTrailingZeros_0f7a4_1 (by decide) ?_
  refine lv_ixor hx hb dJ6_numberOfTrailingZeros_0f7a4_2 ?_
  refine lv_iload_n hx hb dJ6_numberOfTrailingZeros_0f7a4_3 rfl (lv_at hl 0 rfl) ?_
  refine lv_iconst (v := 1) hx hb dJ6_numberOfTrailingZeros_0f7a4_4 (by decide) ?_
  refine lv_isub hx hb dJ6_numberOfTrailingZeros_0f7a4_5 ?_
  refine lv_iand hx hb dJ6_numberOfTrailingZeros_0f7a4_6 ?_
  refine lv_istore_n (lv' := [(0, .int ((a0 ^^^ (-1)) &&& (a0 - 1)))]) hx hb dJ6_numberOfTrailingZeros_0f7a4_7 rfl hl (by decide) rfl (fun ls hl => ?_)
  refine lv_iload_n hx hb dJ6_numberOfTrailingZeros_0f7a4_8 rfl (lv_at hl 0 rfl) ?_
  refine lv_if_gt (tgt := 17) hx hb dJ6_numberOfTrailingZeros_0f7a4_9 (by decide) (fun hc => ?_) (fun hc => ?_)
  · replace h := it_1 h hc
    refine lv_iconst (v := 1) hx hb dJ6_numberOfTrailingZeros_0f7a4_17 (by decide) ?_
    refine lv_istore_n (lv' := [(1, .int 1), (0, .int ((a0 ^^^ (-1)) &&& (a0 - 1)))]) hx hb dJ6_numberOfTrailingZeros_0f7a4_18 rfl hl (by decide) rfl (fun ls hl => ?_)
    refine lv_iload_n hx hb dJ6_numberOfTrailingZeros_0f7a4_19 rfl (lv_at hl 1 rfl) ?_
    refine lv_ldcw (v := 65536) hx hb hown wc264 dJ6_numberOfTrailingZeros_0f7a4_20 ?_
    refine lv_icmp_le (tgt := 34) hx hb dJ6_numberOfTrailingZeros_0f7a4_23 (by decide) (fun hc => ?_) (fun hc => ?_)
    · replace h := it_1 h hc
      exact L34 _ _ h _ _ _ hP hD hS (lv_sub hl [1, 0] rfl)
    · replace h := it_0 h hc
      refine lv_iinc (v := (1 + 16)) (lv' := [(1, .int (1 + 16)), (0, .int ((a0 ^^^ (-1)) &&& (a0 - 1)))]) hx hb dJ6_numberOfTrailingZeros_0f7a4_26 hl (k := 0) rfl rfl (by decide) rfl (fun ls hl => ?_)
      refine lv_iload_n hx hb dJ6_numberOfTrailingZeros_0f7a4_29 rfl (lv_at hl 1 rfl) ?_
      refine lv_bipush (v := 16) hx hb dJ6_numberOfTrailingZeros_0f7a4_30 (by decide) ?_
      refine lv_iushr hx hb dJ6_numberOfTrailingZeros_0f7a4_32 rfl ?_
      refine lv_topi (fun y0_4 ex => ?_)
      replace h := nm_1 h ex
      refine lv_istore_n (lv' := [(0, .int y0_4), (1, .int (1 + 16))]) hx hb dJ6_numberOfTrailingZeros_0f7a4_33 rfl hl (by decide) rfl (fun ls hl => ?_)
      exact L34 _ _ h _ _ _ hP hD hS (lv_sub hl [0, 1] rfl)
  · replace h := it_0 h hc
    refine lv_iload_n hx hb dJ6_numberOfTrailingZeros_0f7a4_12 rfl (lv_at hl 0 rfl) ?_
    refine lv_bipush (v := 32) hx hb dJ6_numberOfTrailingZeros_0f7a4_13 (by decide) ?_
    refine lv_iand hx hb dJ6_numberOfTrailingZeros_0f7a4_15 ?_
    have e0 := ret1 h
    exact rte_i e0 rfl hx hb hr hlk rfl hK hP hD hS dJ6_numberOfTrailingZeros_0f7a4_16
abbrev rm_J7_fill_d0a16 : Room := { frames := 0, cells := 0, slots := 0, locals := 0 }
set_option maxHeartbeats 4000000 in
set_option maxRecDepth 100000 in
theorem c_J7_fill_d0a16 (l : Launch) (D : va_G) (cy : Nat → ClassId) (h_p0 : Nat)    (sz : Nat) (g_p0 : Nat → Int64) (a1 : Int64)  (o_g_p0 : Nat → Int64) (hf : f_J7_fill_d0a16 g_p0 a1 = some o_g_p0) : MV l yJ7_fill_d0a16 wsJ7_fill_d0a16 rm_J7_fill_d0a16 D cy [.ref h_p0, .long a1] sz [(h_p0, .inl (cy 1, 10, .inr (.inl g_p0)))] [(h_p0, .inl (cy 1, 10, .inr (.inl o_g_p0)))] := by
  refine MV.of (cc := cJ7_fill_d0a16) (maxL := 5) (ret := none) (by decide) rfl (Nat.le_of_ble_eq_true rfl) ?_
  intro p e s m below meth c A ls hx hb hml hown hts hlk hr hK hA hP hD hS hl
  have h := hf
  unfold f_J7_fill_d0a16 at h
  replace hl : lv_has ls 5 [(0, .ref h_p0), (1, .long a1)] := hl
  have L6 : ∀ (n : Nat) (g_p0 : Nat → Int64) (x1 : Int64) (x3 : Int32) (x4 : Int32), f_J7_fill_d0a16_L6 n g_p0 x1 x3 x4 = some o_g_p0 → ∀ (H : Heap) (locs : List Loc) (ls : Array Slot), va_P D vwCl [(h_p0, .inl (cy 1, 10, .inr (.inl g_p0)))] H → va_D A [(h_p0, .inl (cy 1, 10, .inr (.inl g_p0)))] → va_S A s.heap H locs → lv_has ls 5 [(0, .ref h_p0), (1, .long x1), (3, .int x3), (4, .int x4)] → W p l e rm_J7_fill_d0a16 s m ([.ref h_p0, .long a1]).toArray below meth c H locs 0 0 (MQ below (QV D cy A [(h_p0, .inl (cy 1, 10, .inr (.inl o_g_p0)))]) ([.ref h_p0, .long a1]).toArray s 0 0 A) (F0 m 6 ls []) := by
    intro n
    induction n with
    | zero => intro g_p0 x1 x3 x4 h; exact absurd (show (none : Option _) = some _ from h) (by intro q; cases q)
    | succ n6 ih6 =>
      intro g_p0 x1 x3 x4 h H locs ls hP hD hS hl
      replace h : f_J7_fill_d0a16_L6_F (f_J7_fill_d0a16_L6 n6) g_p0 x1 x3 x4 = some o_g_p0 := h
      unfold f_J7_fill_d0a16_L6_F at h
      refine lv_iload_n hx hb dJ7_fill_d0a16_6 rfl (lv_at hl 2 rfl) ?_
      refine lv_iload hx hb dJ7_fill_d0a16_7 (lv_at hl 3 rfl) ?_
      refine lv_icmp_ge (tgt := 22) hx hb dJ7_fill_d0a16_9 (by decide) (fun hc => ?_) (fun hc => ?_)
      · replace h := it_1 h hc
        have e0 := ret1 h
        exact rte_v (by rw [← e0]) hx hb hr hlk hK hP hD hS dJ7_fill_d0a16_22
      · replace h := it_0 h hc
        refine lv_aload_n hx hb dJ7_fill_d0a16_12 rfl (lv_at hl 0 rfl) ?_
        refine lv_iload_n hx hb dJ7_fill_d0a16_13 rfl (lv_at hl 2 rfl) ?_
        refine lv_lload_n hx hb dJ7_fill_d0a16_14 rfl (lv_at hl 1 rfl) ?_
        have hi := gi_1 h; replace h := gi_2 h
        refine va_last hx hb hK hP hD hS 0 1 rfl rfl hi dJ7_fill_d0a16_15 (fun H locs hP hD hS => ?_)
        replace hP : va_P D vwCl [(h_p0, .inl (cy 1, 10, .inr (.inl (vp_updL g_p0 (Int32.toNatClampNeg x3) x1))))] H := hP
        replace hD : va_D A [(h_p0, .inl (cy 1, 10, .inr (.inl (vp_updL g_p0 (Int32.toNatClampNeg x3) x1))))] := hD
        refine lv_iinc (v := (x3 + 1)) (lv' := [(3, .int (x3 + 1)), (0, .ref h_p0), (1, .long x1), (4, .int x4)]) hx hb dJ7_fill_d0a16_16 hl (k := 2) rfl rfl (by decide) rfl (fun ls hl => ?_)
        refine lv_goto (tgt := 6) hx hb dJ7_fill_d0a16_19 (by decide) ?_
        exact ih6 _ _ _ _ h _ _ _ hP hD hS (lv_sub hl [1, 2, 0, 3] rfl)
  clear hf
  refine lv_iconst (v := 0) hx hb dJ7_fill_d0a16_0 (by decide) ?_
  refine lv_istore_n (lv' := [(3, .int 0), (0, .ref h_p0), (1, .long a1)]) hx hb dJ7_fill_d0a16_1 rfl hl (by decide) rfl (fun ls hl => ?_)
  refine lv_aload_n hx hb dJ7_fill_d0a16_2 rfl (lv_at hl 1 rfl) ?_
  refine va_alen (v := 10) hx hb hK hP 0 1 rfl rfl rfl dJ7_fill_d0a16_3 ?_
  refine lv_istore (lv' := [(4, .int 10), (3, .int 0), (0, .ref h_p0), (1, .long a1)]) hx hb dJ7_fill_d0a16_4 hl (by decide) rfl (fun ls hl => ?_)
  exact L6 FU _ _ _ _ h _ _ _ hP hD hS (lv_sub hl [2, 3, 1, 0] rfl)
abbrev rm_J7_fill_53178 : Room := { frames := 0, cells := 0, slots := 0, locals := 0 }
set_option maxHeartbeats 4000000 in
set_option maxRecDepth 100000 in
theorem c_J7_fill_53178 (l : Launch) (D : va_G) (cy : Nat → ClassId) (h_p0 : Nat)    (sz : Nat) (g_p0 : Nat → Int32) (a1 : Int32)  (o_g_p0 : Nat → Int32) (hf : f_J7_fill_53178 g_p0 a1 = some o_g_p0) : MV l yJ7_fill_53178 wsJ7_fill_53178 rm_J7_fill_53178 D cy [.ref h_p0, .int a1] sz [(h_p0, .inl (cy 0, 24, .inl g_p0))] [(h_p0, .inl (cy 0, 24, .inl o_g_p0))] := by
  refine MV.of (cc := cJ7_fill_53178) (maxL := 4) (ret := none) (by decide) rfl (Nat.le_of_ble_eq_true rfl) ?_
  intro p e s m below meth c A ls hx hb hml hown hts hlk hr hK hA hP hD hS hl
  have h := hf
  unfold f_J7_fill_53178 at h
  replace hl : lv_has ls 4 [(0, .ref h_p0), (1, .int a1)] := hl
  have L5 : ∀ (n : Nat) (g_p0 : Nat → Int32) (x1 : Int32) (x2 : Int32) (x3 : Int32), f_J7_fill_53178_L5 n g_p0 x1 x2 x3 = some o_g_p0 → ∀ (H : Heap) (locs : List Loc) (ls : Array Slot), va_P D vwCl [(h_p0, .inl (cy 0, 24, .inl g_p0))] H → va_D A [(h_p0, .inl (cy 0, 24, .inl g_p0))] → va_S A s.heap H locs → lv_has ls 4 [(0, .ref h_p0), (1, .int x1), (2, .int x2), (3, .int x3)] → W p l e rm_J7_fill_53178 s m ([.ref h_p0, .int a1]).toArray below meth c H locs 0 0 (MQ below (QV D cy A [(h_p0, .inl (cy 0, 24, .inl o_g_p0))]) ([.ref h_p0, .int a1]).toArray s 0 0 A) (F0 m 5 ls []) := by
    intro n
    induction n with
    | zero => intro g_p0 x1 x2 x3 h; exact absurd (show (none : Option _) = some _ from h) (by intro q; cases q)
    | succ n5 ih5 =>
      intro g_p0 x1 x2 x3 h H locs ls hP hD hS hl
      replace h : f_J7_fill_53178_L5_F (f_J7_fill_53178_L5 n5) g_p0 x1 x2 x3 = some o_g_p0 := h
      unfold f_J7_fill_53178_L5_F at h
      refine lv_iload_n hx hb dJ7_fill_53178_5 rfl (lv_at hl 2 rfl) ?_
      refine lv_iload_n hx hb dJ7_fill_53178_6 rfl (lv_at hl 3 rfl) ?_
      refine lv_icmp_ge (tgt := 20) hx hb dJ7_fill_53178_7 (by decide) (fun hc => ?_) (fun hc => ?_)
      · replace h := it_1 h hc
        have e0 := ret1 h
        exact rte_v (by rw [← e0]) hx hb hr hlk hK hP hD hS dJ7_fill_53178_20
      · replace h := it_0 h hc
        refine lv_aload_n hx hb dJ7_fill_53178_10 rfl (lv_at hl 0 rfl) ?_
        refine lv_iload_n hx hb dJ7_fill_53178_11 rfl (lv_at hl 2 rfl) ?_
        refine lv_iload_n hx hb dJ7_fill_53178_12 rfl (lv_at hl 1 rfl) ?_
        have hi := gi_1 h; replace h := gi_2 h
        refine va_iast hx hb hK hP hD hS 0 0 rfl rfl hi dJ7_fill_53178_13 (fun H locs hP hD hS => ?_)
        replace hP : va_P D vwCl [(h_p0, .inl (cy 0, 24, .inl (upd g_p0 (Int32.toNatClampNeg x2) x1)))] H := hP
        replace hD : va_D A [(h_p0, .inl (cy 0, 24, .inl (upd g_p0 (Int32.toNatClampNeg x2) x1)))] := hD
        refine lv_iinc (v := (x2 + 1)) (lv' := [(2, .int (x2 + 1)), (0, .ref h_p0), (1, .int x1), (3, .int x3)]) hx hb dJ7_fill_53178_14 hl (k := 2) rfl rfl (by decide) rfl (fun ls hl => ?_)
        refine lv_goto (tgt := 5) hx hb dJ7_fill_53178_17 (by decide) ?_
        exact ih5 _ _ _ _ h _ _ _ hP hD hS (lv_sub hl [1, 2, 0, 3] rfl)
  clear hf
  refine lv_iconst (v := 0) hx hb dJ7_fill_53178_0 (by decide) ?_
  refine lv_istore_n (lv' := [(2, .int 0), (0, .ref h_p0), (1, .int a1)]) hx hb dJ7_fill_53178_1 rfl hl (by decide) rfl (fun ls hl => ?_)
  refine lv_aload_n hx hb dJ7_fill_53178_2 rfl (lv_at hl 1 rfl) ?_
  refine va_alen (v := 24) hx hb hK hP 0 0 rfl rfl rfl dJ7_fill_53178_3 ?_
  refine lv_istore_n (lv' := [(3, .int 24), (2, .int 0), (0, .ref h_p0), (1, .int a1)]) hx hb dJ7_fill_53178_4 rfl hl (by decide) rfl (fun ls hl => ?_)
  exact L5 FU _ _ _ _ h _ _ _ hP hD hS (lv_sub hl [2, 3, 1, 0] rfl)
