abbrev rm_X7_requireWords : Room := { frames := 0, cells := 0, slots := 0, locals := 0 }
set_option maxHeartbeats 4000000 in
set_option maxRecDepth 100000 in
theorem c_X7_requireWords (l : Launch) (D : va_G) (cy : Nat → ClassId) (h_this h_use h_tape h_reader h_tree h_draft h_page h_exchanges : Nat)  (v_spans : Value) (v_subsets : Value)  (sz : Nat) (f_taped : Int32) (f_faultPlace : Int32) (f_spansKnown : Int32) (f_freeCost : Int64) (f_freeKnown : Int32) (a1 : Int32)   (hf : f_X7_requireWords a1 = some (.inr ())) : MV l yX7_requireWords wsX7_requireWords rm_X7_requireWords D cy [.ref h_this, .int a1] sz [(h_this, .inr (7, [.ref h_use, .ref h_tape, .int f_taped, .ref h_reader, .int f_faultPlace, .ref h_tree, .ref h_draft, .ref h_page, .ref h_exchanges, v_spans, .int f_spansKnown, v_subsets, .long f_freeCost, .int f_freeKnown]))] [(h_this, .inr (7, [.ref h_use, .ref h_tape, .int f_taped, .ref h_reader, .int f_faultPlace, .ref h_tree, .ref h_draft, .ref h_page, .ref h_exchanges, v_spans, .int f_spansKnown, v_subsets, .long f_freeCost, .int f_freeKnown]))] := by
  refine MV.of (cc := cX7_requireWords) (maxL := 2) (ret := none) (by decide) rfl (Nat.le_of_ble_eq_true rfl) ?_
  intro p e s m below meth c A ls hx hb hml hown hts hlk hr hK hA hP hD hS hl
  have h := hf
  unfold f_X7_requireWords at h
  have wc231 := hts (.constant RX7 231 (16777215)) (by decide +kernel)
  replace hl : lv_has ls 2 [(0, .ref h_this), (1, .int a1)] := hl
  clear hf
  refine lv_iload_n hx hb dX7_requireWords_0 rfl (lv_at hl 1 rfl) ?_
  refine lv_if_lt (tgt := 10) hx hb dX7_requireWords_1 (by decide) (fun hc => ?_) (fun hc => ?_)
  · replace h := it_1 h hc
    exact absurd h (by intro q; cases q)
  · replace h := it_0 h hc
    refine lv_iload_n hx hb dX7_requireWords_4 rfl (lv_at hl 1 rfl) ?_
    refine lv_ldc (v := 16777215) hx hb hown wc231 dX7_requireWords_5 ?_
    refine lv_icmp_le (tgt := 20) hx hb dX7_requireWords_7 (by decide) (fun hc => ?_) (fun hc => ?_)
    · replace h := it_1 h hc
      replace h := inr_1 h
      exact rte_v rfl hx hb hr hlk hK hP hD hS dX7_requireWords_20
    · replace h := it_0 h hc
      exact absurd h (by intro q; cases q)
theorem vxin_X7_requireWords_114 : ∀ x ∈ (vx_atS RX7 114 "java/lang/IllegalArgumentException" ["java/lang/RuntimeException", "java/lang/Exception"]).filter goodWord, x ∈ wsX7_requireWords := by decide +kernel
abbrev rmx_X7_requireWords : Room := { frames := 6, cells := 1, slots := 6, locals := 90 }
set_option maxHeartbeats 4000000 in
set_option maxRecDepth 100000 in
theorem x_X7_requireWords (l : Launch) (D : va_G) (cy : Nat → ClassId) (sa : Nat → Nat) (tl th : Nat) (hlt : l.stackTraces = false) (q : String) (h_this h_use h_tape h_reader h_tree h_draft h_page h_exchanges : Nat)  (v_spans : Value) (v_subsets : Value)  (sz : Nat) (f_taped : Int32) (f_faultPlace : Int32) (f_spansKnown : Int32) (f_freeCost : Int64) (f_freeKnown : Int32) (a1 : Int32) (hf : f_X7_requireWords a1 = some (.inl q)) : MX l yX7_requireWords wsX7_requireWords rmx_X7_requireWords D cy sa tl th q [.ref h_this, .int a1] sz [(h_this, .inr (7, [.ref h_use, .ref h_tape, .int f_taped, .ref h_reader, .int f_faultPlace, .ref h_tree, .ref h_draft, .ref h_page, .ref h_exchanges, v_spans, .int f_spansKnown, v_subsets, .long f_freeCost, .int f_freeKnown]))] := by
  refine MX.of (cc := cX7_requireWords) (maxL := 2) (ret := none) (by decide) rfl (Nat.le_of_ble_eq_true rfl) ?_
  intro p e s m below meth c A ls hx hb hml hown hts hlk hr htab hG hK hA hP hD hS hl
  have h := hf
  unfold f_X7_requireWords at h
  have wc231 := hts (.constant RX7 231 (16777215)) (by decide +kernel)
  replace hl : lv_has ls 2 [(0, .ref h_this), (1, .int a1)] := hl
  clear hf
  refine lv_iload_n hx hb dX7_requireWords_0 rfl (lv_at hl 1 rfl) ?_
  refine lv_if_lt (tgt := 10) hx hb dX7_requireWords_1 (by decide) (fun hc => ?_) (fun hc => ?_)
  · replace h := it_1 h hc
    have hq0 := inl_1 h
    subst hq0
    exact th_S (tx := "the words are not 0 to 16,777,215") hlt hx hb (hml.trans hl.1.symm) hown hlk htab hG hK hP hD hS (by decide +kernel) hG.2.2.2.1.1 hts (by decide +kernel) (by decide +kernel) (vxin_X7_requireWords_114) (by decide +kernel) (by decide +kernel) (by decide +kernel) dX7_requireWords_10 dX7_requireWords_13 dX7_requireWords_14 dX7_requireWords_16 dX7_requireWords_19 (Nat.le_of_ble_eq_true rfl) (Nat.le_of_ble_eq_true rfl) (Nat.le_of_ble_eq_true rfl) (Nat.le_of_ble_eq_true rfl)
  · replace h := it_0 h hc
    refine lv_iload_n hx hb dX7_requireWords_4 rfl (lv_at hl 1 rfl) ?_
    refine lv_ldc (v := 16777215) hx hb hown wc231 dX7_requireWords_5 ?_
    refine lv_icmp_le (tgt := 20) hx hb dX7_requireWords_7 (by decide) (fun hc => ?_) (fun hc => ?_)
    · replace h := it_1 h hc
      exact absurd h (by intro q; cases q)
    · replace h := it_0 h hc
      have hq0 := inl_1 h
      subst hq0
      exact th_S (tx := "the words are not 0 to 16,777,215") hlt hx hb (hml.trans hl.1.symm) hown hlk htab hG hK hP hD hS (by decide +kernel) hG.2.2.2.1.1 hts (by decide +kernel) (by decide +kernel) (vxin_X7_requireWords_114) (by decide +kernel) (by decide +kernel) (by decide +kernel) dX7_requireWords_10 dX7_requireWords_13 dX7_requireWords_14 dX7_requireWords_16 dX7_requireWords_19 (Nat.le_of_ble_eq_true rfl) (Nat.le_of_ble_eq_true rfl) (Nat.le_of_ble_eq_true rfl) (Nat.le_of_ble_eq_true rfl)
