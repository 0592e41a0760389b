theorem j_open {n : Nat} {tp tp8 : Nat → Int32} {ub : Nat → Nat} (hb : BT n tp tp8 ub) {k : Nat} {C D s Ls : Nat} {op cn ab pa hm ph : Nat → Nat} {it : Nat → Nat → Sum Nat Nat} {S : Nat → Bool} {og sg sz av pv im hh pp ni nm hs o8 : Nat → Int32} {B m e t F F8 : Nat} {se : Nat → Int32} {fp : Int32} (hfp : fp = -1) (hB2 : 2 ≤ B) (hB : B ≤ 9) (hse : se 2 = nI B) (ih : JT n tp tp8 ub C B se fp m) (h : PA C D s Ls op cn ab pa hm ph it S) (hcB : ∀ l, l < Ls → cn l ≤ B) (hp : PC C D Ls op cn ab pa hm ph it S og sg sz av pv im hh pp) (h8 : P8 D Ls op cn it S ni nm hs o8) (hen : e < n) (hm2 : n ≤ e + 1 + m) (hf : n + 1 < F + 1 + e + 1) (hf8 : n < F8 + 1 + e) (ht : op (D - 1) = t) (u4 : ub e ≠ 32) (hd : dg (ub e) = false) (c40 : ub e = 40) : RS C (ob13 (f_X2_readByte tp (nI C) se 0 fp (nI D) (nI s) og sg (nI Ls) sz av pv im hh pp (nI e) (nI n)) fun f_faultNumber_3 f_faultPlace_4 f_depth_5 f_seenCount_6 g_open_7 g_seen_8 f_p4_lists_9 g_p4_sizes_10 g_p4_above_11 g_p4_placeAbove_12 g_p4_items_13 g_p4_home_14 g_p4_placeHome_15 => f_X2_readTree_L52 tp (nI C) se (F + 1) f_faultNumber_3 f_faultPlace_4 f_depth_5 f_seenCount_6 g_open_7 g_seen_8 f_p4_lists_9 g_p4_sizes_10 g_p4_above_11 g_p4_placeAbove_12 g_p4_items_13 g_p4_home_14 g_p4_placeHome_15 (nI n) (nI (e + 1))) (f_X8_reads_L98 (nI C) (nI B) (nI n) tp8 (f_X8_reads_L60 (nI C) (nI B) (nI n) tp8 (F8 + 1)) (nI Ls) (nI e) 0 fp ni nm hs o8 (nI D) (nI (ub e))) := by
  have hn := hb.1
  have hD := h.1
  have hC : C ≤ 40 := h.1.2.2.1
  obtain ⟨w1, w2, w3, w4⟩ := pa_top h
  have h9 := h.2.2.1.1
  rw [ht] at w1
  have hct := hcB t w1
  have hc9 := h9 t w1
  have hub := (hb.2 e hen).1
  unfold f_X8_reads_L98
  rw [nI_m1 hD.1, gi_nI (by omega) (by decide), nI_clamp (by omega), h8.1 _ (by omega), ht, d8 (by omega)]
  dsimp only [ob]
  rw [hd]
  rw [if_neg (show ¬ (false = true) by decide), if_pos rfl]
  have hfr2 : fr ub n (e + 1) := .inr (.inl (by rw [show e + 1 - 1 = e by omega]; exact hd))
  rw [if_pos (show nI (ub e) = 40 by rw [c40]; rfl), rb_open hb hen c40, gi_nI (by omega) (by decide), nI_clamp (by omega), h8.2.2.1 t w1]
  unfold f_X2_openList f_X2_openMenu f_X2_openMenu_L18 f_X2_refuse f_X8_reads_L148
  rw [if_neg (nI_nle (by omega) (by omega)), wrong0, full7 h hp ht hB hse]
  dsimp only [ob, ob2]
  by_cases c5 : cn t < B
  · rw [if_pos c5, if_pos rfl, if_neg (show ¬ nI (cn t) = nI B from fun z => by have := (nI_eq (by omega) (by omega)).mp z; omega)]
    by_cases c6 : D = 40
    · subst c6
      rw [if_pos (show (40 : Int32) ≤ nI 40 by decide), if_pos (show nI 40 = 40 by decide)]
      dsimp only [ob9, ob13]
      rw [show (4 : Int32) = nI 4 from rfl, c_flt (by decide) (by decide)]
      exact ⟨_, _, _, _, _, _, _, _, _, _, _, _, _, _, _, _, _, _, _, rfl, rfl, .inr ⟨4, by decide, by decide, rfl⟩⟩
    · rw [if_neg (show ¬ (40 : Int32) ≤ _ from nI_ge (b := 40) (show D < 40 by omega) (by decide)), if_neg (show ¬ nI D = 40 from fun z => c6 ((nI_eq (b := 40) (by omega) (by decide)).mp z)), nI_m1 hD.1, gi_nI (by omega) (by decide), nI_clamp (by omega), hp.1 _ (by omega), ht, addMenu7 w1 (by omega) (by omega) (hp.2.2.1 t w1), newList8 (by omega)]
      dsimp only [ob6, ob3]
      rw [if_neg (show ¬ nI Ls = -1 from fun z => nI_pos (n := Ls) (by omega) (by rw [z]; decide)), gi_nI (by omega) (by decide), adds8 (by omega) (by omega) (show upd nm Ls 0 t = nI (cn t) by rw [pk_un (by omega)]; exact h8.2.2.1 t w1)]
      dsimp only
      rw [gi_nI (by omega) (by decide), nI_clamp (by omega), r262, nI_1, nI_1]
      dsimp only [ob9, ob13]
      refine ih (e + 1) (D + 1) s (Ls + 1) _ _ _ _ hm ph _ S _ sg _ _ _ _ hh pp _ _ hs _ (F + 1) (F8 + 1) (pa_open h ht (by omega) (by omega)) (fun l hl => ?_) (pc_open h hp w1 (by omega)) (p8_open h h8 w1 (by omega)) (by omega) (by omega) (by omega) (by omega) hfr2
      by_cases z : l = Ls
      · rw [z, uN_s]; omega
      · rw [uN_n z]
        by_cases z2 : l = t
        · rw [z2, uN_s]; omega
        · rw [uN_n z2]; exact hcB l (by omega)
  · rw [if_neg c5, if_neg (show ¬ (1 : Int32) = 0 by decide), if_pos (show nI (cn t) = nI B by rw [show cn t = B by omega]), ite_self]
    dsimp only [ob9, ob13]
    rw [show (4 : Int32) = nI 4 from rfl, c_flt (by decide) (by decide)]
    exact ⟨_, _, _, _, _, _, _, _, _, _, _, _, _, _, _, _, _, _, _, rfl, rfl, .inr ⟨4, by decide, by decide, rfl⟩⟩

