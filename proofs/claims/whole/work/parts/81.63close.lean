theorem j_close {n : Nat} {tp tp8 : Nat → Int32} {ub : Nat → Nat} (hb : BT n tp tp8 ub) {k : Nat} {C D s Ls : Nat} {op cn ab pa hm ph : Nat → Nat} {it : Nat → Nat → Sum Nat Nat} {S : Nat → Bool} {og sg sz av pv im hh pp ni nm hs o8 : Nat → Int32} {B m e t F F8 : Nat} {se : Nat → Int32} {fp : Int32} (hfp : fp = -1) (hB2 : 2 ≤ B) (hB : B ≤ 9) (hse : se 2 = nI B) (ih : JT n tp tp8 ub C B se fp m) (h : PA C D s Ls op cn ab pa hm ph it S) (hcB : ∀ l, l < Ls → cn l ≤ B) (hp : PC C D Ls op cn ab pa hm ph it S og sg sz av pv im hh pp) (h8 : P8 D Ls op cn it S ni nm hs o8) (hen : e < n) (hm2 : n ≤ e + 1 + m) (hf : n + 1 < F + 1 + e + 1) (hf8 : n < F8 + 1 + e) (ht : op (D - 1) = t) (u4 : ub e ≠ 32) (hd : dg (ub e) = false) (c40 : ub e ≠ 40) (c41 : ub e = 41) : RS C (ob13 (f_X2_readByte tp (nI C) se 0 fp (nI D) (nI s) og sg (nI Ls) sz av pv im hh pp (nI e) (nI n)) fun f_faultNumber_3 f_faultPlace_4 f_depth_5 f_seenCount_6 g_open_7 g_seen_8 f_p4_lists_9 g_p4_sizes_10 g_p4_above_11 g_p4_placeAbove_12 g_p4_items_13 g_p4_home_14 g_p4_placeHome_15 => f_X2_readTree_L52 tp (nI C) se (F + 1) f_faultNumber_3 f_faultPlace_4 f_depth_5 f_seenCount_6 g_open_7 g_seen_8 f_p4_lists_9 g_p4_sizes_10 g_p4_above_11 g_p4_placeAbove_12 g_p4_items_13 g_p4_home_14 g_p4_placeHome_15 (nI n) (nI (e + 1))) (f_X8_reads_L98 (nI C) (nI B) (nI n) tp8 (f_X8_reads_L60 (nI C) (nI B) (nI n) tp8 (F8 + 1)) (nI Ls) (nI e) 0 fp ni nm hs o8 (nI D) (nI (ub e))) := by
  have hn := hb.1
  have hD := h.1
  have hC : C ≤ 40 := h.1.2.2.1
  obtain ⟨w1, w2, w3, w4⟩ := pa_top h
  have h9 := h.2.2.1.1
  rw [ht] at w1
  have hct := hcB t w1
  have hc9 := h9 t w1
  have hub := (hb.2 e hen).1
  unfold f_X8_reads_L98
  rw [nI_m1 hD.1, gi_nI (by omega) (by decide), nI_clamp (by omega), h8.1 _ (by omega), ht, d8 (by omega)]
  dsimp only [ob]
  rw [hd]
  rw [if_neg (show ¬ (false = true) by decide), if_pos rfl]
  have hfr2 : fr ub n (e + 1) := .inr (.inl (by rw [show e + 1 - 1 = e by omega]; exact hd))
  rw [if_neg (show ¬ nI (ub e) = 40 from fun z => c40 ((nI_eq (b := 40) (by omega) (by decide)).mp z))]
  rw [if_pos (show nI (ub e) = 41 by rw [c41]; rfl), rb_close hb hen c41, gi_nI (by omega) (by decide), nI_clamp (by omega), h8.2.2.1 t w1]
  unfold f_X2_closeList f_X2_closeList_L27 f_X2_closeList_L63 f_X2_refuse
  rw [if_neg (nI_ne0 (n := D) (by omega) (by omega)), nI_m1 hD.1, gi_nI (by omega) (by decide), nI_clamp (by omega), hp.1 _ (by omega), ht, gi_nI (by omega) (by decide), nI_clamp (by omega), hp.2.2.1 t w1]
  by_cases c5 : cn t = 0
  · rw [if_pos (show nI (cn t) = 0 by rw [c5]; rfl), if_pos (show nI (cn t) ≤ 0 by rw [c5]; decide)]
    dsimp only [ob2, ob3, ob13]
    rw [r253, show (1 : Int32) = nI 1 from rfl]
    obtain ⟨a0, hr⟩ := r60_f (br := nI B) (f := F8) (x1 := nI D) (ni := ni) (nm := nm) (hs := hs) (o8 := o8) (nl := nI Ls) (pl := nI e) (e := 1) (k := e) hb hC (by decide) (by decide) (by omega)
    rw [hr, c_flt (by decide) (by decide)]
    exact ⟨_, _, _, _, _, _, _, _, _, _, _, _, _, _, _, _, _, _, _, rfl, rfl, .inr ⟨1, by decide, by decide, rfl⟩⟩
  · rw [if_neg (nI_ne0 (by omega) (by omega)), if_neg (nI_nle (by omega) (by omega))]
    by_cases c7 : D = 1
    · subst c7
      rw [if_pos (show nI 1 ≤ 1 by decide), if_pos (show nI 1 ≤ 1 by decide), ite_self]
      rw [r237 (by decide)]
      dsimp only [ob3, ob13]
      rw [show nI (1 - 1) = 0 from rfl]
      have ht0 : t = 0 := by rw [← ht]; exact hD.2.2.2
      exact jz hb hfp h (by rw [← ht0]; omega) hp h8 (by omega) (by omega) hfr2
    · rw [if_neg (show ¬ nI D ≤ 1 from nI_ge (a := 1) (by omega) (by omega)), if_neg (show ¬ nI D ≤ 1 from nI_ge (a := 1) (by omega) (by omega)), gi_nI (by omega) (by decide)]
      by_cases c8 : cn t = 1
      · rw [if_pos (show nI (cn t) = 1 by rw [c8]; rfl), if_pos (show nI (cn t) = 1 by rw [c8]; rfl)]
        rw [wrong0, ob2_s, ob2_s, r237 hD.1]
        dsimp only [ob3, ob13]
        rw [show (5 : Int32) = nI 5 from rfl]
        obtain ⟨a0, hr⟩ := r60_f (br := nI B) (f := F8) (x1 := nI (D - 1)) (ni := ni) (nm := nm) (hs := hs) (o8 := o8) (nl := nI Ls) (pl := nI e) (e := 5) (k := e + 1) hb hC (by decide) (by decide) (by omega)
        rw [hr, c_flt (by decide) (by decide)]
        exact ⟨_, _, _, _, _, _, _, _, _, _, _, _, _, _, _, _, _, _, _, rfl, rfl, .inr ⟨5, by decide, by decide, rfl⟩⟩
      · rw [if_neg (show ¬ nI (cn t) = 1 from fun z => c8 ((nI_eq (b := 1) (by omega) (by decide)).mp z)), if_neg (show ¬ nI (cn t) = 1 from fun z => c8 ((nI_eq (b := 1) (by omega) (by decide)).mp z))]
        rw [r237 hD.1]
        dsimp only [ob3, ob13]
        refine ih (e + 1) (D - 1) s Ls op cn ab pa hm ph it S og sg sz av pv im hh pp ni nm hs o8 (F + 1) (F8 + 1) (pa_close h (by omega) (by rw [ht]; omega)) hcB ⟨fun i hi => hp.1 i (by omega), hp.2⟩ ⟨fun i hi => h8.1 i (by omega), h8.2⟩ (by omega) (by omega) (by omega) (by omega) hfr2

