theorem j_num {n : Nat} {tp tp8 : Nat → Int32} {ub : Nat → Nat} (hb : BT n tp tp8 ub) {k : Nat} {C D s Ls : Nat} {op cn ab pa hm ph : Nat → Nat} {it : Nat → Nat → Sum Nat Nat} {S : Nat → Bool} {og sg sz av pv im hh pp ni nm hs o8 : Nat → Int32} {B m e t F F8 : Nat} {se : Nat → Int32} {fp : Int32} (hfp : fp = -1) (hB2 : 2 ≤ B) (hB : B ≤ 9) (hse : se 2 = nI B) (ih : JT n tp tp8 ub C B se fp m) (h : PA C D s Ls op cn ab pa hm ph it S) (hcB : ∀ l, l < Ls → cn l ≤ B) (hp : PC C D Ls op cn ab pa hm ph it S og sg sz av pv im hh pp) (h8 : P8 D Ls op cn it S ni nm hs o8) (hen : e < n) (hm2 : n ≤ e + 1 + m) (hf : n + 1 < F + 1 + e + 1) (hf8 : n < F8 + 1 + e) (ht : op (D - 1) = t) (u4 : ub e ≠ 32) (hd : dg (ub e) = true) (hfr : e = 0 ∨ dg (ub (e - 1)) = false) : RS C (ob13 (f_X2_readByte tp (nI C) se 0 fp (nI D) (nI s) og sg (nI Ls) sz av pv im hh pp (nI e) (nI n)) fun f_faultNumber_3 f_faultPlace_4 f_depth_5 f_seenCount_6 g_open_7 g_seen_8 f_p4_lists_9 g_p4_sizes_10 g_p4_above_11 g_p4_placeAbove_12 g_p4_items_13 g_p4_home_14 g_p4_placeHome_15 => f_X2_readTree_L52 tp (nI C) se (F + 1) f_faultNumber_3 f_faultPlace_4 f_depth_5 f_seenCount_6 g_open_7 g_seen_8 f_p4_lists_9 g_p4_sizes_10 g_p4_above_11 g_p4_placeAbove_12 g_p4_items_13 g_p4_home_14 g_p4_placeHome_15 (nI n) (nI (e + 1))) (f_X8_reads_L98 (nI C) (nI B) (nI n) tp8 (f_X8_reads_L60 (nI C) (nI B) (nI n) tp8 (F8 + 1)) (nI Ls) (nI e) 0 fp ni nm hs o8 (nI D) (nI (ub e))) := by
  have hn := hb.1
  have hD := h.1
  have hC : C ≤ 40 := h.1.2.2.1
  obtain ⟨w1, w2, w3, w4⟩ := pa_top h
  have h9 := h.2.2.1.1
  rw [ht] at w1
  have hct := hcB t w1
  have hc9 := h9 t w1
  have hub := (hb.2 e hen).1
  unfold f_X8_reads_L98
  rw [nI_m1 hD.1, gi_nI (by omega) (by decide), nI_clamp (by omega), h8.1 _ (by omega), ht, d8 (by omega)]
  dsimp only [ob]
  rw [hd]
  rw [if_pos rfl, if_neg (show ¬ (1 : Int32) = 0 by decide), rb_dig hb hen hd hfr]
  unfold f_X2_readByte_L28
  obtain ⟨r, r1, r2, r3⟩ := run_ex (ub := ub) (n := n) (n - e) e (by omega)
  have hr0 : 1 ≤ r := by
    rcases Nat.eq_zero_or_pos r with z | z
    · subst z; rw [Nat.add_zero] at r3; rw [r3 hen] at hd; cases hd
    · exact z
  have hv7 : f_X2_numberAt tp (nI e) (nI n) = some (nI (V7 ub e r 0)) := num7 hb r e 0 FU (show r < 100000 by omega) r1 r2 r3 (by decide)
  have hv8k : ∀ F : Nat, r < F → ∃ F', ∀ (x1 x2 : Int32), f_X8_number_L7 (nI C) (nI B) (nI n) tp8 F (nI e) 0 fp ni nm hs x1 x2 (nI 0) = f_X8_number_L7 (nI C) (nI B) (nI n) tp8 (F' + 1) (nI (e + r)) 0 fp ni nm hs x1 x2 (nI (V8 ub e r 0)) := fun F hF => ⟨F - r - 1, fun x1 x2 => by
    rw [← num8 hb r e 0 (F - r - 1 + 1) r1 r2 (by decide), show F - r - 1 + 1 + r = F by omega]⟩
  obtain ⟨F', hv8⟩ := hv8k FU (show r < 100000 by omega)
  rw [nI_0] at hv8
  obtain ⟨hrel, hb7, hb8⟩ := V_rel (ub := ub) r e 0 0 r2 (.inl ⟨rfl, by decide⟩) (by decide) (by decide)
  unfold f_X8_number
  rw [hv7, hv8]
  dsimp only [ob]
  generalize V7 ub e r 0 = v7 at hrel hb7 ⊢
  generalize V8 ub e r 0 = v8 at hrel hb8 ⊢
  by_cases c1 : C ≤ v7
  · have c2 : C ≤ v8 := by omega
    rw [c_num2 h hp ht hB hse c1 hb7, r_num2 hb h h8 ht hB hct r1 r3 c2 hb8]
    dsimp only [ob8, ob6, ob13]
    rw [r262]
    obtain ⟨a0, hr⟩ := r60_f (br := nI B) (f := F8) (x1 := nI D) (ni := ni) (nm := nm) (hs := hs) (o8 := o8) (nl := nI Ls) (pl := nI e) (e := 2) (k := e + r) hb hC (by decide) (by decide) (by omega)
    rw [hr, c_flt (by decide) (by decide)]
    exact ⟨_, _, _, _, _, _, _, _, _, _, _, _, _, _, _, _, _, _, _, rfl, rfl, .inr ⟨2, by decide, by decide, rfl⟩⟩
  have c3 : v7 < C := by omega
  have c4 : v8 = v7 := by omega
  subst c4
  cases hS : S v8 with
  | true =>
    rw [c_num3 h hp ht hB hse c3 hS, r_num3 hb h h8 ht hB hct r1 r3 c3 hS]
    dsimp only [ob8, ob6, ob13]
    rw [r262]
    obtain ⟨a0, hr⟩ := r60_f (br := nI B) (f := F8) (x1 := nI D) (ni := ni) (nm := nm) (hs := hs) (o8 := o8) (nl := nI Ls) (pl := nI e) (e := 3) (k := e + r) hb hC (by decide) (by decide) (by omega)
    rw [hr, c_flt (by decide) (by decide)]
    exact ⟨_, _, _, _, _, _, _, _, _, _, _, _, _, _, _, _, _, _, _, rfl, rfl, .inr ⟨3, by decide, by decide, rfl⟩⟩
  | false =>
    by_cases c5 : cn t < B
    · rw [c_num0 h hp ht hB hse c3 hS c5, r_num0 hb h h8 ht hB hct r1 r3 c3 hS c5]
      dsimp only [ob8, ob6, ob13]
      rw [r262]
      obtain ⟨F2, hF2⟩ : ∃ F2, F + 1 = F2 + (r - 1) := ⟨F + 1 - (r - 1), by omega⟩
      rw [hF2, c_skip hb (r - 1) (e + 1) F2 (by omega) (fun j a b => .inr ⟨by omega, r2 j (by omega) (by omega), r2 (j - 1) (by omega) (by omega)⟩), show e + 1 + (r - 1) = e + r by omega]
      refine ih (e + r) D (s + 1) Ls op _ ab pa _ _ _ _ og _ _ av pv _ _ _ _ _ _ o8 F2 (F8 + 1) (pa_num h ht c3 hS (by omega)) (fun l hl => ?_) (pc_num h hp (by omega)) (p8_num h h8 (by omega)) r1 (by omega) (by omega) (by omega) (.inr (.inr r3))
      by_cases z : l = t
      · rw [z, uN_s]; omega
      · rw [uN_n z]; exact hcB l hl
    · rw [c_num4 h hp ht hB hse c3 hS c5, r_num4 hb h h8 ht hB hct r1 r3 c3 hS c5]
      dsimp only [ob8, ob6, ob13]
      rw [r262]
      obtain ⟨a0, hr⟩ := r60_f (br := nI B) (f := F8) (x1 := nI D) (ni := ni) (nm := nm) (hs := hs) (o8 := o8) (nl := nI Ls) (pl := nI e) (e := 4) (k := e + r) hb hC (by decide) (by decide) (by omega)
      rw [hr, c_flt (by decide) (by decide)]
      exact ⟨_, _, _, _, _, _, _, _, _, _, _, _, _, _, _, _, _, _, _, rfl, rfl, .inr ⟨4, by decide, by decide, rfl⟩⟩

