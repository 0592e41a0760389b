theorem jt {n : Nat} {tp tp8 : Nat → Int32} {ub : Nat → Nat} (hb : BT n tp tp8 ub) {C B : Nat} {se : Nat → Int32} {fp : Int32} (hfp : fp = -1) (hB2 : 2 ≤ B) (hB : B ≤ 9) (hse : se 2 = nI B) : ∀ (m : Nat), JT n tp tp8 ub C B se fp m := by
  have hn := hb.1
  intro m
  induction m with
  | zero =>
    intro k D s Ls op cn ab pa hm ph it S og sg sz av pv im hh pp ni nm hs o8 f f8 h hcB hp h8 hk hm2 hf hf8 hfr
    obtain ⟨e, u1, u2, u3, u4, u5⟩ := blanks8 hb hk
    have e1 : e = n := by omega
    subst e1
    exact jend hb h hp h8 hk hf hf8 u3 u5
  | succ m ih =>
    intro k D s Ls op cn ab pa hm ph it S og sg sz av pv im hh pp ni nm hs o8 f f8 h hcB hp h8 hk hm2 hf hf8 hfr
    obtain ⟨e, u1, u2, u3, u4, u5⟩ := blanks8 hb hk
    by_cases q : e = n
    · subst q
      exact jend hb h hp h8 hk hf hf8 u3 u5
    have hen : e < n := by omega
    have hD := h.1
    obtain ⟨t, ht⟩ : ∃ t, op (D - 1) = t := ⟨_, rfl⟩
    obtain ⟨F, hF⟩ : ∃ F, f = (F + 1 + 1) + (e - k) := ⟨f - (e - k) - 2, by omega⟩
    obtain ⟨F8, hF8⟩ : ∃ F8, f8 = F8 + 1 + 1 := ⟨f8 - 2, by omega⟩
    rw [hF, c_skip hb (e - k) k (F + 1 + 1) (by omega) (fun j a b => .inl (u3 j a (by omega))), show k + (e - k) = e by omega, c_byte hen hn, hF8, r60_c hb hD.1 hD.2.1 hen u5]
    cases hd : dg (ub e) with
    | true => exact j_num hb (k := k) hfp hB2 hB hse ih h hcB hp h8 hen (by omega) (by omega) (by omega) ht (u4 hen) hd (fr_b hfr u1 hen u3 hd)
    | false =>
      by_cases c40 : ub e = 40
      · exact j_open hb (k := k) hfp hB2 hB hse ih h hcB hp h8 hen (by omega) (by omega) (by omega) ht (u4 hen) hd c40
      · by_cases c41 : ub e = 41
        · exact j_close hb (k := k) hfp hB2 hB hse ih h hcB hp h8 hen (by omega) (by omega) (by omega) ht (u4 hen) hd c40 c41
        · exact j_other hb (k := k) hfp hB2 hB hse ih h hcB hp h8 hen (by omega) (by omega) (by omega) ht (u4 hen) hd c40 c41

