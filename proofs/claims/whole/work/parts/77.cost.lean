/-! pure: the two costs are one sum -/
def csum (ct st : Nat → Int32) : Nat → Int64
  | 0 => 0
  | n + 1 => csum ct st n + Int32.toInt64 (ct n) * Int32.toInt64 (st n)
theorem tc5_s {a b h p ct se : Nat → Int32} {z : Int32} (n : Nat) : f_X5_totalCost_L5 a b h p z ct se (n + 1) = f_X5_totalCost_L5_F a b h p z ct se (f_X5_totalCost_L5 a b h p z ct se n) := rfl
theorem totalCost_eq {a b h p ct se st : Nat → Int32} {N : Nat} (hN : N ≤ 40) (hst : ∀ c, c < N → f_X5_stepsTo a b h p se (nI c) = some (st c)) : f_X5_totalCost a b h p (nI N) ct se = some (csum ct st N) := by
  have key : ∀ (n i : Nat), i ≤ N → N < n + i → f_X5_totalCost_L5 a b h p (nI N) ct se n (csum ct st i) (nI i) = some (csum ct st N) := by
    intro n
    induction n with
    | zero => intro i h1 h2; omega
    | succ n ih =>
      intro i h1 h2
      rw [tc5_s]
      unfold f_X5_totalCost_L5_F
      by_cases e : i = N
      · subst e
        rw [if_pos (nI_le (Nat.le_refl _) (by omega))]
      · rw [if_neg (nI_ge (by omega) (by omega)), gi_nI (by omega) (by decide), hst i (by omega)]
        dsimp only [ob, nm]
        rw [nI_clamp (by omega), nI_1]
        exact ih (i + 1) (by omega) (by omega)
  unfold f_X5_totalCost
  exact key FU 0 (Nat.zero_le _) (show N < 100000 + 0 by omega)
theorem co4_s {c lk dn : Int32} {ct it mn : Nat → Int32} (n : Nat) : f_X8_costOf_L4 c lk dn ct it mn (n + 1) = f_X8_costOf_L4_F c lk dn ct it mn (f_X8_costOf_L4 c lk dn ct it mn n) := rfl
theorem costOf_eq {lk dn : Int32} {ct it mn st : Nat → Int32} {N : Nat} (hN : N ≤ 40) (hst : ∀ c, c < N → ∀ (w : Int32) (wl wp : Nat → Int32), ∃ (w' : Int32) (wl' wp' : Nat → Int32), f_X8_stepsOf lk dn it mn w wl wp (nI c) = some (st c, w', wl', wp')) (w : Int32) (wl wp : Nat → Int32) : ∃ (w' : Int32) (wl' wp' : Nat → Int32), f_X8_costOf (nI N) lk dn ct it mn w wl wp = some (csum ct st N, w', wl', wp') := by
  have key : ∀ (n i : Nat) (w : Int32) (wl wp : Nat → Int32), i ≤ N → N < n + i → ∃ (w' : Int32) (wl' wp' : Nat → Int32), f_X8_costOf_L4 (nI N) lk dn ct it mn n w wl wp (csum ct st i) (nI i) = some (csum ct st N, w', wl', wp') := by
    intro n
    induction n with
    | zero => intro i w wl wp h1 h2; omega
    | succ n ih =>
      intro i w wl wp h1 h2
      rw [co4_s]
      unfold f_X8_costOf_L4_F
      by_cases e : i = N
      · subst e
        rw [if_pos (nI_le (Nat.le_refl _) (by omega))]
        exact ⟨w, wl, wp, rfl⟩
      · obtain ⟨w1, wl1, wp1, q⟩ := hst i (by omega) w wl wp
        rw [if_neg (nI_ge (by omega) (by omega)), gi_nI (by omega) (by decide), q]
        dsimp only [ob4, nm]
        rw [nI_clamp (by omega), nI_1]
        exact ih (i + 1) w1 wl1 wp1 (by omega) (by omega)
  unfold f_X8_costOf
  exact key FU 0 w wl wp (Nat.zero_le _) (show N < 100000 + 0 by omega)
