/-! tell: the rows follow the tree -/
theorem pc_num {C D s Ls : Nat} {op cn ab pa hm ph : Nat → Nat} {it : Nat → Nat → Sum Nat Nat} {S : Nat → Bool} (h : PA C D s Ls op cn ab pa hm ph it S) {og sg sz av pv im hh pp : Nat → Int32} (hc : PC C D Ls op cn ab pa hm ph it S og sg sz av pv im hh pp) {c t : Nat} (hcn : cn t < 9) : PC C D Ls op (uN cn t (cn t + 1)) ab pa (uN hm c t) (uN ph c (cn t + 1)) (uI it t (cn t) (.inl c)) (uB S c true) og (upd sg c 1) (upd sz t (nI (cn t + 1))) av pv (upd im (9 * t + cn t) (nI c)) (upd hh c (nI t)) (upd pp c (nI (cn t + 1))) := by
  obtain ⟨_, _, ⟨c1, c2⟩, _⟩ := h
  obtain ⟨h1, h2, h3, h4, h5, h6, h7⟩ := hc
  refine ⟨h1, fun x hx => ?_, fun l hl => ?_, fun l k hl hk => ?_, h5, h6, fun x hx hS => ?_⟩
  · by_cases q : x = c
    · subst q; rw [pk_us, uB_s, if_pos rfl]
    · rw [pk_un q, uB_n q]; exact h2 x hx
  · by_cases q : l = t
    · subst q; rw [pk_us, uN_s]
    · rw [pk_un q, uN_n q]; exact h3 l hl
  · by_cases z : l = t ∧ k = cn t
    · obtain ⟨rfl, rfl⟩ := z
      rw [pk_us, uI_s]; rfl
    · have hk3 : k < cn l := by
        by_cases w : l = t
        · subst w; rw [uN_s] at hk; omega
        · rw [uN_n w] at hk; exact hk
      have := c1 l hl
      rw [uI_n z, pk_un (by omega)]
      exact h4 l k hl hk3
  · by_cases q : x = c
    · subst q; rw [pk_us, pk_us, uN_s, uN_s]; exact ⟨rfl, rfl⟩
    · rw [uB_n q] at hS
      rw [pk_un q, pk_un q, uN_n q, uN_n q]; exact h7 x hx hS
theorem p8_num {C D s Ls : Nat} {op cn ab pa hm ph : Nat → Nat} {it : Nat → Nat → Sum Nat Nat} {S : Nat → Bool} (h : PA C D s Ls op cn ab pa hm ph it S) {ni nm hs o8 : Nat → Int32} (hc : P8 D Ls op cn it S ni nm hs o8) {c t : Nat} (hcn : cn t < 9) : P8 D Ls op (uN cn t (cn t + 1)) (uI it t (cn t) (.inl c)) (uB S c true) (upd ni (9 * t + cn t) (nI c)) (upd nm t (nI (cn t + 1))) (upd hs c 1) o8 := by
  obtain ⟨_, _, ⟨c1, c2⟩, _⟩ := h
  obtain ⟨h1, h2, h3, h4⟩ := hc
  refine ⟨h1, fun x hx => ?_, fun l hl => ?_, fun l k hl hk => ?_⟩
  · by_cases q : x = c
    · subst q; rw [pk_us, uB_s, if_pos rfl]
    · rw [pk_un q, uB_n q]; exact h2 x hx
  · by_cases q : l = t
    · subst q; rw [pk_us, uN_s]
    · rw [pk_un q, uN_n q]; exact h3 l hl
  · by_cases z : l = t ∧ k = cn t
    · obtain ⟨rfl, rfl⟩ := z
      rw [pk_us, uI_s]; rfl
    · have hk3 : k < cn l := by
        by_cases w : l = t
        · subst w; rw [uN_s] at hk; omega
        · rw [uN_n w] at hk; exact hk
      have := c1 l hl
      rw [uI_n z, pk_un (by omega)]
      exact h4 l k hl hk3
theorem pc_open {C D s Ls : Nat} {op cn ab pa hm ph : Nat → Nat} {it : Nat → Nat → Sum Nat Nat} {S : Nat → Bool} (h : PA C D s Ls op cn ab pa hm ph it S) {og sg sz av pv im hh pp : Nat → Int32} (hc : PC C D Ls op cn ab pa hm ph it S og sg sz av pv im hh pp) {t : Nat} (htl : t < Ls) (hcn : cn t < 9) : PC C (D + 1) (Ls + 1) (uN op D Ls) (uN (uN cn t (cn t + 1)) Ls 0) (uN ab Ls t) (uN pa Ls (cn t + 1)) hm ph (uI it t (cn t) (.inr Ls)) S (upd og D (nI Ls)) sg (upd (upd sz t (nI (cn t + 1))) Ls 0) (upd av Ls (nI t)) (upd pv Ls (nI (cn t + 1))) (upd im (9 * t + cn t) (nI Ls ^^^ (-1))) hh pp := by
  obtain ⟨_, _, ⟨c1, c2⟩, _⟩ := h
  obtain ⟨h1, h2, h3, h4, h5, h6, h7⟩ := hc
  refine ⟨fun k hk => ?_, h2, fun l hl => ?_, fun l k hl hk => ?_, fun m q1 q2 => ?_, ?_, h7⟩
  · by_cases q : k = D
    · subst q; rw [pk_us, uN_s]
    · rw [pk_un q, uN_n q]; exact h1 k (by omega)
  · by_cases q : l = Ls
    · subst q; rw [pk_us, uN_s]; rfl
    · rw [pk_un q, uN_n q]
      by_cases z : l = t
      · subst z; rw [pk_us, uN_s]
      · rw [pk_un z, uN_n z]; exact h3 l (by omega)
  · by_cases q : l = Ls
    · subst q; rw [uN_s] at hk; omega
    · rw [uN_n q] at hk
      by_cases z : l = t ∧ k = cn t
      · obtain ⟨rfl, rfl⟩ := z
        rw [pk_us, uI_s]; rfl
      · have hk3 : k < cn l := by
          by_cases w : l = t
          · subst w; rw [uN_s] at hk; omega
          · rw [uN_n w] at hk; exact hk
        have := c1 l (by omega)
        rw [uI_n z, pk_un (by omega)]
        exact h4 l k (by omega) hk3
  · by_cases q : m = Ls
    · subst q; rw [pk_us, pk_us, uN_s, uN_s]; exact ⟨rfl, rfl⟩
    · rw [pk_un q, pk_un q, uN_n q, uN_n q]; exact h5 m q1 (by omega)
  · rw [pk_un (by omega), pk_un (by omega)]; exact h6
theorem p8_open {C D s Ls : Nat} {op cn ab pa hm ph : Nat → Nat} {it : Nat → Nat → Sum Nat Nat} {S : Nat → Bool} (h : PA C D s Ls op cn ab pa hm ph it S) {ni nm hs o8 : Nat → Int32} (hc : P8 D Ls op cn it S ni nm hs o8) {t : Nat} (htl : t < Ls) (hcn : cn t < 9) : P8 (D + 1) (Ls + 1) (uN op D Ls) (uN (uN cn t (cn t + 1)) Ls 0) (uI it t (cn t) (.inr Ls)) S (upd ni (9 * t + cn t) ((-2) - nI Ls)) (upd (upd nm Ls 0) t (nI (cn t + 1))) hs (upd o8 D (nI Ls)) := by
  obtain ⟨_, _, ⟨c1, c2⟩, _⟩ := h
  obtain ⟨h1, h2, h3, h4⟩ := hc
  refine ⟨fun k hk => ?_, h2, fun l hl => ?_, fun l k hl hk => ?_⟩
  · by_cases q : k = D
    · subst q; rw [pk_us, uN_s]
    · rw [pk_un q, uN_n q]; exact h1 k (by omega)
  · by_cases q : l = Ls
    · subst q; rw [pk_un (by omega), pk_us, uN_s]; rfl
    · rw [uN_n q]
      by_cases z : l = t
      · subst z; rw [pk_us, uN_s]
      · rw [pk_un z, pk_un q, uN_n z]; exact h3 l (by omega)
  · by_cases q : l = Ls
    · subst q; rw [uN_s] at hk; omega
    · rw [uN_n q] at hk
      by_cases z : l = t ∧ k = cn t
      · obtain ⟨rfl, rfl⟩ := z
        rw [pk_us, uI_s]; rfl
      · have hk3 : k < cn l := by
          by_cases w : l = t
          · subst w; rw [uN_s] at hk; omega
          · rw [uN_n w] at hk; exact hk
        have := c1 l (by omega)
        rw [uI_n z, pk_un (by omega)]
        exact h4 l k (by omega) hk3
theorem addItem7 {sz im : Nat → Int32} {t c : Nat} {x : Int32} (ht : t < 80) (hc : c < 9) (hs : sz t = nI c) : f_X5_addItem sz im (nI t) x = some (1, upd sz t (nI (c + 1)), upd im (9 * t + c) x) := by
  unfold f_X5_addItem
  rw [gi_nI ht (by decide), nI_clamp (by omega), hs, if_pos (show nI c < 9 from nI_lt (b := 9) hc (by decide)), gi_nI ht (by decide), show (9 : Int32) = nI 9 from rfl, pk_mul, nI_add, Nat.mul_comm, gi_nI (by omega) (by decide), gi_nI ht (by decide), gi_nI ht (by decide), nI_clamp (by omega), nI_1]
theorem addCommand7 {sz im hh pp : Nat → Int32} {t c x : Nat} (ht : t < 80) (hc : c < 9) (hx : x < 40) (hs : sz t = nI c) : f_X5_addCommand sz im hh pp (nI t) (nI x) = some (1, upd sz t (nI (c + 1)), upd im (9 * t + c) (nI x), upd hh x (nI t), upd pp x (nI (c + 1))) := by
  unfold f_X5_addCommand
  rw [addItem7 ht hc hs]
  dsimp only [ob3]
  rw [if_neg (show ¬ (1 : Int32) = 0 by decide), gi_nI hx (by decide), gi_nI ht (by decide), gi_nI hx (by decide), nI_clamp (by omega), nI_clamp (by omega), pk_us]
theorem addMenu7 {sz av pv im : Nat → Int32} {t c L : Nat} (ht : t < L) (hL : L < 80) (hc : c < 9) (hs : sz t = nI c) : f_X5_addMenu (nI L) sz av pv im (nI t) = some (nI L, nI (L + 1), upd (upd sz t (nI (c + 1))) L 0, upd av L (nI t), upd pv L (nI (c + 1)), upd im (9 * t + c) (nI L ^^^ (-1))) := by
  unfold f_X5_addMenu
  rw [if_neg (show ¬ (80 : Int32) ≤ _ from nI_ge (b := 80) hL (by decide)), addItem7 (by omega) hc hs]
  dsimp only [ob3]
  rw [if_neg (show ¬ (1 : Int32) = 0 by decide), gi_nI hL (by decide), gi_nI hL (by decide), gi_nI (by omega) (by decide), gi_nI hL (by decide), nI_clamp (by omega), nI_clamp (by omega), nI_1, pk_un (by omega), pk_us]
theorem adds8 {ni nm : Nat → Int32} {t c : Nat} {x : Int32} (ht : t < 84) (hc : c < 9) (hs : nm t = nI c) : f_X8_adds ni nm (nI t) x = some (upd ni (9 * t + c) x, upd nm t (nI (c + 1))) := by
  unfold f_X8_adds
  rw [gi_nI ht (by decide), nI_clamp (by omega), hs, ix9, gi_nI (by omega) (by decide), gi_nI ht (by decide), gi_nI ht (by decide), nI_clamp (by omega), nI_1]
theorem newList8 {nm : Nat → Int32} {L : Nat} (hL : L < 84) : f_X8_newList (nI L) nm = some (nI L, nI (L + 1), upd nm L 0) := by
  unfold f_X8_newList
  rw [gi_nI hL (by decide), nI_clamp (by omega), nI_1, nI_pred]
