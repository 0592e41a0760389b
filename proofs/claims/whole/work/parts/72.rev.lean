/-! pure: the reference turns its way round -/
theorem rev_L128 {m : Nat} (hm0 : 0 < m) (hm : m ≤ 84) {w : Int32} : ∀ (n i : Nat) (wl wp : Nat → Int32), i < m → m < n + i → ∃ wl' wp' : Nat → Int32, f_X8_way_L128 n w wl wp (nI i) (nI (m - 1 - i)) = some (w, wl', wp') ∧ ∀ k, k < m → wl' k = (if i ≤ k ∧ k < m - i then wl (m - 1 - k) else wl k) ∧ wp' k = (if i ≤ k ∧ k < m - i then wp (m - 1 - k) else wp k) := by
  intro n
  induction n with
  | zero => intro i wl wp h1 h2; omega
  | succ n ih =>
    intro i wl wp h1 h2
    show ∃ wl' wp' : Nat → Int32, f_X8_way_L128_F (f_X8_way_L128 n) w wl wp (nI i) (nI (m - 1 - i)) = some (w, wl', wp') ∧ _
    unfold f_X8_way_L128_F
    by_cases e : m - 1 - i ≤ i
    · rw [if_pos (nI_le e (by omega))]
      refine ⟨wl, wp, rfl, fun k hk => ?_⟩
      by_cases q : i ≤ k ∧ k < m - i
      · have h3 : m - 1 - k = k := by omega
        rw [if_pos q, if_pos q, h3]
        exact ⟨rfl, rfl⟩
      · rw [if_neg q, if_neg q]
        exact ⟨rfl, rfl⟩
    · have hj : m - 1 - i < 84 := by omega
      rw [if_neg (nI_ge (by omega) (by omega)), gi_nI (by omega) (by decide), gi_nI hj (by decide), gi_nI (by omega) (by decide), gi_nI hj (by decide), gi_nI (by omega) (by decide), gi_nI hj (by decide), gi_nI (by omega) (by decide), gi_nI hj (by decide), nI_clamp (by omega), nI_clamp (by omega), nI_1]
      have h4 : nI (m - 1 - i) + (-1) = nI (m - 1 - (i + 1)) := by
        obtain ⟨j, hj2⟩ : ∃ j, m - 1 - i = j + 1 := ⟨m - 1 - i - 1, by omega⟩
        rw [hj2, pk_m1]
        congr 1
        omega
      rw [h4]
      obtain ⟨wl', wp', q1, q2⟩ := ih (i + 1) (upd (upd wl i (wl (m - 1 - i))) (m - 1 - i) (wl i)) (upd (upd wp i (wp (m - 1 - i))) (m - 1 - i) (wp i)) (by omega) (by omega)
      refine ⟨wl', wp', q1, fun k hk => ?_⟩
      have h5 := q2 k hk
      have key : ∀ g : Nat → Int32, (if i + 1 ≤ k ∧ k < m - (i + 1) then upd (upd g i (g (m - 1 - i))) (m - 1 - i) (g i) (m - 1 - k) else upd (upd g i (g (m - 1 - i))) (m - 1 - i) (g i) k) = (if i ≤ k ∧ k < m - i then g (m - 1 - k) else g k) := by
        intro g
        by_cases a : i + 1 ≤ k ∧ k < m - (i + 1)
        · rw [if_pos a, if_pos (by omega), pk_un (by omega), pk_un (by omega)]
        · rw [if_neg a]
          by_cases b : k = m - 1 - i
          · subst b
            rw [pk_us, if_pos (by omega)]
            congr 1
            omega
          · rw [pk_un b]
            by_cases c : k = i
            · subst c
              rw [pk_us, if_pos (by omega)]
            · rw [pk_un c, if_neg (by omega)]
      rw [key wl, key wp] at h5
      exact h5
