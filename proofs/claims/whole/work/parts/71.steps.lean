/-! pure: the way up from a list of the class's tree -/
def ups (ab pa : Nat → Nat) : Nat → Nat → List (Nat × Nat)
  | 0, _ => []
  | f + 1, l => if l = 0 then [] else (ab l, pa l) :: ups ab pa f (ab l)
def usum (lk dn : Int32) : List (Nat × Nat) → Int32
  | [] => 0
  | q :: r => (lk * nI q.2 + dn) + usum lk dn r
theorem ups_0 (ab pa : Nat → Nat) (f : Nat) : ups ab pa f 0 = [] := by cases f <;> simp [ups]
theorem st_L36 {above placeAbove : Nat → Int32} {ab pa : Nat → Nat} {N : Nat} (hab : ∀ l, 0 < l → l < N → above l = nI (ab l) ∧ ab l < l ∧ placeAbove l = nI (pa l)) (hN : N ≤ 80) {lk dn : Int32} : ∀ (f n up l : Nat) (sum : Int32), l ≤ f → l < N → up + l < 80 → l < n → f_X5_stepsTo_L36 above placeAbove n lk dn sum (nI l) (nI up) = some (sum + usum lk dn (ups ab pa f l)) := by
  intro f
  induction f with
  | zero =>
    intro n up l sum h1 h2 h3 h4
    have e : l = 0 := by omega
    subst e
    obtain ⟨n, rfl⟩ : ∃ k, n = k + 1 := ⟨n - 1, by omega⟩
    show f_X5_stepsTo_L36_F above placeAbove (f_X5_stepsTo_L36 above placeAbove n) lk dn sum (nI 0) (nI up) = _
    unfold f_X5_stepsTo_L36_F
    rw [if_neg (show ¬ (80 : Int32) ≤ nI up from fun q => absurd ((nI_leI (a := 80) (by decide) (by omega)).mp q) (by omega)), if_pos (show nI 0 ≤ (0 : Int32) by decide), ups_0]
    simp [usum]
  | succ f ih =>
    intro n up l sum h1 h2 h3 h4
    obtain ⟨n, rfl⟩ : ∃ k, n = k + 1 := ⟨n - 1, by omega⟩
    show f_X5_stepsTo_L36_F above placeAbove (f_X5_stepsTo_L36 above placeAbove n) lk dn sum (nI l) (nI up) = _
    unfold f_X5_stepsTo_L36_F
    rw [if_neg (show ¬ (80 : Int32) ≤ nI up from fun q => absurd ((nI_leI (a := 80) (by decide) (by omega)).mp q) (by omega))]
    by_cases e : l = 0
    · subst e
      rw [if_pos (show nI 0 ≤ (0 : Int32) by decide), ups_0]
      simp [usum]
    · obtain ⟨q1, q2, q3⟩ := hab l (by omega) h2
      rw [if_neg (nI_nle (by omega) (by omega)), gi_nI (by omega) (by decide), gi_nI (by omega) (by decide), nI_clamp (by omega), q1, q3, nI_1, ih n (up + 1) (ab l) _ (by omega) (by omega) (by omega) (by omega)]
      rw [show ups ab pa (f + 1) l = (ab l, pa l) :: ups ab pa f (ab l) from if_neg e]
      simp only [usum]
      rw [Int32.add_assoc]
theorem stepsTo_eq {above placeAbove home placeHome settings : Nat → Int32} {ab pa hm ph : Nat → Nat} {N c : Nat} (hab : ∀ l, 0 < l → l < N → above l = nI (ab l) ∧ ab l < l ∧ placeAbove l = nI (pa l)) (hN : N ≤ 80) (hc : c < 40) (hh : home c = nI (hm c)) (hp : placeHome c = nI (ph c)) (hl : hm c < N) : f_X5_stepsTo above placeAbove home placeHome settings (nI c) = some (settings 0 * nI (ph c) + usum (settings 0) (settings 1) (ups ab pa (hm c) (hm c))) := by
  unfold f_X5_stepsTo
  rw [gi_nI hc (by decide)]
  dsimp only [nm]
  rw [gi_nI hc (by decide), nI_clamp (by omega), hh, hp]
  exact st_L36 hab hN (hm c) FU 0 (hm c) _ (Nat.le_refl _) hl (by omega) (show hm c < 100000 by omega)
