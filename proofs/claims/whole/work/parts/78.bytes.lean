/-! pure: a byte of a number by either shift -/
theorem bv_byte (b : BitVec 32) (k : Nat) (hk : k ≤ 24) : (b >>> k).setWidth 8 = (b.sshiftRight k).setWidth 8 := by
  apply BitVec.eq_of_getLsbD_eq
  intro i hi
  simp only [BitVec.getLsbD_setWidth, BitVec.getLsbD_ushiftRight, BitVec.getLsbD_sshiftRight]
  have h1 : k + i < 32 := by omega
  have h2 : ¬ (32 ≤ i) := by omega
  simp [h1, h2, hi]
theorem told_eq {tp sz ls pg th a : Int32} {n : Nat} (hl : ls = nI n) (hn : n < 2 ^ 31) : f_X8_told sz tp pg ls th a = (f_X7_told tp sz ls pg a).map (fun r => (r, 0)) := by
  subst hl
  unfold f_X8_told f_X7_told
  by_cases h0 : a = 0
  · rw [if_pos h0, if_pos h0]; rfl
  · rw [if_neg h0, if_neg h0]
    by_cases h1 : a = 1
    · rw [if_pos h1, if_pos h1]
      unfold f_X5_exists
      by_cases e : n = 0
      · subst e
        rw [if_pos nI_0, if_pos (show nI 0 ≤ (0 : Int32) by decide)]
        rfl
      · rw [if_neg (nI_ne0 (by omega) hn), if_neg (nI_nle (by omega) hn)]
        rfl
    · rw [if_neg h1, if_neg h1]
      by_cases h2 : a = 2
      · rw [if_pos h2, if_pos h2]; rfl
      · rw [if_neg h2, if_neg h2]
        by_cases h3 : a = 3
        · rw [if_pos h3, if_pos h3]; rfl
        · rw [if_neg h3, if_neg h3]; rfl
theorem octet_eq {pl th a : Int32} {pb pg : Nat → Int32} {n : Nat} (hp : pl = nI n) (hn : n ≤ 189) (hb : ∀ k, k < n → pb k = pg k) : ∃ r, f_X7_octet pl pb a = some r ∧ f_X8_octet pl pg th a = some (r, 0) := by
  subst hp
  unfold f_X7_octet f_X8_octet
  by_cases h0 : a < 0
  · exact ⟨-1, if_pos h0, if_pos h0⟩
  · rw [if_neg h0, if_neg h0]
    by_cases h1 : nI n ≤ a
    · exact ⟨-1, if_pos h1, if_pos h1⟩
    · rw [if_neg h1, if_neg h1]
      obtain ⟨j, hj, e⟩ := nI_of h0
      subst e
      have hlt : j < n := by
        rcases Nat.lt_or_ge j n with q | q
        · exact q
        · exact absurd (nI_le q hj) h1
      rw [gi_nI (by omega) (by decide), gi_nI (by omega) (by decide), nI_clamp hj]
      exact ⟨pb j, rfl, by rw [hb j hlt]⟩
