/-! pure: the reference's search for an item -/
theorem i9 : (9 : Int32) = nI 9 := rfl
theorem ix9 (l k : Nat) : (9 : Int32) * nI l + nI k = nI (9 * l + k) := by rw [i9, pk_mul, nI_add]
set_option maxHeartbeats 1000000 in
theorem way_search {items many wl wp : Nat → Int32} {k7 : Int32 → (Nat → Int32) → (Nat → Int32) → Int32 → Option (Int32 × (Nat → Int32) × (Nat → Int32))} {item : Int32} {L K W : Nat} {cnt : Nat → Nat} (hm : ∀ l, l ≤ L → many l = nI (cnt l)) (hc : ∀ l, l ≤ L → cnt l ≤ 9) (hL : L < 84) (hK : K < cnt L) (hit : items (9 * L + K) = item) (hno : ∀ l k, l < L → k < cnt l → items (9 * l + k) ≠ item) (hno2 : ∀ k, k < K → items (9 * L + k) ≠ item) (hW : W < 84) :
    ∀ (n l k : Nat), (L - l) * 10 + (9 - k) < n → l ≤ L → (l < L → k ≤ cnt l) → (l = L → k ≤ K) → f_X8_way_L18 items many k7 n (nI W) wl wp item (nI l) (nI k) = k7 (nI (W + 1)) (upd wl W (nI L)) (upd wp W (nI (K + 1))) ((-2) - nI L) := by
  intro n
  induction n with
  | zero => intro l k h; exact absurd h (Nat.not_lt_zero _)
  | succ n ih =>
    intro l k h hl hk1 hk2
    have hcl := hc l hl
    have hcL := hc L (Nat.le_refl _)
    have hk9 : k ≤ cnt l := by
      rcases Nat.lt_or_eq_of_le hl with q | q
      · exact hk1 q
      · have := hk2 q; subst q; omega
    show f_X8_way_L18_F items many k7 (f_X8_way_L18 items many k7 n) (nI W) wl wp item (nI l) (nI k) = _
    unfold f_X8_way_L18_F
    rw [gi_nI (by omega) (by decide), nI_clamp (by omega), hm l hl]
    have step : ∀ (l2 k2 : Nat), (L - l2) * 10 + (9 - k2) < (L - l) * 10 + (9 - k) → l2 ≤ L → (l2 < L → k2 ≤ cnt l2) → (l2 = L → k2 ≤ K) → f_X8_way_L18 items many k7 n (nI W) wl wp item (nI l2) (nI k2) = k7 (nI (W + 1)) (upd wl W (nI L)) (upd wp W (nI (K + 1))) ((-2) - nI L) := fun l2 k2 h1 h2 h3 h4 => ih l2 k2 (by omega) h2 h3 h4
    by_cases e : k = cnt l
    · have hlt : l < L := by
        rcases Nat.lt_or_eq_of_le hl with q | q
        · exact q
        · have := hk2 q; subst q; omega
      rw [if_pos (by rw [e])]
      unfold f_X8_way_L45
      rw [gi_nI (by omega) (by decide), nI_clamp (by omega), hm l hl, if_pos (nI_le (by omega) (by omega))]
      unfold f_X8_way_L64
      rw [if_pos rfl, nI_1]
      exact step (l + 1) 0 (by omega) (by omega) (fun _ => Nat.zero_le _) (fun _ => Nat.zero_le _)
    · have hklt : k < cnt l := by omega
      rw [if_neg (fun q => e ((nI_eq (by omega) (by omega)).mp q)), ix9, gi_nI (by omega) (by decide), nI_clamp (by omega)]
      by_cases hi : items (9 * l + k) = item
      · have hlk : l = L ∧ k = K := by
          rcases Nat.lt_or_eq_of_le hl with q | q
          · exact absurd hi (hno l k q hklt)
          · refine ⟨q, ?_⟩
            have h2 := hk2 q
            rcases Nat.lt_or_eq_of_le h2 with r | r
            · rw [q] at hi; exact absurd hi (hno2 k r)
            · exact r
        obtain ⟨rfl, rfl⟩ := hlk
        rw [if_pos hi, gi_nI hW (by decide), gi_nI hW (by decide), nI_clamp (by omega), nI_1, nI_1]
      · rw [if_neg hi]
        unfold f_X8_way_L45
        rw [gi_nI (by omega) (by decide), nI_clamp (by omega), hm l hl, if_neg (nI_ge hklt (by omega))]
        unfold f_X8_way_L64
        rw [nI_1, if_neg (nI_ne0 (by omega) (by omega))]
        refine step l (k + 1) (by omega) hl (fun _ => by omega) (fun q => ?_)
        have h2 := hk2 q
        rcases Nat.lt_or_eq_of_le h2 with r | r
        · omega
        · subst q; subst r; exact absurd hit hi
