/-! pure: the reference's way of an item, by the class's way up; pi renumbers the lists -/
def extL (pi : Nat → Nat) : Nat → (Nat → Int32) → List (Nat × Nat) → (Nat → Int32)
  | _, g, [] => g
  | W, g, q :: r => extL pi (W + 1) (upd g W (nI (pi q.1))) r
def extP : Nat → (Nat → Int32) → List (Nat × Nat) → (Nat → Int32)
  | _, g, [] => g
  | W, g, q :: r => extP (W + 1) (upd g W (nI q.2)) r
theorem m2_ne {r : Nat} (h0 : 0 < r) (h : r < 2 ^ 31) : ¬ (-2 : Int32) - nI r = -2 := by
  intro q
  have q2 : nI r = 0 := by
    have e : ((-2 : Int32) - nI r) + nI r = (-2) + nI r := by rw [q]
    rw [Int32.sub_add_cancel] at e
    have e3 : (2 : Int32) + (-2) = 2 + ((-2) + nI r) := by rw [← e]
    rw [← Int32.add_assoc, show (2 : Int32) + (-2) = 0 by decide, Int32.zero_add] at e3
    exact e3.symm
  exact nI_ne0 h0 h q2
theorem way7_s {items many : Nat → Int32} (n : Nat) : f_X8_way_L7 items many (n + 1) = f_X8_way_L7_F items many (f_X8_way_L7 items many n) := rfl
theorem way_L7 {items many : Nat → Int32} {ab pa pi cnt : Nat → Nat} {N : Nat} (hN : N ≤ 84) (p0 : pi 0 = 0) (pb : ∀ l, l < N → pi l < N) (pj : ∀ l k, l < N → k < N → pi l = pi k → l = k) (hab : ∀ l, 0 < l → l < N → ab l < l) (hm : ∀ r, r < N → many r = nI (cnt r)) (hc : ∀ r, r < N → cnt r ≤ 9)
    (hat : ∀ l, 0 < l → l < N → 1 ≤ pa l ∧ pa l ≤ cnt (pi (ab l)) ∧ items (9 * pi (ab l) + (pa l - 1)) = (-2) - nI (pi l)) (huq : ∀ l, 0 < l → l < N → ∀ r k, r < N → k < cnt r → items (9 * r + k) = (-2) - nI (pi l) → r = pi (ab l) ∧ k = pa l - 1) :
    ∀ (f n W l : Nat) (wl wp : Nat → Int32), l ≤ f → l < N → W + l < 84 → l < n → f_X8_way_L7 items many n (nI W) wl wp ((-2) - nI (pi l)) = f_X8_way_L128 FU (nI (W + (ups ab pa f l).length)) (extL pi W wl (ups ab pa f l)) (extP W wp (ups ab pa f l)) 0 (nI (W + (ups ab pa f l).length) - 1) := by
  intro f
  have base : ∀ (f n W : Nat) (wl wp : Nat → Int32), 0 < n → f_X8_way_L7 items many n (nI W) wl wp ((-2) - nI (pi 0)) = f_X8_way_L128 FU (nI (W + (ups ab pa f 0).length)) (extL pi W wl (ups ab pa f 0)) (extP W wp (ups ab pa f 0)) 0 (nI (W + (ups ab pa f 0).length) - 1) := by
    intro f n W wl wp h
    obtain ⟨n, rfl⟩ : ∃ k, n = k + 1 := ⟨n - 1, by omega⟩
    rw [way7_s]
    unfold f_X8_way_L7_F
    rw [p0, if_pos (by decide), ups_0]
    simp only [List.length_nil, Nat.add_zero, extL, extP]
  induction f with
  | zero =>
    intro n W l wl wp h1 h2 h3 h4
    have e : l = 0 := by omega
    subst e
    exact base 0 n W wl wp h4
  | succ f ih =>
    intro n W l wl wp h1 h2 h3 h4
    by_cases e : l = 0
    · subst e
      exact base (f + 1) n W wl wp h4
    · obtain ⟨n, rfl⟩ : ∃ k, n = k + 1 := ⟨n - 1, by omega⟩
      have hl : ab l < l := hab l (by omega) h2
      have hp : 0 < pi l := by
        rcases Nat.eq_zero_or_pos (pi l) with q | q
        · exact absurd (pj l 0 h2 (by omega) (q.trans p0.symm)) e
        · exact q
      have hpl := pb l h2
      have hpa := pb (ab l) (by omega)
      obtain ⟨a1, a2, a3⟩ := hat l (by omega) h2
      rw [way7_s]
      unfold f_X8_way_L7_F
      rw [if_neg (m2_ne hp (by omega))]
      have hs := way_search (items := items) (many := many) (wl := wl) (wp := wp) (k7 := f_X8_way_L7 items many n) (item := (-2) - nI (pi l)) (L := pi (ab l)) (K := pa l - 1) (W := W) (cnt := cnt) (fun r hr => hm r (by omega)) (fun r hr => hc r (by omega)) (by omega) (by omega) a3
        (fun r k hr hk hi => by obtain ⟨q1, q2⟩ := huq l (by omega) h2 r k (by omega) hk hi; omega)
        (fun k hk hi => by obtain ⟨q1, q2⟩ := huq l (by omega) h2 (pi (ab l)) k hpa (by omega) hi; omega) (by omega) FU 0 0 (show (pi (ab l) - 0) * 10 + (9 - 0) < 100000 by omega) (Nat.zero_le _) (fun _ => Nat.zero_le _) (fun _ => Nat.zero_le _)
      rw [show (0 : Int32) = nI 0 from rfl, hs, show pa l - 1 + 1 = pa l by omega, ih n (W + 1) (ab l) _ _ (by omega) (by omega) (by omega) (by omega)]
      rw [show ups ab pa (f + 1) l = (ab l, pa l) :: ups ab pa f (ab l) from if_neg e]
      simp only [List.length_cons, extL, extP]
      rw [show W + ((ups ab pa f (ab l)).length + 1) = W + 1 + (ups ab pa f (ab l)).length by omega, nI_0]
