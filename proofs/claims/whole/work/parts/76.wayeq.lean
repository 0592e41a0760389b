/-! pure: f_X8_way and f_X8_stepsOf, whole -/
theorem way_eq {items many : Nat → Int32} {ab pa pi cnt hm ph : Nat → Nat} {N c : Nat} (hN : N ≤ 83) (p0 : pi 0 = 0) (pb : ∀ l, l < N → pi l < N) (pj : ∀ l k, l < N → k < N → pi l = pi k → l = k) (hab : ∀ l, 0 < l → l < N → ab l < l) (hmn : ∀ r, r < N → many r = nI (cnt r)) (hc : ∀ r, r < N → cnt r ≤ 9)
    (hat : ∀ l, 0 < l → l < N → 1 ≤ pa l ∧ pa l ≤ cnt (pi (ab l)) ∧ items (9 * pi (ab l) + (pa l - 1)) = (-2) - nI (pi l)) (huq : ∀ l, 0 < l → l < N → ∀ r k, r < N → k < cnt r → items (9 * r + k) = (-2) - nI (pi l) → r = pi (ab l) ∧ k = pa l - 1)
    (hcc : c < 2 ^ 31) (hh : hm c < N) (hca : 1 ≤ ph c ∧ ph c ≤ cnt (pi (hm c)) ∧ items (9 * pi (hm c) + (ph c - 1)) = nI c) (hcu : ∀ r k, r < N → k < cnt r → items (9 * r + k) = nI c → r = pi (hm c) ∧ k = ph c - 1) (w0 : Int32) (wl wp : Nat → Int32) :
    ∃ wl' wp' : Nat → Int32, f_X8_way items many w0 wl wp (nI c) = some (nI ((hm c, ph c) :: ups ab pa (hm c) (hm c)).length, wl', wp') ∧ ∀ k q, ((hm c, ph c) :: ups ab pa (hm c) (hm c))[k]? = some q → wl' (((hm c, ph c) :: ups ab pa (hm c) (hm c)).length - 1 - k) = nI (pi q.1) ∧ wp' (((hm c, ph c) :: ups ab pa (hm c) (hm c)).length - 1 - k) = nI q.2 := by
  have hlen := ups_len (pa := pa) hab (hm c) (hm c) hh
  have hw := way_cmd hN p0 pb pj hab hmn hc hat huq hcc hh hca hcu wl wp FU (show N + 1 < 100000 by omega)
  generalize hP : (hm c, ph c) :: ups ab pa (hm c) (hm c) = P at hw ⊢
  have hPl : P.length = 1 + (ups ab pa (hm c) (hm c)).length := by rw [← hP, List.length_cons]; omega
  obtain ⟨wl', wp', h1, h2⟩ := rev_L128 (m := P.length) (by omega) (by omega) (w := nI P.length) FU 0 (extL pi 0 wl P) (extP 0 wp P) (by omega) (show P.length < 100000 + 0 by omega)
  refine ⟨wl', wp', ?_, fun k q hk => ?_⟩
  · unfold f_X8_way
    rw [show (0 : Int32) = nI 0 from rfl, hw, ← hPl, ← h1]
    rw [show nI P.length - 1 = nI (P.length - 1 - 0) by
      rw [show P.length = (P.length - 1 - 0) + 1 by omega, nI_pred]
      congr 1, nI_0]
  · have hkl : k < P.length := (List.getElem?_eq_some_iff.mp hk).1
    have h3 := h2 (P.length - 1 - k) (by omega)
    rw [if_pos (by omega), if_pos (by omega), show P.length - 1 - (P.length - 1 - k) = k by omega] at h3
    have g1 := extL_get (pi := pi) P 0 wl k q hk
    have g2 := extP_get P 0 wp k q hk
    rw [Nat.zero_add] at g1 g2
    exact ⟨h3.1.trans g1, h3.2.trans g2⟩
theorem stepsOf_eq {items many : Nat → Int32} {ab pa pi cnt hm ph : Nat → Nat} {N c : Nat} (hN : N ≤ 83) (p0 : pi 0 = 0) (pb : ∀ l, l < N → pi l < N) (pj : ∀ l k, l < N → k < N → pi l = pi k → l = k) (hab : ∀ l, 0 < l → l < N → ab l < l) (hmn : ∀ r, r < N → many r = nI (cnt r)) (hc : ∀ r, r < N → cnt r ≤ 9)
    (hat : ∀ l, 0 < l → l < N → 1 ≤ pa l ∧ pa l ≤ cnt (pi (ab l)) ∧ items (9 * pi (ab l) + (pa l - 1)) = (-2) - nI (pi l)) (huq : ∀ l, 0 < l → l < N → ∀ r k, r < N → k < cnt r → items (9 * r + k) = (-2) - nI (pi l) → r = pi (ab l) ∧ k = pa l - 1)
    (hcc : c < 2 ^ 31) (hh : hm c < N) (hca : 1 ≤ ph c ∧ ph c ≤ cnt (pi (hm c)) ∧ items (9 * pi (hm c) + (ph c - 1)) = nI c) (hcu : ∀ r k, r < N → k < cnt r → items (9 * r + k) = nI c → r = pi (hm c) ∧ k = ph c - 1) (lk dn w0 : Int32) (wl wp : Nat → Int32) :
    ∃ (w' : Int32) (wl' wp' : Nat → Int32), f_X8_stepsOf lk dn items many w0 wl wp (nI c) = some (lk * nI (ph c) + usum lk dn (ups ab pa (hm c) (hm c)), w', wl', wp') := by
  have hlen := ups_len (pa := pa) hab (hm c) (hm c) hh
  obtain ⟨wl', wp', h1, h2⟩ := way_eq hN p0 pb pj hab hmn hc hat huq hcc hh hca hcu w0 wl wp
  refine ⟨nI ((hm c, ph c) :: ups ab pa (hm c) (hm c)).length, wl', wp', ?_⟩
  unfold f_X8_stepsOf
  rw [h1]
  have h3 := so_L19 (lk := lk) (base := dn * (nI ((hm c, ph c) :: ups ab pa (hm c) (hm c)).length - 1)) (m := ((hm c, ph c) :: ups ab pa (hm c) (hm c)).length) (by rw [List.length_cons]; omega) (wl := wl') (wp := wp') FU 0 (Nat.zero_le _) (show _ < 100000 + 0 by rw [List.length_cons]; omega)
  rw [show (fsum (fun k => lk * wp' k) 0 : Int32) = 0 from rfl, Int32.add_zero, nI_0] at h3
  dsimp only [ob3]
  rw [h3, fsum_psum _ _ (fun k q hk => (h2 k q hk).2), usum_psum]
  rw [List.length_cons, nI_pred]
  show some (dn * nI (ups ab pa (hm c) (hm c)).length + (lk * nI (ph c) + psum lk (ups ab pa (hm c) (hm c))), _, wl', wp') = _
  rw [Int32.add_comm, Int32.add_assoc]
