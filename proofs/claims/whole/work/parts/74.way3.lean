/-! pure: the reference's way of a command -/
theorem extL_below {pi : Nat → Nat} : ∀ (P : List (Nat × Nat)) (W : Nat) (g : Nat → Int32) (k : Nat), k < W → extL pi W g P k = g k
  | [], _, _, _, _ => rfl
  | q :: r, W, g, k, h => by
    rw [extL, extL_below r (W + 1) _ k (by omega), pk_un (by omega)]
theorem extP_below : ∀ (P : List (Nat × Nat)) (W : Nat) (g : Nat → Int32) (k : Nat), k < W → extP W g P k = g k
  | [], _, _, _, _ => rfl
  | q :: r, W, g, k, h => by
    rw [extP, extP_below r (W + 1) _ k (by omega), pk_un (by omega)]
theorem extL_get {pi : Nat → Nat} : ∀ (P : List (Nat × Nat)) (W : Nat) (g : Nat → Int32) (i : Nat) (q : Nat × Nat), P[i]? = some q → extL pi W g P (W + i) = nI (pi q.1)
  | [], _, _, _, _, h => by simp at h
  | p :: r, W, g, 0, q, h => by
    have e : p = q := by simpa using h
    subst e
    show extL pi (W + 1) (upd g W (nI (pi p.1))) r W = _
    rw [extL_below r (W + 1) _ W (by omega), pk_us]
  | p :: r, W, g, i + 1, q, h => by
    rw [extL, show W + (i + 1) = W + 1 + i by omega]
    exact extL_get r (W + 1) _ i q (by simpa using h)
theorem extP_get : ∀ (P : List (Nat × Nat)) (W : Nat) (g : Nat → Int32) (i : Nat) (q : Nat × Nat), P[i]? = some q → extP W g P (W + i) = nI q.2
  | [], _, _, _, _, h => by simp at h
  | p :: r, W, g, 0, q, h => by
    have e : p = q := by simpa using h
    subst e
    show extP (W + 1) (upd g W (nI p.2)) r W = _
    rw [extP_below r (W + 1) _ W (by omega), pk_us]
  | p :: r, W, g, i + 1, q, h => by
    rw [extP, show W + (i + 1) = W + 1 + i by omega]
    exact extP_get r (W + 1) _ i q (by simpa using h)
theorem ups_len {ab pa : Nat → Nat} {N : Nat} (hab : ∀ l, 0 < l → l < N → ab l < l) : ∀ (f l : Nat), l < N → (ups ab pa f l).length ≤ l
  | 0, l, _ => by simp [ups]
  | f + 1, l, h => by
    by_cases e : l = 0
    · subst e; rw [ups_0]; exact Nat.zero_le _
    · rw [show ups ab pa (f + 1) l = (ab l, pa l) :: ups ab pa f (ab l) from if_neg e, List.length_cons]
      have h1 := hab l (by omega) h
      have h2 := ups_len (pa := pa) hab f (ab l) (by omega)
      omega
theorem nI_m2 {c : Nat} (h : c < 2 ^ 31) : ¬ nI c = -2 := fun q => nI_pos h (by rw [q]; decide)
theorem way_cmd {items many : Nat → Int32} {ab pa pi cnt hm ph : Nat → Nat} {N c : Nat} (hN : N ≤ 83) (p0 : pi 0 = 0) (pb : ∀ l, l < N → pi l < N) (pj : ∀ l k, l < N → k < N → pi l = pi k → l = k) (hab : ∀ l, 0 < l → l < N → ab l < l) (hmn : ∀ r, r < N → many r = nI (cnt r)) (hc : ∀ r, r < N → cnt r ≤ 9)
    (hat : ∀ l, 0 < l → l < N → 1 ≤ pa l ∧ pa l ≤ cnt (pi (ab l)) ∧ items (9 * pi (ab l) + (pa l - 1)) = (-2) - nI (pi l)) (huq : ∀ l, 0 < l → l < N → ∀ r k, r < N → k < cnt r → items (9 * r + k) = (-2) - nI (pi l) → r = pi (ab l) ∧ k = pa l - 1)
    (hcc : c < 2 ^ 31) (hh : hm c < N) (hca : 1 ≤ ph c ∧ ph c ≤ cnt (pi (hm c)) ∧ items (9 * pi (hm c) + (ph c - 1)) = nI c) (hcu : ∀ r k, r < N → k < cnt r → items (9 * r + k) = nI c → r = pi (hm c) ∧ k = ph c - 1) (wl wp : Nat → Int32) (n : Nat) (hn : N + 1 < n) :
    f_X8_way_L7 items many n (nI 0) wl wp (nI c) = f_X8_way_L128 FU (nI (1 + (ups ab pa (hm c) (hm c)).length)) (extL pi 0 wl ((hm c, ph c) :: ups ab pa (hm c) (hm c))) (extP 0 wp ((hm c, ph c) :: ups ab pa (hm c) (hm c))) 0 (nI (1 + (ups ab pa (hm c) (hm c)).length) - 1) := by
  obtain ⟨n, rfl⟩ : ∃ k, n = k + 1 := ⟨n - 1, by omega⟩
  have hpa := pb (hm c) hh
  obtain ⟨a1, a2, a3⟩ := hca
  rw [way7_s]
  unfold f_X8_way_L7_F
  rw [if_neg (nI_m2 hcc)]
  have hs := way_search (items := items) (many := many) (wl := wl) (wp := wp) (k7 := f_X8_way_L7 items many n) (item := nI c) (L := pi (hm c)) (K := ph c - 1) (W := 0) (cnt := cnt) (fun r hr => hmn r (by omega)) (fun r hr => hc r (by omega)) (by omega) (by omega) a3
    (fun r k hr hk hi => by obtain ⟨q1, q2⟩ := hcu r k (by omega) hk hi; omega)
    (fun k hk hi => by obtain ⟨q1, q2⟩ := hcu (pi (hm c)) k hpa (by omega) hi; omega) (by omega) FU 0 0 (show (pi (hm c) - 0) * 10 + (9 - 0) < 100000 by omega) (Nat.zero_le _) (fun _ => Nat.zero_le _) (fun _ => Nat.zero_le _)
  rw [show (0 : Int32) = nI 0 from rfl, hs, show ph c - 1 + 1 = ph c by omega, way_L7 (by omega) p0 pb pj hab hmn hc hat huq (hm c) n (0 + 1) (hm c) _ _ (Nat.le_refl _) hh (by omega) (by omega)]
  simp only [extL, extP, Nat.zero_add, nI_0]
