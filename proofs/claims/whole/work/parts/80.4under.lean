/-! sums over the commands under a list -/
theorem fsum_zero {g : Nat → Int32} : ∀ (n : Nat), (∀ k, k < n → g k = 0) → fsum g n = 0
  | 0, _ => rfl
  | n + 1, h => by
    show fsum g n + g n = 0
    rw [fsum_zero n (fun k hk => h k (by omega)), h n (by omega)]
    rfl
theorem fsum_one {g : Nat → Int32} {k0 : Nat} : ∀ (n : Nat), k0 < n → (∀ k, k < n → k ≠ k0 → g k = 0) → fsum g n = g k0
  | 0, h, _ => by omega
  | n + 1, h, hz => by
    show fsum g n + g n = g k0
    by_cases e : k0 = n
    · subst e
      rw [fsum_zero k0 (fun k hk => hz k (by omega) (by omega)), Int32.zero_add]
    · rw [fsum_one n (by omega) (fun k hk hne => hz k (by omega) hne), hz n (by omega) (fun q => e q.symm), Int32.add_zero]
theorem fsum_eq {g g' : Nat → Int32} : ∀ (n : Nat), (∀ k, k < n → g k = g' k) → fsum g n = fsum g' n
  | 0, _ => rfl
  | n + 1, h => by
    show fsum g n + g n = fsum g' n + g' n
    rw [fsum_eq n (fun k hk => h k (by omega)), h n (by omega)]
theorem fsum_add {g g' : Nat → Int32} : ∀ (n : Nat), fsum (fun k => g k + g' k) n = fsum g n + fsum g' n
  | 0 => show (0 : Int32) = 0 + 0 by decide
  | n + 1 => by
    show fsum (fun k => g k + g' k) n + (g n + g' n) = (fsum g n + g n) + (fsum g' n + g' n)
    rw [fsum_add n]
    ac_rfl
theorem fsum_swap {e : Nat → Nat → Int32} {C : Nat} : ∀ (n : Nat), fsum (fun k => fsum (fun c => e k c) C) n = fsum (fun c => fsum (fun k => e k c) n) C
  | 0 => (fsum_zero (g := fun c => fsum (fun k => e k c) 0) C (fun c _ => rfl)).symm
  | n + 1 => by
    show fsum (fun k => fsum (fun c => e k c) C) n + fsum (fun c => e n c) C = fsum (fun c => fsum (fun k => e k c) n + e n c) C
    rw [fsum_swap n, fsum_add]
def undf (ab : Nat → Nat) : Nat → Nat → Nat → Bool
  | 0, l, m => l == m
  | f + 1, l, m => l == m || (l != 0 && undf ab f (ab l) m)
/-- list m is l or stands over it -/
def und (ab : Nat → Nat) (l m : Nat) : Bool := undf ab l l m
theorem undf_eq {ab : Nat → Nat} {L : Nat} (hab : ∀ l, 0 < l → l < L → ab l < l) {m : Nat} : ∀ (f g l : Nat), l ≤ f → l ≤ g → l < L → undf ab f l m = undf ab g l m := by
  intro f
  induction f with
  | zero =>
    intro g l h1 h2 h3
    have e : l = 0 := by omega
    subst e
    cases g with
    | zero => rfl
    | succ g => simp [undf]
  | succ f ih =>
    intro g l h1 h2 h3
    by_cases e : l = 0
    · subst e
      cases g with
      | zero => simp [undf]
      | succ g => simp [undf]
    · cases g with
      | zero => omega
      | succ g =>
        have := hab l (by omega) h3
        show (l == m || (l != 0 && undf ab f (ab l) m)) = (l == m || (l != 0 && undf ab g (ab l) m))
        rw [ih g (ab l) (by omega) (by omega) (by omega)]
theorem und_s {ab : Nat → Nat} {L : Nat} (hab : ∀ l, 0 < l → l < L → ab l < l) {l m : Nat} (h0 : 0 < l) (hl : l < L) : und ab l m = (l == m || und ab (ab l) m) := by
  have h1 := hab l h0 hl
  unfold und
  obtain ⟨f, rfl⟩ : ∃ f, l = f + 1 := ⟨l - 1, by omega⟩
  show (f + 1 == m || (f + 1 != 0 && undf ab f (ab (f + 1)) m)) = _
  rw [undf_eq hab f (ab (f + 1)) (ab (f + 1)) (by omega) (Nat.le_refl _) (by omega)]
  simp
theorem und_0 {ab : Nat → Nat} {m : Nat} : und ab 0 m = (0 == m) := rfl
theorem und_self {ab : Nat → Nat} {L : Nat} (hab : ∀ l, 0 < l → l < L → ab l < l) {l : Nat} (hl : l < L) : und ab l l = true := by
  rcases Nat.eq_zero_or_pos l with e | e
  · subst e; rfl
  · rw [und_s hab e hl]; simp
theorem und_le {ab : Nat → Nat} {L : Nat} (hab : ∀ l, 0 < l → l < L → ab l < l) {m : Nat} : ∀ (n l : Nat), l ≤ n → l < L → und ab l m = true → m ≤ l := by
  intro n
  induction n with
  | zero =>
    intro l h1 h2 h3
    have e : l = 0 := by omega
    subst e
    rw [und_0] at h3
    simp at h3
    omega
  | succ n ih =>
    intro l h1 h2 h3
    rcases Nat.eq_zero_or_pos l with e | e
    · subst e
      rw [und_0] at h3
      simp at h3
      omega
    · have hl := hab l e h2
      rw [und_s hab e h2] at h3
      simp at h3
      rcases h3 with h3 | h3
      · omega
      · have := ih (ab l) (by omega) (by omega) h3
        omega
theorem und_up {ab : Nat → Nat} {L : Nat} (hab : ∀ l, 0 < l → l < L → ab l < l) {m : Nat} (hm0 : 0 < m) (hm : m < L) : ∀ (n l : Nat), l ≤ n → l < L → und ab l m = true → und ab l (ab m) = true := by
  intro n
  induction n with
  | zero =>
    intro l h1 h2 h3
    have := und_le hab l l (Nat.le_refl _) h2 h3
    omega
  | succ n ih =>
    intro l h1 h2 h3
    have hml := und_le hab l l (Nat.le_refl _) h2 h3
    have e : 0 < l := by omega
    have hl := hab l e h2
    rw [und_s hab e h2] at h3 ⊢
    simp at h3 ⊢
    rcases h3 with h3 | h3
    · subst h3
      right
      exact und_self hab (by omega)
    · right
      exact ih (ab l) (by omega) (by omega) h3
theorem und_child {ab : Nat → Nat} {L : Nat} (hab : ∀ l, 0 < l → l < L → ab l < l) {m : Nat} : ∀ (n l : Nat), l ≤ n → l < L → und ab l m = true → l ≠ m → ∃ m', 0 < m' ∧ m' < L ∧ ab m' = m ∧ und ab l m' = true := by
  intro n
  induction n with
  | zero =>
    intro l h1 h2 h3 h4
    have := und_le hab l l (Nat.le_refl _) h2 h3
    omega
  | succ n ih =>
    intro l h1 h2 h3 h4
    have hml := und_le hab l l (Nat.le_refl _) h2 h3
    have e : 0 < l := by omega
    have hl := hab l e h2
    have h5 := h3
    rw [und_s hab e h2] at h5
    simp at h5
    rcases h5 with h5 | h5
    · exact absurd h5 h4
    · by_cases q : ab l = m
      · exact ⟨l, e, h2, q, und_self hab h2⟩
      · obtain ⟨m', g1, g2, g3, g4⟩ := ih (ab l) (by omega) (by omega) h5 q
        refine ⟨m', g1, g2, g3, ?_⟩
        rw [und_s hab e h2, g4]
        simp
theorem und_uniq {ab : Nat → Nat} {L : Nat} (hab : ∀ l, 0 < l → l < L → ab l < l) {m1 m2 : Nat} (a1 : 0 < m1) (a2 : m1 < L) (b1 : 0 < m2) (b2 : m2 < L) (hs : ab m1 = ab m2) : ∀ (n l : Nat), l ≤ n → l < L → und ab l m1 = true → und ab l m2 = true → m1 = m2 := by
  intro n
  induction n with
  | zero =>
    intro l h1 h2 h3 h4
    have := und_le hab l l (Nat.le_refl _) h2 h3
    omega
  | succ n ih =>
    intro l h1 h2 h3 h4
    have hml := und_le hab l l (Nat.le_refl _) h2 h3
    have e : 0 < l := by omega
    have hl := hab l e h2
    have c1 := hab m1 a1 a2
    have c2 := hab m2 b1 b2
    rw [und_s hab e h2] at h3 h4
    simp at h3 h4
    rcases h3 with h3 | h3
    · rcases h4 with h4 | h4
      · omega
      · have := und_le hab (ab l) (ab l) (Nat.le_refl _) (by omega) h4
        subst h3
        omega
    · rcases h4 with h4 | h4
      · have := und_le hab (ab l) (ab l) (Nat.le_refl _) (by omega) h3
        subst h4
        omega
      · exact ih (ab l) (by omega) (by omega) h3 h4
/-- the sum over all commands under list m -/
def usm (ab hm : Nat → Nat) (C m : Nat) (f : Nat → Int32) : Int32 := fsum (fun c => if und ab (hm c) m = true then f c else 0) C
def usi (ab hm : Nat → Nat) (C : Nat) (f : Nat → Int32) : Sum Nat Nat → Int32
  | .inl c => f c
  | .inr m => usm ab hm C m f
theorem usm_rec {L C : Nat} {ab pa hm ph cn : Nat → Nat} {it : Nat → Nat → Sum Nat Nat} (h : AT L C ab pa hm ph cn it) {m : Nat} (hm2 : m < L) (f : Nat → Int32) : usm ab hm C m f = fsum (fun k => usi ab hm C f (it m k)) (cn m) := by
  obtain ⟨h1, h2, h3, h4, h5, h6, h7, h8⟩ := h
  have hab : ∀ l, 0 < l → l < L → ab l < l := fun l q1 q2 => (h8 l q1 q2).1
  let e : Nat → Nat → Int32 := fun k c => match it m k with
    | .inl d => if c = d then f c else 0
    | .inr m' => if und ab (hm c) m' = true then f c else 0
  have hA : ∀ c, c < C → fsum (fun k => e k c) (cn m) = if und ab (hm c) m = true then f c else 0 := by
    intro c hc
    obtain ⟨u1, u2, u3, u4⟩ := h7 c hc
    by_cases q : und ab (hm c) m = true
    · rw [if_pos q]
      by_cases z : hm c = m
      · rw [fsum_one (k0 := ph c - 1) (cn m) (by rw [← z]; omega) (fun k hk hne => ?_)]
        · show (match it m (ph c - 1) with | .inl d => if c = d then f c else 0 | .inr m' => if und ab (hm c) m' = true then f c else 0) = f c
          rw [← z, u4]
          exact if_pos rfl
        · show (match it m k with | .inl d => if c = d then f c else 0 | .inr m' => if und ab (hm c) m' = true then f c else 0) = 0
          cases hi : it m k with
          | inl d =>
            obtain ⟨v1, v2, v3⟩ := h5 m k d hm2 hk hi
            exact if_neg (fun w => by subst w; omega)
          | inr m' =>
            obtain ⟨v1, v2, v3, v4⟩ := h6 m k m' hm2 hk hi
            refine if_neg (fun w => ?_)
            have := und_le hab _ _ (Nat.le_refl _) u1 w
            have := hab m' v1 v2
            omega
      · obtain ⟨m', g1, g2, g3, g4⟩ := und_child hab _ _ (Nat.le_refl _) u1 q z
        obtain ⟨w1, w2, w3, w4⟩ := h8 m' g1 g2
        rw [g3] at w3 w4
        rw [fsum_one (k0 := pa m' - 1) (cn m) (by omega) (fun k hk hne => ?_)]
        · show (match it m (pa m' - 1) with | .inl d => if c = d then f c else 0 | .inr m' => if und ab (hm c) m' = true then f c else 0) = f c
          rw [w4]
          exact if_pos g4
        · show (match it m k with | .inl d => if c = d then f c else 0 | .inr m' => if und ab (hm c) m' = true then f c else 0) = 0
          cases hi : it m k with
          | inl d =>
            obtain ⟨v1, v2, v3⟩ := h5 m k d hm2 hk hi
            exact if_neg (fun w => by subst w; exact z v2)
          | inr m'' =>
            obtain ⟨v1, v2, v3, v4⟩ := h6 m k m'' hm2 hk hi
            refine if_neg (fun w => ?_)
            have := und_uniq hab g1 g2 v1 v2 (by rw [g3, v3]) _ _ (Nat.le_refl _) u1 g4 w
            subst this
            omega
    · rw [if_neg q, fsum_zero]
      intro k hk
      show (match it m k with | .inl d => if c = d then f c else 0 | .inr m' => if und ab (hm c) m' = true then f c else 0) = 0
      cases hi : it m k with
      | inl d =>
        obtain ⟨v1, v2, v3⟩ := h5 m k d hm2 hk hi
        refine if_neg (fun w => ?_)
        subst w
        rw [v2] at q
        exact q (und_self hab hm2)
      | inr m' =>
        obtain ⟨v1, v2, v3, v4⟩ := h6 m k m' hm2 hk hi
        refine if_neg (fun w => q ?_)
        have := und_up hab v1 v2 _ _ (Nat.le_refl _) u1 w
        rw [v3] at this
        exact this
  have hC : ∀ k, k < cn m → fsum (fun c => e k c) C = usi ab hm C f (it m k) := by
    intro k hk
    cases hi : it m k with
    | inl d =>
      obtain ⟨v1, v2, v3⟩ := h5 m k d hm2 hk hi
      rw [fsum_one (k0 := d) C v1 (fun c hc hne => ?_)]
      · show (match it m k with | .inl d' => if d = d' then f d else 0 | .inr m' => if und ab (hm d) m' = true then f d else 0) = f d
        rw [hi]
        exact if_pos rfl
      · show (match it m k with | .inl d' => if c = d' then f c else 0 | .inr m' => if und ab (hm c) m' = true then f c else 0) = 0
        rw [hi]
        exact if_neg hne
    | inr m' =>
      show _ = fsum (fun c => if und ab (hm c) m' = true then f c else 0) C
      refine fsum_eq C (fun c hc => ?_)
      show (match it m k with | .inl d' => if c = d' then f c else 0 | .inr m' => if und ab (hm c) m' = true then f c else 0) = _
      rw [hi]
  rw [← fsum_eq (cn m) hC, fsum_swap, fsum_eq C hA]
  rfl
