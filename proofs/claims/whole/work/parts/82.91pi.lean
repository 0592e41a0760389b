/-! plan: two trees of the same cuts are one, renumbered -/
def ST (F : Nat → Nat → Nat → Nat) (L C : Nat) (sa sb ab pa cn : Nat → Nat) (it : Nat → Nat → Sum Nat Nat) : Prop :=
  (1 ≤ L ∧ sa 0 = 0 ∧ sb 0 = C)
  ∧ (∀ l, l < L → 1 ≤ cn l ∧ cn l ≤ 9 ∧ xs F (sa l) (sb l) (cn l) = sb l ∧ ∀ j, j < cn l → xs F (sa l) (sb l) j < sb l)
  ∧ (∀ l j c, l < L → j < cn l → it l j = .inl c → c = xs F (sa l) (sb l) j ∧ xs F (sa l) (sb l) (j + 1) = c + 1)
  ∧ (∀ l j m, l < L → j < cn l → it l j = .inr m → 0 < m ∧ m < L ∧ ab m = l ∧ pa m = j + 1 ∧ sa m = xs F (sa l) (sb l) j ∧ sb m = xs F (sa l) (sb l) (j + 1) ∧ xs F (sa l) (sb l) j + 2 ≤ xs F (sa l) (sb l) (j + 1))
  ∧ (∀ m, 0 < m → m < L → ab m < m ∧ 1 ≤ pa m ∧ pa m ≤ cn (ab m) ∧ it (ab m) (pa m - 1) = .inr m)
theorem bf_st {F : Nat → Nat → Nat → Nat} {C L : Nat} {sa sb ab pa hm ph cn : Nat → Nat} {it : Nat → Nat → Sum Nat Nat} {sz av pv im hh pp : Nat → Int32} (h : BF F C L sa sb ab pa hm ph cn it sz av pv im hh pp) : ST F L C sa sb ab pa cn it ∧ (∀ l j c, l < L → j < cn l → it l j = .inl c → c < C ∧ hm c = l ∧ ph c = j + 1) := by
  have hat := (bf_at h).1
  obtain ⟨ow, cur, k, lf, lt, h1, h2, hi, hc, hx⟩ := h
  obtain ⟨⟨a1, a2, a3⟩, ⟨b1, b2, b3, b4⟩, ⟨c1, c2, c3⟩, d, e, f, g, ⟨i1, i2, i3, i4⟩, j⟩ := hi
  refine ⟨⟨⟨by omega, b1, b2⟩, fun l hl => ⟨(hat.2.2.2.1 l hl).1, (hat.2.2.2.1 l hl).2, ?_, fun j' hj => d l j' (by omega) hj⟩, fun l j' c hl hj hi2 => ?_, fun l j' m hl hj hi2 => ?_, fun m q1 q2 => ?_⟩, fun l j' c hl hj hi2 => ?_⟩
  · by_cases z : l = cur
    · rw [z, c1]; exact hx
    · exact (c3 l (by omega)).2.2
  · obtain ⟨v1, v2, v3, v4, v5, v6⟩ := e l j' c (by omega) hj hi2
    exact ⟨v1, v2⟩
  · obtain ⟨v1, v2, v3, v4, v5, v6⟩ := f l j' m (by omega) hj hi2
    have := b4 m v1 v2
    exact ⟨v1, v2, v3, v4, v5, v6, by omega⟩
  · obtain ⟨v1, v2, v3, v4, v5⟩ := g m q1 q2
    exact ⟨v1, v3, v4, v5⟩
  · obtain ⟨v1, v2, v3, v4, v5, v6⟩ := e l j' c (by omega) hj hi2
    exact ⟨v3, v5, v6⟩
def chd (it : Nat → Nat → Sum Nat Nat) (r p : Nat) : Nat := match it r p with
  | .inl _ => 0
  | .inr m => m
def pmf (ab pa : Nat → Nat) (it : Nat → Nat → Sum Nat Nat) : Nat → Nat → Nat
  | 0, _ => 0
  | f + 1, l => if l = 0 then 0 else chd it (pmf ab pa it f (ab l)) (pa l - 1)
def pmp (ab pa : Nat → Nat) (it : Nat → Nat → Sum Nat Nat) (l : Nat) : Nat := pmf ab pa it l l
theorem pmf_eq {ab pa : Nat → Nat} {it : Nat → Nat → Sum Nat Nat} {L : Nat} (hab : ∀ m, 0 < m → m < L → ab m < m) : ∀ (f g l : Nat), l ≤ f → l ≤ g → l < L → pmf ab pa it f l = pmf ab pa it g l := by
  intro f
  induction f with
  | zero =>
    intro g l h1 h2 h3
    have e : l = 0 := by omega
    subst e
    cases g with
    | zero => rfl
    | succ g => exact (if_pos rfl).symm
  | succ f ih =>
    intro g l h1 h2 h3
    by_cases e : l = 0
    · subst e
      cases g with
      | zero => exact if_pos rfl
      | succ g => exact (if_pos rfl).trans (if_pos rfl).symm
    · cases g with
      | zero => omega
      | succ g =>
        have := hab l (by omega) h3
        show (if l = 0 then 0 else chd it (pmf ab pa it f (ab l)) (pa l - 1)) = (if l = 0 then 0 else chd it (pmf ab pa it g (ab l)) (pa l - 1))
        rw [if_neg e, if_neg e, ih g (ab l) (by omega) (by omega) (by omega)]
theorem pmp_s {ab pa : Nat → Nat} {it : Nat → Nat → Sum Nat Nat} {L : Nat} (hab : ∀ m, 0 < m → m < L → ab m < m) {l : Nat} (h0 : 0 < l) (hl : l < L) : pmp ab pa it l = chd it (pmp ab pa it (ab l)) (pa l - 1) := by
  have := hab l h0 hl
  obtain ⟨f, rfl⟩ : ∃ f, l = f + 1 := ⟨l - 1, by omega⟩
  show (if f + 1 = 0 then 0 else chd it (pmf ab pa it f (ab (f + 1))) (pa (f + 1) - 1)) = _
  rw [if_neg (by omega), pmf_eq hab f (ab (f + 1)) (ab (f + 1)) (by omega) (Nat.le_refl _) (by omega)]
  rfl
theorem cn_same {F : Nat → Nat → Nat → Nat} {a b c d : Nat} (h1 : xs F a b c = b) (h2 : ∀ j, j < c → xs F a b j < b) (h3 : xs F a b d = b) (h4 : ∀ j, j < d → xs F a b j < b) : c = d := by
  rcases Nat.lt_trichotomy c d with z | z | z
  · have := h4 c z; omega
  · exact z
  · have := h2 d z; omega
theorem pmp_ok {F : Nat → Nat → Nat → Nat} {L L2 C : Nat} {sa sb ab pa cn sa2 sb2 ab2 pa2 cn2 : Nat → Nat} {it it2 : Nat → Nat → Sum Nat Nat} (h : ST F L C sa sb ab pa cn it) (h2 : ST F L2 C sa2 sb2 ab2 pa2 cn2 it2) : ∀ (n l : Nat), l ≤ n → l < L → pmp ab pa it2 l < L2 ∧ sa2 (pmp ab pa it2 l) = sa l ∧ sb2 (pmp ab pa it2 l) = sb l ∧ cn2 (pmp ab pa it2 l) = cn l ∧ (0 < l → 0 < pmp ab pa it2 l ∧ ab2 (pmp ab pa it2 l) = pmp ab pa it2 (ab l) ∧ pa2 (pmp ab pa it2 l) = pa l) := by
  obtain ⟨⟨a1, a2, a3⟩, b, c, d, e⟩ := h
  obtain ⟨⟨p1, p2, p3⟩, q, r, s, t⟩ := h2
  have hab : ∀ m, 0 < m → m < L → ab m < m := fun m x y => (e m x y).1
  have hcn : ∀ l l2, l < L → l2 < L2 → sa2 l2 = sa l → sb2 l2 = sb l → cn2 l2 = cn l := by
    intro l l2 x y z1 z2
    obtain ⟨_, _, u1, u2⟩ := b l x
    obtain ⟨_, _, v1, v2⟩ := q l2 y
    rw [z1, z2] at v1 v2
    exact cn_same v1 v2 u1 u2
  intro n
  induction n with
  | zero =>
    intro l x y
    have z : l = 0 := by omega
    subst z
    refine ⟨by show 0 < L2; omega, by show sa2 0 = sa 0; rw [p2, a2], by show sb2 0 = sb 0; rw [p3, a3], hcn 0 0 y (by omega) (by rw [p2, a2]) (by rw [p3, a3]), fun w => by omega⟩
  | succ n ih =>
    intro l x y
    by_cases z : l = 0
    · subst z
      exact ih 0 (by omega) y
    · obtain ⟨e1, e2, e3, e4⟩ := e l (by omega) y
      obtain ⟨g1, g2, g3, g4, g5⟩ := ih (ab l) (by omega) (by omega)
      obtain ⟨_, _, d3, d4, d5, d6, d7⟩ := d (ab l) (pa l - 1) l (by omega) (by omega) e4
      rw [pmp_s hab (by omega) y]
      cases hi : it2 (pmp ab pa it2 (ab l)) (pa l - 1) with
      | inl c' =>
        obtain ⟨r1, r2⟩ := r _ _ _ g1 (by rw [g4]; omega) hi
        rw [g2, g3] at r1 r2
        omega
      | inr m =>
        obtain ⟨s1, s2, s3, s4, s5, s6, s7⟩ := s _ _ _ g1 (by rw [g4]; omega) hi
        rw [g2, g3] at s5 s6
        have hm : chd it2 (pmp ab pa it2 (ab l)) (pa l - 1) = m := by unfold chd; rw [hi]
        rw [hm]
        exact ⟨s2, by rw [s5, d5], by rw [s6, d6], hcn l m y s2 (by rw [s5, d5]) (by rw [s6, d6]), fun _ => ⟨s1, s3, by rw [s4]; omega⟩⟩
theorem pmp_inv {F : Nat → Nat → Nat → Nat} {L L2 C : Nat} {sa sb ab pa cn sa2 sb2 ab2 pa2 cn2 : Nat → Nat} {it it2 : Nat → Nat → Sum Nat Nat} (h : ST F L C sa sb ab pa cn it) (h2 : ST F L2 C sa2 sb2 ab2 pa2 cn2 it2) : ∀ (n l : Nat), l ≤ n → l < L → pmp ab2 pa2 it (pmp ab pa it2 l) = l := by
  have ok := pmp_ok h h2
  obtain ⟨⟨a1, a2, a3⟩, b, c, d, e⟩ := h
  obtain ⟨⟨p1, p2, p3⟩, q, r, s, t⟩ := h2
  have hab : ∀ m, 0 < m → m < L → ab m < m := fun m x y => (e m x y).1
  have hab2 : ∀ m, 0 < m → m < L2 → ab2 m < m := fun m x y => (t m x y).1
  intro n
  induction n with
  | zero =>
    intro l x y
    have z : l = 0 := by omega
    subst z
    rfl
  | succ n ih =>
    intro l x y
    by_cases z : l = 0
    · subst z; rfl
    · obtain ⟨e1, e2, e3, e4⟩ := e l (by omega) y
      obtain ⟨g1, g2, g3, g4, g5⟩ := ok l l (Nat.le_refl _) y
      obtain ⟨g6, g7, g8⟩ := g5 (by omega)
      rw [pmp_s hab2 g6 g1, g7, g8, ih (ab l) (by omega) (by omega)]
      unfold chd
      rw [e4]
theorem pigeon : ∀ (b a : Nat) (f : Nat → Nat), (∀ l, l < a → f l < b) → (∀ l k, l < a → k < a → f l = f k → l = k) → a ≤ b
  | 0, a, f, h, _ => by
    rcases Nat.eq_zero_or_pos a with z | z
    · omega
    · have := h 0 z; omega
  | b + 1, 0, f, _, _ => Nat.zero_le _
  | b + 1, a + 1, f, h, hj => by
    have := pigeon b a (fun l => if f a < f l then f l - 1 else f l) (fun l hl => by
      have h1 := h l (by omega)
      have h2 := h a (by omega)
      have h3 : f l ≠ f a := fun z => by have := hj l a (by omega) (by omega) z; omega
      show (if f a < f l then f l - 1 else f l) < b
      split <;> omega) (fun l k hl hk z => by
      have h3 : f l ≠ f a := fun z => by have := hj l a (by omega) (by omega) z; omega
      have h4 : f k ≠ f a := fun z => by have := hj k a (by omega) (by omega) z; omega
      refine hj l k (by omega) (by omega) ?_
      change (if f a < f l then f l - 1 else f l) = (if f a < f k then f k - 1 else f k) at z
      by_cases y1 : f a < f l
      · by_cases y2 : f a < f k
        · rw [if_pos y1, if_pos y2] at z; omega
        · rw [if_pos y1, if_neg y2] at z; omega
      · by_cases y2 : f a < f k
        · rw [if_neg y1, if_pos y2] at z; omega
        · rw [if_neg y1, if_neg y2] at z; exact z)
    omega
theorem st_same {F : Nat → Nat → Nat → Nat} {L L2 C : Nat} {sa sb ab pa cn sa2 sb2 ab2 pa2 cn2 : Nat → Nat} {it it2 : Nat → Nat → Sum Nat Nat} (h : ST F L C sa sb ab pa cn it) (h2 : ST F L2 C sa2 sb2 ab2 pa2 cn2 it2) {ni nm : Nat → Int32} (hn : ∀ r, r < L2 → nm r = nI (cn2 r) ∧ ∀ j, j < cn2 r → ni (9 * r + j) = enc8 id (it2 r j)) : L = L2 ∧ ∃ pi qi, T8 L cn it pi qi ni nm := by
  have ok := fun l hl => pmp_ok h h2 l l (Nat.le_refl _) hl
  have ok2 := fun l hl => pmp_ok h2 h l l (Nat.le_refl _) hl
  have inv := fun l hl => pmp_inv h h2 l l (Nat.le_refl _) hl
  have inv2 := fun l hl => pmp_inv h2 h l l (Nat.le_refl _) hl
  have e1 : L ≤ L2 := pigeon L2 L (pmp ab pa it2) (fun l hl => (ok l hl).1) (fun l k hl hk z => by rw [← inv l hl, z, inv k hk])
  have e2 : L2 ≤ L := pigeon L L2 (pmp ab2 pa2 it) (fun l hl => (ok2 l hl).1) (fun l k hl hk z => by rw [← inv2 l hl, z, inv2 k hk])
  have e : L = L2 := by omega
  subst e
  refine ⟨rfl, pmp ab pa it2, pmp ab2 pa2 it, rfl, fun l hl => ⟨(ok l hl).1, inv l hl⟩, fun r hr => ⟨(ok2 r hr).1, inv2 r hr⟩, fun l hl => ?_, fun l k hl hk => ?_⟩
  · obtain ⟨g1, g2, g3, g4, g5⟩ := ok l hl
    rw [(hn _ g1).1, g4]
  · obtain ⟨g1, g2, g3, g4, g5⟩ := ok l hl
    rw [(hn _ g1).2 k (by rw [g4]; exact hk)]
    obtain ⟨⟨a1, a2, a3⟩, b, c, d, e⟩ := h
    obtain ⟨⟨p1, p2, p3⟩, q, r, s, t⟩ := h2
    cases hi : it l k with
    | inl x =>
      obtain ⟨c1, c2⟩ := c l k x hl hk hi
      cases hi2 : it2 (pmp ab pa it2 l) k with
      | inl y =>
        obtain ⟨r1, r2⟩ := r _ _ _ g1 (by rw [g4]; exact hk) hi2
        rw [g2, g3] at r1
        rw [r1, c1]
        rfl
      | inr m =>
        obtain ⟨s1, s2, s3, s4, s5, s6, s7⟩ := s _ _ _ g1 (by rw [g4]; exact hk) hi2
        rw [g2, g3] at s7
        omega
    | inr m =>
      obtain ⟨d1, d2, d3, d4, d5, d6, d7⟩ := d l k m hl hk hi
      cases hi2 : it2 (pmp ab pa it2 l) k with
      | inl y =>
        obtain ⟨r1, r2⟩ := r _ _ _ g1 (by rw [g4]; exact hk) hi2
        rw [g2, g3] at r1 r2
        omega
      | inr m2 =>
        show (-2 : Int32) - nI m2 = (-2) - nI (pmp ab pa it2 m)
        rw [pmp_s (fun m x y => (e m x y).1) d1 d2, d3, d4, show k + 1 - 1 = k by omega]
        unfold chd
        rw [hi2]
