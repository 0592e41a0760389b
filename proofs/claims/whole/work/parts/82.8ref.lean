/-! plan: the reference builds -/
def I8 (F : Nat → Nat → Nat → Nat) (NL : Nat) (sa sb ab pa cn : Nat → Nat) (it : Nat → Nat → Sum Nat Nat) (ni nm : Nat → Int32) (l : Nat) : Prop :=
  nm l = nI (cn l) ∧ (∀ j, j < cn l → xs F (sa l) (sb l) j < sb l ∧ ni (9 * l + j) = enc8 id (it l j)) ∧ (∀ j c, j < cn l → it l j = .inl c → c = xs F (sa l) (sb l) j ∧ xs F (sa l) (sb l) (j + 1) = c + 1) ∧ (∀ j m, j < cn l → it l j = .inr m → l < m ∧ m < NL ∧ ab m = l ∧ pa m = j + 1 ∧ sa m = xs F (sa l) (sb l) j ∧ sb m = xs F (sa l) (sb l) (j + 1) ∧ xs F (sa l) (sb l) j + 2 ≤ xs F (sa l) (sb l) (j + 1))
def G8 (F : Nat → Nat → Nat → Nat) (NL : Nat) (sa sb ab pa cn : Nat → Nat) (it : Nat → Nat → Sum Nat Nat) (ni nm : Nat → Int32) (l : Nat) : Prop := I8 F NL sa sb ab pa cn it ni nm l ∧ 1 ≤ cn l ∧ cn l ≤ 9 ∧ xs F (sa l) (sb l) (cn l) = sb l
def PR (ab pa cn : Nat → Nat) (it : Nat → Nat → Sum Nat Nat) (m : Nat) : Prop := ab m < m ∧ 1 ≤ pa m ∧ pa m ≤ cn (ab m) ∧ it (ab m) (pa m - 1) = .inr m
/-- all lists below NL but r as they were; r's span and place too -/
def FR (NL r : Nat) (sa sb ab pa cn : Nat → Nat) (it : Nat → Nat → Sum Nat Nat) (ni nm : Nat → Int32) (sa' sb' ab' pa' cn' : Nat → Nat) (it' : Nat → Nat → Sum Nat Nat) (ni' nm' : Nat → Int32) : Prop := ∀ l, l < NL → (sa' l = sa l ∧ sb' l = sb l ∧ ab' l = ab l ∧ pa' l = pa l) ∧ (l ≠ r → cn' l = cn l ∧ (∀ j, it' l j = it l j) ∧ nm' l = nm l ∧ ∀ j, j < 9 → ni' (9 * l + j) = ni (9 * l + j))
theorem I8_fr {F : Nat → Nat → Nat → Nat} {NL NL' r : Nat} {sa sb ab pa cn : Nat → Nat} {it : Nat → Nat → Sum Nat Nat} {ni nm : Nat → Int32} {sa' sb' ab' pa' cn' : Nat → Nat} {it' : Nat → Nat → Sum Nat Nat} {ni' nm' : Nat → Int32} (hf : FR NL r sa sb ab pa cn it ni nm sa' sb' ab' pa' cn' it' ni' nm') (hNL : NL ≤ NL') {l : Nat} (hl : l < NL) (hr : l ≠ r) (h9 : cn l ≤ 9) (h : I8 F NL sa sb ab pa cn it ni nm l) : I8 F NL' sa' sb' ab' pa' cn' it' ni' nm' l := by
  obtain ⟨⟨s1, s2, s3, s4⟩, hn⟩ := hf l hl
  obtain ⟨n1, n2, n3, n4⟩ := hn hr
  obtain ⟨h1, h2, h3, h4⟩ := h
  refine ⟨by rw [n3, n1]; exact h1, fun j hj => ?_, fun j c hj hi => ?_, fun j m hj hi => ?_⟩
  · rw [n1] at hj
    rw [s1, s2, n4 j (by omega), n2 j]
    exact h2 j hj
  · rw [n1] at hj
    rw [n2 j] at hi
    rw [s1, s2]
    exact h3 j c hj hi
  · rw [n1] at hj
    rw [n2 j] at hi
    obtain ⟨v1, v2, v3, v4, v5, v6, v7⟩ := h4 j m hj hi
    obtain ⟨⟨t1, t2, t3, t4⟩, _⟩ := hf m v2
    rw [s1, s2, t1, t2, t3, t4]
    exact ⟨v1, by omega, v3, v4, v5, v6, v7⟩
theorem G8_fr {F : Nat → Nat → Nat → Nat} {NL NL' r : Nat} {sa sb ab pa cn : Nat → Nat} {it : Nat → Nat → Sum Nat Nat} {ni nm : Nat → Int32} {sa' sb' ab' pa' cn' : Nat → Nat} {it' : Nat → Nat → Sum Nat Nat} {ni' nm' : Nat → Int32} (hf : FR NL r sa sb ab pa cn it ni nm sa' sb' ab' pa' cn' it' ni' nm') (hNL : NL ≤ NL') {l : Nat} (hl : l < NL) (hr : l ≠ r) (h : G8 F NL sa sb ab pa cn it ni nm l) : G8 F NL' sa' sb' ab' pa' cn' it' ni' nm' l := by
  obtain ⟨⟨s1, s2, s3, s4⟩, hn⟩ := hf l hl
  obtain ⟨n1, n2, n3, n4⟩ := hn hr
  obtain ⟨h0, h1, h2, h3⟩ := h
  exact ⟨I8_fr hf hNL hl hr h2 h0, by rw [n1]; exact h1, by rw [n1]; exact h2, by rw [n1, s1, s2]; exact h3⟩
theorem bu6_s {self} {fi : Nat → Int32} (n : Nat) : f_X8_builds_L6 self fi (n + 1) = f_X8_builds_L6_F self fi (f_X8_builds_L6 self fi n) := fx_s _ _ _
theorem bu_s {fi : Nat → Int32} (d : Nat) : f_X8_builds fi (d + 1) = f_X8_builds_B fi (f_X8_builds fi d) := fx_s _ _ _
/-- what building a list comes to -/
def BR (F : Nat → Nat → Nat → Nat) (NL r a b : Nat) (sa sb ab pa cn : Nat → Nat) (it : Nat → Nat → Sum Nat Nat) (ni nm : Nat → Int32) (x : Option (Int32 × (Nat → Int32) × (Nat → Int32))) : Prop :=
  ∃ (NL' : Nat) (sa' sb' ab' pa' cn' : Nat → Nat) (it' : Nat → Nat → Sum Nat Nat) (ni' nm' : Nat → Int32), x = some (nI NL', ni', nm') ∧ NL ≤ NL' ∧ NL' + 1 ≤ NL + (b - a) ∧ (2 ≤ b - a → NL' + 2 ≤ NL + (b - a)) ∧ FR NL r sa sb ab pa cn it ni nm sa' sb' ab' pa' cn' it' ni' nm' ∧ G8 F NL' sa' sb' ab' pa' cn' it' ni' nm' r ∧ (∀ l, NL ≤ l → l < NL' → G8 F NL' sa' sb' ab' pa' cn' it' ni' nm' l ∧ PR ab' pa' cn' it' l ∧ (ab' l = r ∨ NL ≤ ab' l))
theorem bd6 {F : Nat → Nat → Nat → Nat} {B N : Nat} (hF : FO B F) (hB : B ≤ 9) (hB1 : 1 ≤ B) (hN : N ≤ 40) {fi : Nat → Int32} (hfi : ∀ n i p, 1 ≤ n → i + n ≤ N → 1 ≤ p → p ≤ B → fi ((41 * i + (i + n)) * 11 + p) = nI (F n i p)) {self : Int32 → (Nat → Int32) → (Nat → Int32) → Int32 → Int32 → Int32 → Option (Int32 × (Nat → Int32) × (Nat → Int32))} {D0 : Nat} (hself : ∀ (r a b NL : Nat) (sa sb ab pa cn : Nat → Nat) (it : Nat → Nat → Sum Nat Nat) (ni nm : Nat → Int32), b - a ≤ D0 → a + 2 ≤ b → b ≤ N → r < NL → NL + (b - a) ≤ 42 → sa r = a → sb r = b → nm r = nI 0 → cn r = 0 → BR F NL r a b sa sb ab pa cn it ni nm (self (nI NL) ni nm (nI r) (nI a) (nI b)))
    {r a b NL0 : Nat} (hab : a < b) (hbN : b ≤ N) (hD : b - a ≤ D0 + 1) (hrN : r < NL0) (hNL0 : NL0 + (b - a) ≤ 42) {sa0 sb0 ab0 pa0 cn0 : Nat → Nat} {it0 : Nat → Nat → Sum Nat Nat} {ni0 nm0 : Nat → Int32} : ∀ (m k NL f : Nat) (sa sb ab pa cn : Nat → Nat) (it : Nat → Nat → Sum Nat Nat) (ni nm : Nat → Int32), B ≤ k + m → k ≤ B → m < f → NL0 ≤ NL → NL + k ≤ NL0 + (xs F a b k - a) → sa r = a → sb r = b → cn r = k → FR NL0 r sa0 sb0 ab0 pa0 cn0 it0 ni0 nm0 sa sb ab pa cn it ni nm → I8 F NL sa sb ab pa cn it ni nm r → (∀ l, NL0 ≤ l → l < NL → G8 F NL sa sb ab pa cn it ni nm l ∧ PR ab pa cn it l ∧ (ab l = r ∨ NL0 ≤ ab l)) → BR F NL0 r a b sa0 sb0 ab0 pa0 cn0 it0 ni0 nm0 (f_X8_builds_L6 self fi f (nI NL) ni nm (nI r) (nI b) (nI (xs F a b k)) (nI (k + 1))) := by
  intro m
  induction m with
  | zero =>
    intro k NL f sa sb ab pa cn it ni nm h1 h2 h3 h4 h5 e1 e2 e3 hfr hi hg
    have hk : k = B := by omega
    have hx : xs F a b k = b := by rw [hk]; exact xs_B hF hB1 (by omega)
    obtain ⟨f, rfl⟩ : ∃ z, f = z + 1 := ⟨f - 1, by omega⟩
    have hk1 : 1 ≤ k := by
      rcases Nat.eq_zero_or_pos k with z | z
      · subst z
        have : a = b := hx
        omega
      · exact z
    have hk2 : 2 ≤ b - a → 2 ≤ k := by
      intro z
      rcases Nat.lt_or_ge k 2 with y | y
      · have : k = 1 := by omega
        subst this
        have := xs_1 hF (a := a) (b := b) (by omega)
        omega
      · exact y
    rw [bu6_s]
    unfold f_X8_builds_L6_F
    rw [hx, if_pos (nI_le (Nat.le_refl _) (by omega))]
    rw [hx] at h5
    exact ⟨NL, sa, sb, ab, pa, cn, it, ni, nm, rfl, h4, by omega, fun z => by have := hk2 z; omega, hfr, ⟨hi, by omega, by omega, by rw [e1, e2, e3]; exact hx⟩, hg⟩
  | succ m ih =>
    intro k NL f sa sb ab pa cn it ni nm h1 h2 h3 h4 h5 e1 e2 e3 hfr hi hg
    obtain ⟨f, rfl⟩ : ∃ z, f = z + 1 := ⟨f - 1, by omega⟩
    have hxle := xs_le hF (Nat.le_of_lt hab) k
    by_cases hxb : xs F a b k < b
    · have hkB : k < B := by
        rcases Nat.lt_or_ge k B with z | z
        · exact z
        · have : k = B := by omega
          rw [this, xs_B hF hB1 (by omega)] at hxb
          omega
      have hlt := xs_lt hF hxb
      have hfx : fi ((41 * xs F a b k + b) * 11 + (k + 1)) = nI (F (b - xs F a b k) (xs F a b k) (k + 1)) := by
        have := hfi (b - xs F a b k) (xs F a b k) (k + 1) (by omega) (by omega) (by omega) (by omega)
        rw [show xs F a b k + (b - xs F a b k) = b by omega] at this
        exact this
      have hnx : xs F a b (k + 1) = xs F a b k + F (b - xs F a b k) (xs F a b k) (k + 1) := rfl
      have hrb := hF.1 (b - xs F a b k) (xs F a b k) (k + 1) (by omega)
      rw [bu6_s]
      unfold f_X8_builds_L6_F f_X8_span
      rw [if_neg (nI_ge hxb (by omega))]
      dsimp only [ob]
      rw [ix11, gi_nI (by omega) (by decide), nI_clamp (by omega), hfx]
      generalize hX : xs F a b k = X at hxb hlt hfx hnx hrb h5 hxle ⊢
      generalize hS : F (b - X) X (k + 1) = S at hnx hrb ⊢
      have hnmr : nm r = nI k := by rw [hi.1, e3]
      by_cases c1 : S = 1
      · rw [if_pos (show nI S = 1 by rw [c1]; rfl), adds8 (by omega) (by omega) hnmr]
        dsimp only [ob2]
        unfold f_X8_builds_L72
        rw [nI_add, nI_1, ← hnx]
        -- the command's item
        refine ih (k + 1) NL f sa sb ab pa (uN cn r (k + 1)) (uI it r k (.inl X)) (upd ni (9 * r + k) (nI X)) (upd nm r (nI (k + 1))) (by omega) (by omega) (by omega) h4 (by rw [hnx]; omega) e1 e2 uN_s ?_ ?_ ?_
        · intro l hl
          obtain ⟨t1, t2⟩ := hfr l hl
          refine ⟨t1, fun hne => ?_⟩
          obtain ⟨v1, v2, v3, v4⟩ := t2 hne
          exact ⟨by rw [uN_n hne]; exact v1, fun j => by rw [uI_n (fun z => hne z.1)]; exact v2 j, by rw [pk_un hne]; exact v3, fun j hj => by rw [pk_un (by omega)]; exact v4 j hj⟩
        · obtain ⟨i1, i2, i3, i4⟩ := hi
          refine ⟨by rw [pk_us, uN_s], fun j hj => ?_, fun j c hj hi2 => ?_, fun j m' hj hi2 => ?_⟩
          · rw [uN_s] at hj
            by_cases z : j = k
            · subst z
              rw [pk_us, uI_s, e1, e2, hX]
              exact ⟨hxb, rfl⟩
            · rw [pk_un (by omega), uI_n (fun y => z y.2)]
              exact i2 j (by omega)
          · rw [uN_s] at hj
            by_cases z : j = k
            · subst z
              rw [uI_s] at hi2
              injection hi2 with hi2
              rw [e1, e2, hX, hnx]
              exact ⟨hi2.symm, by omega⟩
            · rw [uI_n (fun y => z y.2)] at hi2
              exact i3 j c (by omega) hi2
          · rw [uN_s] at hj
            by_cases z : j = k
            · subst z
              rw [uI_s] at hi2
              cases hi2
            · rw [uI_n (fun y => z y.2)] at hi2
              exact i4 j m' (by omega) hi2
        · intro l q1 q2
          obtain ⟨⟨g0, g1, g2, g3⟩, gp, gq⟩ := hg l q1 q2
          have hne : l ≠ r := by omega
          have hfr2 : FR NL r sa sb ab pa cn it ni nm sa sb ab pa (uN cn r (k + 1)) (uI it r k (.inl X)) (upd ni (9 * r + k) (nI X)) (upd nm r (nI (k + 1))) := fun l' hl' => ⟨⟨rfl, rfl, rfl, rfl⟩, fun hne' => ⟨uN_n hne', fun j => uI_n (fun z => hne' z.1), pk_un hne', fun j hj => pk_un (by omega)⟩⟩
          refine ⟨G8_fr hfr2 (Nat.le_refl _) q2 hne ⟨g0, g1, g2, g3⟩, ?_, gq⟩
          obtain ⟨p1, p2, p3, p4⟩ := gp
          refine ⟨p1, p2, ?_, ?_⟩
          · by_cases z : ab l = r
            · rw [z, uN_s]; rw [z, e3] at p3; omega
            · rw [uN_n z]; exact p3
          · rw [uI_n (fun z => by
              have z1 := z.1
              have z2 := z.2
              rw [z1, e3] at p3
              omega)]
            exact p4
      · have hs2 : 2 ≤ S := by omega
        rw [if_neg (show ¬ nI S = 1 from fun z => c1 ((nI_eq (b := 1) (by omega) (by decide)).mp z)), newList8 (by omega)]
        dsimp only [ob3]
        rw [adds8 (by omega) (by omega) (show upd nm NL 0 r = nI k by rw [pk_un (by omega)]; exact hnmr)]
        dsimp only [ob2]
        rw [nI_add, ← hnx]
        have hk0 : k = 0 → X = a := fun z => by rw [← hX, z]; rfl
        have hsz : S + 1 ≤ b - a := by
          by_cases z : k = 0
          · have hx1 : xs F a b 1 < b := xs_1 hF (by omega)
            have e : xs F a b (k + 1) = xs F a b 1 := by rw [z]
            have := hk0 z
            omega
          · have h12 : a < xs F a b 1 := (xs_lt hF (a := a) (b := b) (k := 0) (show a < b from hab)).1
            have hmono : ∀ t, 1 ≤ t → xs F a b 1 ≤ xs F a b t := by
              intro t ht
              induction t with
              | zero => omega
              | succ t iht =>
                by_cases y : t = 0
                · subst y; exact Nat.le_refl _
                · refine Nat.le_trans (iht (by omega)) ?_
                  show _ ≤ xs F a b t + _
                  omega
            have h11 := hmono k (by omega)
            rw [hX] at h11
            omega
        -- the new list, empty yet
        have hfr2 : FR NL r sa sb ab pa cn it ni nm (uN sa NL X) (uN sb NL (xs F a b (k + 1))) (uN ab NL r) (uN pa NL (k + 1)) (uN (uN cn NL 0) r (k + 1)) (uI it r k (.inr NL)) (upd ni (9 * r + k) ((-2) - nI NL)) (upd (upd nm NL 0) r (nI (k + 1))) := fun l' hl' => ⟨⟨uN_n (by omega), uN_n (by omega), uN_n (by omega), uN_n (by omega)⟩, fun hne' => ⟨by rw [uN_n hne', uN_n (by omega)], fun j => uI_n (fun z => hne' z.1), by rw [pk_un hne', pk_un (by omega)], fun j hj => pk_un (by omega)⟩⟩
        obtain ⟨NL', sa', sb', ab', pa', cn', it', ni', nm', g1, g2, g3, g4, g5, g6, g7⟩ := hself NL X (xs F a b (k + 1)) (NL + 1) (uN sa NL X) (uN sb NL (xs F a b (k + 1))) (uN ab NL r) (uN pa NL (k + 1)) (uN (uN cn NL 0) r (k + 1)) (uI it r k (.inr NL)) (upd ni (9 * r + k) ((-2) - nI NL)) (upd (upd nm NL 0) r (nI (k + 1))) (by omega) (by omega) (by omega) (by omega) (by omega) uN_s uN_s (by rw [pk_un (by omega), pk_us]; rfl) (by rw [uN_n (by omega), uN_s])
        rw [g1]
        dsimp only
        unfold f_X8_builds_L72
        rw [nI_add, nI_1, ← hnx]
        have hr1 := (g5 r (by omega)).1
        have hr2 := (g5 r (by omega)).2 (by omega)
        have hn1 := (g5 NL (by omega)).1
        rw [uN_n (show r ≠ NL by omega), uN_n (show r ≠ NL by omega), uN_n (show r ≠ NL by omega), uN_n (show r ≠ NL by omega)] at hr1
        rw [uN_s] at hr2
        rw [uN_s, uN_s, uN_s, uN_s] at hn1
        have hcr : cn' r = k + 1 := hr2.1
        refine ih (k + 1) NL' f sa' sb' ab' pa' cn' it' ni' nm' (by omega) (by omega) (by omega) (by omega) (by omega) (by rw [hr1.1]; exact e1) (by rw [hr1.2.1]; exact e2) hcr ?_ ?_ ?_
        · intro l hl
          obtain ⟨t1, t2⟩ := hfr l hl
          obtain ⟨⟨w1, w2, w3, w4⟩, w5⟩ := g5 l (by omega)
          obtain ⟨⟨x1, x2, x3, x4⟩, x5⟩ := hfr2 l (by omega)
          refine ⟨⟨by rw [w1, x1]; exact t1.1, by rw [w2, x2]; exact t1.2.1, by rw [w3, x3]; exact t1.2.2.1, by rw [w4, x4]; exact t1.2.2.2⟩, fun hne => ?_⟩
          obtain ⟨v1, v2, v3, v4⟩ := t2 hne
          obtain ⟨y1, y2, y3, y4⟩ := w5 (by omega)
          obtain ⟨z1, z2, z3, z4⟩ := x5 hne
          exact ⟨by rw [y1, z1]; exact v1, fun j => by rw [y2, z2]; exact v2 j, by rw [y3, z3]; exact v3, fun j hj => by rw [y4 j hj, z4 j hj]; exact v4 j hj⟩
        · obtain ⟨i1, i2, i3, i4⟩ := hi
          refine ⟨by rw [hr2.2.2.1, pk_us, hcr], fun j hj => ?_, fun j c hj hi2 => ?_, fun j m' hj hi2 => ?_⟩
          · rw [hcr] at hj
            rw [hr1.1, hr1.2.1, hr2.2.2.2 j (by omega), hr2.2.1 j]
            by_cases z : j = k
            · subst z
              rw [pk_us, uI_s, e1, e2, hX]
              exact ⟨hxb, rfl⟩
            · rw [pk_un (by omega), uI_n (fun y => z y.2)]
              exact i2 j (by omega)
          · rw [hcr] at hj
            rw [hr2.2.1 j] at hi2
            rw [hr1.1, hr1.2.1]
            by_cases z : j = k
            · subst z
              rw [uI_s] at hi2
              cases hi2
            · rw [uI_n (fun y => z y.2)] at hi2
              exact i3 j c (by omega) hi2
          · rw [hcr] at hj
            rw [hr2.2.1 j] at hi2
            rw [hr1.1, hr1.2.1]
            by_cases z : j = k
            · subst z
              rw [uI_s] at hi2
              injection hi2 with hi2
              subst hi2
              rw [hn1.1, hn1.2.1, hn1.2.2.1, hn1.2.2.2, e1, e2, hX]
              exact ⟨by omega, by omega, rfl, rfl, rfl, rfl, by omega⟩
            · rw [uI_n (fun y => z y.2)] at hi2
              obtain ⟨v1, v2, v3, v4, v5, v6, v7⟩ := i4 j m' (by omega) hi2
              obtain ⟨⟨w1, w2, w3, w4⟩, _⟩ := g5 m' (by omega)
              obtain ⟨⟨x1, x2, x3, x4⟩, _⟩ := hfr2 m' v2
              rw [w1, w2, w3, w4, x1, x2, x3, x4]
              exact ⟨v1, by omega, v3, v4, v5, v6, v7⟩
        · intro l q1 q2
          by_cases z1 : l = NL
          · subst z1
            refine ⟨g6, ⟨by rw [hn1.2.2.1]; omega, by rw [hn1.2.2.2]; omega, by rw [hn1.2.2.1, hn1.2.2.2, hcr]; exact Nat.le_refl _, ?_⟩, .inl hn1.2.2.1⟩
            rw [hn1.2.2.1, hn1.2.2.2, show k + 1 - 1 = k by omega, hr2.2.1 k, uI_s]
          · by_cases z2 : l < NL
            · obtain ⟨gg, gp, gq⟩ := hg l q1 z2
              have hne : l ≠ r := by omega
              have ga := G8_fr hfr2 (show NL ≤ NL + 1 by omega) z2 hne gg
              have gb := G8_fr g5 g2 (show l < NL + 1 by omega) (by omega) ga
              obtain ⟨p1, p2, p3, p4⟩ := gp
              obtain ⟨⟨w1, w2, w3, w4⟩, _⟩ := g5 l (by omega)
              obtain ⟨⟨x1, x2, x3, x4⟩, _⟩ := hfr2 l z2
              refine ⟨gb, ?_, by rw [w3, x3]; exact gq⟩
              have hal : ab' l = ab l := by rw [w3, x3]
              have hpl : pa' l = pa l := by rw [w4, x4]
              refine ⟨by rw [hal]; exact p1, by rw [hpl]; exact p2, ?_, ?_⟩
              · rw [hal, hpl]
                by_cases y : ab l = r
                · rw [y, hcr]; rw [y, e3] at p3; omega
                · obtain ⟨_, t5⟩ := g5 (ab l) (by omega)
                  rw [(t5 (by omega)).1, uN_n y, uN_n (by omega)]
                  exact p3
              · rw [hal, hpl]
                obtain ⟨_, t5⟩ := g5 (ab l) (by omega)
                rw [(t5 (by omega)).2.1, uI_n (fun y => by
                  have y1 := y.1
                  have y2 := y.2
                  rw [y1, e3] at p3
                  omega)]
                exact p4
            · obtain ⟨gg, gp, gq⟩ := g7 l (by omega) q2
              exact ⟨gg, gp, by omega⟩
    · have hx : xs F a b k = b := by omega
      have hk1 : 1 ≤ k := by
        rcases Nat.eq_zero_or_pos k with z | z
        · subst z
          have : a = b := hx
          omega
        · exact z
      have hk2 : 2 ≤ b - a → 2 ≤ k := by
        intro z
        rcases Nat.lt_or_ge k 2 with y | y
        · have : k = 1 := by omega
          subst this
          have := xs_1 hF (a := a) (b := b) (by omega)
          omega
        · exact y
      rw [bu6_s]
      unfold f_X8_builds_L6_F
      rw [hx, if_pos (nI_le (Nat.le_refl _) (by omega))]
      rw [hx] at h5
      exact ⟨NL, sa, sb, ab, pa, cn, it, ni, nm, rfl, h4, by omega, fun z => by have := hk2 z; omega, hfr, ⟨hi, by omega, by omega, by rw [e1, e2, e3]; exact hx⟩, hg⟩
theorem bd8 {F : Nat → Nat → Nat → Nat} {B N : Nat} (hF : FO B F) (hB : B ≤ 9) (hB1 : 1 ≤ B) (hN : N ≤ 40) {fi : Nat → Int32} (hfi : ∀ n i p, 1 ≤ n → i + n ≤ N → 1 ≤ p → p ≤ B → fi ((41 * i + (i + n)) * 11 + p) = nI (F n i p)) : ∀ (d r a b NL : Nat) (sa sb ab pa cn : Nat → Nat) (it : Nat → Nat → Sum Nat Nat) (ni nm : Nat → Int32), b - a ≤ d → a < b → b ≤ N → r < NL → NL + (b - a) ≤ 42 → sa r = a → sb r = b → nm r = nI 0 → cn r = 0 → BR F NL r a b sa sb ab pa cn it ni nm (f_X8_builds fi d (nI NL) ni nm (nI r) (nI a) (nI b)) := by
  intro d
  induction d with
  | zero => intro r a b NL sa sb ab pa cn it ni nm h1 h2; omega
  | succ d ih =>
    intro r a b NL sa sb ab pa cn it ni nm h1 h2 h3 h4 h5 e1 e2 e3 e4
    rw [bu_s]
    unfold f_X8_builds_B
    have := bd6 hF hB hB1 hN hfi (self := f_X8_builds fi d) (D0 := d) (fun r a b NL sa sb ab pa cn it ni nm q1 q2 q3 q4 q5 q6 q7 q8 q9 => ih r a b NL sa sb ab pa cn it ni nm q1 (by omega) q3 q4 q5 q6 q7 q8 q9) h2 h3 h1 h4 h5 (sa0 := sa) (sb0 := sb) (ab0 := ab) (pa0 := pa) (cn0 := cn) (it0 := it) (ni0 := ni) (nm0 := nm) B 0 NL FU sa sb ab pa cn it ni nm (by omega) (by omega) (show B < 100000 by omega) (Nat.le_refl _) (by show NL + 0 ≤ NL + (a - a); omega) e1 e2 e4 (fun l hl => ⟨⟨rfl, rfl, rfl, rfl⟩, fun _ => ⟨rfl, fun _ => rfl, rfl, fun _ _ => rfl⟩⟩) ⟨by rw [e3, e4], fun j hj => by omega, fun j c hj => by omega, fun j m hj => by omega⟩ (fun l q1 q2 => by omega)
    exact this
