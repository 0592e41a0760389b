/-! plan: the class's tree while it is built -/
def BI (F : Nat → Nat → Nat → Nat) (C cur k L : Nat) (sa sb ab pa hm ph cn ow : Nat → Nat) (it : Nat → Nat → Sum Nat Nat) : Prop :=
  (C ≤ 40 ∧ 1 ≤ C ∧ cur < L)
  ∧ (sa 0 = 0 ∧ sb 0 = C ∧ (∀ m, m < L → sa m < sb m ∧ sb m ≤ C) ∧ (∀ m, 0 < m → m < L → sa m + 2 ≤ sb m))
  ∧ (cn cur = k ∧ (∀ l, cur < l → l < L → cn l = 0) ∧ (∀ l, l < cur → 1 ≤ cn l ∧ cn l ≤ 9 ∧ xs F (sa l) (sb l) (cn l) = sb l))
  ∧ (∀ l j, l ≤ cur → j < cn l → xs F (sa l) (sb l) j < sb l)
  ∧ (∀ l j c, l ≤ cur → j < cn l → it l j = .inl c → c = xs F (sa l) (sb l) j ∧ xs F (sa l) (sb l) (j + 1) = c + 1 ∧ c < C ∧ ow c = l ∧ hm c = l ∧ ph c = j + 1)
  ∧ (∀ l j m, l ≤ cur → j < cn l → it l j = .inr m → 0 < m ∧ m < L ∧ ab m = l ∧ pa m = j + 1 ∧ sa m = xs F (sa l) (sb l) j ∧ sb m = xs F (sa l) (sb l) (j + 1))
  ∧ (∀ m, 0 < m → m < L → ab m < m ∧ ab m ≤ cur ∧ 1 ≤ pa m ∧ pa m ≤ cn (ab m) ∧ it (ab m) (pa m - 1) = .inr m)
  ∧ ((∀ c, c < C → ow c < L ∧ sa (ow c) ≤ c ∧ c < sb (ow c)) ∧ (∀ m c, cur < m → m < L → sa m ≤ c → c < sb m → ow c = m) ∧ (∀ c, xs F (sa cur) (sb cur) k ≤ c → c < sb cur → ow c = cur) ∧ (∀ c, c < C → (ow c < cur ∨ (ow c = cur ∧ c < xs F (sa cur) (sb cur) k)) → hm c = ow c ∧ 1 ≤ ph c ∧ ph c ≤ cn (hm c) ∧ it (hm c) (ph c - 1) = .inl c))
  ∧ L + nsum (fun m => if m ≤ cur then 0 else sb m - sa m - 2) L + (if k = 0 then sb cur - sa cur - 2 else sb cur - xs F (sa cur) (sb cur) k - 1) ≤ 39
theorem bi_cmd {F : Nat → Nat → Nat → Nat} {B C cur k L : Nat} {sa sb ab pa hm ph cn ow : Nat → Nat} {it : Nat → Nat → Sum Nat Nat} (hF : FO B F) (h : BI F C cur k L sa sb ab pa hm ph cn ow it) {x : Nat} (hx : xs F (sa cur) (sb cur) k = x) (hxb : x < sb cur) (h1 : xs F (sa cur) (sb cur) (k + 1) = x + 1) : BI F C cur (k + 1) L sa sb ab pa (uN hm x cur) (uN ph x (k + 1)) (uN cn cur (k + 1)) ow (uI it cur k (.inl x)) := by
  obtain ⟨⟨a1, a2, a3⟩, ⟨b1, b2, b3, b4⟩, ⟨c1, c2, c3⟩, d, e, f, g, ⟨i1, i2, i3, i4⟩, j⟩ := h
  rw [hx] at i3 i4 j
  have hbc := (b3 cur a3).2
  have how := i3 x (Nat.le_refl _) hxb
  have hcn : ∀ l, uN cn cur (k + 1) l = if l = cur then k + 1 else cn l := fun l => rfl
  have hle : ∀ l, cn l ≤ uN cn cur (k + 1) l := fun l => by
    rw [hcn]
    by_cases z : l = cur
    · rw [if_pos z, z, c1]; omega
    · rw [if_neg z]; exact Nat.le_refl _
  have hold : ∀ l j, j < uN cn cur (k + 1) l → ¬ (l = cur ∧ j = k) → j < cn l := fun l j hj hne => by
    rw [hcn] at hj
    by_cases z : l = cur
    · rw [if_pos z] at hj; rw [z, c1]; omega
    · rw [if_neg z] at hj; exact hj
  refine ⟨⟨a1, a2, a3⟩, ⟨b1, b2, b3, b4⟩, ⟨uN_s, fun l q1 q2 => ?_, fun l q1 => ?_⟩, fun l j' q1 q2 => ?_, fun l j' c q1 q2 q3 => ?_, fun l j' m q1 q2 q3 => ?_, fun m q1 q2 => ?_, ⟨i1, i2, fun c q1 q2 => ?_, fun c q1 q2 => ?_⟩, ?_⟩
  · rw [uN_n (by omega)]; exact c2 l q1 q2
  · rw [uN_n (by omega)]; exact c3 l q1
  · by_cases z : l = cur ∧ j' = k
    · obtain ⟨rfl, rfl⟩ := z; rw [hx]; exact hxb
    · exact d l j' q1 (hold l j' q2 z)
  · by_cases z : l = cur ∧ j' = k
    · obtain ⟨rfl, rfl⟩ := z
      rw [uI_s] at q3
      injection q3 with q3
      subst q3
      rw [uN_s, uN_s]
      exact ⟨hx.symm, h1, by omega, how, rfl, rfl⟩
    · rw [uI_n z] at q3
      obtain ⟨v1, v2, v3, v4, v5, v6⟩ := e l j' c q1 (hold l j' q2 z) q3
      have hne : c ≠ x := by
        intro y
        by_cases z2 : l = cur
        · subst z2
          have hj := hold l j' q2 z
          rw [c1] at hj
          have hlt := d l j' (Nat.le_refl _) (by rw [c1]; exact hj)
          have hmono : ∀ r s, r ≤ s → xs F (sa l) (sb l) r ≤ xs F (sa l) (sb l) s := by
            intro r s hrs
            induction s with
            | zero => rw [show r = 0 by omega]; exact Nat.le_refl _
            | succ s ihs =>
              by_cases y2 : r = s + 1
              · rw [y2]; exact Nat.le_refl _
              · refine Nat.le_trans (ihs (by omega)) ?_
                show _ ≤ xs F (sa l) (sb l) s + _
                omega
          have := hmono (j' + 1) k (by omega)
          rw [hx] at this
          omega
        · rw [y] at v4; omega
      rw [uN_n hne, uN_n hne]
      exact ⟨v1, v2, v3, v4, v5, v6⟩
  · by_cases z : l = cur ∧ j' = k
    · obtain ⟨rfl, rfl⟩ := z
      rw [uI_s] at q3
      cases q3
    · rw [uI_n z] at q3
      exact f l j' m q1 (hold l j' q2 z) q3
  · obtain ⟨v1, v2, v3, v4, v5⟩ := g m q1 q2
    refine ⟨v1, v2, v3, Nat.le_trans v4 (hle _), ?_⟩
    rw [uI_n (fun z => by
      have z1 := z.1
      have z2 := z.2
      rw [z1, c1] at v4
      omega)]
    exact v5
  · rw [h1] at q1
    exact i3 c (by omega) q2
  · rw [h1] at q2
    by_cases z : c = x
    · subst z
      rw [uN_s, uN_s]
      refine ⟨how.symm, by omega, by rw [uN_s]; exact Nat.le_refl _, ?_⟩
      rw [show k + 1 - 1 = k by omega, uI_s]
    · obtain ⟨v1, v2, v3, v4⟩ := i4 c q1 (by omega)
      rw [uN_n z, uN_n z]
      refine ⟨v1, v2, Nat.le_trans v3 (hle _), ?_⟩
      rw [uI_n (fun y => by
        have z1 := y.1
        have z2 := y.2
        rw [z1, c1] at v3
        omega)]
      exact v4
  · rw [if_neg (show ¬ k + 1 = 0 by omega), h1]
    by_cases z : k = 0
    · rw [if_pos z] at j
      subst z
      have hx0 : sa cur = x := hx
      omega
    · rw [if_neg z] at j
      omega
theorem bi_menu {F : Nat → Nat → Nat → Nat} {B C cur k L : Nat} {sa sb ab pa hm ph cn ow : Nat → Nat} {it : Nat → Nat → Sum Nat Nat} (hF : FO B F) (h : BI F C cur k L sa sb ab pa hm ph cn ow it) {x y : Nat} (hx : xs F (sa cur) (sb cur) k = x) (hxb : x < sb cur) (h1 : xs F (sa cur) (sb cur) (k + 1) = y) (hy : x + 2 ≤ y) : BI F C cur (k + 1) (L + 1) (uN sa L x) (uN sb L y) (uN ab L cur) (uN pa L (k + 1)) hm ph (uN (uN cn cur (k + 1)) L 0) (fun c => if x ≤ c ∧ c < y then L else ow c) (uI it cur k (.inr L)) ∧ L + 1 ≤ 39 := by
  obtain ⟨⟨a1, a2, a3⟩, ⟨b1, b2, b3, b4⟩, ⟨c1, c2, c3⟩, d, e, f, g, ⟨i1, i2, i3, i4⟩, j⟩ := h
  have hlt2 := xs_lt hF (by rw [hx]; exact hxb)
  rw [h1] at hlt2
  have hx0 : sa cur ≤ x := by rw [← hx]; exact (xs_le hF (Nat.le_of_lt (b3 cur a3).1) k).1
  rw [hx] at i3 i4 j
  have hbc := (b3 cur a3).2
  have hspan : ∀ l, l < L → uN sa L x l = sa l ∧ uN sb L y l = sb l := fun l hl => ⟨uN_n (by omega), uN_n (by omega)⟩
  have hcn : ∀ l, l < L → uN (uN cn cur (k + 1)) L 0 l = if l = cur then k + 1 else cn l := fun l hl => by rw [uN_n (by omega)]; rfl
  have hle : ∀ l, l < L → cn l ≤ uN (uN cn cur (k + 1)) L 0 l := fun l hl => by
    rw [hcn l hl]
    by_cases z : l = cur
    · rw [if_pos z, z, c1]; omega
    · rw [if_neg z]; exact Nat.le_refl _
  have hold : ∀ l j, l < L → j < uN (uN cn cur (k + 1)) L 0 l → ¬ (l = cur ∧ j = k) → j < cn l := fun l j hl hj hne => by
    rw [hcn l hl] at hj
    by_cases z : l = cur
    · rw [if_pos z] at hj; rw [z, c1]; omega
    · rw [if_neg z] at hj; exact hj
  have hpot : L + 1 + nsum (fun m => if m ≤ cur then 0 else uN sb L y m - uN sa L x m - 2) (L + 1) + (sb cur - y - 1) ≤ 39 := by
    have e1 : nsum (fun m => if m ≤ cur then 0 else uN sb L y m - uN sa L x m - 2) (L + 1) = nsum (fun m => if m ≤ cur then 0 else sb m - sa m - 2) L + (y - x - 2) := by
      show nsum (fun m => if m ≤ cur then 0 else uN sb L y m - uN sa L x m - 2) L + (if L ≤ cur then 0 else uN sb L y L - uN sa L x L - 2) = _
      rw [uN_s, uN_s, if_neg (by omega), nsum_eq L (g' := fun m => if m ≤ cur then 0 else sb m - sa m - 2) (fun m hm2 => by rw [(hspan m hm2).1, (hspan m hm2).2])]
    rw [e1]
    by_cases z : k = 0
    · rw [if_pos z] at j
      subst z
      have hxa : sa cur = x := hx
      have hy1 : y < sb cur := by
        rw [← h1]
        exact xs_1 hF (by omega)
      omega
    · rw [if_neg z] at j
      omega
  have hsc := hspan cur a3
  refine ⟨⟨⟨a1, a2, by omega⟩, ⟨?_, ?_, fun m q1 => ?_, fun m q1 q2 => ?_⟩, ⟨?_, fun l q1 q2 => ?_, fun l q1 => ?_⟩, fun l j' q1 q2 => ?_, fun l j' c q1 q2 q3 => ?_, fun l j' m q1 q2 q3 => ?_, fun m q1 q2 => ?_, ⟨fun c q1 => ?_, fun m c q1 q2 q3 q4 => ?_, fun c q1 q2 => ?_, fun c q1 q2 => ?_⟩, ?_⟩, by omega⟩
  · rw [(hspan 0 (by omega)).1]; exact b1
  · rw [(hspan 0 (by omega)).2]; exact b2
  · by_cases z : m = L
    · rw [z, uN_s, uN_s]; omega
    · rw [(hspan m (by omega)).1, (hspan m (by omega)).2]; exact b3 m (by omega)
  · by_cases z : m = L
    · rw [z, uN_s, uN_s]; omega
    · rw [(hspan m (by omega)).1, (hspan m (by omega)).2]; exact b4 m q1 (by omega)
  · rw [hcn cur a3, if_pos rfl]
  · by_cases z : l = L
    · rw [z, uN_s]
    · rw [hcn l (by omega), if_neg (by omega)]; exact c2 l q1 (by omega)
  · rw [hcn l (by omega), if_neg (by omega), (hspan l (by omega)).1, (hspan l (by omega)).2]; exact c3 l q1
  · have hl : l < L := by omega
    rw [(hspan l hl).1, (hspan l hl).2]
    by_cases z : l = cur ∧ j' = k
    · obtain ⟨rfl, rfl⟩ := z; rw [hx]; exact hxb
    · exact d l j' q1 (hold l j' hl q2 z)
  · have hl : l < L := by omega
    rw [(hspan l hl).1, (hspan l hl).2]
    by_cases z : l = cur ∧ j' = k
    · obtain ⟨rfl, rfl⟩ := z
      rw [uI_s] at q3
      cases q3
    · rw [uI_n z] at q3
      obtain ⟨v1, v2, v3, v4, v5, v6⟩ := e l j' c q1 (hold l j' hl q2 z) q3
      refine ⟨v1, v2, v3, ?_, v5, v6⟩
      show (if x ≤ c ∧ c < y then L else ow c) = l
      rw [if_neg (fun y2 => ?_)]
      · exact v4
      · have := i3 c y2.1 (by omega)
        have hlc : l = cur := by omega
        subst hlc
        have hj := hold l j' hl q2 z
        rw [c1] at hj
        have hmono : ∀ r s, r ≤ s → xs F (sa l) (sb l) r ≤ xs F (sa l) (sb l) s := by
          intro r s hrs
          induction s with
          | zero => rw [show r = 0 by omega]; exact Nat.le_refl _
          | succ s ihs =>
            by_cases y3 : r = s + 1
            · rw [y3]; exact Nat.le_refl _
            · refine Nat.le_trans (ihs (by omega)) ?_
              show _ ≤ xs F (sa l) (sb l) s + _
              omega
        have := hmono (j' + 1) k (by omega)
        rw [hx] at this
        omega
  · have hl : l < L := by omega
    rw [(hspan l hl).1, (hspan l hl).2]
    by_cases z : l = cur ∧ j' = k
    · obtain ⟨rfl, rfl⟩ := z
      rw [uI_s] at q3
      injection q3 with q3
      subst q3
      rw [uN_s, uN_s, uN_s, uN_s]
      exact ⟨by omega, by omega, rfl, rfl, hx.symm, h1.symm⟩
    · rw [uI_n z] at q3
      obtain ⟨v1, v2, v3, v4, v5, v6⟩ := f l j' m q1 (hold l j' hl q2 z) q3
      rw [(hspan m v2).1, (hspan m v2).2, uN_n (by omega), uN_n (by omega)]
      exact ⟨v1, by omega, v3, v4, v5, v6⟩
  · by_cases z : m = L
    · subst z
      rw [uN_s, uN_s]
      refine ⟨a3, Nat.le_refl _, by omega, ?_, ?_⟩
      · rw [hcn cur a3, if_pos rfl]; exact Nat.le_refl _
      · rw [show k + 1 - 1 = k by omega, uI_s]
    · obtain ⟨v1, v2, v3, v4, v5⟩ := g m q1 (by omega)
      rw [uN_n z, uN_n z]
      refine ⟨v1, v2, v3, Nat.le_trans v4 (hle _ (by omega)), ?_⟩
      rw [uI_n (fun y2 => by
        have z1 := y2.1
        have z2 := y2.2
        rw [z1, c1] at v4
        omega)]
      exact v5
  · show (if x ≤ c ∧ c < y then L else ow c) < L + 1 ∧ uN sa L x (if x ≤ c ∧ c < y then L else ow c) ≤ c ∧ c < uN sb L y (if x ≤ c ∧ c < y then L else ow c)
    by_cases z : x ≤ c ∧ c < y
    · rw [if_pos z, uN_s, uN_s]; exact ⟨by omega, z.1, z.2⟩
    · rw [if_neg z]
      obtain ⟨v1, v2, v3⟩ := i1 c q1
      rw [(hspan _ v1).1, (hspan _ v1).2]
      exact ⟨by omega, v2, v3⟩
  · show (if x ≤ c ∧ c < y then L else ow c) = m
    by_cases z : m = L
    · subst z
      rw [uN_s] at q3 q4
      rw [if_pos ⟨q3, q4⟩]
    · rw [(hspan m (by omega)).1] at q3
      rw [(hspan m (by omega)).2] at q4
      have hm2 := i2 m c q1 (by omega) q3 q4
      rw [if_neg (fun z2 => ?_)]
      · exact hm2
      · have := i3 c z2.1 (by omega)
        omega
  · rw [hsc.1, hsc.2, h1] at q1
    rw [hsc.2] at q2
    show (if x ≤ c ∧ c < y then L else ow c) = cur
    rw [if_neg (by omega)]
    exact i3 c (by omega) q2
  · rw [hsc.1, hsc.2, h1] at q2
    change (if x ≤ c ∧ c < y then L else ow c) < cur ∨ ((if x ≤ c ∧ c < y then L else ow c) = cur ∧ c < y) at q2
    show hm c = (if x ≤ c ∧ c < y then L else ow c) ∧ _
    by_cases z : x ≤ c ∧ c < y
    · rw [if_pos z] at q2; omega
    · rw [if_neg z] at q2 ⊢
      obtain ⟨v1, v2, v3, v4⟩ := i4 c q1 (by omega)
      have hl : hm c < L := by omega
      refine ⟨v1, v2, Nat.le_trans v3 (hle _ hl), ?_⟩
      rw [uI_n (fun y2 => by
        have z1 := y2.1
        have z2 := y2.2
        rw [z1, c1] at v3
        omega)]
      exact v4
  · rw [if_neg (show ¬ k + 1 = 0 by omega), hsc.1, hsc.2, h1]
    exact hpot
theorem nsum_drop {g : Nat → Nat} {cur : Nat} : ∀ L, cur + 1 < L → nsum (fun m => if m ≤ cur then 0 else g m) L = nsum (fun m => if m ≤ cur + 1 then 0 else g m) L + g (cur + 1)
  | 0, h => by omega
  | L + 1, h => by
    show nsum (fun m => if m ≤ cur then 0 else g m) L + (if L ≤ cur then 0 else g L) = nsum (fun m => if m ≤ cur + 1 then 0 else g m) L + (if L ≤ cur + 1 then 0 else g L) + g (cur + 1)
    by_cases e : L = cur + 1
    · subst e
      rw [if_neg (by omega), if_pos (Nat.le_refl _), nsum_zero (cur + 1) (fun m hm2 => if_pos (by omega)), nsum_zero (cur + 1) (fun m hm2 => if_pos (by omega))]
    · rw [nsum_drop L (by omega), if_neg (by omega), if_neg (by omega)]
      omega
theorem bi_next {F : Nat → Nat → Nat → Nat} {B C cur k L : Nat} {sa sb ab pa hm ph cn ow : Nat → Nat} {it : Nat → Nat → Sum Nat Nat} (hF : FO B F) (h : BI F C cur k L sa sb ab pa hm ph cn ow it) (hx : xs F (sa cur) (sb cur) k = sb cur) (hk : k ≤ 9) (hc : cur + 1 < L) : BI F C (cur + 1) 0 L sa sb ab pa hm ph cn ow it := by
  obtain ⟨⟨a1, a2, a3⟩, ⟨b1, b2, b3, b4⟩, ⟨c1, c2, c3⟩, d, e, f, g, ⟨i1, i2, i3, i4⟩, j⟩ := h
  have hk1 : 1 ≤ k := by
    rcases Nat.eq_zero_or_pos k with z | z
    · subst z
      have : sa cur = sb cur := hx
      have := (b3 cur a3).1
      omega
    · exact z
  have hz := c2 (cur + 1) (by omega) hc
  refine ⟨⟨a1, a2, hc⟩, ⟨b1, b2, b3, b4⟩, ⟨hz, fun l q1 q2 => c2 l (by omega) q2, fun l q1 => ?_⟩, fun l j' q1 q2 => ?_, fun l j' c q1 q2 q3 => ?_, fun l j' m q1 q2 q3 => ?_, fun m q1 q2 => ?_, ⟨i1, fun m c q1 q2 q3 q4 => i2 m c (by omega) q2 q3 q4, fun c q1 q2 => i2 (cur + 1) c (by omega) hc q1 q2, fun c q1 q2 => ?_⟩, ?_⟩
  · by_cases z : l = cur
    · subst z; rw [c1]; exact ⟨hk1, hk, hx⟩
    · exact c3 l (by omega)
  · by_cases z : l = cur + 1
    · subst z; omega
    · exact d l j' (by omega) q2
  · by_cases z : l = cur + 1
    · subst z; omega
    · exact e l j' c (by omega) q2 q3
  · by_cases z : l = cur + 1
    · subst z; omega
    · exact f l j' m (by omega) q2 q3
  · obtain ⟨v1, v2, v3, v4, v5⟩ := g m q1 q2
    exact ⟨v1, by omega, v3, v4, v5⟩
  · refine i4 c q1 ?_
    obtain ⟨v1, v2, v3⟩ := i1 c q1
    rcases q2 with q2 | ⟨q2, q3⟩
    · by_cases z : ow c = cur
      · right; rw [hx]; rw [z] at v3; exact ⟨z, v3⟩
      · left; omega
    · rw [q2] at v2
      have : xs F (sa (cur + 1)) (sb (cur + 1)) 0 = sa (cur + 1) := rfl
      omega
  · rw [if_pos rfl]
    have := nsum_drop (g := fun m => sb m - sa m - 2) (cur := cur) L hc
    rw [this] at j
    rw [if_neg (by omega)] at j
    show L + nsum (fun m => if m ≤ cur + 1 then 0 else sb m - sa m - 2) L + (sb (cur + 1) - sa (cur + 1) - 2) ≤ 39
    change L + (nsum (fun m => if m ≤ cur + 1 then 0 else sb m - sa m - 2) L + (sb (cur + 1) - sa (cur + 1) - 2)) + _ ≤ 39 at j
    omega
