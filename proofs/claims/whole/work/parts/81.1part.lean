/-! tell: the tree while it is read -/
def uN (f : Nat → Nat) (k x : Nat) : Nat → Nat := fun j => if j = k then x else f j
def uB (f : Nat → Bool) (k : Nat) (x : Bool) : Nat → Bool := fun j => if j = k then x else f j
def uI (f : Nat → Nat → Sum Nat Nat) (l k : Nat) (x : Sum Nat Nat) : Nat → Nat → Sum Nat Nat := fun a b => if a = l ∧ b = k then x else f a b
theorem uN_s {f : Nat → Nat} {k x : Nat} : uN f k x k = x := if_pos rfl
theorem uN_n {f : Nat → Nat} {k x j : Nat} (h : j ≠ k) : uN f k x j = f j := if_neg h
theorem uB_s {f : Nat → Bool} {k : Nat} {x : Bool} : uB f k x k = x := if_pos rfl
theorem uB_n {f : Nat → Bool} {k j : Nat} {x : Bool} (h : j ≠ k) : uB f k x j = f j := if_neg h
theorem uI_s {f : Nat → Nat → Sum Nat Nat} {l k : Nat} {x : Sum Nat Nat} : uI f l k x l k = x := if_pos ⟨rfl, rfl⟩
theorem uI_n {f : Nat → Nat → Sum Nat Nat} {l k a b : Nat} {x : Sum Nat Nat} (h : ¬ (a = l ∧ b = k)) : uI f l k x a b = f a b := if_neg h
def PA (C D s Ls : Nat) (op cn ab pa hm ph : Nat → Nat) (it : Nat → Nat → Sum Nat Nat) (S : Nat → Bool) : Prop :=
  (1 ≤ D ∧ D ≤ 40 ∧ C ≤ 40 ∧ op 0 = 0)
  ∧ ((∀ i, i < D → op i < Ls) ∧ (∀ i j, i < j → j < D → op i < op j))
  ∧ ((∀ l, l < Ls → cn l ≤ 9) ∧ (∀ l, l < Ls → l ≠ op (D - 1) → 1 ≤ cn l))
  ∧ (∀ l k c, l < Ls → k < cn l → it l k = .inl c → c < C ∧ S c = true ∧ hm c = l ∧ ph c = k + 1)
  ∧ (∀ l k m, l < Ls → k < cn l → it l k = .inr m → 0 < m ∧ m < Ls ∧ ab m = l ∧ pa m = k + 1)
  ∧ (∀ c, c < C → S c = true → hm c < Ls ∧ 1 ≤ ph c ∧ ph c ≤ cn (hm c) ∧ it (hm c) (ph c - 1) = .inl c)
  ∧ (∀ m, 0 < m → m < Ls → ab m < m ∧ 1 ≤ pa m ∧ pa m ≤ cn (ab m) ∧ it (ab m) (pa m - 1) = .inr m)
  ∧ s = nsum (fun c => if S c = true then 1 else 0) C
  ∧ Ls + nsum (fun i => cn (op i)) D + 1 ≤ s + 2 * D
def PC (C D Ls : Nat) (op cn ab pa hm ph : Nat → Nat) (it : Nat → Nat → Sum Nat Nat) (S : Nat → Bool) (og sg sz av pv im hh pp : Nat → Int32) : Prop :=
  (∀ i, i < D → og i = nI (op i)) ∧ (∀ c, c < 40 → sg c = if S c = true then 1 else 0) ∧ (∀ l, l < Ls → sz l = nI (cn l)) ∧ (∀ l k, l < Ls → k < cn l → im (9 * l + k) = enc7 (it l k)) ∧ (∀ m, 0 < m → m < Ls → av m = nI (ab m) ∧ pv m = nI (pa m)) ∧ (av 0 = -1 ∧ pv 0 = 0) ∧ (∀ c, c < C → S c = true → hh c = nI (hm c) ∧ pp c = nI (ph c))
def P8 (D Ls : Nat) (op cn : Nat → Nat) (it : Nat → Nat → Sum Nat Nat) (S : Nat → Bool) (ni nm hs o8 : Nat → Int32) : Prop :=
  (∀ i, i < D → o8 i = nI (op i)) ∧ (∀ c, c < 40 → hs c = if S c = true then 1 else 0) ∧ (∀ l, l < Ls → nm l = nI (cn l)) ∧ (∀ l k, l < Ls → k < cn l → ni (9 * l + k) = enc8 id (it l k))
theorem nsum_ge1 {g : Nat → Nat} : ∀ n, (∀ i, i < n → 1 ≤ g i) → n ≤ nsum g n
  | 0, _ => Nat.le_refl _
  | n + 1, h => by
    have := nsum_ge1 n (fun i hi => h i (by omega))
    have := h n (by omega)
    show n + 1 ≤ nsum g n + g n
    omega
theorem nsum_ind {S : Nat → Bool} : ∀ n, nsum (fun c => if S c = true then 1 else 0) n ≤ n
  | 0 => Nat.le_refl _
  | n + 1 => by
    have := nsum_ind (S := S) n
    show nsum _ n + (if S n = true then 1 else 0) ≤ n + 1
    split <;> omega
theorem nsum_all {S : Nat → Bool} : ∀ n, nsum (fun c => if S c = true then 1 else 0) n = n → ∀ c, c < n → S c = true
  | 0, _, c, hc => by omega
  | n + 1, h, c, hc => by
    change nsum (fun c => if S c = true then 1 else 0) n + (if S n = true then 1 else 0) = n + 1 at h
    have h2 := nsum_ind (S := S) n
    by_cases q : S n = true
    · rw [if_pos q] at h
      by_cases e : c = n
      · rw [e]; exact q
      · exact nsum_all n (by omega) c (by omega)
    · rw [if_neg q] at h
      omega
theorem nsum_set {S : Nat → Bool} {c : Nat} (hS : S c = false) : ∀ n, c < n → nsum (fun x => if uB S c true x = true then 1 else 0) n = nsum (fun x => if S x = true then 1 else 0) n + 1
  | 0, h => by omega
  | n + 1, h => by
    show nsum (fun x => if uB S c true x = true then 1 else 0) n + (if uB S c true n = true then 1 else 0) = nsum (fun x => if S x = true then 1 else 0) n + (if S n = true then 1 else 0) + 1
    by_cases e : c = n
    · subst e
      rw [uB_s, if_pos rfl, hS, if_neg (show ¬ (false = true) by decide)]
      rw [nsum_eq c (g' := fun x => if S x = true then 1 else 0) (fun k hk => by rw [uB_n (by omega)])]
    · rw [nsum_set hS n (by omega), uB_n (by omega)]
      omega
theorem pa_top {C D s Ls : Nat} {op cn ab pa hm ph : Nat → Nat} {it : Nat → Nat → Sum Nat Nat} {S : Nat → Bool} (h : PA C D s Ls op cn ab pa hm ph it S) : op (D - 1) < Ls ∧ Ls ≤ 40 + D ∧ s ≤ 40 ∧ (∀ i, i + 1 < D → op i ≠ op (D - 1)) := by
  obtain ⟨⟨a1, a2, a3, a4⟩, ⟨b1, b2⟩, ⟨c1, c2⟩, d, e, f, g, i, j⟩ := h
  have hs : s ≤ C := by rw [i]; exact nsum_ind C
  have hne : ∀ k, k + 1 < D → op k ≠ op (D - 1) := fun k hk => by
    have := b2 k (D - 1) (by omega) (by omega)
    omega
  refine ⟨b1 _ (by omega), ?_, by omega, hne⟩
  obtain ⟨D', rfl⟩ : ∃ D', D = D' + 1 := ⟨D - 1, by omega⟩
  have h1 : D' ≤ nsum (fun i => cn (op i)) D' := nsum_ge1 D' (fun k hk => c2 _ (b1 k (by omega)) (hne k (by omega)))
  change Ls + (nsum (fun i => cn (op i)) D' + cn (op D')) + 1 ≤ s + 2 * (D' + 1) at j
  omega
theorem nsum_top {op cn : Nat → Nat} {D t x : Nat} (h1 : 1 ≤ D) (ht : op (D - 1) = t) (hne : ∀ i, i + 1 < D → op i ≠ t) : nsum (fun i => uN cn t x (op i)) D + cn t = nsum (fun i => cn (op i)) D + x := by
  obtain ⟨D', rfl⟩ : ∃ D', D = D' + 1 := ⟨D - 1, by omega⟩
  rw [show D' + 1 - 1 = D' by omega] at ht
  show nsum (fun i => uN cn t x (op i)) D' + uN cn t x (op D') + cn t = nsum (fun i => cn (op i)) D' + cn (op D') + x
  rw [ht, uN_s, nsum_eq D' (g' := fun i => cn (op i)) (fun k hk => uN_n (hne k (by omega)))]
  omega
theorem pa_num {C D s Ls : Nat} {op cn ab pa hm ph : Nat → Nat} {it : Nat → Nat → Sum Nat Nat} {S : Nat → Bool} (h : PA C D s Ls op cn ab pa hm ph it S) {c t : Nat} (ht : op (D - 1) = t) (hc : c < C) (hS : S c = false) (hcn : cn t < 9) : PA C D (s + 1) Ls op (uN cn t (cn t + 1)) ab pa (uN hm c t) (uN ph c (cn t + 1)) (uI it t (cn t) (.inl c)) (uB S c true) := by
  obtain ⟨u1, u2, u3, u4⟩ := pa_top h
  obtain ⟨⟨a1, a2, a3, a4⟩, ⟨b1, b2⟩, ⟨c1, c2⟩, d, e, f, g, i, j⟩ := h
  rw [ht] at u1 u4 c2
  have hk : ∀ l, uN cn t (cn t + 1) l ≤ cn l + 1 ∧ cn l ≤ uN cn t (cn t + 1) l ∧ (l ≠ t → uN cn t (cn t + 1) l = cn l) := fun l => by
    by_cases q : l = t
    · subst q; rw [uN_s]; exact ⟨Nat.le_refl _, by omega, fun z => absurd rfl z⟩
    · rw [uN_n q]; exact ⟨by omega, Nat.le_refl _, fun _ => rfl⟩
  refine ⟨⟨a1, a2, a3, a4⟩, ⟨b1, b2⟩, ⟨fun l hl => ?_, fun l hl hne => ?_⟩, fun l k x hl hk2 hi => ?_, fun l k m hl hk2 hi => ?_, fun x hx hSx => ?_, fun m q1 q2 => ?_, ?_, ?_⟩
  · by_cases q : l = t
    · subst q; rw [uN_s]; omega
    · rw [uN_n q]; exact c1 l hl
  · rw [ht] at hne
    rw [uN_n hne]; exact c2 l hl hne
  · by_cases q : l = t ∧ k = cn t
    · obtain ⟨rfl, rfl⟩ := q
      rw [uI_s] at hi
      injection hi with hi
      subst hi
      rw [uB_s, uN_s, uN_s]
      exact ⟨hc, rfl, rfl, rfl⟩
    · rw [uI_n q] at hi
      have hk3 : k < cn l := by
        by_cases z : l = t
        · subst z; rw [uN_s] at hk2; omega
        · rw [uN_n z] at hk2; exact hk2
      obtain ⟨v1, v2, v3, v4⟩ := d l k x hl hk3 hi
      have hxc : x ≠ c := fun z => by subst z; rw [hS] at v2; cases v2
      rw [uB_n hxc, uN_n hxc, uN_n hxc]
      exact ⟨v1, v2, v3, v4⟩
  · by_cases q : l = t ∧ k = cn t
    · obtain ⟨rfl, rfl⟩ := q
      rw [uI_s] at hi
      cases hi
    · rw [uI_n q] at hi
      have hk3 : k < cn l := by
        by_cases z : l = t
        · subst z; rw [uN_s] at hk2; omega
        · rw [uN_n z] at hk2; exact hk2
      exact e l k m hl hk3 hi
  · by_cases q : x = c
    · subst q
      rw [uN_s, uN_s]
      refine ⟨u1, by omega, by rw [uN_s]; exact Nat.le_refl _, ?_⟩
      rw [show cn t + 1 - 1 = cn t by omega, uI_s]
    · rw [uB_n q] at hSx
      obtain ⟨v1, v2, v3, v4⟩ := f x hx hSx
      rw [uN_n q, uN_n q]
      refine ⟨v1, v2, Nat.le_trans v3 (hk _).2.1, ?_⟩
      rw [uI_n (fun z => by
        have z1 := z.1
        have z2 := z.2
        rw [z1] at v3
        omega)]
      exact v4
  · obtain ⟨v1, v2, v3, v4⟩ := g m q1 q2
    refine ⟨v1, v2, Nat.le_trans v3 (hk _).2.1, ?_⟩
    rw [uI_n (fun z => by
      have z1 := z.1
      have z2 := z.2
      rw [z1] at v3
      omega)]
    exact v4
  · rw [nsum_set hS C hc, ← i]
  · have := nsum_top (op := op) (cn := cn) (x := cn t + 1) a1 ht u4
    omega
theorem pa_open {C D s Ls : Nat} {op cn ab pa hm ph : Nat → Nat} {it : Nat → Nat → Sum Nat Nat} {S : Nat → Bool} (h : PA C D s Ls op cn ab pa hm ph it S) {t : Nat} (ht : op (D - 1) = t) (hD : D < 40) (hcn : cn t < 9) : PA C (D + 1) s (Ls + 1) (uN op D Ls) (uN (uN cn t (cn t + 1)) Ls 0) (uN ab Ls t) (uN pa Ls (cn t + 1)) hm ph (uI it t (cn t) (.inr Ls)) S := by
  obtain ⟨u1, u2, u3, u4⟩ := pa_top h
  obtain ⟨⟨a1, a2, a3, a4⟩, ⟨b1, b2⟩, ⟨c1, c2⟩, d, e, f, g, i, j⟩ := h
  rw [ht] at u1 u4 c2
  have hk : ∀ l, l < Ls → uN (uN cn t (cn t + 1)) Ls 0 l = if l = t then cn t + 1 else cn l := fun l hl => by
    rw [uN_n (by omega)]; rfl
  have hk1 : ∀ l, l < Ls → cn l ≤ uN (uN cn t (cn t + 1)) Ls 0 l := fun l hl => by
    rw [hk l hl]
    by_cases z : l = t
    · rw [if_pos z, z]; omega
    · rw [if_neg z]; exact Nat.le_refl _
  refine ⟨⟨by omega, by omega, a3, ?_⟩, ⟨fun k hk2 => ?_, fun k k2 h1 h2 => ?_⟩, ⟨fun l hl => ?_, fun l hl hne => ?_⟩, fun l k x hl hk2 hi => ?_, fun l k m hl hk2 hi => ?_, fun x hx hSx => ?_, fun m q1 q2 => ?_, i, ?_⟩
  · rw [uN_n (by omega)]; exact a4
  · by_cases q : k = D
    · rw [q, uN_s]; omega
    · rw [uN_n q]; have := b1 k (by omega); omega
  · by_cases q : k2 = D
    · rw [q, uN_s, uN_n (by omega)]; exact b1 k (by omega)
    · rw [uN_n q, uN_n (by omega)]; exact b2 k k2 h1 (by omega)
  · by_cases q : l = Ls
    · rw [q, uN_s]; omega
    · rw [hk l (by omega)]
      split
      · omega
      · exact c1 l (by omega)
  · rw [show D + 1 - 1 = D by omega, uN_s] at hne
    rw [hk l (by omega)]
    by_cases z : l = t
    · rw [if_pos z]; omega
    · rw [if_neg z]; exact c2 l (by omega) z
  · by_cases q : l = Ls
    · rw [q, uN_s] at hk2; omega
    · rw [hk l (by omega)] at hk2
      by_cases z : l = t ∧ k = cn t
      · obtain ⟨rfl, rfl⟩ := z
        rw [uI_s] at hi
        cases hi
      · rw [uI_n z] at hi
        have hk3 : k < cn l := by
          by_cases w : l = t
          · rw [if_pos w] at hk2; subst w; omega
          · rw [if_neg w] at hk2; exact hk2
        obtain ⟨v1, v2, v3, v4⟩ := d l k x (by omega) hk3 hi
        exact ⟨v1, v2, v3, v4⟩
  · by_cases q : l = Ls
    · rw [q, uN_s] at hk2; omega
    · rw [hk l (by omega)] at hk2
      by_cases z : l = t ∧ k = cn t
      · obtain ⟨rfl, rfl⟩ := z
        rw [uI_s] at hi
        injection hi with hi
        subst hi
        rw [uN_s, uN_s]
        exact ⟨by omega, by omega, rfl, rfl⟩
      · rw [uI_n z] at hi
        have hk3 : k < cn l := by
          by_cases w : l = t
          · rw [if_pos w] at hk2; subst w; omega
          · rw [if_neg w] at hk2; exact hk2
        obtain ⟨v1, v2, v3, v4⟩ := e l k m (by omega) hk3 hi
        rw [uN_n (by omega), uN_n (by omega)]
        exact ⟨v1, by omega, v3, v4⟩
  · obtain ⟨v1, v2, v3, v4⟩ := f x hx hSx
    refine ⟨by omega, v2, Nat.le_trans v3 (hk1 _ v1), ?_⟩
    rw [uI_n (fun z => by
      have z1 := z.1
      have z2 := z.2
      rw [z1] at v3
      omega)]
    exact v4
  · by_cases q : m = Ls
    · subst q
      rw [uN_s, uN_s]
      refine ⟨u1, by omega, ?_, ?_⟩
      · rw [hk t u1, if_pos rfl]; exact Nat.le_refl _
      · rw [show cn t + 1 - 1 = cn t by omega, uI_s]
    · obtain ⟨v1, v2, v3, v4⟩ := g m q1 (by omega)
      rw [uN_n q, uN_n q]
      refine ⟨v1, v2, Nat.le_trans v3 (hk1 _ (by omega)), ?_⟩
      rw [uI_n (fun z => by
        have z1 := z.1
        have z2 := z.2
        rw [z1] at v3
        omega)]
      exact v4
  · have h1 := nsum_top (op := op) (cn := cn) (x := cn t + 1) a1 ht u4
    have h2 : nsum (fun i => uN (uN cn t (cn t + 1)) Ls 0 (uN op D Ls i)) (D + 1) = nsum (fun i => uN cn t (cn t + 1) (op i)) D := by
      show nsum (fun i => uN (uN cn t (cn t + 1)) Ls 0 (uN op D Ls i)) D + uN (uN cn t (cn t + 1)) Ls 0 (uN op D Ls D) = _
      rw [uN_s, uN_s, Nat.add_zero]
      refine nsum_eq D (fun k hk2 => ?_)
      have := b1 k hk2
      rw [uN_n (show k ≠ D by omega), uN_n (show op k ≠ Ls by omega)]
    omega
theorem pa_close {C D s Ls : Nat} {op cn ab pa hm ph : Nat → Nat} {it : Nat → Nat → Sum Nat Nat} {S : Nat → Bool} (h : PA C D s Ls op cn ab pa hm ph it S) (hD : 2 ≤ D) (hcn : 2 ≤ cn (op (D - 1))) : PA C (D - 1) s Ls op cn ab pa hm ph it S := by
  obtain ⟨u1, u2, u3, u4⟩ := pa_top h
  obtain ⟨⟨a1, a2, a3, a4⟩, ⟨b1, b2⟩, ⟨c1, c2⟩, d, e, f, g, i, j⟩ := h
  refine ⟨⟨by omega, by omega, a3, a4⟩, ⟨fun k hk => b1 k (by omega), fun k k2 h1 h2 => b2 k k2 h1 (by omega)⟩, ⟨c1, fun l hl hne => ?_⟩, d, e, f, g, i, ?_⟩
  · by_cases q : l = op (D - 1)
    · rw [q]; omega
    · exact c2 l hl q
  · obtain ⟨D', rfl⟩ : ∃ D', D = D' + 1 := ⟨D - 1, by omega⟩
    change Ls + (nsum (fun i => cn (op i)) D' + cn (op D')) + 1 ≤ s + 2 * (D' + 1) at j
    rw [show D' + 1 - 1 = D' by omega] at hcn ⊢
    omega
theorem pa_end {C s Ls : Nat} {op cn ab pa hm ph : Nat → Nat} {it : Nat → Nat → Sum Nat Nat} {S : Nat → Bool} (h : PA C 1 s Ls op cn ab pa hm ph it S) (hcn : 1 ≤ cn 0) (hs : C ≤ s) : AT Ls C ab pa hm ph cn it := by
  obtain ⟨u1, u2, u3, u4⟩ := pa_top h
  obtain ⟨⟨a1, a2, a3, a4⟩, ⟨b1, b2⟩, ⟨c1, c2⟩, d, e, f, g, i, j⟩ := h
  rw [show (1 : Nat) - 1 = 0 from rfl, a4] at c2 u1
  have hall : ∀ c, c < C → S c = true := nsum_all C (by
    have := nsum_ind (S := S) C
    omega)
  change Ls + (0 + cn (op 0)) + 1 ≤ s + 2 * 1 at j
  rw [a4] at j
  refine ⟨by omega, by omega, a3, fun l hl => ⟨?_, c1 l hl⟩, fun l k c hl hk hi => ?_, e, fun c hc => f c hc (hall c hc), g⟩
  · by_cases q : l = 0
    · rw [q]; exact hcn
    · exact c2 l hl q
  · obtain ⟨v1, v2, v3, v4⟩ := d l k c hl hk hi
    exact ⟨v1, v3, v4⟩
