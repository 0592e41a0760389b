/-! the items of a tree, counted; the text of a tree and its length -/
def nsum (g : Nat → Nat) : Nat → Nat
  | 0 => 0
  | n + 1 => nsum g n + g n
theorem nsum_zero {g : Nat → Nat} : ∀ (n : Nat), (∀ k, k < n → g k = 0) → nsum g n = 0
  | 0, _ => rfl
  | n + 1, h => by
    show nsum g n + g n = 0
    rw [nsum_zero n (fun k hk => h k (by omega)), h n (by omega)]
theorem nsum_one {g : Nat → Nat} {k0 : Nat} : ∀ (n : Nat), k0 < n → (∀ k, k < n → k ≠ k0 → g k = 0) → nsum g n = g k0
  | 0, h, _ => by omega
  | n + 1, h, hz => by
    show nsum g n + g n = g k0
    by_cases e : k0 = n
    · subst e
      rw [nsum_zero k0 (fun k hk => hz k (by omega) (by omega)), Nat.zero_add]
    · rw [nsum_one n (by omega) (fun k hk hne => hz k (by omega) hne), hz n (by omega) (fun q => e q.symm), Nat.add_zero]
theorem nsum_eq {g g' : Nat → Nat} : ∀ (n : Nat), (∀ k, k < n → g k = g' k) → nsum g n = nsum g' n
  | 0, _ => rfl
  | n + 1, h => by
    show nsum g n + g n = nsum g' n + g' n
    rw [nsum_eq n (fun k hk => h k (by omega)), h n (by omega)]
theorem nsum_le {g g' : Nat → Nat} : ∀ (n : Nat), (∀ k, k < n → g k ≤ g' k) → nsum g n ≤ nsum g' n
  | 0, _ => Nat.le_refl _
  | n + 1, h => by
    show nsum g n + g n ≤ nsum g' n + g' n
    have := nsum_le n (fun k hk => h k (by omega))
    have := h n (by omega)
    omega
theorem nsum_mono {g : Nat → Nat} {a : Nat} : ∀ (b : Nat), a ≤ b → nsum g a ≤ nsum g b
  | 0, h => by
    have e : a = 0 := by omega
    subst e; exact Nat.le_refl _
  | b + 1, h => by
    by_cases e : a = b + 1
    · subst e; exact Nat.le_refl _
    · have := nsum_mono (g := g) (a := a) b (by omega)
      show _ ≤ nsum g b + g b
      omega
theorem nsum_add {g g' : Nat → Nat} : ∀ (n : Nat), nsum (fun k => g k + g' k) n = nsum g n + nsum g' n
  | 0 => rfl
  | n + 1 => by
    show nsum (fun k => g k + g' k) n + (g n + g' n) = (nsum g n + g n) + (nsum g' n + g' n)
    rw [nsum_add n]
    omega
theorem nsum_swap {e : Nat → Nat → Nat} {C : Nat} : ∀ (n : Nat), nsum (fun k => nsum (fun c => e k c) C) n = nsum (fun c => nsum (fun k => e k c) n) C
  | 0 => (nsum_zero (g := fun c => nsum (fun k => e k c) 0) C (fun c _ => rfl)).symm
  | n + 1 => by
    show nsum (fun k => nsum (fun c => e k c) C) n + nsum (fun c => e n c) C = nsum (fun c => nsum (fun k => e k c) n + e n c) C
    rw [nsum_swap n, nsum_add]
/-- each command and each list but the first stands at one place -/
theorem tree_count {L C : Nat} {ab pa hm ph cn : Nat → Nat} {it : Nat → Nat → Sum Nat Nat} (h : AT L C ab pa hm ph cn it) (f : Sum Nat Nat → Nat) : nsum (fun l => nsum (fun k => f (it l k)) (cn l)) L = nsum (fun c => f (.inl c)) C + nsum (fun m => if m = 0 then 0 else f (.inr m)) L := by
  obtain ⟨h1, h2, h3, h4, h5, h6, h7, h8⟩ := h
  -- rows are cut at nine places, so that the two sums change places
  have e1 : ∀ l, l < L → nsum (fun k => f (it l k)) (cn l) = nsum (fun k => if k < cn l then f (it l k) else 0) 9 := by
    intro l hl
    have h9 := (h4 l hl).2
    have : ∀ n, cn l ≤ n → nsum (fun k => if k < cn l then f (it l k) else 0) n = nsum (fun k => f (it l k)) (cn l) := by
      intro n
      induction n with
      | zero =>
        intro q
        have e : cn l = 0 := by omega
        rw [e]; rfl
      | succ n ih =>
        intro q
        by_cases e : cn l = n + 1
        · rw [e]
          exact nsum_eq (n + 1) (fun k hk => if_pos hk)
        · show nsum (fun k => if k < cn l then f (it l k) else 0) n + (if n < cn l then f (it l n) else 0) = _
          rw [ih (by omega), if_neg (by omega), Nat.add_zero]
    exact (this 9 h9).symm
  have e2 : ∀ l, l < L → ∀ k, k < 9 → (if k < cn l then f (it l k) else 0) = nsum (fun c => if k < cn l ∧ it l k = .inl c then f (.inl c) else 0) C + nsum (fun m => if k < cn l ∧ it l k = .inr m then f (.inr m) else 0) L := by
    intro l hl k hk
    by_cases q : k < cn l
    · rw [if_pos q]
      cases hi : it l k with
      | inl d =>
        have hd := (h5 l k d hl q hi).1
        rw [nsum_one (k0 := d) C hd (fun c hc hne => if_neg (fun z => hne (by injection z.2 with z2; exact z2.symm))), nsum_zero L (fun m hm => if_neg (fun z => by cases z.2)), if_pos ⟨q, rfl⟩]
        rfl
      | inr m =>
        have hm2 := (h6 l k m hl q hi).2.1
        rw [nsum_one (k0 := m) L hm2 (fun c hc hne => if_neg (fun z => hne (by injection z.2 with z2; exact z2.symm))), nsum_zero C (fun m hm => if_neg (fun z => by cases z.2)), if_pos ⟨q, rfl⟩, Nat.zero_add]
    · rw [if_neg q, nsum_zero C (fun c hc => if_neg (fun z => q z.1)), nsum_zero L (fun c hc => if_neg (fun z => q z.1))]
  rw [nsum_eq L (fun l hl => (e1 l hl).trans (nsum_eq 9 (e2 l hl)))]
  have e3 : ∀ l, l < L → nsum (fun k => nsum (fun c => if k < cn l ∧ it l k = .inl c then f (.inl c) else 0) C + nsum (fun m => if k < cn l ∧ it l k = .inr m then f (.inr m) else 0) L) 9 = nsum (fun c => nsum (fun k => if k < cn l ∧ it l k = .inl c then f (.inl c) else 0) 9) C + nsum (fun m => nsum (fun k => if k < cn l ∧ it l k = .inr m then f (.inr m) else 0) 9) L := by
    intro l hl
    rw [nsum_add]
    congr 1
    · exact nsum_swap (e := fun k c => if k < cn l ∧ it l k = .inl c then f (.inl c) else 0) 9
    · exact nsum_swap (e := fun k m => if k < cn l ∧ it l k = .inr m then f (.inr m) else 0) 9
  rw [nsum_eq L e3, nsum_add]
  have e4 := nsum_swap (e := fun l c => nsum (fun k => if k < cn l ∧ it l k = .inl c then f (.inl c) else 0) 9) (C := C) L
  have e5 := nsum_swap (e := fun l m => nsum (fun k => if k < cn l ∧ it l k = .inr m then f (.inr m) else 0) 9) (C := L) L
  rw [e4, e5]
  congr 1
  · refine nsum_eq C (fun c hc => ?_)
    obtain ⟨u1, u2, u3, u4⟩ := h7 c hc
    have h9 := (h4 (hm c) u1).2
    rw [nsum_one (k0 := hm c) L u1 (fun l hl hne => nsum_zero 9 (fun k hk => if_neg (fun z => hne (h5 l k c hl z.1 z.2).2.1.symm))), nsum_one (k0 := ph c - 1) 9 (by omega) (fun k hk hne => if_neg (fun z => by have := (h5 _ k c u1 z.1 z.2).2.2; omega)), if_pos ⟨by omega, u4⟩]
  · refine nsum_eq L (fun m hm2 => ?_)
    by_cases e : m = 0
    · rw [if_pos e, nsum_zero L (fun l hl => nsum_zero 9 (fun k hk => if_neg (fun z => by have := (h6 l k m hl z.1 z.2).1; omega)))]
    · rw [if_neg e]
      obtain ⟨u1, u2, u3, u4⟩ := h8 m (by omega) hm2
      have hl2 : ab m < L := by omega
      have h9 := (h4 (ab m) hl2).2
      rw [nsum_one (k0 := ab m) L hl2 (fun l hl hne => nsum_zero 9 (fun k hk => if_neg (fun z => hne (h6 l k m hl z.1 z.2).2.2.1.symm))), nsum_one (k0 := pa m - 1) 9 (by omega) (fun k hk hne => if_neg (fun z => by have := (h6 _ k m hl2 z.1 z.2).2.2.2; omega)), if_pos ⟨by omega, u4⟩]
/-- the text of a list behind its bracket; nu: how a command is told, sp: what stands between two items -/
def itx (nu : Nat → List Int32) (rc : Nat → List Int32) : Sum Nat Nat → List Int32
  | .inl c => nu c
  | .inr m => 40 :: rc m
def tlr (nu : Nat → List Int32) (sp : List Int32) (rc : Nat → List Int32) (it : Nat → Nat → Sum Nat Nat) (l : Nat) : Nat → Nat → List Int32
  | 0, _ => [41]
  | r + 1, k => (if k = 0 then [] else sp) ++ (itx nu rc (it l k) ++ tlr nu sp rc it l r (k + 1))
def txl (nu : Nat → List Int32) (sp : List Int32) (it : Nat → Nat → Sum Nat Nat) (cn : Nat → Nat) : Nat → Nat → List Int32
  | 0, _ => []
  | d + 1, l => tlr nu sp (txl nu sp it cn d) it l (cn l) 0
def TX (nu : Nat → List Int32) (sp : List Int32) (it : Nat → Nat → Sum Nat Nat) (cn : Nat → Nat) (L l : Nat) : List Int32 := txl nu sp it cn (L - l) l
theorem tlr_eq {nu : Nat → List Int32} {sp : List Int32} {rc rc' : Nat → List Int32} {it : Nat → Nat → Sum Nat Nat} {l : Nat} : ∀ (r k : Nat), (∀ j m, k ≤ j → j < k + r → it l j = .inr m → rc m = rc' m) → tlr nu sp rc it l r k = tlr nu sp rc' it l r k
  | 0, _, _ => rfl
  | r + 1, k, h => by
    show (if k = 0 then [] else sp) ++ (itx nu rc (it l k) ++ tlr nu sp rc it l r (k + 1)) = (if k = 0 then [] else sp) ++ (itx nu rc' (it l k) ++ tlr nu sp rc' it l r (k + 1))
    rw [tlr_eq r (k + 1) (fun j m q1 q2 q3 => h j m (by omega) (by omega) q3)]
    congr 2
    cases hi : it l k with
    | inl c => rfl
    | inr m =>
      show 40 :: rc m = 40 :: rc' m
      rw [h k m (Nat.le_refl _) (by omega) hi]
theorem txl_eq {L C : Nat} {ab pa hm ph cn : Nat → Nat} {it : Nat → Nat → Sum Nat Nat} (h : AT L C ab pa hm ph cn it) {nu : Nat → List Int32} {sp : List Int32} : ∀ (d e l : Nat), l < L → L ≤ d + l → L ≤ e + l → txl nu sp it cn d l = txl nu sp it cn e l := by
  obtain ⟨h1, h2, h3, h4, h5, h6, h7, h8⟩ := h
  intro d
  induction d with
  | zero => intro e l q1 q2; omega
  | succ d ih =>
    intro e l q1 q2 q3
    obtain ⟨e, rfl⟩ : ∃ k, e = k + 1 := ⟨e - 1, by omega⟩
    refine tlr_eq (cn l) 0 (fun j m z1 z2 z3 => ?_)
    obtain ⟨y1, y2, y3, y4⟩ := h6 l j m q1 (by omega) z3
    have := (h8 m y1 y2).1
    exact ih e m y2 (by omega) (by omega)
theorem TX_eq {L C : Nat} {ab pa hm ph cn : Nat → Nat} {it : Nat → Nat → Sum Nat Nat} (h : AT L C ab pa hm ph cn it) {nu : Nat → List Int32} {sp : List Int32} {l : Nat} (hl : l < L) : TX nu sp it cn L l = tlr nu sp (TX nu sp it cn L) it l (cn l) 0 := by
  have h0 := h
  obtain ⟨h1, h2, h3, h4, h5, h6, h7, h8⟩ := h
  unfold TX
  obtain ⟨e, he⟩ : ∃ k, L - l = k + 1 := ⟨L - l - 1, by omega⟩
  rw [he]
  refine tlr_eq (cn l) 0 (fun j m z1 z2 z3 => ?_)
  obtain ⟨y1, y2, y3, y4⟩ := h6 l j m hl (by omega) z3
  have := (h8 m y1 y2).1
  exact txl_eq h0 e (L - m) m y2 (by omega) (by omega)
theorem tlr_len {nu : Nat → List Int32} {sp : List Int32} {rc : Nat → List Int32} {it : Nat → Nat → Sum Nat Nat} {l : Nat} : ∀ (r k : Nat), (tlr nu sp rc it l r k).length + nsum (fun j => (itx nu rc (it l j)).length) k + (k - 1) * sp.length = 1 + nsum (fun j => (itx nu rc (it l j)).length) (k + r) + (k + r - 1) * sp.length
  | 0, k => by
    simp [tlr]
  | r + 1, k => by
    have ih := tlr_len (nu := nu) (sp := sp) (rc := rc) (it := it) (l := l) r (k + 1)
    rw [show k + 1 + r = k + (r + 1) by omega] at ih
    have e : nsum (fun j => (itx nu rc (it l j)).length) (k + 1) = nsum (fun j => (itx nu rc (it l j)).length) k + (itx nu rc (it l k)).length := rfl
    rw [e] at ih
    have e2 : (tlr nu sp rc it l (r + 1) k).length = (if k = 0 then [] else sp).length + ((itx nu rc (it l k)).length + (tlr nu sp rc it l r (k + 1)).length) := by
      show ((if k = 0 then [] else sp) ++ (itx nu rc (it l k) ++ tlr nu sp rc it l r (k + 1))).length = _
      rw [List.length_append, List.length_append]
    rw [e2, ← ih]
    by_cases q : k = 0
    · subst q
      simp
      omega
    · rw [if_neg q]
      obtain ⟨k1, rfl⟩ : ∃ k1, k = k1 + 1 := ⟨k - 1, by omega⟩
      simp only [Nat.add_sub_cancel]
      rw [Nat.add_mul, Nat.one_mul]
      omega
theorem TX_len {L C : Nat} {ab pa hm ph cn : Nat → Nat} {it : Nat → Nat → Sum Nat Nat} (h : AT L C ab pa hm ph cn it) {nu : Nat → List Int32} {sp : List Int32} {l : Nat} (hl : l < L) : (TX nu sp it cn L l).length = 1 + nsum (fun j => (itx nu (TX nu sp it cn L) (it l j)).length) (cn l) + (cn l - 1) * sp.length := by
  rw [TX_eq h hl]
  have := tlr_len (nu := nu) (sp := sp) (rc := TX nu sp it cn L) (it := it) (l := l) (cn l) 0
  simp only [Nat.zero_add, Nat.zero_sub, Nat.zero_mul, Nat.add_zero] at this
  exact this
theorem nsum_const {a : Nat} : ∀ n, nsum (fun _ => a) n = n * a
  | 0 => by simp [nsum]
  | n + 1 => by
    show nsum (fun _ => a) n + a = _
    rw [nsum_const n, Nat.add_mul, Nat.one_mul]
theorem nsum_split0 {g : Nat → Nat} : ∀ n, 0 < n → nsum g n = g 0 + nsum (fun m => if m = 0 then 0 else g m) n
  | 0, h => by omega
  | 1, _ => by simp [nsum]
  | n + 2, _ => by
    have ih := nsum_split0 (g := g) (n + 1) (by omega)
    show nsum g (n + 1) + g (n + 1) = g 0 + (nsum (fun m => if m = 0 then 0 else g m) (n + 1) + (if n + 1 = 0 then 0 else g (n + 1)))
    rw [ih, if_neg (by omega)]
    omega
theorem nsum_mulr {g : Nat → Nat} {a : Nat} : ∀ n, nsum (fun k => g k * a) n = nsum g n * a
  | 0 => by simp [nsum]
  | n + 1 => by
    show nsum (fun k => g k * a) n + g n * a = (nsum g n + g n) * a
    rw [nsum_mulr n, Nat.add_mul]
theorem cn_total {L C : Nat} {ab pa hm ph cn : Nat → Nat} {it : Nat → Nat → Sum Nat Nat} (h : AT L C ab pa hm ph cn it) : nsum cn L + 1 = C + L := by
  have h1 := tree_count h (fun _ => 1)
  rw [nsum_const] at h1
  have e : nsum (fun l => nsum (fun _ => 1) (cn l)) L = nsum cn L := nsum_eq L (fun l _ => by rw [nsum_const, Nat.mul_one])
  rw [e] at h1
  have h2 := nsum_split0 (g := fun _ => 1) L h.1
  rw [nsum_const] at h2
  omega
theorem TX_total {L C : Nat} {ab pa hm ph cn : Nat → Nat} {it : Nat → Nat → Sum Nat Nat} (h : AT L C ab pa hm ph cn it) {nu : Nat → List Int32} {sp : List Int32} : (TX nu sp it cn L 0).length + 1 + sp.length = 2 * L + C * sp.length + nsum (fun c => (nu c).length) C := by
  have h1 := h.1
  have a := tree_count h (fun x => (itx nu (TX nu sp it cn L) x).length)
  have b : nsum (fun l => (TX nu sp it cn L l).length) L = nsum (fun l => (1 + (cn l - 1) * sp.length) + nsum (fun j => (itx nu (TX nu sp it cn L) (it l j)).length) (cn l)) L := nsum_eq L (fun l hl => by rw [TX_len h hl]; omega)
  rw [nsum_add, nsum_add, nsum_const, nsum_mulr, a, nsum_split0 L h1] at b
  have c : nsum (fun l => cn l - 1) L + L = nsum cn L := by
    have := nsum_add (g := fun l => cn l - 1) (g' := fun _ => 1) L
    rw [nsum_const, Nat.mul_one] at this
    rw [← this]
    exact nsum_eq L (fun l hl => by have := (h.2.2.2.1 l hl).1; omega)
  have d := cn_total h
  have e : nsum (fun m => if m = 0 then 0 else (itx nu (TX nu sp it cn L) (.inr m)).length) L = nsum (fun m => if m = 0 then 0 else (TX nu sp it cn L m).length) L + (L - 1) := by
    have e1 := nsum_split0 (g := fun _ => 1) L h1
    rw [nsum_const, Nat.mul_one] at e1
    have e2 := nsum_add (g := fun m => if m = 0 then 0 else (TX nu sp it cn L m).length) (g' := fun m => if m = 0 then 0 else 1) L
    rw [show L - 1 = nsum (fun m => if m = 0 then 0 else 1) L by omega, ← e2]
    refine nsum_eq L (fun m hm2 => ?_)
    by_cases q : m = 0
    · rw [if_pos q, if_pos q, if_pos q]
    · rw [if_neg q, if_neg q, if_neg q]
      rfl
  rw [e] at b
  have f : nsum (fun c => (itx nu (TX nu sp it cn L) (.inl c)).length) C = nsum (fun c => (nu c).length) C := rfl
  rw [f] at b
  have g : nsum (fun l => cn l - 1) L + 1 = C := by omega
  have g2 : C * sp.length = nsum (fun l => cn l - 1) L * sp.length + sp.length := by
    have g3 : (nsum (fun l => cn l - 1) L + 1) * sp.length = C * sp.length := by rw [g]
    rw [← g3, Nat.add_mul, Nat.one_mul]
  omega
