/-! plan: the table of spans as numbers -/
def mnu (g : Nat → Nat) : Nat → Nat
  | 0 => g 1
  | m + 1 => min (mnu g m) (g (m + 2))
theorem mnu_eq {g g' : Nat → Nat} : ∀ m, (∀ c, 1 ≤ c → c ≤ m + 1 → g c = g' c) → mnu g m = mnu g' m
  | 0, h => h 1 (by decide) (by decide)
  | m + 1, h => by
    show min (mnu g m) (g (m + 2)) = min (mnu g' m) (g' (m + 2))
    rw [mnu_eq m (fun c a b => h c a (by omega)), h (m + 2) (by omega) (by omega)]
theorem mnu_le {g : Nat → Nat} : ∀ m c, 1 ≤ c → c ≤ m + 1 → mnu g m ≤ g c
  | 0, c, a, b => by
    have e : c = 1 := by omega
    subst e; exact Nat.le_refl _
  | m + 1, c, a, b => by
    show min (mnu g m) (g (m + 2)) ≤ g c
    by_cases e : c = m + 2
    · subst e; exact Nat.min_le_right _ _
    · exact Nat.le_trans (Nat.min_le_left _ _) (mnu_le m c a (by omega))
theorem mnu_at {g : Nat → Nat} : ∀ m, ∃ c, 1 ≤ c ∧ c ≤ m + 1 ∧ mnu g m = g c
  | 0 => ⟨1, by decide, by decide, rfl⟩
  | m + 1 => by
    obtain ⟨c, a, b, e⟩ := mnu_at (g := g) m
    by_cases q : mnu g m ≤ g (m + 2)
    · exact ⟨c, a, by omega, by show min (mnu g m) (g (m + 2)) = _; rw [Nat.min_eq_left q, e]⟩
    · exact ⟨m + 2, by omega, by omega, by show min (mnu g m) (g (m + 2)) = _; exact Nat.min_eq_right (by omega)⟩
def dspl (T : Nat → Nat → Nat → Nat) (n i q : Nat) : Nat := mnu (fun c => T c i 0 + T (n - c) (i + c) (q - 1)) (n - 2)
def ditm (w : Nat → Nat → Nat) (lk dn B : Nat) (T : Nat → Nat → Nat → Nat) (n i : Nat) : Nat := if n ≤ 1 then 0 else w n i * lk * 64 + dspl T n i B + w n i * dn * 64 + 1
def dst (w : Nat → Nat → Nat) (lk dn B : Nat) (T : Nat → Nat → Nat → Nat) (n i q : Nat) : Nat := if q = 0 then ditm w lk dn B T n i else w n i * lk * 64 + (if n ≤ 1 ∨ q = 1 then ditm w lk dn B T n i else min (ditm w lk dn B T n i) (dspl T n i q))
def dTT (w : Nat → Nat → Nat) (lk dn B : Nat) : Nat → Nat → Nat → Nat → Nat
  | 0 => fun _ _ _ => 0
  | N + 1 => fun n i q => if n = N then dst w lk dn B (dTT w lk dn B N) n i q else dTT w lk dn B N n i q
def dV (w : Nat → Nat → Nat) (lk dn B n i q : Nat) : Nat := dTT w lk dn B (n + 1) n i q
theorem dTT_V {w : Nat → Nat → Nat} {lk dn B : Nat} {n i q : Nat} : ∀ N, n < N → dTT w lk dn B N n i q = dV w lk dn B n i q
  | 0, h => by omega
  | N + 1, h => by
    by_cases e : n = N
    · subst e; rfl
    · show (if n = N then _ else dTT w lk dn B N n i q) = _
      rw [if_neg e]
      exact dTT_V N (by omega)
theorem dspl_V {w : Nat → Nat → Nat} {lk dn B n i q : Nat} (h : 2 ≤ n) : dspl (dTT w lk dn B n) n i q = dspl (dV w lk dn B) n i q := by
  unfold dspl
  refine mnu_eq (n - 2) (fun c a b => ?_)
  rw [dTT_V n (by omega), dTT_V n (by omega)]
theorem ditm_V {w : Nat → Nat → Nat} {lk dn B n i : Nat} : ditm w lk dn B (dTT w lk dn B n) n i = ditm w lk dn B (dV w lk dn B) n i := by
  unfold ditm
  by_cases h : n ≤ 1
  · rw [if_pos h, if_pos h]
  · rw [if_neg h, if_neg h, dspl_V (by omega)]
theorem dV_eq {w : Nat → Nat → Nat} {lk dn B n i q : Nat} : dV w lk dn B n i q = dst w lk dn B (dV w lk dn B) n i q := by
  show (if n = n then dst w lk dn B (dTT w lk dn B n) n i q else _) = _
  rw [if_pos rfl]
  unfold dst
  rw [ditm_V]
  by_cases h0 : q = 0
  · rw [if_pos h0, if_pos h0]
  · rw [if_neg h0, if_neg h0]
    by_cases h : n ≤ 1 ∨ q = 1
    · rw [if_pos h, if_pos h]
    · rw [if_neg h, if_neg h, dspl_V (by omega)]
theorem dV_item1 {w : Nat → Nat → Nat} {lk dn B n i : Nat} (h : n ≤ 1) : dV w lk dn B n i 0 = 0 := by
  rw [dV_eq]
  unfold dst ditm
  rw [if_pos rfl, if_pos h]
theorem dV_item {w : Nat → Nat → Nat} {lk dn B n i : Nat} (h : 2 ≤ n) : dV w lk dn B n i 0 = w n i * lk * 64 + dspl (dV w lk dn B) n i B + w n i * dn * 64 + 1 := by
  rw [dV_eq]
  unfold dst ditm
  rw [if_pos rfl, if_neg (by omega)]
theorem dV_rest1 {w : Nat → Nat → Nat} {lk dn B n i q : Nat} (hq : 1 ≤ q) (h : n ≤ 1 ∨ q = 1) : dV w lk dn B n i q = w n i * lk * 64 + dV w lk dn B n i 0 := by
  rw [dV_eq (q := q), dV_eq (q := 0)]
  unfold dst
  rw [if_neg (by omega), if_pos h, if_pos rfl]
theorem dV_rest {w : Nat → Nat → Nat} {lk dn B n i q : Nat} (hq : 2 ≤ q) (h : 2 ≤ n) : dV w lk dn B n i q = w n i * lk * 64 + min (dV w lk dn B n i 0) (dspl (dV w lk dn B) n i q) := by
  rw [dV_eq (q := q), dV_eq (q := 0)]
  unfold dst
  rw [if_neg (by omega), if_neg (by omega), if_pos rfl]
theorem dV_restle {w : Nat → Nat → Nat} {lk dn B n i q : Nat} (hq : 1 ≤ q) : dV w lk dn B n i q ≤ w n i * lk * 64 + dV w lk dn B n i 0 := by
  by_cases h : n ≤ 1 ∨ q = 1
  · rw [dV_rest1 hq h]; exact Nat.le_refl _
  · rw [dV_rest (by omega) (by omega)]
    exact Nat.add_le_add_left (Nat.min_le_left _ _) _
theorem pay_le {a b : Nat} (ha : a ≤ 400000) (hb : b ≤ 100) : a * b * 64 ≤ 2560000000 := by
  have h1 : a * b ≤ 400000 * 100 := Nat.mul_le_mul ha hb
  omega
theorem dV_bd {w : Nat → Nat → Nat} {lk dn B : Nat} (hw : ∀ n i, w n i ≤ 400000) (hl : lk ≤ 100) (hd : dn ≤ 100) (hB : 2 ≤ B) : ∀ (m n i : Nat), n ≤ m → dV w lk dn B n i 0 ≤ n * 7680000001
  | 0, n, i, h => by
    rw [dV_item1 (by omega)]; exact Nat.zero_le _
  | m + 1, n, i, h => by
    by_cases q : n ≤ 1
    · rw [dV_item1 q]; exact Nat.zero_le _
    · rw [dV_item (by omega)]
      have h1 : dspl (dV w lk dn B) n i B ≤ dV w lk dn B 1 i 0 + dV w lk dn B (n - 1) (i + 1) (B - 1) := mnu_le (g := fun c => dV w lk dn B c i 0 + dV w lk dn B (n - c) (i + c) (B - 1)) (n - 2) 1 (by decide) (by omega)
      have h2 := dV_restle (w := w) (lk := lk) (dn := dn) (B := B) (n := n - 1) (i := i + 1) (q := B - 1) (by omega)
      have h3 := dV_bd hw hl hd hB m (n - 1) (i + 1) (by omega)
      rw [dV_item1 (Nat.le_refl 1)] at h1
      have p1 := pay_le (hw n i) hl
      have p2 := pay_le (hw n i) hd
      have p3 := pay_le (hw (n - 1) (i + 1)) hl
      obtain ⟨n', rfl⟩ : ∃ n', n = n' + 1 := ⟨n - 1, by omega⟩
      rw [show n' + 1 - 1 = n' by omega] at h1 h2 h3 p3
      rw [Nat.add_mul, Nat.one_mul]
      omega
theorem dV_bdr {w : Nat → Nat → Nat} {lk dn B : Nat} (hw : ∀ n i, w n i ≤ 400000) (hl : lk ≤ 100) (hd : dn ≤ 100) (hB : 2 ≤ B) {n i q : Nat} (hn : n ≤ 40) : dV w lk dn B n i q < 2 ^ 40 := by
  have h1 := dV_bd hw hl hd hB n n i (Nat.le_refl _)
  have p1 := pay_le (hw n i) hl
  have h2 : n * 7680000001 ≤ 40 * 7680000001 := Nat.mul_le_mul_right _ hn
  rcases Nat.eq_zero_or_pos q with e | e
  · subst e; omega
  · have := dV_restle (w := w) (lk := lk) (dn := dn) (B := B) (n := n) (i := i) (q := q) e
    omega
theorem dspl_bd {w : Nat → Nat → Nat} {lk dn B : Nat} (hw : ∀ n i, w n i ≤ 400000) (hl : lk ≤ 100) (hd : dn ≤ 100) (hB : 2 ≤ B) {n i q : Nat} (hn : n ≤ 40) : dspl (dV w lk dn B) n i q < 2 ^ 42 := by
  obtain ⟨c, a, b, e⟩ := mnu_at (g := fun c => dV w lk dn B c i 0 + dV w lk dn B (n - c) (i + c) (q - 1)) (n - 2)
  unfold dspl
  rw [e]
  have h1 := dV_bdr hw hl hd hB (n := c) (i := i) (q := 0) (by
    rcases Nat.lt_or_ge n 2 with z | z
    · omega
    · omega)
  have h2 := dV_bdr hw hl hd hB (n := n - c) (i := i + c) (q := q - 1) (by omega)
  show dV w lk dn B c i 0 + dV w lk dn B (n - c) (i + c) (q - 1) < 2 ^ 42
  omega
