/-! free: sets of commands as numbers -/
def pc : Nat → Nat → Nat
  | 0, _ => 0
  | k + 1, u => u % 2 + pc k (u / 2)
theorem bit_and (a b : Nat) : (a &&& b) % 2 = (a % 2) &&& (b % 2) ∧ (a &&& b) / 2 = (a / 2) &&& (b / 2) := by
  have h1 : (a &&& b) % 2 ^ 1 = (a % 2 ^ 1) &&& (b % 2 ^ 1) := Nat.and_mod_two_pow
  have h2 : (a &&& b) / 2 ^ 1 = (a / 2 ^ 1) &&& (b / 2 ^ 1) := Nat.and_div_two_pow
  exact ⟨h1, h2⟩
theorem bit_xor (a b : Nat) : (a ^^^ b) % 2 = (a % 2) ^^^ (b % 2) ∧ (a ^^^ b) / 2 = (a / 2) ^^^ (b / 2) := by
  have h1 : (a ^^^ b) % 2 ^ 1 = (a % 2 ^ 1) ^^^ (b % 2 ^ 1) := Nat.xor_mod_two_pow
  have h2 : (a ^^^ b) / 2 ^ 1 = (a / 2 ^ 1) ^^^ (b / 2 ^ 1) := Nat.xor_div_two_pow
  exact ⟨h1, h2⟩
theorem bb_and : ∀ a, a < 2 → ∀ b, b < 2 → a &&& b = a → (b ^^^ a) + a = b := by decide
theorem sub_xor : ∀ (k s t : Nat), s < 2 ^ k → t < 2 ^ k → t &&& s = t → (s ^^^ t) + t = s ∧ pc k (s ^^^ t) + pc k t = pc k s
  | 0, s, t, h1, h2, _ => by
    have e1 : s = 0 := by rw [Nat.pow_zero] at h1; omega
    have e2 : t = 0 := by rw [Nat.pow_zero] at h2; omega
    subst e1; subst e2
    exact ⟨rfl, rfl⟩
  | k + 1, s, t, h1, h2, h => by
    rw [Nat.pow_succ] at h1 h2
    obtain ⟨a1, a2⟩ := bit_and t s
    obtain ⟨x1, x2⟩ := bit_xor s t
    rw [h] at a1 a2
    obtain ⟨i1, i2⟩ := sub_xor k (s / 2) (t / 2) (by omega) (by omega) a2.symm
    have b1 := bb_and (t % 2) (Nat.mod_lt _ (by decide)) (s % 2) (Nat.mod_lt _ (by decide)) a1.symm
    rw [← x1] at b1
    rw [← x2] at i1
    refine ⟨by omega, ?_⟩
    show (s ^^^ t) % 2 + pc k ((s ^^^ t) / 2) + (t % 2 + pc k (t / 2)) = s % 2 + pc k (s / 2)
    rw [x2]
    omega
theorem pc_pos : ∀ (k u : Nat), 0 < u → u < 2 ^ k → 1 ≤ pc k u
  | 0, u, h1, h2 => by rw [Nat.pow_zero] at h2; omega
  | k + 1, u, h1, h2 => by
    rw [Nat.pow_succ] at h2
    show 1 ≤ u % 2 + pc k (u / 2)
    by_cases e : u % 2 = 0
    · have := pc_pos k (u / 2) (by omega) (by omega)
      omega
    · omega
/-- the next smaller set within s -/
def nx (s t : Nat) : Nat := (t - 1) &&& s
theorem nx_sub {s t : Nat} : nx s t &&& s = nx s t := by
  unfold nx
  rw [Nat.and_assoc, Nat.and_self]
theorem nx_lt {s t : Nat} (h : 0 < t) : nx s t < t := by
  unfold nx
  have := Nat.and_le_left (n := t - 1) (m := s)
  omega
theorem nx_top : ∀ s, s < 1024 → 2 ≤ pc 10 s → 0 < nx s s := by decide +kernel
theorem pc_one : ∀ s, s < 1024 → 0 < s → (pc 10 s ≤ 1 ↔ nx s s = 0) := by decide +kernel
theorem pc_bs : ∀ s, s < 1024 → bsum s 24 = pc 10 s := by decide +kernel
/-- min over t and the smaller sets within s, from b on -/
def fm (g : Nat → Nat) (s : Nat) : Nat → Nat → Nat → Nat
  | 0, _, b => b
  | f + 1, t, b => if t = 0 then b else fm g s f (nx s t) (min b (g t))
theorem fm_0 {g : Nat → Nat} {s b : Nat} : ∀ f, fm g s f 0 b = b
  | 0 => rfl
  | f + 1 => if_pos rfl
theorem fm_s {g : Nat → Nat} {s t b f : Nat} (h : 0 < t) : fm g s (f + 1) t b = fm g s f (nx s t) (min b (g t)) := if_neg (by omega)
theorem fm_fuel {g : Nat → Nat} {s : Nat} : ∀ (f f' t b : Nat), t ≤ f → t ≤ f' → fm g s f t b = fm g s f' t b := by
  intro f
  induction f with
  | zero =>
    intro f' t b h1 h2
    have e : t = 0 := by omega
    subst e
    rw [fm_0, fm_0]
  | succ f ih =>
    intro f' t b h1 h2
    by_cases e : t = 0
    · subst e; rw [fm_0, fm_0]
    · obtain ⟨f', rfl⟩ : ∃ k, f' = k + 1 := ⟨f' - 1, by omega⟩
      have := nx_lt (s := s) (t := t) (by omega)
      rw [fm_s (by omega), fm_s (by omega)]
      exact ih f' _ _ (by omega) (by omega)
theorem fm_eq {g g' : Nat → Nat} {s : Nat} (h : ∀ t, 0 < t → t < s → t &&& s = t → g t = g' t) : ∀ (f t b : Nat), t < s → t &&& s = t → fm g s f t b = fm g' s f t b := by
  intro f
  induction f with
  | zero => intro t b _ _; rfl
  | succ f ih =>
    intro t b h1 h2
    by_cases e : t = 0
    · subst e; rw [fm_0, fm_0]
    · have := nx_lt (s := s) (t := t) (by omega)
      rw [fm_s (by omega), fm_s (by omega), h t (by omega) h1 h2]
      exact ih _ _ (by omega) nx_sub
theorem fm_add {g : Nat → Nat} {s a : Nat} : ∀ (f t b : Nat), fm (fun t => a + g t) s f t (a + b) = a + fm g s f t b := by
  intro f
  induction f with
  | zero => intro t b; rfl
  | succ f ih =>
    intro t b
    by_cases e : t = 0
    · subst e; rw [fm_0, fm_0]
    · rw [fm_s (by omega), fm_s (by omega), show min (a + b) (a + g t) = a + min b (g t) by omega]
      exact ih _ _
theorem fm_le {g : Nat → Nat} {s : Nat} : ∀ (f t b : Nat), fm g s f t b ≤ b
  | 0, t, b => Nat.le_refl _
  | f + 1, t, b => by
    by_cases e : t = 0
    · subst e; rw [fm_0]; exact Nat.le_refl _
    · rw [fm_s (by omega)]
      exact Nat.le_trans (fm_le f _ _) (Nat.min_le_left _ _)
theorem fm_min {g : Nat → Nat} {s c : Nat} : ∀ (f t b : Nat), fm g s f t (min b c) = min (fm g s f t b) c
  | 0, t, b => rfl
  | f + 1, t, b => by
    by_cases e : t = 0
    · subst e; rw [fm_0, fm_0]
    · rw [fm_s (by omega), fm_s (by omega), ← fm_min f, show min (min b c) (g t) = min (min b (g t)) c by omega]
/-- the table of sets: q = 0 as an item, q > 0 as what is left of a list in q items at most -/
def sspl (T : Nat → Nat → Nat) (s q : Nat) : Nat := fm (fun t => T t 0 + T (s ^^^ t) (q - 1)) s 1024 (nx s (nx s s)) (T (nx s s) 0 + T (s ^^^ nx s s) (q - 1))
def sitm (w : Nat → Nat) (lk dn B : Nat) (T : Nat → Nat → Nat) (s : Nat) : Nat := if pc 10 s ≤ 1 then 0 else w s * lk + sspl T s B + w s * dn
def sst (w : Nat → Nat) (lk dn B : Nat) (T : Nat → Nat → Nat) (s q : Nat) : Nat := if q = 0 then sitm w lk dn B T s else w s * lk + (if pc 10 s ≤ 1 ∨ q = 1 then sitm w lk dn B T s else min (sitm w lk dn B T s) (sspl T s q))
def sTT (w : Nat → Nat) (lk dn B : Nat) : Nat → Nat → Nat → Nat
  | 0 => fun _ _ => 0
  | N + 1 => fun s q => if s = N then sst w lk dn B (sTT w lk dn B N) s q else sTT w lk dn B N s q
def sV (w : Nat → Nat) (lk dn B s q : Nat) : Nat := sTT w lk dn B (s + 1) s q
theorem sTT_V {w : Nat → Nat} {lk dn B s q : Nat} : ∀ N, s < N → sTT w lk dn B N s q = sV w lk dn B s q
  | 0, h => by omega
  | N + 1, h => by
    by_cases e : s = N
    · subst e; rfl
    · show (if s = N then _ else sTT w lk dn B N s q) = _
      rw [if_neg e]
      exact sTT_V N (by omega)
theorem sub_lt {s t : Nat} (hs : s < 1024) (h0 : 0 < t) (h1 : t < s) (h2 : t &&& s = t) : 0 < s ^^^ t ∧ s ^^^ t < s ∧ pc 10 (s ^^^ t) + 1 ≤ pc 10 s ∧ pc 10 (s ^^^ t) + pc 10 t = pc 10 s := by
  obtain ⟨a, b⟩ := sub_xor 10 s t (show s < 1024 from hs) (show t < 1024 by omega) h2
  have := pc_pos 10 t h0 (show t < 1024 by omega)
  omega
theorem sspl_eq {T T' : Nat → Nat → Nat} {s q : Nat} (hs : s < 1024) (h2 : 2 ≤ pc 10 s) (h : ∀ u x, u < s → T u x = T' u x) : sspl T s q = sspl T' s q := by
  have p1 := nx_top s hs h2
  have p2 : nx s s < s := nx_lt (by
    rcases Nat.eq_zero_or_pos s with z | z
    · subst z
      have : pc 10 0 = 0 := by decide
      omega
    · exact z)
  have hx := (sub_lt hs p1 p2 nx_sub).2.1
  unfold sspl
  rw [h _ 0 p2, h _ (q - 1) hx]
  exact fm_eq (fun t a b c => by rw [h t 0 b, h _ (q - 1) (sub_lt hs a b c).2.1]) 1024 _ _ (by have := nx_lt (s := s) p1; omega) nx_sub
theorem sitm_V {w : Nat → Nat} {lk dn B s : Nat} (hs : s < 1024) : sitm w lk dn B (sTT w lk dn B s) s = sitm w lk dn B (sV w lk dn B) s := by
  unfold sitm
  by_cases h : pc 10 s ≤ 1
  · rw [if_pos h, if_pos h]
  · rw [if_neg h, if_neg h, sspl_eq hs (by omega) (fun u x hu => sTT_V s hu)]
theorem sV_eq {w : Nat → Nat} {lk dn B s q : Nat} (hs : s < 1024) : sV w lk dn B s q = sst w lk dn B (sV w lk dn B) s q := by
  show (if s = s then sst w lk dn B (sTT w lk dn B s) s q else _) = _
  rw [if_pos rfl]
  unfold sst
  rw [sitm_V hs]
  by_cases h0 : q = 0
  · rw [if_pos h0, if_pos h0]
  · rw [if_neg h0, if_neg h0]
    by_cases h : pc 10 s ≤ 1 ∨ q = 1
    · rw [if_pos h, if_pos h]
    · rw [if_neg h, if_neg h, sspl_eq hs (by omega) (fun u x hu => sTT_V s hu)]
theorem sV_item1 {w : Nat → Nat} {lk dn B s : Nat} (hs : s < 1024) (h : pc 10 s ≤ 1) : sV w lk dn B s 0 = 0 := by
  rw [sV_eq hs]
  unfold sst sitm
  rw [if_pos rfl, if_pos h]
theorem sV_item {w : Nat → Nat} {lk dn B s : Nat} (hs : s < 1024) (h : 2 ≤ pc 10 s) : sV w lk dn B s 0 = w s * lk + sspl (sV w lk dn B) s B + w s * dn := by
  rw [sV_eq hs]
  unfold sst sitm
  rw [if_pos rfl, if_neg (by omega)]
theorem sV_rest1 {w : Nat → Nat} {lk dn B s q : Nat} (hs : s < 1024) (hq : 1 ≤ q) (h : pc 10 s ≤ 1 ∨ q = 1) : sV w lk dn B s q = w s * lk + sV w lk dn B s 0 := by
  rw [sV_eq hs (q := q), sV_eq hs (q := 0)]
  unfold sst
  rw [if_neg (by omega), if_pos h, if_pos rfl]
theorem sV_rest {w : Nat → Nat} {lk dn B s q : Nat} (hs : s < 1024) (hq : 2 ≤ q) (h : 2 ≤ pc 10 s) : sV w lk dn B s q = w s * lk + min (sV w lk dn B s 0) (sspl (sV w lk dn B) s q) := by
  rw [sV_eq hs (q := q), sV_eq hs (q := 0)]
  unfold sst
  rw [if_neg (by omega), if_neg (by omega), if_pos rfl]
theorem sV_restle {w : Nat → Nat} {lk dn B s q : Nat} (hs : s < 1024) (hq : 1 ≤ q) : sV w lk dn B s q ≤ w s * lk + sV w lk dn B s 0 := by
  by_cases h : pc 10 s ≤ 1 ∨ q = 1
  · rw [sV_rest1 hs hq h]; exact Nat.le_refl _
  · rw [sV_rest hs (by omega) (by omega)]
    exact Nat.add_le_add_left (Nat.min_le_left _ _) _
/-- more items than commands are of no use -/
theorem sV_stab {w : Nat → Nat} {lk dn B : Nat} : ∀ (n s q r : Nat), s ≤ n → 0 < s → s < 1024 → pc 10 s ≤ q → pc 10 s ≤ r → sV w lk dn B s q = sV w lk dn B s r ∧ (2 ≤ pc 10 s → sspl (sV w lk dn B) s q = sspl (sV w lk dn B) s r) := by
  intro n
  induction n with
  | zero => intro s q r h1 h2; omega
  | succ n ih =>
    intro s q r h1 h2 hs h3 h4
    have hp := pc_pos 10 s h2 hs
    have hspl : 2 ≤ pc 10 s → sspl (sV w lk dn B) s q = sspl (sV w lk dn B) s r := by
      intro hp2
      have p1 := nx_top s hs hp2
      have p2 : nx s s < s := nx_lt h2
      have hx := sub_lt hs p1 p2 nx_sub
      unfold sspl
      rw [(ih (s ^^^ nx s s) (q - 1) (r - 1) (by omega) hx.1 (by omega) (by omega) (by omega)).1]
      refine fm_eq (fun t a b c => ?_) 1024 _ _ (by have := nx_lt (s := s) p1; omega) nx_sub
      have ht := sub_lt hs a b c
      show _ + sV w lk dn B (s ^^^ t) (q - 1) = _ + sV w lk dn B (s ^^^ t) (r - 1)
      rw [(ih (s ^^^ t) (q - 1) (r - 1) (by omega) ht.1 (by omega) (by omega) (by omega)).1]
    refine ⟨?_, hspl⟩
    by_cases h : pc 10 s ≤ 1
    · rw [sV_rest1 (q := q) hs (by omega) (.inl h), sV_rest1 (q := r) hs (by omega) (.inl h)]
    · rw [sV_rest (q := q) hs (by omega) (by omega), sV_rest (q := r) hs (by omega) (by omega), hspl (by omega)]
theorem sV_bd {w : Nat → Nat} {lk dn B : Nat} (hw : ∀ s, w s ≤ 100000) (hl : lk ≤ 100) (hd : dn ≤ 100) (hB : 2 ≤ B) : ∀ (n s : Nat), s ≤ n → 0 < s → s < 1024 → sV w lk dn B s 0 + 30000000 ≤ pc 10 s * 30000000 := by
  intro n
  induction n with
  | zero => intro s h1 h0; omega
  | succ n ih =>
    intro s h1 h0 hs
    have hp := pc_pos 10 s h0 hs
    by_cases h : pc 10 s ≤ 1
    · rw [sV_item1 hs h, show pc 10 s = 1 by omega]
      decide
    · have p1 := nx_top s hs (by omega)
      have p2 : nx s s < s := nx_lt h0
      have hx := sub_lt hs p1 p2 nx_sub
      rw [sV_item hs (by omega)]
      have h2 : sspl (sV w lk dn B) s B ≤ sV w lk dn B (nx s s) 0 + sV w lk dn B (s ^^^ nx s s) (B - 1) := fm_le _ _ _
      have h3 := sV_restle (w := w) (lk := lk) (dn := dn) (B := B) (s := s ^^^ nx s s) (q := B - 1) (by omega) (by omega)
      have h4 := ih (nx s s) (by omega) p1 (by omega)
      have h5 := ih (s ^^^ nx s s) (by omega) hx.1 (by omega)
      have q1 : w s * lk ≤ 100000 * 100 := Nat.mul_le_mul (hw s) hl
      have q2 : w s * dn ≤ 100000 * 100 := Nat.mul_le_mul (hw s) hd
      have q3 : w (s ^^^ nx s s) * lk ≤ 100000 * 100 := Nat.mul_le_mul (hw _) hl
      have hsum := hx.2.2.2
      have e1 : pc 10 s * 30000000 = pc 10 (s ^^^ nx s s) * 30000000 + pc 10 (nx s s) * 30000000 := by
        rw [← hsum, Nat.add_mul]
      omega
theorem pc_le10 : ∀ s, s < 1024 → pc 10 s ≤ 10 := by decide +kernel
theorem sV_bdr {w : Nat → Nat} {lk dn B : Nat} (hw : ∀ s, w s ≤ 100000) (hl : lk ≤ 100) (hd : dn ≤ 100) (hB : 2 ≤ B) {s q : Nat} (hs : s < 1024) : sV w lk dn B s q < 2 ^ 40 := by
  have h1 : sV w lk dn B s 0 ≤ pc 10 s * 30000000 := by
    rcases Nat.eq_zero_or_pos s with z | z
    · rw [sV_item1 hs (by rw [z]; decide)]; exact Nat.zero_le _
    · have := sV_bd hw hl hd hB s s (Nat.le_refl _) z hs; omega
  have h2 := pc_le10 s hs
  have h3 : pc 10 s * 30000000 ≤ 10 * 30000000 := Nat.mul_le_mul_right _ (by omega)
  have q1 : w s * lk ≤ 100000 * 100 := Nat.mul_le_mul (hw s) hl
  rcases Nat.eq_zero_or_pos q with e | e
  · subst e; omega
  · have := sV_restle (w := w) (lk := lk) (dn := dn) (B := B) (s := s) (q := q) hs e
    omega
