/-! plan: first cuts -/
theorem fct_rng {g : Nat → Nat} {v : Nat} : ∀ (r s : Nat), s ≤ fct g v s r ∧ fct g v s r ≤ s + r
  | 0, s => ⟨Nat.le_refl _, Nat.le_refl _⟩
  | r + 1, s => by
    show s ≤ (if g s = v then s else fct g v (s + 1) r) ∧ (if g s = v then s else fct g v (s + 1) r) ≤ s + (r + 1)
    have := fct_rng (g := g) (v := v) r (s + 1)
    split <;> omega
theorem fct_lt {g : Nat → Nat} {v t : Nat} : ∀ (r s : Nat), s ≤ t → t < s + r → g t = v → fct g v s r ≤ t
  | 0, s, h1, h2, _ => by omega
  | r + 1, s, h1, h2, h3 => by
    show (if g s = v then s else fct g v (s + 1) r) ≤ t
    by_cases e : g s = v
    · rw [if_pos e]; exact h1
    · rw [if_neg e]
      have : s ≠ t := fun z => e (by rw [z]; exact h3)
      exact fct_lt r (s + 1) (by omega) (by omega) h3
theorem dF_rng {cv : Nat → Nat} {lk dn B n i p : Nat} (hn : 1 ≤ n) : 1 ≤ dF cv lk dn B n i p ∧ dF cv lk dn B n i p ≤ n := by
  unfold dF
  split
  · omega
  · have := fct_rng (g := dG cv lk dn B n i p) (v := if p = 1 then dspl (dV (ww cv) lk dn B) n i B else min (dV (ww cv) lk dn B n i 0) (dspl (dV (ww cv) lk dn B) n i (B - p + 1))) (n - 1) 1
    omega
theorem dF_0 {cv : Nat → Nat} {lk dn B i p : Nat} : dF cv lk dn B 0 i p = 0 := by
  unfold dF
  rw [if_pos (by omega)]
theorem dF_B {cv : Nat → Nat} {lk dn B n i : Nat} : dF cv lk dn B n i B = n := by
  unfold dF
  rw [if_pos (.inl rfl)]
theorem dF_1lt {cv : Nat → Nat} {lk dn B n i : Nat} (hB : 2 ≤ B) (hn : 2 ≤ n) : dF cv lk dn B n i 1 < n := by
  unfold dF
  rw [if_neg (by omega), if_pos rfl]
  obtain ⟨c, a, b, e⟩ := mnu_at (g := dG cv lk dn B n i 1) (n - 2)
  have hd2 : dspl (dV (ww cv) lk dn B) n i B = mnu (dG cv lk dn B n i 1) (n - 2) := by
    have := dspl_G (cv := cv) (lk := lk) (dn := dn) (B := B) (n := n) (i := i) (p := 1) (by decide) (by omega)
    rw [show B - 1 + 1 = B by omega] at this
    exact this
  have := fct_lt (g := dG cv lk dn B n i 1) (v := dspl (dV (ww cv) lk dn B) n i B) (t := c) (n - 1) 1 a (by omega) (by rw [hd2, e])
  omega
theorem fc44_s {ai : Nat → Int64} {ar : Nat → Nat → Int64} (n : Nat) : f_X3_firstCut_L44 ai ar (n + 1) = f_X3_firstCut_L44_F ai ar (f_X3_firstCut_L44 ai ar n) := rfl
theorem lN_inj {a b : Nat} (ha : a < 2 ^ 63) (hb : b < 2 ^ 63) (h : lN a = lN b) : a = b := by
  have a1 : lN a ≤ lN b := by rw [h]; exact Int64.le_refl _
  have a2 : lN b ≤ lN a := by rw [h]; exact Int64.le_refl _
  have b1 := (pk_lLE ha hb).mp a1
  have b2 := (pk_lLE hb ha).mp a2
  omega
theorem fc44 {cv : Nat → Nat} {lk dn B N : Nat} (hw : ∀ n i, ww cv n i ≤ 400000) (hl : lk ≤ 100) (hd : dn ≤ 100) (hB2 : 2 ≤ B) (hB : B ≤ 9) (hN : N ≤ 40) {ai : Nat → Int64} {ar : Nat → Nat → Int64} {n i p v : Nat} (hv : VB cv lk dn B N n ai ar) (hn : 2 ≤ n) (hi : i + n ≤ N) (hp : 1 ≤ p) (hpB : p < B) (hvb : v < 2 ^ 63) : ∀ (r s f : Nat), 1 ≤ s → s + r = n → r < f → f_X3_firstCut_L44 ai ar f (nI i) (nI (i + n)) (nI (B - p + 1)) (lN v) (nI (i + s)) = some (nI (i + fct (dG cv lk dn B n i p) v s r)) := by
  intro r
  induction r with
  | zero =>
    intro s f h1 h2 h3
    obtain ⟨f, rfl⟩ : ∃ k, f = k + 1 := ⟨f - 1, by omega⟩
    rw [fc44_s]
    unfold f_X3_firstCut_L44_F
    rw [if_pos (nI_le (by omega) (by omega)), show s = n by omega]
    rfl
  | succ r ih =>
    intro s f h1 h2 h3
    obtain ⟨f, rfl⟩ : ∃ k, f = k + 1 := ⟨f - 1, by omega⟩
    have b2 := dV_bdr hw hl hd hB2 (n := s) (i := i) (q := 0) (by omega)
    have b3 := dV_bdr hw hl hd hB2 (n := n - s) (i := i + s) (q := B - p) (by omega)
    rw [fc44_s]
    unfold f_X3_firstCut_L44_F
    rw [if_neg (nI_ge (by omega) (by omega)), sa7 hw hl hd hB2 hB hN hv h1 (by omega) hi (by omega) (by omega)]
    dsimp only [ob]
    rw [show B - p + 1 - 1 = B - p by omega]
    show _ = some (nI (i + (if dG cv lk dn B n i p s = v then s else fct (dG cv lk dn B n i p) v (s + 1) r)))
    by_cases e : dG cv lk dn B n i p s = v
    · rw [if_pos e]
      unfold dG at e
      rw [e, if_pos rfl]
    · rw [if_neg e]
      unfold dG at e
      rw [if_neg (fun z => e (lN_inj (by omega) hvb z)), nI_1]
      exact ih (s + 1) f (by omega) (by omega) (by omega)
theorem fc7 {cv : Nat → Nat} {lk dn B N : Nat} (hw : ∀ n i, ww cv n i ≤ 400000) (hl : lk ≤ 100) (hd : dn ≤ 100) (hB2 : 2 ≤ B) (hB : B ≤ 9) (hN : N ≤ 40) {be ai : Nat → Int64} {ar : Nat → Nat → Int64} {se : Nat → Int32} {n i p : Nat} (hk : KS cv lk dn B N be ai ar) (hs0 : se 0 = nI lk) (hn : 2 ≤ n) (hi : i + n ≤ N) (hp : 1 ≤ p) (hpB : p < B) : f_X3_firstCut be ai ar se (nI i) (nI (i + n)) (nI (B - p + 1)) (if p = 1 then 1 else 0) = some (nI (i + dF cv lk dn B n i p)) := by
  have hv : VB cv lk dn B N n ai ar := fun n' i' a b c => hk.2 n' i' a (by omega) c
  have b1 := dV_bdr hw hl hd hB2 (n := n) (i := i) (q := 0) (by omega)
  have b2 := dspl_bd hw hl hd hB2 (n := n) (i := i) (q := B - p + 1) (by omega)
  have b3 := dspl_bd hw hl hd hB2 (n := n) (i := i) (q := B) (by omega)
  unfold f_X3_firstCut f_X3_firstCut_L37 dF
  rw [if_neg (show ¬ (p = B ∨ n ≤ 1) by omega)]
  by_cases e : p = 1
  · subst e
    rw [if_pos rfl, if_neg (show ¬ (1 : Int32) = 0 by decide), show B - 1 + 1 = B by omega, ls7 hw hl hd hB2 hB hN hv hn hi hB2 (Nat.le_refl _)]
    dsimp only [ob]
    rw [nI_1, if_pos rfl]
    have := fc44 hw hl hd hB2 hB hN hv hn hi hp hpB (v := dspl (dV (ww cv) lk dn B) n i B) (by omega) (n - 1) 1 FU (by decide) (by omega) (show n - 1 < 100000 by omega)
    rw [show B - 1 + 1 = B by omega] at this
    exact this
  · rw [if_neg e, if_pos rfl, gi_nI (by omega) (by decide), ix41, gi_nI (by omega) (by decide), lpay7 hN hi hk.1 hs0 hl, nI_clamp (by omega), nI_clamp (by omega), (hk.2 n i (by omega) (by omega) hi).2 (B - p + 1) (by omega) (by omega)]
    dsimp only [ob]
    rw [dV_rest (by omega) hn, lN_sub (by omega), nI_1, if_neg e, Nat.add_sub_cancel_left]
    exact fc44 hw hl hd hB2 hB hN hv hn hi hp hpB (by omega) (n - 1) 1 FU (by decide) (by omega) (show n - 1 < 100000 by omega)
/-- where the items of the list from a to b begin -/
def xs (F : Nat → Nat → Nat → Nat) (a b : Nat) : Nat → Nat
  | 0 => a
  | k + 1 => xs F a b k + F (b - xs F a b k) (xs F a b k) (k + 1)
def FO (B : Nat) (F : Nat → Nat → Nat → Nat) : Prop := (∀ n i p, 1 ≤ n → 1 ≤ F n i p ∧ F n i p ≤ n) ∧ (∀ i p, F 0 i p = 0) ∧ (∀ n i, F n i B = n) ∧ (∀ n i, 2 ≤ n → F n i 1 < n)
theorem FO_dF {cv : Nat → Nat} {lk dn B : Nat} (hB : 2 ≤ B) : FO B (dF cv lk dn B) := ⟨fun _ _ _ h => dF_rng h, fun _ _ => dF_0, fun _ _ => dF_B, fun _ _ h => dF_1lt hB h⟩
theorem xs_le {B : Nat} {F : Nat → Nat → Nat → Nat} (h : FO B F) {a b : Nat} (hab : a ≤ b) : ∀ k, a ≤ xs F a b k ∧ xs F a b k ≤ b
  | 0 => ⟨Nat.le_refl _, hab⟩
  | k + 1 => by
    have ih := xs_le h hab k
    show a ≤ xs F a b k + F (b - xs F a b k) (xs F a b k) (k + 1) ∧ xs F a b k + F (b - xs F a b k) (xs F a b k) (k + 1) ≤ b
    rcases Nat.eq_zero_or_pos (b - xs F a b k) with e | e
    · rw [e, h.2.1]; omega
    · have := h.1 (b - xs F a b k) (xs F a b k) (k + 1) e
      omega
theorem xs_lt {B : Nat} {F : Nat → Nat → Nat → Nat} (h : FO B F) {a b k : Nat} (hk : xs F a b k < b) : xs F a b k < xs F a b (k + 1) ∧ xs F a b (k + 1) ≤ b := by
  show xs F a b k < xs F a b k + F (b - xs F a b k) (xs F a b k) (k + 1) ∧ xs F a b k + F (b - xs F a b k) (xs F a b k) (k + 1) ≤ b
  have := h.1 (b - xs F a b k) (xs F a b k) (k + 1) (by omega)
  omega
theorem xs_B {B : Nat} {F : Nat → Nat → Nat → Nat} (h : FO B F) (hB : 1 ≤ B) {a b : Nat} (hab : a ≤ b) : xs F a b B = b := by
  obtain ⟨k, rfl⟩ : ∃ k, B = k + 1 := ⟨B - 1, by omega⟩
  have := xs_le h hab k
  show xs F a b k + F (b - xs F a b k) (xs F a b k) (k + 1) = b
  rw [h.2.2.1]
  omega
theorem xs_1 {B : Nat} {F : Nat → Nat → Nat → Nat} (h : FO B F) {a b : Nat} (hab : a + 2 ≤ b) : xs F a b 1 < b := by
  show a + F (b - a) a 1 < b
  have := h.2.2.2 (b - a) a (by omega)
  omega
