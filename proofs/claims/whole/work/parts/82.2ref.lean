/-! plan: the reference's table of spans -/
def fct (g : Nat → Nat) (v : Nat) : Nat → Nat → Nat
  | s, 0 => s
  | s, r + 1 => if g s = v then s else fct g v (s + 1) r
theorem fct_spec {g : Nat → Nat} {v F : Nat} : ∀ (r s : Nat), s ≤ F → F ≤ s + r → (∀ t, s ≤ t → t < F → g t ≠ v) → (F < s + r → g F = v) → fct g v s r = F
  | 0, s, h1, h2, _, _ => by
    show s = F
    omega
  | r + 1, s, h1, h2, h3, h4 => by
    show (if g s = v then s else fct g v (s + 1) r) = F
    by_cases e : s = F
    · subst e
      rw [if_pos (h4 (by omega))]
    · rw [if_neg (h3 s (Nat.le_refl _) (by omega))]
      exact fct_spec r (s + 1) (by omega) (by omega) (fun t a b => h3 t (by omega) b) (fun z => h4 (by omega))
/-- both costs and menus of the best of a span from place p on, in one number -/
def dE (cv : Nat → Nat) (lk dn B n i p : Nat) : Nat := if p = 1 then ww cv n i * lk * 64 + (if n ≤ 1 then 0 else dspl (dV (ww cv) lk dn B) n i B) else dV (ww cv) lk dn B n i (B - p + 1) + ww cv n i * lk * 64 * (p - 1)
def dG (cv : Nat → Nat) (lk dn B n i p s : Nat) : Nat := dV (ww cv) lk dn B s i 0 + dV (ww cv) lk dn B (n - s) (i + s) (B - p)
/-- the first item's commands -/
def dF (cv : Nat → Nat) (lk dn B n i p : Nat) : Nat := if p = B ∨ n ≤ 1 then n else fct (dG cv lk dn B n i p) (if p = 1 then dspl (dV (ww cv) lk dn B) n i B else min (dV (ww cv) lk dn B n i 0) (dspl (dV (ww cv) lk dn B) n i (B - p + 1))) 1 (n - 1)
def dC (cv : Nat → Nat) (lk dn B n i p s : Nat) : Nat := ww cv n i * lk * 64 * p + (if s = n then dV (ww cv) lk dn B n i 0 else dG cv lk dn B n i p s)
theorem mnu_add {g : Nat → Nat} {a : Nat} : ∀ m, mnu (fun c => a + g c) m = a + mnu g m
  | 0 => rfl
  | m + 1 => by
    show min (mnu (fun c => a + g c) m) (a + g (m + 2)) = a + min (mnu g m) (g (m + 2))
    rw [mnu_add m]
    omega
theorem dspl_G {cv : Nat → Nat} {lk dn B n i p : Nat} (hp : 1 ≤ p) (hpB : p < B) : dspl (dV (ww cv) lk dn B) n i (B - p + 1) = mnu (dG cv lk dn B n i p) (n - 2) := by
  unfold dspl dG
  rw [show B - p + 1 - 1 = B - p by omega]
theorem mnu_C {cv : Nat → Nat} {lk dn B n i p : Nat} (hn : 2 ≤ n) : mnu (dC cv lk dn B n i p) (n - 2) = ww cv n i * lk * 64 * p + mnu (dG cv lk dn B n i p) (n - 2) := by
  rw [← mnu_add]
  refine mnu_eq (n - 2) (fun c a b => ?_)
  unfold dC
  rw [if_neg (by omega)]
theorem dE_1 {cv : Nat → Nat} {lk dn B n i : Nat} (hB : 2 ≤ B) (hn : 2 ≤ n) : dE cv lk dn B n i 1 = mnu (dC cv lk dn B n i 1) (n - 2) := by
  rw [mnu_C hn]
  unfold dE
  rw [if_pos rfl, if_neg (by omega), Nat.mul_one, ← dspl_G (by decide) (by omega), show B - 1 + 1 = B by omega]
theorem dE_p {cv : Nat → Nat} {lk dn B n i p : Nat} (hp : 2 ≤ p) (hpB : p < B) (hn : 2 ≤ n) : dE cv lk dn B n i p = mnu (dC cv lk dn B n i p) (n - 1) := by
  obtain ⟨m, rfl⟩ : ∃ m, n = m + 2 := ⟨n - 2, by omega⟩
  show _ = min (mnu (dC cv lk dn B (m + 2) i p) (m + 2 - 2)) (dC cv lk dn B (m + 2) i p (m + 2))
  rw [mnu_C hn]
  unfold dE dC
  rw [if_neg (by omega), if_pos rfl, dV_rest (by omega) (by omega), ← dspl_G (by omega) hpB]
  obtain ⟨p, rfl⟩ : ∃ p', p = p' + 1 := ⟨p - 1, by omega⟩
  rw [show p + 1 - 1 = p by omega, Nat.mul_add, Nat.mul_one]
  omega
theorem dE_B {cv : Nat → Nat} {lk dn B n i : Nat} (hB : 2 ≤ B) : dE cv lk dn B n i B = dC cv lk dn B n i B n := by
  unfold dE dC
  rw [if_neg (by omega), if_pos rfl, show B - B + 1 = 1 by omega, dV_rest1 (Nat.le_refl 1) (.inr rfl)]
  obtain ⟨p, rfl⟩ : ∃ p', B = p' + 1 := ⟨B - 1, by omega⟩
  rw [show p + 1 - 1 = p by omega, Nat.mul_add, Nat.mul_one]
  omega
theorem dE_n1 {cv : Nat → Nat} {lk dn B n i p : Nat} (hp : 1 ≤ p) (hpB : p ≤ B) (hn : n = 1) : dE cv lk dn B n i p = dC cv lk dn B n i p 1 := by
  subst hn
  unfold dE dC
  rw [if_pos (show 1 = 1 from rfl), dV_item1 (Nat.le_refl 1)]
  by_cases e : p = 1
  · subst e
    rw [if_pos rfl, if_pos (Nat.le_refl 1), Nat.mul_one]
  · rw [if_neg e, dV_rest1 (by omega) (.inl (Nat.le_refl 1)), dV_item1 (Nat.le_refl 1)]
    obtain ⟨p, rfl⟩ : ∃ p', p = p' + 1 := ⟨p - 1, by omega⟩
    rw [show p + 1 - 1 = p by omega, Nat.mul_add, Nat.mul_one]
    omega
def E8 (cv : Nat → Nat) (lk dn B n i p : Nat) (le : Nat → Int64) (me fi : Nat → Int32) : Prop := ∃ L M : Nat, le ((41 * i + (i + n)) * 11 + p) = lN L ∧ me ((41 * i + (i + n)) * 11 + p) = nI M ∧ fi ((41 * i + (i + n)) * 11 + p) = nI (dF cv lk dn B n i p) ∧ 64 * L + M = dE cv lk dn B n i p ∧ M + 1 ≤ n ∧ (p = 1 → 2 ≤ n → M + 2 ≤ n)
theorem ix11 (i j p : Nat) : ((41 * nI i) + nI j) * 11 + nI p = nI ((41 * i + j) * 11 + p) := by
  rw [show (41 : Int32) = nI 41 from rfl, pk_mul, nI_add, show (11 : Int32) = nI 11 from rfl, pk_mul, nI_add]
theorem dE_bd {cv : Nat → Nat} {lk dn B : Nat} (hw : ∀ n i, ww cv n i ≤ 400000) (hl : lk ≤ 100) (hd : dn ≤ 100) (hB2 : 2 ≤ B) (hB : B ≤ 9) {n i p : Nat} (hn : n ≤ 40) (hp : p ≤ 9) : dE cv lk dn B n i p < 2 ^ 43 := by
  have p1 := pay_le (hw n i) hl
  have h2 : ww cv n i * lk * 64 * (p - 1) ≤ 2560000000 * 8 := Nat.mul_le_mul p1 (by omega)
  have h1 := dV_bdr hw hl hd hB2 (n := n) (i := i) (q := B - p + 1) hn
  have h3 := dspl_bd hw hl hd hB2 (n := n) (i := i) (q := B) hn
  unfold dE
  split
  · split <;> omega
  · omega
/-- the step of one s: v and m told by the tables -/
theorem sp48 {cv : Nat → Nat} {lk dn B N : Nat} (hw : ∀ n i, ww cv n i ≤ 400000) (hl : lk ≤ 100) (hd : dn ≤ 100) (hB2 : 2 ≤ B) (hB : B ≤ 9) (hN : N ≤ 40) {k26 : (Nat → Int64) → (Nat → Int32) → (Nat → Int32) → Int32 → Int32 → Int32 → Int32 → Int32 → Int32 → Option ((Nat → Int64) × (Nat → Int32) × (Nat → Int32))} {wt le : Nat → Int64} {me fi : Nat → Int32} {n i p s : Nat} {x s1 : Int32} (hwt : ∀ j, j ≤ N → wt j = lN (pfx cv j)) (hi : i + n ≤ N) (hs : 1 ≤ s) (hsn : s ≤ n) (hp : 1 ≤ p) (hpB : p ≤ B) (hsk : s < n → p < B) (hs1 : ¬ s1 < nI s)
    (h1 : 2 ≤ s → E8 cv lk dn B s i 1 le me fi) (h2 : s < n → E8 cv lk dn B (n - s) (i + s) (p + 1) le me fi) :
    ∃ v m : Nat, 64 * v + m = dC cv lk dn B n i p s ∧ m + 1 ≤ n ∧ (s < n → m + 2 ≤ n) ∧ f_X8_spans_L48 (nI lk) (nI dn) (nI B) wt k26 le me fi (nI i) (nI (i + n)) (nI p) x (nI n) (nI s) (nI s) s1 = f_X8_spans_L196 k26 le me fi (nI i) (nI (i + n)) (nI p) x (nI n) (nI s) (lN v) (nI m) := by
  have hw1 : ww cv n i = ww cv s i + ww cv (n - s) (i + s) := by
    unfold ww
    have a1 := pfx_mono (cv := cv) (a := i) (i + s) (by omega)
    have a2 := pfx_mono (cv := cv) (a := i + s) (i + n) (by omega)
    rw [show i + s + (n - s) = i + n by omega]
    omega
  have hlp : lk * p ≤ 100 * 9 := Nat.mul_le_mul hl (by omega)
  have hbase : f_X8_spans_L48 (nI lk) (nI dn) (nI B) wt k26 le me fi (nI i) (nI (i + n)) (nI p) x (nI n) (nI s) (nI s) s1 = if nI s ≤ 1 then f_X8_spans_L136 (nI B) k26 le me fi (nI i) (nI (i + n)) (nI p) x (nI n) (nI s) (lN (lk * p * ww cv s i)) (nI 0) else (gi (nI ((41 * i + (i + s)) * 11 + 1)) 18491 <| f_X8_spans_L136 (nI B) k26 le me fi (nI i) (nI (i + n)) (nI p) x (nI n) (nI s) (lN (lk * p * ww cv s i) + (lN (dn * ww cv s i) + le ((41 * i + (i + s)) * 11 + 1))) (1 + me ((41 * i + (i + s)) * 11 + 1))) := by
    unfold f_X8_spans_L48 f_X8_span
    rw [if_neg hs1, nI_add, gi_nI (by omega) (by decide), gi_nI (by omega) (by decide), nI_clamp (by omega), nI_clamp (by omega), hwt (i + s) (by omega), hwt i (by omega), lN_sub (pfx_mono _ (by omega)), pk_mul, nI_l (by omega), nI_l (by omega)]
    dsimp only [nm]
    rw [show pfx cv (i + s) - pfx cv i = ww cv s i from rfl, lN_mul, lN_mul]
    by_cases e : s = 1
    · rw [if_pos (show nI s ≤ 1 from nI_le (b := 1) (by omega) (by decide)), if_pos (show nI s ≤ 1 from nI_le (b := 1) (by omega) (by decide))]
      rfl
    · rw [if_neg (show ¬ nI s ≤ 1 from nI_ge (a := 1) (by omega) (by omega)), if_neg (show ¬ nI s ≤ 1 from nI_ge (a := 1) (by omega) (by omega))]
      dsimp only [ob]
      rw [show (1 : Int32) = nI 1 from rfl, ix11, gi_nI (by omega) (by decide), gi_nI (by omega) (by decide), gi_nI (by omega) (by decide), nI_clamp (by omega)]
  have hrest : ∀ (v m : Nat), ∃ v' m' : Nat, (s < n → 64 * v' + m' = 64 * v + m + dE cv lk dn B (n - s) (i + s) (p + 1) ∧ m' + 1 ≤ m + (n - s)) ∧ (s = n → v' = v ∧ m' = m) ∧ f_X8_spans_L136 (nI B) k26 le me fi (nI i) (nI (i + n)) (nI p) x (nI n) (nI s) (lN v) (nI m) = f_X8_spans_L196 k26 le me fi (nI i) (nI (i + n)) (nI p) x (nI n) (nI s) (lN v') (nI m') := by
    intro v m
    unfold f_X8_spans_L136 f_X8_span
    by_cases e : s = n
    · rw [if_pos (nI_le (by omega) (by omega))]
      exact ⟨v, m, fun z => by omega, fun _ => ⟨rfl, rfl⟩, rfl⟩
    · obtain ⟨L2, M2, e1, e2, e3, e4, e5, e6⟩ := h2 (by omega)
      rw [if_neg (nI_ge (by omega) (by omega)), if_neg (show ¬ nI p = nI B from fun z => by have := (nI_eq (by omega) (by omega)).mp z; omega)]
      dsimp only [ob]
      rw [nI_add, nI_1, ix11, gi_nI (by omega) (by decide), gi_nI (by omega) (by decide), nI_clamp (by omega)]
      rw [show i + s + (n - s) = i + n by omega] at e1 e2
      rw [e1, e2, lN_add, nI_add]
      exact ⟨v + L2, m + M2, fun _ => ⟨by omega, by omega⟩, fun z => absurd z e, rfl⟩
  rw [hbase]
  by_cases e : s = 1
  · rw [if_pos (show nI s ≤ 1 from nI_le (b := 1) (by omega) (by decide))]
    obtain ⟨v', m', g1, g2, g3⟩ := hrest (lk * p * ww cv s i) 0
    refine ⟨v', m', ?_, ?_, ?_, g3⟩
    · unfold dC dG
      subst e
      by_cases z : 1 = n
      · obtain ⟨a, b⟩ := g2 z
        rw [if_pos z, a, b, ← z, dV_item1 (Nat.le_refl 1)]
        simp only [Nat.mul_comm, Nat.mul_left_comm, Nat.mul_assoc, Nat.add_zero]
      · obtain ⟨a, b⟩ := g1 (by omega)
        rw [if_neg z, a, dV_item1 (Nat.le_refl 1), hw1]
        unfold dE
        rw [if_neg (by omega), show B - (p + 1) + 1 = B - p by omega, show p + 1 - 1 = p by omega]
        have t1 : 64 * (lk * p * ww cv 1 i) = ww cv 1 i * lk * 64 * p := by simp only [Nat.mul_comm, Nat.mul_left_comm, Nat.mul_assoc]
        have t2 : (ww cv 1 i + ww cv (n - 1) (i + 1)) * lk * 64 * p = ww cv 1 i * lk * 64 * p + ww cv (n - 1) (i + 1) * lk * 64 * p := by simp only [Nat.add_mul]
        omega
    · by_cases z : s = n
      · have := (g2 z).2; omega
      · have := (g1 (by omega)).2; omega
    · intro z
      have := (g1 z).2; omega
  · obtain ⟨L1, M1, e1, e2, e3, e4, e5, e6⟩ := h1 (by omega)
    rw [if_neg (show ¬ nI s ≤ 1 from nI_ge (a := 1) (by omega) (by omega)), gi_nI (by omega) (by decide), e1, e2, lN_add, lN_add, show (1 : Int32) = nI 1 from rfl, nI_add]
    obtain ⟨v', m', g1, g2, g3⟩ := hrest (lk * p * ww cv s i + (dn * ww cv s i + L1)) (1 + M1)
    have e7 := e6 rfl (by omega)
    have hitem : 64 * (dn * ww cv s i + L1) + (1 + M1) = dV (ww cv) lk dn B s i 0 := by
      rw [dV_item (by omega)]
      unfold dE at e4
      rw [if_pos rfl, if_neg (by omega)] at e4
      have : 64 * (dn * ww cv s i) = ww cv s i * dn * 64 := by simp only [Nat.mul_comm, Nat.mul_left_comm, Nat.mul_assoc]
      omega
    refine ⟨v', m', ?_, ?_, ?_, g3⟩
    · unfold dC dG
      by_cases z : s = n
      · obtain ⟨a, b⟩ := g2 z
        subst z
        rw [if_pos rfl, a, b, ← hitem]
        have : 64 * (lk * p * ww cv s i) = ww cv s i * lk * 64 * p := by simp only [Nat.mul_comm, Nat.mul_left_comm, Nat.mul_assoc]
        omega
      · obtain ⟨a, b⟩ := g1 (by omega)
        rw [if_neg z, a, ← hitem, hw1]
        unfold dE
        rw [if_neg (by omega), show B - (p + 1) + 1 = B - p by omega, show p + 1 - 1 = p by omega]
        have t1 : 64 * (lk * p * ww cv s i) = ww cv s i * lk * 64 * p := by simp only [Nat.mul_comm, Nat.mul_left_comm, Nat.mul_assoc]
        have t2 : (ww cv s i + ww cv (n - s) (i + s)) * lk * 64 * p = ww cv s i * lk * 64 * p + ww cv (n - s) (i + s) * lk * 64 * p := by simp only [Nat.add_mul]
        omega
    · by_cases z : s = n
      · have := (g2 z).2; omega
      · have := (g1 (by omega)).2; omega
    · intro z
      have := (g1 z).2; omega
