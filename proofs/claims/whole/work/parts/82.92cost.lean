/-! plan: the cost of the tree is the table's -/
theorem fct_val {g : Nat → Nat} {v : Nat} : ∀ (r s : Nat), fct g v s r < s + r → g (fct g v s r) = v
  | 0, s, h => by
    change s < s + 0 at h
    omega
  | r + 1, s, h => by
    change (if g s = v then s else fct g v (s + 1) r) < s + (r + 1) at h
    show g (if g s = v then s else fct g v (s + 1) r) = v
    by_cases e : g s = v
    · rw [if_pos e]; exact e
    · rw [if_neg e] at h ⊢
      exact fct_val r (s + 1) (by omega)
theorem dE_at {cv : Nat → Nat} {lk dn B n i p : Nat} (hB2 : 2 ≤ B) (hn : 1 ≤ n) (hp : 1 ≤ p) (hpB : p ≤ B) : dE cv lk dn B n i p = dC cv lk dn B n i p (dF cv lk dn B n i p) := by
  by_cases c : p = B ∨ n ≤ 1
  · unfold dF
    rw [if_pos c]
    rcases c with c | c
    · subst c; exact dE_B hB2
    · rw [dE_n1 hp hpB (by omega), show n = 1 by omega]
  · have hn2 : 2 ≤ n := by omega
    have hpB2 : p < B := by omega
    obtain ⟨c0, a, b, e⟩ := mnu_at (g := dG cv lk dn B n i p) (n - 2)
    have hG := dspl_G (cv := cv) (lk := lk) (dn := dn) (B := B) (n := n) (i := i) (p := p) hp hpB2
    have hr := fct_rng (g := dG cv lk dn B n i p) (v := if p = 1 then dspl (dV (ww cv) lk dn B) n i B else min (dV (ww cv) lk dn B n i 0) (dspl (dV (ww cv) lk dn B) n i (B - p + 1))) (n - 1) 1
    have hv := fct_val (g := dG cv lk dn B n i p) (v := if p = 1 then dspl (dV (ww cv) lk dn B) n i B else min (dV (ww cv) lk dn B n i 0) (dspl (dV (ww cv) lk dn B) n i (B - p + 1))) (n - 1) 1
    have hlt := fun h => fct_lt (g := dG cv lk dn B n i p) (v := if p = 1 then dspl (dV (ww cv) lk dn B) n i B else min (dV (ww cv) lk dn B n i 0) (dspl (dV (ww cv) lk dn B) n i (B - p + 1))) (t := c0) (n - 1) 1 a (by omega) h
    unfold dF
    rw [if_neg c]
    generalize hf : fct (dG cv lk dn B n i p) (if p = 1 then dspl (dV (ww cv) lk dn B) n i B else min (dV (ww cv) lk dn B n i 0) (dspl (dV (ww cv) lk dn B) n i (B - p + 1))) 1 (n - 1) = s at hr hv hlt ⊢
    by_cases c1 : p = 1
    · subst c1
      rw [show B - 1 + 1 = B by omega] at hG
      rw [if_pos rfl] at hv hlt
      have := hlt (by rw [hG, e])
      rw [dE_1 hB2 hn2, mnu_C hn2, ← hG]
      unfold dC
      rw [if_neg (by omega), hv (by omega)]
    · rw [if_neg c1] at hv hlt
      rw [dE_p (by omega) hpB2 hn2]
      have hmm : mnu (dC cv lk dn B n i p) (n - 1) = ww cv n i * lk * 64 * p + min (dV (ww cv) lk dn B n i 0) (dspl (dV (ww cv) lk dn B) n i (B - p + 1)) := by
        rw [hG]
        obtain ⟨m', rfl⟩ : ∃ m', n = m' + 2 := ⟨n - 2, by omega⟩
        show min (mnu (dC cv lk dn B (m' + 2) i p) (m' + 2 - 2)) (dC cv lk dn B (m' + 2) i p (m' + 2)) = _
        rw [mnu_C hn2]
        unfold dC
        rw [if_pos rfl]
        omega
      rw [hmm]
      unfold dC
      by_cases z : s = n
      · rw [if_pos z]
        congr 1
        rcases Nat.lt_or_ge (dspl (dV (ww cv) lk dn B) n i (B - p + 1)) (dV (ww cv) lk dn B n i 0) with y | y
        · have := hlt (by rw [Nat.min_eq_right (by omega), hG, e])
          omega
        · exact Nat.min_eq_left y
      · rw [if_neg z, hv (by omega)]
def Lq (cv : Nat → Nat) (lk dn B n i p : Nat) : Nat := dE cv lk dn B n i p / 64
theorem Lq_rec {cv : Nat → Nat} {lk dn B N : Nat} (hB2 : 2 ≤ B) (hB : B ≤ 9) (hN : N ≤ 40) {le : Nat → Int64} {me fi : Nat → Int32} (hv : VP cv lk dn B N (N + 1) le me fi) {n i p : Nat} (hn : 1 ≤ n) (hi : i + n ≤ N) (hp : 1 ≤ p) (hpB : p ≤ B) : Lq cv lk dn B n i p = lk * p * ww cv (dF cv lk dn B n i p) i + (if dF cv lk dn B n i p ≤ 1 then 0 else dn * ww cv (dF cv lk dn B n i p) i + Lq cv lk dn B (dF cv lk dn B n i p) i 1) + (if dF cv lk dn B n i p < n then Lq cv lk dn B (n - dF cv lk dn B n i p) (i + dF cv lk dn B n i p) (p + 1) else 0) := by
  have hat := dE_at (cv := cv) (lk := lk) (dn := dn) (n := n) (i := i) hB2 hn hp hpB
  have hr := dF_rng (cv := cv) (lk := lk) (dn := dn) (B := B) (n := n) (i := i) (p := p) hn
  have hsB : dF cv lk dn B n i p < n → p < B := fun z => by
    rcases Nat.lt_or_ge p B with y | y
    · exact y
    · have : p = B := by omega
      rw [this, dF_B] at z
      omega
  generalize hs : dF cv lk dn B n i p = s at hat hr hsB ⊢
  have hw1 : ww cv n i = ww cv s i + ww cv (n - s) (i + s) := by
    unfold ww
    have a1 := pfx_mono (cv := cv) (a := i) (i + s) (by omega)
    have a2 := pfx_mono (cv := cv) (a := i + s) (i + n) (by omega)
    rw [show i + s + (n - s) = i + n by omega]
    omega
  obtain ⟨L0, M0, _, _, _, m1, m2, m3⟩ := hv n i p hn (by omega) hi hp hpB
  have hitem : (s ≤ 1 → dV (ww cv) lk dn B s i 0 = 0) ∧ (2 ≤ s → ∃ M1, M1 + 2 ≤ s ∧ dV (ww cv) lk dn B s i 0 = 64 * (dn * ww cv s i + Lq cv lk dn B s i 1) + M1 + 1) := by
    refine ⟨fun z => dV_item1 z, fun z => ?_⟩
    obtain ⟨L1, M1, _, _, _, k1, k2, k3⟩ := hv s i 1 (by omega) (by omega) (by omega) (Nat.le_refl _) (by omega)
    have k4 := k3 rfl z
    refine ⟨M1, k4, ?_⟩
    have hq : Lq cv lk dn B s i 1 = L1 := by unfold Lq; omega
    rw [hq, dV_item z]
    unfold dE at k1
    rw [if_pos rfl, if_neg (by omega)] at k1
    have : 64 * (dn * ww cv s i) = ww cv s i * dn * 64 := by simp only [Nat.mul_comm, Nat.mul_left_comm, Nat.mul_assoc]
    omega
  have t1 : 64 * (lk * p * ww cv s i) = ww cv s i * lk * 64 * p := by simp only [Nat.mul_comm, Nat.mul_left_comm, Nat.mul_assoc]
  unfold dC dG at hat
  have hgoal : ∀ X, 64 * X + M0 = 64 * L0 + M0 → X = L0 := fun X h => by omega
  have hL0 : Lq cv lk dn B n i p = L0 := by unfold Lq; omega
  rw [hL0]
  by_cases c1 : s = n
  · rw [if_pos c1] at hat
    rw [if_neg (show ¬ s < n by omega)]
    subst c1
    by_cases c2 : s ≤ 1
    · rw [if_pos c2]
      rw [hitem.1 c2] at hat
      omega
    · rw [if_neg c2]
      obtain ⟨M1, k1, k2⟩ := hitem.2 (by omega)
      rw [k2] at hat
      omega
  · rw [if_neg c1] at hat
    have hlt : s < n := by omega
    rw [if_pos hlt]
    obtain ⟨L2, M2, _, _, _, k1, k2, k3⟩ := hv (n - s) (i + s) (p + 1) (by omega) (by omega) (by omega) (by omega) (by have := hsB hlt; omega)
    have hL2 : Lq cv lk dn B (n - s) (i + s) (p + 1) = L2 := by unfold Lq; omega
    rw [hL2]
    unfold dE at k1
    rw [if_neg (by omega), show B - (p + 1) + 1 = B - p by have := hsB hlt; omega, show p + 1 - 1 = p by omega] at k1
    rw [hw1] at hat
    have t2 : (ww cv s i + ww cv (n - s) (i + s)) * lk * 64 * p = ww cv s i * lk * 64 * p + ww cv (n - s) (i + s) * lk * 64 * p := by simp only [Nat.add_mul]
    by_cases c2 : s ≤ 1
    · rw [if_pos c2]
      rw [hitem.1 c2] at hat
      omega
    · rw [if_neg c2]
      obtain ⟨M1, k4, k5⟩ := hitem.2 (by omega)
      rw [k5] at hat
      omega
def rsum (f : Nat → Nat) : Nat → Nat → Nat
  | _, 0 => 0
  | x, n + 1 => f x + rsum f (x + 1) n
theorem rsum_add {f : Nat → Nat} : ∀ (a x b : Nat), rsum f x (a + b) = rsum f x a + rsum f (x + a) b
  | 0, x, b => by
    show rsum f x (0 + b) = 0 + rsum f (x + 0) b
    rw [Nat.zero_add, Nat.zero_add, Nat.add_zero]
  | a + 1, x, b => by
    rw [show a + 1 + b = (a + b) + 1 by omega]
    show f x + rsum f (x + 1) (a + b) = f x + rsum f (x + 1) a + rsum f (x + (a + 1)) b
    rw [rsum_add a (x + 1) b, show x + 1 + a = x + (a + 1) by omega]
    omega
theorem rsum_nsum {f : Nat → Nat} : ∀ n, rsum f 0 n = nsum f n
  | 0 => rfl
  | n + 1 => by
    rw [rsum_add n 0 1, rsum_nsum n, Nat.zero_add]
    rfl
/-- the steps down to a list -/
def pref (lk dn : Nat) (ab pa : Nat → Nat) : Nat → Nat → Nat
  | 0, _ => 0
  | f + 1, l => if l = 0 then 0 else lk * pa l + dn + pref lk dn ab pa f (ab l)
def pre (lk dn : Nat) (ab pa : Nat → Nat) (l : Nat) : Nat := pref lk dn ab pa l l
theorem pref_eq {lk dn : Nat} {ab pa : Nat → Nat} {L : Nat} (hab : ∀ m, 0 < m → m < L → ab m < m) : ∀ (f g l : Nat), l ≤ f → l ≤ g → l < L → pref lk dn ab pa f l = pref lk dn ab pa g l := by
  intro f
  induction f with
  | zero =>
    intro g l h1 h2 h3
    have e : l = 0 := by omega
    subst e
    cases g with
    | zero => rfl
    | succ g => exact (if_pos rfl).symm
  | succ f ih =>
    intro g l h1 h2 h3
    by_cases e : l = 0
    · subst e
      cases g with
      | zero => exact if_pos rfl
      | succ g => exact (if_pos rfl).trans (if_pos rfl).symm
    · cases g with
      | zero => omega
      | succ g =>
        have := hab l (by omega) h3
        show (if l = 0 then 0 else lk * pa l + dn + pref lk dn ab pa f (ab l)) = (if l = 0 then 0 else lk * pa l + dn + pref lk dn ab pa g (ab l))
        rw [if_neg e, if_neg e, ih g (ab l) (by omega) (by omega) (by omega)]
theorem pre_s {lk dn : Nat} {ab pa : Nat → Nat} {L : Nat} (hab : ∀ m, 0 < m → m < L → ab m < m) {l : Nat} (h0 : 0 < l) (hl : l < L) : pre lk dn ab pa l = lk * pa l + dn + pre lk dn ab pa (ab l) := by
  have := hab l h0 hl
  obtain ⟨f, rfl⟩ : ∃ f, l = f + 1 := ⟨l - 1, by omega⟩
  show (if f + 1 = 0 then 0 else lk * pa (f + 1) + dn + pref lk dn ab pa f (ab (f + 1))) = _
  rw [if_neg (by omega), pref_eq hab f (ab (f + 1)) (ab (f + 1)) (by omega) (Nat.le_refl _) (by omega)]
  rfl
theorem pre_bd {lk dn : Nat} (hl : lk ≤ 100) (hd : dn ≤ 100) {ab pa : Nat → Nat} {L : Nat} (hab : ∀ m, 0 < m → m < L → ab m < m ∧ pa m ≤ 9) : ∀ (n l : Nat), l ≤ n → l < L → pre lk dn ab pa l ≤ 1000 * l
  | 0, l, h, _ => by
    have e : l = 0 := by omega
    subst e; exact Nat.le_refl _
  | n + 1, l, h, hL => by
    by_cases e : l = 0
    · subst e; exact Nat.le_refl _
    · obtain ⟨h1, h2⟩ := hab l (by omega) hL
      rw [pre_s (fun m x y => (hab m x y).1) (by omega) hL]
      have h3 := pre_bd hl hd hab n (ab l) (by omega) (by omega)
      have h4 : lk * pa l ≤ 100 * 9 := Nat.mul_le_mul hl h2
      have h5 : 1000 * ab l + 1000 ≤ 1000 * l := by omega
      omega
theorem usum_nat {lk dn : Nat} {ab pa : Nat → Nat} : ∀ (f l : Nat), usum (nI lk) (nI dn) (ups ab pa f l) = nI (pref lk dn ab pa f l)
  | 0, _ => rfl
  | f + 1, l => by
    by_cases e : l = 0
    · subst e
      rw [ups_0]
      show (0 : Int32) = nI (if (0 : Nat) = 0 then 0 else _)
      rw [if_pos rfl]
      rfl
    · rw [show ups ab pa (f + 1) l = (ab l, pa l) :: ups ab pa f (ab l) from if_neg e]
      show (nI lk * nI (pa l) + nI dn) + usum (nI lk) (nI dn) (ups ab pa f (ab l)) = nI (if l = 0 then 0 else lk * pa l + dn + pref lk dn ab pa f (ab l))
      rw [if_neg e, usum_nat f (ab l), pk_mul, nI_add, nI_add]
theorem stp_nat {lk dn : Nat} {ab pa hm ph : Nat → Nat} (c : Nat) : stp ab pa hm ph (nI lk) (nI dn) c = nI (lk * ph c + pre lk dn ab pa (hm c)) := by
  unfold stp pre
  rw [usum_nat, pk_mul, nI_add]
theorem csum_nat {ct : Nat → Int32} {st : Nat → Int32} {cv sv : Nat → Nat} : ∀ n, (∀ c, c < n → ct c = nI (cv c) ∧ cv c < 2 ^ 31 ∧ st c = nI (sv c) ∧ sv c < 2 ^ 31) → csum ct st n = lN (nsum (fun c => cv c * sv c) n)
  | 0, _ => rfl
  | n + 1, h => by
    obtain ⟨h1, h2, h3, h4⟩ := h n (by omega)
    show csum ct st n + Int32.toInt64 (ct n) * Int32.toInt64 (st n) = lN (nsum (fun c => cv c * sv c) n + cv n * sv n)
    rw [csum_nat n (fun c hc => h c (by omega)), h1, h3, nI_l h2, nI_l h4, lN_mul, lN_add]
theorem ww_1 {cv : Nat → Nat} {x : Nat} : ww cv 1 x = cv x := by
  unfold ww
  show pfx cv x + cv x - pfx cv x = cv x
  omega
theorem ww_add {cv : Nat → Nat} {a b x : Nat} : ww cv (a + b) x = ww cv a x + ww cv b (x + a) := by
  unfold ww
  have a1 := pfx_mono (cv := cv) (a := x) (x + a) (by omega)
  have a2 := pfx_mono (cv := cv) (a := x + a) (x + a + b) (by omega)
  rw [show x + (a + b) = x + a + b by omega]
  omega
/-- the counts times the steps of a span's commands -/
theorem cost_span {cv : Nat → Nat} {lk dn B N : Nat} (hB2 : 2 ≤ B) (hB : B ≤ 9) (hN : N ≤ 40) {le : Nat → Int64} {me fi : Nat → Int32} (hv : VP cv lk dn B N (N + 1) le me fi) {L : Nat} {sa sb ab pa cn hm ph : Nat → Nat} {it : Nat → Nat → Sum Nat Nat} (h : ST (dF cv lk dn B) L N sa sb ab pa cn it) (hh : ∀ l j c, l < L → j < cn l → it l j = .inl c → c < N ∧ hm c = l ∧ ph c = j + 1) (hsp : ∀ l, l < L → sa l < sb l ∧ sb l ≤ N) : ∀ (d l : Nat), l < L → L ≤ d + l → rsum (fun c => cv c * (lk * ph c + pre lk dn ab pa (hm c))) (sa l) (sb l - sa l) = pre lk dn ab pa l * ww cv (sb l - sa l) (sa l) + Lq cv lk dn B (sb l - sa l) (sa l) 1 := by
  have hF := FO_dF (cv := cv) (lk := lk) (dn := dn) hB2
  obtain ⟨⟨a1, a2, a3⟩, b, c, d, e⟩ := h
  have hab : ∀ m, 0 < m → m < L → ab m < m := fun m x y => (e m x y).1
  intro dd
  induction dd with
  | zero => intro l h1 h2; omega
  | succ dd ih =>
    intro l hl hd2
    obtain ⟨b1, b2, b3, b4⟩ := b l hl
    have hspl := hsp l hl
    have key : ∀ (r k : Nat), k + r = cn l → 1 ≤ r → rsum (fun c => cv c * (lk * ph c + pre lk dn ab pa (hm c))) (xs (dF cv lk dn B) (sa l) (sb l) k) (sb l - xs (dF cv lk dn B) (sa l) (sb l) k) = pre lk dn ab pa l * ww cv (sb l - xs (dF cv lk dn B) (sa l) (sb l) k) (xs (dF cv lk dn B) (sa l) (sb l) k) + Lq cv lk dn B (sb l - xs (dF cv lk dn B) (sa l) (sb l) k) (xs (dF cv lk dn B) (sa l) (sb l) k) (k + 1) := by
      intro r
      induction r with
      | zero => intro k _ h0; omega
      | succ r ihr =>
        intro k hk _
        have hkc : k < cn l := by omega
        have hx := b4 k hkc
        have hlt := xs_lt hF hx
        have hkB : k + 1 ≤ B := by
          rcases Nat.lt_or_ge k B with z | z
          · omega
          · have hmono : ∀ t, B ≤ t → xs (dF cv lk dn B) (sa l) (sb l) t = sb l := by
              intro t ht
              induction t with
              | zero => omega
              | succ t iht =>
                by_cases y : B = t + 1
                · rw [← y]; exact xs_B hF (by omega) (by omega)
                · have := iht (by omega)
                  have h2 := xs_le hF (a := sa l) (b := sb l) (by omega) (t + 1)
                  show xs (dF cv lk dn B) (sa l) (sb l) t + dF cv lk dn B (sb l - xs (dF cv lk dn B) (sa l) (sb l) t) (xs (dF cv lk dn B) (sa l) (sb l) t) (t + 1) = sb l
                  rw [this, Nat.sub_self, dF_0]
                  omega
            have := hmono k z
            omega
        have hnx : xs (dF cv lk dn B) (sa l) (sb l) (k + 1) = xs (dF cv lk dn B) (sa l) (sb l) k + dF cv lk dn B (sb l - xs (dF cv lk dn B) (sa l) (sb l) k) (xs (dF cv lk dn B) (sa l) (sb l) k) (k + 1) := rfl
        have hrec := Lq_rec hB2 hB hN hv (n := sb l - xs (dF cv lk dn B) (sa l) (sb l) k) (i := xs (dF cv lk dn B) (sa l) (sb l) k) (p := k + 1) (by omega) (by omega) (by omega) hkB
        have hnext : 1 ≤ r → rsum (fun c => cv c * (lk * ph c + pre lk dn ab pa (hm c))) (xs (dF cv lk dn B) (sa l) (sb l) (k + 1)) (sb l - xs (dF cv lk dn B) (sa l) (sb l) (k + 1)) = pre lk dn ab pa l * ww cv (sb l - xs (dF cv lk dn B) (sa l) (sb l) (k + 1)) (xs (dF cv lk dn B) (sa l) (sb l) (k + 1)) + Lq cv lk dn B (sb l - xs (dF cv lk dn B) (sa l) (sb l) (k + 1)) (xs (dF cv lk dn B) (sa l) (sb l) (k + 1)) (k + 1 + 1) := ihr (k + 1) (by omega)
        have hlast : r = 0 → xs (dF cv lk dn B) (sa l) (sb l) (k + 1) = sb l := fun z => by
          have : k + 1 = cn l := by omega
          rw [this]; exact b3
        have hnl : 1 ≤ r → xs (dF cv lk dn B) (sa l) (sb l) (k + 1) < sb l := fun z => b4 (k + 1) (by omega)
        have hitl : it l k = .inl (xs (dF cv lk dn B) (sa l) (sb l) k) ∧ xs (dF cv lk dn B) (sa l) (sb l) (k + 1) = xs (dF cv lk dn B) (sa l) (sb l) k + 1 ∧ hm (xs (dF cv lk dn B) (sa l) (sb l) k) = l ∧ ph (xs (dF cv lk dn B) (sa l) (sb l) k) = k + 1 ∨ ∃ m, l < m ∧ m < L ∧ 0 < m ∧ ab m = l ∧ pa m = k + 1 ∧ sa m = xs (dF cv lk dn B) (sa l) (sb l) k ∧ sb m = xs (dF cv lk dn B) (sa l) (sb l) (k + 1) ∧ xs (dF cv lk dn B) (sa l) (sb l) k + 2 ≤ xs (dF cv lk dn B) (sa l) (sb l) (k + 1) := by
          cases hi : it l k with
          | inl x =>
            obtain ⟨c1, c2⟩ := c l k x hl hkc hi
            obtain ⟨d1, d2, d3⟩ := hh l k x hl hkc hi
            left
            rw [← c1]
            exact ⟨rfl, c2, d2, d3⟩
          | inr m =>
            obtain ⟨d1, d2, d3, d4, d5, d6, d7⟩ := d l k m hl hkc hi
            right
            have := hab m d1 d2
            exact ⟨m, by omega, d2, d1, d3, d4, d5, d6, d7⟩
        generalize hX : xs (dF cv lk dn B) (sa l) (sb l) k = X at hx hlt hnx hrec hitl ⊢
        generalize hY : xs (dF cv lk dn B) (sa l) (sb l) (k + 1) = Y at hlt hnx hnext hlast hnl hitl
        generalize hS : dF cv lk dn B (sb l - X) X (k + 1) = S at hnx hrec
        have hsplit : sb l - X = S + (sb l - Y) := by omega
        have hfirst : rsum (fun c => cv c * (lk * ph c + pre lk dn ab pa (hm c))) X S = (pre lk dn ab pa l + lk * (k + 1)) * ww cv S X + (if S ≤ 1 then 0 else dn * ww cv S X + Lq cv lk dn B S X 1) := by
          rcases hitl with ⟨i1, i2, i3, i4⟩ | ⟨m, i0, i1, i2, i3, i4, i5, i6, i7⟩
          · have hs1 : S = 1 := by omega
            rw [hs1, if_pos (Nat.le_refl 1), ww_1]
            show cv X * (lk * ph X + pre lk dn ab pa (hm X)) + 0 = _
            rw [i3, i4, Nat.mul_comm (cv X), Nat.add_comm (lk * (k + 1))]
          · have ihm := ih m i1 (by omega)
            rw [i5, i6, show Y - X = S by omega, pre_s hab i2 i1, i3, i4] at ihm
            rw [if_neg (by omega), ihm]
            simp only [Nat.add_mul]
            omega
        have hwx : ww cv (sb l - X) X = ww cv S X + ww cv (sb l - Y) Y := by
          rw [hsplit, ww_add, hnx]
        have hrs : rsum (fun c => cv c * (lk * ph c + pre lk dn ab pa (hm c))) X (sb l - X) = rsum (fun c => cv c * (lk * ph c + pre lk dn ab pa (hm c))) X S + rsum (fun c => cv c * (lk * ph c + pre lk dn ab pa (hm c))) Y (sb l - Y) := by
          rw [hsplit, rsum_add, hnx]
        have t3 : pre lk dn ab pa l * (ww cv S X + ww cv (sb l - Y) Y) = pre lk dn ab pa l * ww cv S X + pre lk dn ab pa l * ww cv (sb l - Y) Y := Nat.mul_add _ _ _
        have t4 : (pre lk dn ab pa l + lk * (k + 1)) * ww cv S X = pre lk dn ab pa l * ww cv S X + lk * (k + 1) * ww cv S X := Nat.add_mul _ _ _
        rw [hrs, hfirst, hwx, hrec, t3, t4]
        by_cases z : r = 0
        · have hl2 := hlast z
          rw [if_neg (show ¬ S < sb l - X by omega)]
          have h0 : sb l - Y = 0 := by omega
          have t5 : pre lk dn ab pa l * ww cv (sb l - Y) Y = 0 := by
            rw [h0]
            unfold ww
            rw [Nat.add_zero, Nat.sub_self, Nat.mul_zero]
          have t6 : rsum (fun c => cv c * (lk * ph c + pre lk dn ab pa (hm c))) Y (sb l - Y) = 0 := by rw [h0]; rfl
          omega
        · have hn2 := hnl (by omega)
          rw [if_pos (show S < sb l - X by omega), hnext (by omega), show sb l - X - S = sb l - Y by omega, ← hnx]
          omega
    have := key (cn l) 0 (by omega) b1
    exact this
