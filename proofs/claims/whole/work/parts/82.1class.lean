/-! plan: the class's table of spans -/
def pfx (cv : Nat → Nat) : Nat → Nat
  | 0 => 0
  | c + 1 => pfx cv c + cv c
def ww (cv : Nat → Nat) (n i : Nat) : Nat := pfx cv (i + n) - pfx cv i
theorem pfx_mono {cv : Nat → Nat} {a : Nat} : ∀ b, a ≤ b → pfx cv a ≤ pfx cv b
  | 0, h => by
    have e : a = 0 := by omega
    subst e; exact Nat.le_refl _
  | b + 1, h => by
    by_cases e : a = b + 1
    · subst e; exact Nat.le_refl _
    · have := pfx_mono (cv := cv) (a := a) b (by omega)
      show _ ≤ pfx cv b + cv b
      omega
def VE (cv : Nat → Nat) (lk dn B n i : Nat) (ai : Nat → Int64) (ar : Nat → Nat → Int64) : Prop := ai (41 * i + (i + n)) = lN (dV (ww cv) lk dn B n i 0) ∧ ∀ q, 1 ≤ q → q < B → ar q (41 * i + (i + n)) = lN (dV (ww cv) lk dn B n i q)
def VB (cv : Nat → Nat) (lk dn B N n : Nat) (ai : Nat → Int64) (ar : Nat → Nat → Int64) : Prop := ∀ n' i', 1 ≤ n' → n' < n → i' + n' ≤ N → VE cv lk dn B n' i' ai ar
theorem lmin {a b : Nat} (ha : a < 2 ^ 63) (hb : b < 2 ^ 63) : (if lN a < lN b then lN a else lN b) = lN (min b a) := by
  by_cases q : a < b
  · rw [if_pos ((pk_lLT ha hb).mpr q), Nat.min_eq_right (by omega)]
  · rw [if_neg (fun z => q ((pk_lLT ha hb).mp z)), Nat.min_eq_left (by omega)]
theorem ix41 (a b : Nat) : nI a * 41 + nI b = nI (41 * a + b) := by
  rw [show (41 : Int32) = nI 41 from rfl, pk_mul, nI_add, Nat.mul_comm]
theorem sa7 {cv : Nat → Nat} {lk dn B N : Nat} (hw : ∀ n i, ww cv n i ≤ 400000) (hl : lk ≤ 100) (hd : dn ≤ 100) (hB2 : 2 ≤ B) (hB : B ≤ 9) (hN : N ≤ 40) {ai : Nat → Int64} {ar : Nat → Nat → Int64} {n i c q : Nat} (hv : VB cv lk dn B N n ai ar) (hc : 1 ≤ c) (hcn : c < n) (hi : i + n ≤ N) (hq : 2 ≤ q) (hqB : q ≤ B) : f_X3_splitAt ai ar (nI i) (nI (i + c)) (nI (i + n)) (nI q) = some (lN (dV (ww cv) lk dn B c i 0 + dV (ww cv) lk dn B (n - c) (i + c) (q - 1))) := by
  unfold f_X3_splitAt
  rw [ix41, ix41, nI_m1 (by omega), gi_nI (by omega) (by decide), gi_nI (by omega) (by decide), gi_nI (by omega) (by decide), nI_clamp (by omega), nI_clamp (by omega), nI_clamp (by omega), (hv c i hc hcn (by omega)).1]
  have h2 := (hv (n - c) (i + c) (by omega) (by omega) (by omega)).2 (q - 1) (by omega) (by omega)
  rw [show i + c + (n - c) = i + n by omega] at h2
  rw [h2, lN_add]
theorem ls17_s {ai : Nat → Int64} {ar : Nat → Nat → Int64} (n : Nat) : f_X3_leastSplit_L17 ai ar (n + 1) = f_X3_leastSplit_L17_F ai ar (f_X3_leastSplit_L17 ai ar n) := rfl
theorem ls7 {cv : Nat → Nat} {lk dn B N : Nat} (hw : ∀ n i, ww cv n i ≤ 400000) (hl : lk ≤ 100) (hd : dn ≤ 100) (hB2 : 2 ≤ B) (hB : B ≤ 9) (hN : N ≤ 40) {ai : Nat → Int64} {ar : Nat → Nat → Int64} {n i q : Nat} (hv : VB cv lk dn B N n ai ar) (hn : 2 ≤ n) (hi : i + n ≤ N) (hq : 2 ≤ q) (hqB : q ≤ B) : f_X3_leastSplit ai ar (nI i) (nI (i + n)) (nI q) = some (lN (dspl (dV (ww cv) lk dn B) n i q)) := by
  have hbd : ∀ c, c < n → dV (ww cv) lk dn B c i 0 + dV (ww cv) lk dn B (n - c) (i + c) (q - 1) < 2 ^ 63 := fun c hc => by
    have h1 := dV_bdr hw hl hd hB2 (n := c) (i := i) (q := 0) (by omega)
    have h2 := dV_bdr hw hl hd hB2 (n := n - c) (i := i + c) (q := q - 1) (by omega)
    omega
  have key : ∀ (f m : Nat), m + 2 ≤ n → n < f + m + 2 → f_X3_leastSplit_L17 ai ar f (nI i) (nI (i + n)) (nI q) (lN (mnu (fun c => dV (ww cv) lk dn B c i 0 + dV (ww cv) lk dn B (n - c) (i + c) (q - 1)) m)) (nI (i + (m + 2))) = some (lN (dspl (dV (ww cv) lk dn B) n i q)) := by
    intro f
    induction f with
    | zero => intro m h1 h2; omega
    | succ f ih =>
      intro m h1 h2
      rw [ls17_s]
      unfold f_X3_leastSplit_L17_F
      by_cases e : m + 2 = n
      · rw [if_pos (nI_le (by omega) (by omega))]
        unfold dspl
        rw [show m = n - 2 by omega]
      · rw [if_neg (nI_ge (by omega) (by omega)), sa7 hw hl hd hB2 hB hN hv (by omega) (by omega) hi hq hqB]
        dsimp only [ob]
        have hm : mnu (fun c => dV (ww cv) lk dn B c i 0 + dV (ww cv) lk dn B (n - c) (i + c) (q - 1)) m < 2 ^ 63 := by
          obtain ⟨c, a, b, ee⟩ := mnu_at (g := fun c => dV (ww cv) lk dn B c i 0 + dV (ww cv) lk dn B (n - c) (i + c) (q - 1)) m
          rw [ee]
          exact hbd c (by omega)
        rw [lmin (hbd (m + 2) (by omega)) hm, nI_1]
        exact ih (m + 1) (by omega) (by omega)
  unfold f_X3_leastSplit
  rw [nI_1, show nI i + 2 = nI (i + 2) from nI_add i 2, sa7 hw hl hd hB2 hB hN hv (Nat.le_refl 1) (by omega) hi hq hqB]
  dsimp only [ob]
  exact key FU 0 (by omega) (show n < 100000 + 0 + 2 by omega)
theorem lpay7 {cv : Nat → Nat} {lk N : Nat} {be : Nat → Int64} {se : Nat → Int32} {n i : Nat} (hN : N ≤ 40) (hi : i + n ≤ N) (hbe : ∀ j, j ≤ N → be j = lN (pfx cv j)) (hs : se 0 = nI lk) (hl : lk ≤ 100) : f_X3_lookPay be se (nI i) (nI (i + n)) = some (lN (ww cv n i * lk * 64)) := by
  unfold f_X3_lookPay
  rw [gi_nI (by omega) (by decide), gi_nI (by omega) (by decide), nI_clamp (by omega), nI_clamp (by omega), hbe _ hi, hbe i (by omega), lN_sub (pfx_mono _ (by omega)), show Int32.toNatClampNeg 0 = 0 from rfl, hs, nI_l (by omega), lN_mul, show (64 : Int64) = lN 64 from rfl, lN_mul]
  rfl
theorem rs104_s (n : Nat) : f_X3_reckonSpan_L104 (n + 1) = f_X3_reckonSpan_L104_F (f_X3_reckonSpan_L104 n) := fx_s _ _ _
theorem rs104 {cv : Nat → Nat} {lk dn B N : Nat} (hw : ∀ n i, ww cv n i ≤ 400000) (hl : lk ≤ 100) (hd : dn ≤ 100) (hB2 : 2 ≤ B) (hB : B ≤ 9) (hN : N ≤ 40) {ai : Nat → Int64} {n i : Nat} (hn : 1 ≤ n) (hi : i + n ≤ N) (hai : ai (41 * i + (i + n)) = lN (dV (ww cv) lk dn B n i 0)) : ∀ (f m : Nat) (ar : Nat → Nat → Int64), 1 ≤ m → m ≤ B → B < f + m → VB cv lk dn B N n ai ar → (∀ q, 1 ≤ q → q < m → ar q (41 * i + (i + n)) = lN (dV (ww cv) lk dn B n i q)) → ∃ ar', f_X3_reckonSpan_L104 f ai ar (nI i) (nI (i + n)) (nI B) (nI (41 * i + (i + n))) (lN (ww cv n i * lk * 64)) (if n = 1 then 1 else 0) (lN (dV (ww cv) lk dn B n i 0)) (nI m) = some (ai, ar') ∧ (∀ q, 1 ≤ q → q < B → ar' q (41 * i + (i + n)) = lN (dV (ww cv) lk dn B n i q)) ∧ (∀ q k, k ≠ 41 * i + (i + n) → ar' q k = ar q k) := by
  intro f
  induction f with
  | zero => intro m ar h1 h2 h3; omega
  | succ f ih =>
    intro m ar h1 h2 h3 hv hq
    rw [rs104_s]
    unfold f_X3_reckonSpan_L104_F f_X3_reckonSpan_L122 f_X3_reckonSpan_L127 f_X3_reckonSpan_L163
    by_cases e : m = B
    · subst e
      rw [if_pos (nI_le (Nat.le_refl _) (by omega))]
      exact ⟨ar, rfl, hq, fun q k _ => rfl⟩
    · rw [if_neg (nI_ge (show m < B by omega) (by omega)), if_neg (show ¬ (1 : Int32) = 0 by decide), if_pos (show (0 : Int32) = 0 from rfl), gi_nI (by omega) (by decide), gi_nI (by omega) (by decide), gi_nI (by omega) (by decide), gi_nI (by omega) (by decide), nI_clamp (by omega), nI_clamp (by omega), nI_1]
      have fin : ∀ x : Nat, x = dV (ww cv) lk dn B n i m → ∃ ar', f_X3_reckonSpan_L104 f ai (va_up ar m (vp_updL (ar m) (41 * i + (i + n)) (lN x))) (nI i) (nI (i + n)) (nI B) (nI (41 * i + (i + n))) (lN (ww cv n i * lk * 64)) (if n = 1 then 1 else 0) (lN (dV (ww cv) lk dn B n i 0)) (nI (m + 1)) = some (ai, ar') ∧ (∀ q, 1 ≤ q → q < B → ar' q (41 * i + (i + n)) = lN (dV (ww cv) lk dn B n i q)) ∧ (∀ q k, k ≠ 41 * i + (i + n) → ar' q k = ar q k) := by
        intro x hx
        have hsame : ∀ q k, k ≠ 41 * i + (i + n) → va_up ar m (vp_updL (ar m) (41 * i + (i + n)) (lN x)) q k = ar q k := by
          intro q k hk
          by_cases z : q = m
          · subst z; rw [va_up_self, pk_uLn hk]
          · rw [va_up_ne _ _ z]
        obtain ⟨ar', g1, g2, g3⟩ := ih (m + 1) (va_up ar m (vp_updL (ar m) (41 * i + (i + n)) (lN x))) (by omega) (by omega) (by omega) (fun n' i' a b c => ⟨(hv n' i' a b c).1, fun q q1 q2 => by rw [hsame q _ (by omega)]; exact (hv n' i' a b c).2 q q1 q2⟩) (fun q q1 q2 => by
          by_cases z : q = m
          · subst z; rw [va_up_self, pk_uLs, hx]
          · rw [va_up_ne _ _ z]; exact hq q q1 (by omega))
        exact ⟨ar', g1, g2, fun q k hk => by rw [g3 q k hk, hsame q k hk]⟩
      by_cases hn1 : n = 1
      · rw [if_pos hn1, if_neg (show ¬ (1 : Int32) = 0 by decide), lN_add]
        have := fin _ (dV_rest1 (w := ww cv) (lk := lk) (dn := dn) (B := B) (n := n) (i := i) (q := m) h1 (.inl (by omega))).symm
        rw [if_pos hn1] at this
        exact this
      · rw [if_neg hn1, if_pos (show (0 : Int32) = 0 from rfl)]
        by_cases hm1 : m = 1
        · rw [if_pos (show nI m = 1 by rw [hm1]; rfl), lN_add]
          have := fin _ (dV_rest1 (w := ww cv) (lk := lk) (dn := dn) (B := B) (n := n) (i := i) (q := m) h1 (.inr hm1)).symm
          rw [if_neg hn1] at this
          exact this
        · rw [if_neg (show ¬ nI m = 1 from fun z => hm1 ((nI_eq (b := 1) (by omega) (by decide)).mp z)), ls7 hw hl hd hB2 hB hN hv (by omega) hi (by omega) (by omega)]
          dsimp only [ob]
          have b1 := dV_bdr hw hl hd hB2 (n := n) (i := i) (q := 0) (by omega)
          have b2 := dspl_bd hw hl hd hB2 (n := n) (i := i) (q := m) (by omega)
          rw [lmin (by omega) (by omega), lN_add, gi_nI (by omega) (by decide), gi_nI (by omega) (by decide)]
          have := fin _ (dV_rest (w := ww cv) (lk := lk) (dn := dn) (B := B) (n := n) (i := i) (q := m) (by omega) (by omega)).symm
          rw [if_neg hn1] at this
          exact this
theorem rspan {cv : Nat → Nat} {lk dn B N : Nat} (hw : ∀ n i, ww cv n i ≤ 400000) (hl : lk ≤ 100) (hd : dn ≤ 100) (hB2 : 2 ≤ B) (hB : B ≤ 9) (hN : N ≤ 40) {be : Nat → Int64} {se : Nat → Int32} {ai : Nat → Int64} {ar : Nat → Nat → Int64} {n i : Nat} (hbe : ∀ j, j ≤ N → be j = lN (pfx cv j)) (hs0 : se 0 = nI lk) (hs1 : se 1 = nI dn) (hs2 : se 2 = nI B) (hv : VB cv lk dn B N n ai ar) (hn : 1 ≤ n) (hi : i + n ≤ N) : ∃ ai' ar', f_X3_reckonSpan be se ai ar (nI i) (nI (i + n)) = some (ai', ar') ∧ VE cv lk dn B n i ai' ar' ∧ (∀ k, k ≠ 41 * i + (i + n) → ai' k = ai k ∧ ∀ q, ar' q k = ar q k) := by
  unfold f_X3_reckonSpan f_X3_reckonSpan_L37 f_X3_reckonSpan_L92
  rw [lpay7 hN hi hbe hs0 hl]
  dsimp only [ob]
  rw [show Int32.toNatClampNeg 2 = 2 from rfl, show Int32.toNatClampNeg 1 = 1 from rfl, hs2, hs1, ix41, pk_sub (by omega), show i + n - i = n by omega, if_neg (show ¬ (1 : Int32) = 0 by decide), if_pos (show (0 : Int32) = 0 from rfl)]
  have fin : ∃ ai' ar', f_X3_reckonSpan_L104 FU (vp_updL ai (41 * i + (i + n)) (lN (dV (ww cv) lk dn B n i 0))) ar (nI i) (nI (i + n)) (nI B) (nI (41 * i + (i + n))) (lN (ww cv n i * lk * 64)) (if n = 1 then 1 else 0) (lN (dV (ww cv) lk dn B n i 0)) (nI 1) = some (ai', ar') ∧ VE cv lk dn B n i ai' ar' ∧ (∀ k, k ≠ 41 * i + (i + n) → ai' k = ai k ∧ ∀ q, ar' q k = ar q k) := by
    obtain ⟨ar', g1, g2, g3⟩ := rs104 hw hl hd hB2 hB hN (ai := vp_updL ai (41 * i + (i + n)) (lN (dV (ww cv) lk dn B n i 0))) hn hi pk_uLs FU 1 ar (by decide) (by omega) (show B < 100000 + 1 by omega) (fun n' i' a b c => ⟨by rw [pk_uLn (by omega)]; exact (hv n' i' a b c).1, (hv n' i' a b c).2⟩) (fun q q1 q2 => by omega)
    exact ⟨_, ar', g1, ⟨pk_uLs, g2⟩, fun k hk => ⟨pk_uLn hk, fun q => g3 q k hk⟩⟩
  by_cases h1 : n = 1
  · rw [if_pos (show nI n = 1 by rw [h1]; rfl), gi_nI (by omega) (by decide), nI_clamp (by omega)]
    rw [if_pos h1, dV_item1 (show n ≤ 1 by omega)] at fin
    exact fin
  · rw [if_neg (show ¬ nI n = 1 from fun z => h1 ((nI_eq (b := 1) (by omega) (by decide)).mp z)), gi_nI (by omega) (by decide), gi_nI (by omega) (by decide), nI_clamp (by omega), nI_clamp (by omega), hbe _ hi, hbe i (by omega), lN_sub (pfx_mono _ (by omega)), nI_l (by omega), lN_mul, show (64 : Int64) = lN 64 from rfl, lN_mul]
    dsimp only [nm]
    rw [ls7 hw hl hd hB2 hB hN hv (by omega) hi hB2 (Nat.le_refl _)]
    dsimp only
    rw [gi_nI (by omega) (by decide), nI_clamp (by omega), lN_add, lN_add, lN_1]
    rw [if_neg h1, dV_item (show 2 ≤ n by omega)] at fin
    exact fin
theorem rk50_s {z : Int32} {se : Nat → Int32} {k40 : (Nat → Int64) → (Nat → Int64) → (Nat → Nat → Int64) → Int32 → Option ((Nat → Int64) × (Nat → Int64) × (Nat → Nat → Int64))} (n : Nat) : f_X3_reckon_L50 z se k40 (n + 1) = f_X3_reckon_L50_F z se k40 (f_X3_reckon_L50 z se k40 n) := fx_s _ _ _
theorem rk40_s {z : Int32} {se : Nat → Int32} (n : Nat) : f_X3_reckon_L40 z se (n + 1) = f_X3_reckon_L40_F z se (f_X3_reckon_L40 z se n) := fx_s _ _ _
theorem rk2_s {z : Int32} {ct se : Nat → Int32} (n : Nat) : f_X3_reckon_L2 z ct se (n + 1) = f_X3_reckon_L2_F z ct se (f_X3_reckon_L2 z ct se n) := fx_s _ _ _
theorem rk50 {cv : Nat → Nat} {lk dn B N : Nat} (hw : ∀ n i, ww cv n i ≤ 400000) (hl : lk ≤ 100) (hd : dn ≤ 100) (hB2 : 2 ≤ B) (hB : B ≤ 9) (hN : N ≤ 40) {be : Nat → Int64} {se : Nat → Int32} (hbe : ∀ j, j ≤ N → be j = lN (pfx cv j)) (hs0 : se 0 = nI lk) (hs1 : se 1 = nI dn) (hs2 : se 2 = nI B) {k40 : (Nat → Int64) → (Nat → Int64) → (Nat → Nat → Int64) → Int32 → Option ((Nat → Int64) × (Nat → Int64) × (Nat → Nat → Int64))} {n : Nat} (hn : 1 ≤ n) (hnN : n ≤ N) : ∀ (f i : Nat) (ai : Nat → Int64) (ar : Nat → Nat → Int64), i + n ≤ N + 1 → N + 1 < f + i + n → VB cv lk dn B N n ai ar → (∀ i', i' < i → i' + n ≤ N → VE cv lk dn B n i' ai ar) → ∃ ai' ar', f_X3_reckon_L50 (nI N) se k40 f be ai ar (nI n) (nI i) = k40 be ai' ar' (nI (n + 1)) ∧ VB cv lk dn B N (n + 1) ai' ar' := by
  intro f
  induction f with
  | zero => intro i ai ar h1 h2; omega
  | succ f ih =>
    intro i ai ar h1 h2 hv hp
    rw [rk50_s]
    unfold f_X3_reckon_L50_F
    rw [nI_add]
    by_cases e : N < i + n
    · rw [if_pos (nI_lt e (by omega)), nI_1]
      refine ⟨ai, ar, rfl, fun n' i' a b c => ?_⟩
      by_cases z : n' = n
      · subst z; exact hp i' (by omega) c
      · exact hv n' i' a (by omega) c
    · rw [if_neg (nI_nlt (by omega) (by omega))]
      obtain ⟨ai1, ar1, g1, g2, g3⟩ := rspan hw hl hd hB2 hB hN hbe hs0 hs1 hs2 hv hn (show i + n ≤ N by omega)
      rw [g1]
      dsimp only [ob2]
      rw [nI_1]
      refine ih (i + 1) ai1 ar1 (by omega) (by omega) (fun n' i' a b c => ?_) (fun i' a c => ?_)
      · obtain ⟨k1, k2⟩ := g3 (41 * i' + (i' + n')) (by omega)
        exact ⟨k1.trans (hv n' i' a b c).1, fun q q1 q2 => (k2 q).trans ((hv n' i' a b c).2 q q1 q2)⟩
      · by_cases z : i' = i
        · subst z; exact g2
        · obtain ⟨k1, k2⟩ := g3 (41 * i' + (i' + n)) (by omega)
          exact ⟨k1.trans (hp i' (by omega) c).1, fun q q1 q2 => (k2 q).trans ((hp i' (by omega) c).2 q q1 q2)⟩
theorem rk40 {cv : Nat → Nat} {lk dn B N : Nat} (hw : ∀ n i, ww cv n i ≤ 400000) (hl : lk ≤ 100) (hd : dn ≤ 100) (hB2 : 2 ≤ B) (hB : B ≤ 9) (hN : N ≤ 40) {be : Nat → Int64} {se : Nat → Int32} (hbe : ∀ j, j ≤ N → be j = lN (pfx cv j)) (hs0 : se 0 = nI lk) (hs1 : se 1 = nI dn) (hs2 : se 2 = nI B) : ∀ (f n : Nat) (ai : Nat → Int64) (ar : Nat → Nat → Int64), 1 ≤ n → n ≤ N + 1 → N + 1 < f + n → VB cv lk dn B N n ai ar → ∃ ai' ar', f_X3_reckon_L40 (nI N) se f be ai ar (nI n) = some (be, ai', ar') ∧ VB cv lk dn B N (N + 1) ai' ar' := by
  intro f
  induction f with
  | zero => intro n ai ar h1 h2 h3; omega
  | succ f ih =>
    intro n ai ar h1 h2 h3 hv
    rw [rk40_s]
    unfold f_X3_reckon_L40_F
    by_cases e : n = N + 1
    · subst e
      rw [if_pos (nI_lt (by omega) (by omega))]
      exact ⟨ai, ar, rfl, hv⟩
    · rw [if_neg (nI_nlt (by omega) (by omega))]
      obtain ⟨ai1, ar1, g1, g2⟩ := rk50 hw hl hd hB2 hB hN hbe hs0 hs1 hs2 (k40 := f_X3_reckon_L40 (nI N) se f) h1 (show n ≤ N by omega) FU 0 ai ar (by omega) (show N + 1 < 100000 + 0 + n by omega) hv (fun i' a => by omega)
      rw [nI_0] at g1
      rw [g1]
      exact ih (n + 1) ai1 ar1 (by omega) (by omega) (by omega) g2
def KS (cv : Nat → Nat) (lk dn B N : Nat) (be ai : Nat → Int64) (ar : Nat → Nat → Int64) : Prop := (∀ j, j ≤ N → be j = lN (pfx cv j)) ∧ VB cv lk dn B N (N + 1) ai ar
theorem reckon7 {cv : Nat → Nat} {lk dn B N : Nat} (hw : ∀ n i, ww cv n i ≤ 400000) (hl : lk ≤ 100) (hd : dn ≤ 100) (hB2 : 2 ≤ B) (hB : B ≤ 9) (hN : N ≤ 40) {be ai : Nat → Int64} {ar : Nat → Nat → Int64} {ct se : Nat → Int32} (hct : ∀ c, c < N → ct c = nI (cv c) ∧ cv c ≤ 10000) (hs0 : se 0 = nI lk) (hs1 : se 1 = nI dn) (hs2 : se 2 = nI B) (hb0 : be 0 = 0) : ∃ be' ai' ar', f_X3_reckon (nI N) ct se be ai ar = some (be', ai', ar') ∧ be' 0 = 0 ∧ KS cv lk dn B N be' ai' ar' := by
  have key : ∀ (f c : Nat) (be : Nat → Int64), c ≤ N → N < f + c → (∀ j, j ≤ c → be j = lN (pfx cv j)) → ∃ be' ai' ar', f_X3_reckon_L2 (nI N) ct se f be ai ar (nI c) = some (be', ai', ar') ∧ be' 0 = 0 ∧ KS cv lk dn B N be' ai' ar' := by
    intro f
    induction f with
    | zero => intro c be h1 h2; omega
    | succ f ih =>
      intro c be h1 h2 h3
      rw [rk2_s]
      unfold f_X3_reckon_L2_F
      by_cases e : c = N
      · subst e
        rw [if_pos (nI_le (Nat.le_refl _) (by omega))]
        obtain ⟨ai1, ar1, g1, g2⟩ := rk40 hw hl hd hB2 hB hN h3 hs0 hs1 hs2 FU 1 ai ar (by decide) (by omega) (show c + 1 < 100000 + 1 by omega) (fun n' i' a b => by omega)
        exact ⟨be, ai1, ar1, g1, h3 0 (Nat.zero_le _), h3, g2⟩
      · rw [if_neg (nI_ge (by omega) (by omega)), nI_1, gi_nI (by omega) (by decide), gi_nI (by omega) (by decide), gi_nI (by omega) (by decide), nI_clamp (by omega), nI_clamp (by omega), h3 c (Nat.le_refl _), (hct c (by omega)).1, nI_l (by have := (hct c (by omega)).2; omega), lN_add]
        refine ih (c + 1) _ (by omega) (by omega) (fun j hj => ?_)
        by_cases z : j = c + 1
        · subst z; rw [pk_uLs]; rfl
        · rw [pk_uLn z]; exact h3 j (by omega)
  unfold f_X3_reckon
  exact key FU 0 be (Nat.zero_le _) (show N < 100000 + 0 by omega) (fun j hj => by
    have e : j = 0 := by omega
    subst e; exact hb0)
