/-! free: the class -/
def wS (cv : Nat → Nat) (s : Nat) : Nat := nsum (fun c => s / 2 ^ c % 2 * cv c) 10
def ntN (s : Nat) : Nat := if s % 2 = 1 then 0 else if s / 2 % 2 = 1 then 1 else if s / 4 % 2 = 1 then 2 else if s / 8 % 2 = 1 then 3 else if s / 16 % 2 = 1 then 4 else if s / 32 % 2 = 1 then 5 else if s / 64 % 2 = 1 then 6 else if s / 128 % 2 = 1 then 7 else if s / 256 % 2 = 1 then 8 else 9
theorem nt_1 : ∀ s, s < 1024 → 0 < s → f_J6_numberOfTrailingZeros_0f7a4 (nI s) = some (nI (ntN s)) := by decide +kernel
theorem nt_2 : ∀ s, s < 1024 → 0 < s → ntN s < 10 ∧ 2 ^ ntN s ≤ s ∧ ∀ c, c < 10 → s / 2 ^ c % 2 = nx s s / 2 ^ c % 2 + (if c = ntN s then 1 else 0) := by decide +kernel
theorem wS_low {cv : Nat → Nat} {s : Nat} (hs : s < 1024) (h0 : 0 < s) : wS cv s = wS cv (nx s s) + cv (ntN s) := by
  obtain ⟨h1, _, h2⟩ := nt_2 s hs h0
  unfold wS
  rw [nsum_eq 10 (g' := fun c => nx s s / 2 ^ c % 2 * cv c + (if c = ntN s then cv c else 0)) (fun c hc => by
    rw [h2 c hc, Nat.add_mul]
    by_cases e : c = ntN s
    · rw [if_pos e, if_pos e, Nat.one_mul]
    · rw [if_neg e, if_neg e, Nat.zero_mul]), nsum_add, nsum_one (k0 := ntN s) 10 h1 (fun k _ hk => if_neg hk), if_pos rfl]
theorem xorN (a b : Nat) : nI a ^^^ nI b = nI (a ^^^ b) := by
  apply Int32.toBitVec_inj.mp
  show BitVec.ofNat 32 a ^^^ BitVec.ofNat 32 b = BitVec.ofNat 32 (a ^^^ b)
  rw [BitVec.ofNat_xor]
theorem nxN {s t : Nat} (ht : 1 ≤ t) : (nI t - 1) &&& nI s = nI (nx s t) := by
  rw [nI_m1 ht, andN]
  rfl
theorem nxN' {s : Nat} (hs : 1 ≤ s) : nI s &&& (nI s - 1) = nI (nx s s) := by
  rw [nI_m1 hs, andN, Nat.and_comm]
  rfl
/-- the class's tables hold for set u -/
def VS (cv : Nat → Nat) (lk dn B u : Nat) (we ai : Nat → Int64) (ar : Nat → Nat → Int64) : Prop := we u = lN (wS cv u) ∧ ai u = lN (sV (wS cv) lk dn B u 0) ∧ ∀ q, 1 ≤ q → q < B → ar q u = lN (sV (wS cv) lk dn B u q)
theorem sg28_s {ai : Nat → Int64} {ar : Nat → Nat → Int64} {k16} (n : Nat) : f_X4_splitGroup_L28 ai ar k16 (n + 1) = f_X4_splitGroup_L28_F ai ar k16 (f_X4_splitGroup_L28 ai ar k16 n) := fx_s _ _ _
theorem sg16_s {ai : Nat → Int64} {ar : Nat → Nat → Int64} (n : Nat) : f_X4_splitGroup_L16 ai ar (n + 1) = f_X4_splitGroup_L16_F ai ar (f_X4_splitGroup_L16 ai ar n) := fx_s _ _ _
theorem sg28 {cv : Nat → Nat} {lk dn B : Nat} (hw : ∀ s, wS cv s ≤ 100000) (hl : lk ≤ 100) (hd : dn ≤ 100) (hB2 : 2 ≤ B) (hB : B ≤ 9) {we ai : Nat → Int64} {ar : Nat → Nat → Int64} {k16} {s t top : Nat} (hs : s < 1024) (ht0 : 0 < t) (hts : t < s) (hsub : t &&& s = t) (hv : ∀ u, 0 < u → u < s → VS cv lk dn B u we ai ar) (htop : top ≤ B) {b : Nat → Nat} (hb : ∀ j, b j ≤ 2 ^ 60) : ∀ (f q : Nat) (le : Nat → Int64), 2 ≤ q → q ≤ top + 1 → top + 1 < f + q → (∀ j, 2 ≤ j → j ≤ top → le j = if j < q then lN (min (b j) (sV (wS cv) lk dn B t 0 + sV (wS cv) lk dn B (s ^^^ t) (j - 1))) else lN (b j)) → ∃ le', f_X4_splitGroup_L28 ai ar k16 f le (nI s) (nI top) (nI t) (nI (s ^^^ t)) (nI q) = k16 le' (nI s) (nI top) (nI (nx s t)) ∧ ∀ j, 2 ≤ j → j ≤ top → le' j = lN (min (b j) (sV (wS cv) lk dn B t 0 + sV (wS cv) lk dn B (s ^^^ t) (j - 1))) := by
  have hx := sub_lt hs ht0 hts hsub
  intro f
  induction f with
  | zero => intro q le h1 h2 h3; omega
  | succ f ih =>
    intro q le h1 h2 h3 hle
    rw [sg28_s]
    unfold f_X4_splitGroup_L28_F
    by_cases e : q = top + 1
    · subst e
      rw [if_pos (nI_lt (by omega) (by omega)), nxN (by omega)]
      exact ⟨le, rfl, fun j a c => by rw [hle j a c, if_pos (by omega)]⟩
    · have b1 := sV_bdr hw hl hd hB2 (s := t) (q := 0) (by omega)
      have b2 := sV_bdr hw hl hd hB2 (s := s ^^^ t) (q := q - 1) (by omega)
      have b3 := hb q
      rw [if_neg (nI_nlt (by omega) (by omega)), gi_nI (by omega) (by decide), gi_nI (by omega) (by decide), nI_m1 (by omega), gi_nI (by omega) (by decide), gi_nI (by omega) (by decide), gi_nI (by omega) (by decide), nI_clamp (by omega), nI_clamp (by omega), nI_clamp (by omega), nI_clamp (by omega), nI_1]
      rw [(hv t ht0 hts).2.1, (hv _ hx.1 hx.2.1).2.2 (q - 1) (by omega) (by omega), lN_add, hle q h1 (by omega), if_neg (Nat.lt_irrefl q), lmin (by omega) (by omega)]
      refine ih (q + 1) _ (by omega) (by omega) (by omega) (fun j a c => ?_)
      by_cases z : j = q
      · subst z
        rw [pk_uLs, if_pos (by omega)]
      · rw [pk_uLn z, hle j a c]
        by_cases y : j < q
        · rw [if_pos y, if_pos (by omega)]
        · rw [if_neg y, if_neg (by omega)]
theorem sg16 {cv : Nat → Nat} {lk dn B : Nat} (hw : ∀ s, wS cv s ≤ 100000) (hl : lk ≤ 100) (hd : dn ≤ 100) (hB2 : 2 ≤ B) (hB : B ≤ 9) {we ai : Nat → Int64} {ar : Nat → Nat → Int64} {s top : Nat} (hs : s < 1024) (hv : ∀ u, 0 < u → u < s → VS cv lk dn B u we ai ar) (htop2 : 2 ≤ top) (htop : top ≤ B) : ∀ (f t : Nat) (le : Nat → Int64) (b : Nat → Nat), t < f → t < s → t &&& s = t → (∀ j, b j ≤ 2 ^ 60) → (∀ j, 2 ≤ j → j ≤ top → le j = lN (b j)) → ∃ le', f_X4_splitGroup_L16 ai ar f le (nI s) (nI top) (nI t) = some le' ∧ ∀ j, 2 ≤ j → j ≤ top → le' j = lN (fm (fun t => sV (wS cv) lk dn B t 0 + sV (wS cv) lk dn B (s ^^^ t) (j - 1)) s t t (b j)) := by
  intro f
  induction f with
  | zero => intro t le b h1; omega
  | succ f ih =>
    intro t le b h1 h2 h3 hb hle
    rw [sg16_s]
    unfold f_X4_splitGroup_L16_F
    by_cases e : t = 0
    · subst e
      rw [if_pos (show nI 0 ≤ 0 by decide)]
      exact ⟨le, rfl, fun j a c => by rw [hle j a c, fm_0]⟩
    · rw [if_neg (nI_nle (by omega) (by omega)), xorN]
      obtain ⟨le1, g1, g2⟩ := sg28 hw hl hd hB2 hB (we := we) (k16 := f_X4_splitGroup_L16 ai ar f) hs (show 0 < t by omega) h2 h3 hv htop hb FU 2 le (by decide) (by omega) (show top + 1 < 100000 + 2 by omega) (fun j a c => by rw [hle j a c, if_neg (by omega)])
      rw [show nI 2 = (2 : Int32) from rfl] at g1
      rw [g1]
      have hnx := nx_lt (s := s) (t := t) (by omega)
      obtain ⟨le2, g3, g4⟩ := ih (nx s t) le1 (fun j => min (b j) (sV (wS cv) lk dn B t 0 + sV (wS cv) lk dn B (s ^^^ t) (j - 1))) (by omega) (by omega) nx_sub (fun j => Nat.le_trans (Nat.min_le_left _ _) (hb j)) g2
      refine ⟨le2, g3, fun j a c => ?_⟩
      rw [g4 j a c]
      obtain ⟨t', rfl⟩ : ∃ t', t = t' + 1 := ⟨t - 1, by omega⟩
      rw [fm_s (by omega)]
      congr 1
      exact fm_fuel _ _ _ _ (Nat.le_refl _) (by omega)
theorem fl6_s (n : Nat) : f_J7_fill_d0a16_L6 (n + 1) = f_J7_fill_d0a16_L6_F (f_J7_fill_d0a16_L6 n) := rfl
theorem fill10 (x : Int64) (g : Nat → Int64) : ∃ g', f_J7_fill_d0a16 g x = some g' ∧ ∀ b, b < 10 → g' b = x := by
  have key : ∀ (n i : Nat) (t : Nat → Int64), i ≤ 10 → 10 < n + i → (∀ b, b < i → t b = x) → ∃ g', f_J7_fill_d0a16_L6 n t x (nI i) 10 = some g' ∧ ∀ b, b < 10 → g' b = x := by
    intro n
    induction n with
    | zero => intro i t h1 h2; omega
    | succ n ih =>
      intro i t h1 h2 ht
      rw [fl6_s]
      unfold f_J7_fill_d0a16_L6_F
      by_cases e : i = 10
      · subst e
        rw [if_pos (by decide)]
        exact ⟨t, rfl, ht⟩
      · rw [if_neg (show ¬ (10 : Int32) ≤ _ from nI_ge (b := 10) (show i < 10 by omega) (by decide)), gi_nI (by omega) (by decide), nI_clamp (by omega), nI_1]
        refine ih (i + 1) _ (by omega) (by omega) (fun b hb => ?_)
        by_cases q : b = i
        · subst q; rw [pk_uLs]
        · rw [pk_uLn q, ht b (by omega)]
  unfold f_J7_fill_d0a16
  exact key FU 0 g (by decide) (show 10 < 100000 + 0 by decide) (fun b hb => by omega)
theorem split7 {cv : Nat → Nat} {lk dn B : Nat} (hw : ∀ s, wS cv s ≤ 100000) (hl : lk ≤ 100) (hd : dn ≤ 100) (hB2 : 2 ≤ B) (hB : B ≤ 9) {we ai le : Nat → Int64} {ar : Nat → Nat → Int64} {s top : Nat} (hs : s < 1024) (h0 : 0 < s) (hp2 : 2 ≤ pc 10 s) (hv : ∀ u, 0 < u → u < s → VS cv lk dn B u we ai ar) (htop2 : 2 ≤ top) (htop : top ≤ B) : ∃ le', f_X4_splitGroup ai ar le (nI s) (nI top) = some le' ∧ ∀ j, 2 ≤ j → j ≤ top → le' j = lN (sspl (sV (wS cv) lk dn B) s j) := by
  have p1 := nx_top s hs hp2
  have p2 : nx s s < s := nx_lt h0
  have hx := sub_lt hs p1 p2 nx_sub
  unfold f_X4_splitGroup
  obtain ⟨g0, e1, e2⟩ := fill10 1152921504606846976 le
  rw [e1]
  dsimp only [ob]
  rw [nxN (by omega)]
  obtain ⟨le', g1, g2⟩ := sg16 hw hl hd hB2 hB (we := we) hs hv htop2 htop FU (nx s s) g0 (fun _ => 2 ^ 60) (show nx s s < 100000 by omega) p2 nx_sub (fun _ => Nat.le_refl _) (fun j a c => by rw [e2 j (by omega)]; rfl)
  refine ⟨le', g1, fun j a c => ?_⟩
  rw [g2 j a c]
  have b1 := sV_bdr hw hl hd hB2 (s := nx s s) (q := 0) (by omega)
  have b2 := sV_bdr hw hl hd hB2 (s := s ^^^ nx s s) (q := j - 1) (by omega)
  obtain ⟨f, hf⟩ : ∃ f, nx s s = f + 1 := ⟨nx s s - 1, by omega⟩
  have hlt := nx_lt (s := s) (t := nx s s) p1
  unfold sspl
  have e3 : fm (fun t => sV (wS cv) lk dn B t 0 + sV (wS cv) lk dn B (s ^^^ t) (j - 1)) s (nx s s) (nx s s) (2 ^ 60) = fm (fun t => sV (wS cv) lk dn B t 0 + sV (wS cv) lk dn B (s ^^^ t) (j - 1)) s f (nx s (nx s s)) (sV (wS cv) lk dn B (nx s s) 0 + sV (wS cv) lk dn B (s ^^^ nx s s) (j - 1)) := by
    rw [show fm (fun t => sV (wS cv) lk dn B t 0 + sV (wS cv) lk dn B (s ^^^ t) (j - 1)) s (nx s s) (nx s s) (2 ^ 60) = fm (fun t => sV (wS cv) lk dn B t 0 + sV (wS cv) lk dn B (s ^^^ t) (j - 1)) s (f + 1) (nx s s) (2 ^ 60) by rw [← hf], fm_s p1, Nat.min_eq_right (by omega)]
  rw [e3]
  congr 1
  exact fm_fuel _ _ _ _ (by omega) (by omega)
theorem rg168_s (n : Nat) : f_X4_reckonGroup_L168 (n + 1) = f_X4_reckonGroup_L168_F (f_X4_reckonGroup_L168 n) := fx_s _ _ _
theorem rg72_s (n : Nat) : f_X4_reckonGroup_L72 (n + 1) = f_X4_reckonGroup_L72_F (f_X4_reckonGroup_L72 n) := fx_s _ _ _
theorem rg72 {we ai le : Nat → Int64} {s B x : Nat} (hs : s < 1024) (hB : B ≤ 9) : ∀ (f m : Nat) (ar : Nat → Nat → Int64), 1 ≤ m → m ≤ B → B < f + m → (∀ q, 1 ≤ q → q < m → ar q s = lN x) → ∃ ar', f_X4_reckonGroup_L72 f we ai ar le (nI s) (nI B) (lN x) (nI m) = some (lN x, we, ai, ar', le) ∧ (∀ q, 1 ≤ q → q < B → ar' q s = lN x) ∧ (∀ q k, k ≠ s → ar' q k = ar q k) := by
  intro f
  induction f with
  | zero => intro m ar h1 h2 h3; omega
  | succ f ih =>
    intro m ar h1 h2 h3 hq
    rw [rg72_s]
    unfold f_X4_reckonGroup_L72_F
    by_cases e : m = B
    · subst e
      rw [if_pos (nI_le (Nat.le_refl _) (by omega))]
      exact ⟨ar, rfl, hq, fun _ _ _ => rfl⟩
    · rw [if_neg (nI_ge (by omega) (by omega)), gi_nI (by omega) (by decide), gi_nI (by omega) (by decide), nI_clamp (by omega), nI_clamp (by omega), nI_1]
      obtain ⟨ar', g1, g2, g3⟩ := ih (m + 1) (va_up ar m (vp_updL (ar m) s (lN x))) (by omega) (by omega) (by omega) (fun q q1 q2 => by
        by_cases z : q = m
        · subst z; rw [va_up_self, pk_uLs]
        · rw [va_up_ne _ _ z]; exact hq q q1 (by omega))
      refine ⟨ar', g1, g2, fun q k hk => ?_⟩
      rw [g3 q k hk]
      by_cases z : q = m
      · subst z; rw [va_up_self, pk_uLn hk]
      · rw [va_up_ne _ _ z]
theorem rg168 {cv : Nat → Nat} {lk dn B : Nat} (hw : ∀ s, wS cv s ≤ 100000) (hl : lk ≤ 100) (hd : dn ≤ 100) (hB2 : 2 ≤ B) (hB : B ≤ 9) {we ai le : Nat → Int64} {s top : Nat} {z0 : Int64} (hs : s < 1024) (h0 : 0 < s) (hp2 : 2 ≤ pc 10 s) (htop : top = min B (pc 10 s)) (hle : ∀ j, 2 ≤ j → j ≤ top → le j = lN (sspl (sV (wS cv) lk dn B) s j)) : ∀ (f m : Nat) (ar : Nat → Nat → Int64), 2 ≤ m → m ≤ B → B < f + m → (∀ q, 1 ≤ q → q < m → ar q s = lN (sV (wS cv) lk dn B s q)) → ∃ ar', f_X4_reckonGroup_L168 f we ai ar le (nI s) (nI B) (lN (wS cv s * lk)) (nI top) z0 (lN (sV (wS cv) lk dn B s 0)) (nI m) = some (z0, we, ai, ar', le) ∧ (∀ q, 1 ≤ q → q < B → ar' q s = lN (sV (wS cv) lk dn B s q)) ∧ (∀ q k, k ≠ s → ar' q k = ar q k) := by
  have hpc := pc_le10 s hs
  intro f
  induction f with
  | zero => intro m ar h1 h2 h3; omega
  | succ f ih =>
    intro m ar h1 h2 h3 hq
    rw [rg168_s]
    unfold f_X4_reckonGroup_L168_F
    by_cases e : m = B
    · subst e
      rw [if_pos (nI_le (Nat.le_refl _) (by omega))]
      exact ⟨ar, rfl, hq, fun _ _ _ => rfl⟩
    · have hmin : (if nI top < nI m then nI top else nI m) = nI (min top m) := by
        by_cases y : top < m
        · rw [if_pos (nI_lt y (by omega)), Nat.min_eq_left (by omega)]
        · rw [if_neg (nI_nlt (by omega) (by omega)), Nat.min_eq_right (by omega)]
      have hsp : sspl (sV (wS cv) lk dn B) s (min top m) = sspl (sV (wS cv) lk dn B) s m := by
        by_cases y : top < m
        · rw [Nat.min_eq_left (by omega)]
          exact (sV_stab s s top m (Nat.le_refl _) h0 hs (by omega) (by omega)).2 hp2
        · rw [Nat.min_eq_right (by omega)]
      have b1 := sV_bdr hw hl hd hB2 (s := s) (q := 0) hs
      have p1 := nx_top s hs hp2
      have p2 : nx s s < s := nx_lt h0
      have hx := sub_lt hs p1 p2 nx_sub
      have b2 : sspl (sV (wS cv) lk dn B) s m < 2 ^ 42 := by
        have q1 := sV_bdr hw hl hd hB2 (s := nx s s) (q := 0) (by omega)
        have q2 := sV_bdr hw hl hd hB2 (s := s ^^^ nx s s) (q := m - 1) (by omega)
        have : sspl (sV (wS cv) lk dn B) s m ≤ sV (wS cv) lk dn B (nx s s) 0 + sV (wS cv) lk dn B (s ^^^ nx s s) (m - 1) := fm_le _ _ _
        omega
      rw [if_neg (nI_ge (by omega) (by omega)), hmin, gi_nI (by omega) (by decide), gi_nI (by omega) (by decide), gi_nI (by omega) (by decide), nI_clamp (by omega), nI_clamp (by omega), nI_clamp (by omega), nI_1, hle (min top m) (by omega) (by omega), hsp, lmin (by omega) (by omega), lN_add, ← sV_rest (w := wS cv) (lk := lk) (dn := dn) (B := B) (s := s) (q := m) hs h1 hp2]
      obtain ⟨ar', g1, g2, g3⟩ := ih (m + 1) (va_up ar m (vp_updL (ar m) s (lN (sV (wS cv) lk dn B s m)))) (by omega) (by omega) (by omega) (fun q q1 q2 => by
        by_cases z : q = m
        · subst z; rw [va_up_self, pk_uLs]
        · rw [va_up_ne _ _ z]; exact hq q q1 (by omega))
      refine ⟨ar', g1, g2, fun q k hk => ?_⟩
      rw [g3 q k hk]
      by_cases z : q = m
      · subst z; rw [va_up_self, pk_uLn hk]
      · rw [va_up_ne _ _ z]
/-- the least cost of a set as a list of its own -/
def sL (cv : Nat → Nat) (lk dn B s : Nat) : Nat := if pc 10 s ≤ 1 then wS cv s * lk else wS cv s * lk + sspl (sV (wS cv) lk dn B) s B
theorem rgroup {cv : Nat → Nat} {lk dn B : Nat} (hw : ∀ s, wS cv s ≤ 100000) (hl : lk ≤ 100) (hd : dn ≤ 100) (hB2 : 2 ≤ B) (hB : B ≤ 9) {we ai le : Nat → Int64} {ar : Nat → Nat → Int64} {ct se : Nat → Int32} {N s : Nat} (hct : ∀ c, c < N → ct c = nI (cv c) ∧ cv c ≤ 10000) (hN : N ≤ 10) (hs0 : se 0 = nI lk) (hs1 : se 1 = nI dn) (hs2 : se 2 = nI B) (hsN : s < 2 ^ N) (h0 : 0 < s) (hwe0 : we 0 = 0) (hv : ∀ u, 0 < u → u < s → VS cv lk dn B u we ai ar) : ∃ we' ai' ar' le', f_X4_reckonGroup ct se we ai ar le (nI s) = some (lN (sL cv lk dn B s), we', ai', ar', le') ∧ we' 0 = 0 ∧ VS cv lk dn B s we' ai' ar' ∧ (∀ k, k ≠ s → we' k = we k ∧ ai' k = ai k ∧ ∀ q, ar' q k = ar q k) := by
  have hs : s < 1024 := Nat.lt_of_lt_of_le hsN (show 2 ^ N ≤ 2 ^ 10 from Nat.pow_le_pow_right (by decide) hN)
  obtain ⟨n1, n2, n3⟩ := nt_2 s hs h0
  have hzN : ntN s < N := by
    rcases Nat.lt_or_ge (ntN s) N with z | z
    · exact z
    · have : 2 ^ N ≤ 2 ^ ntN s := Nat.pow_le_pow_right (by decide) z
      omega
  have hpc := pc_le10 s hs
  have hpc1 := pc_pos 10 s h0 hs
  have hnl := nx_lt (s := s) (t := s) h0
  have hwnx : we (nx s s) = lN (wS cv (nx s s)) := by
    rcases Nat.eq_zero_or_pos (nx s s) with z | z
    · rw [z, hwe0]
      have : wS cv 0 = 0 := nsum_zero 10 (fun c _ => by rw [Nat.zero_div, Nat.zero_mod, Nat.zero_mul])
      rw [this]
      rfl
    · exact (hv _ z hnl).1
  unfold f_X4_reckonGroup
  rw [bitCount_eq (by omega), pc_bs s hs, nt_1 s hs h0]
  dsimp only [ob]
  rw [nxN' (by omega), gi_nI (by omega) (by decide), gi_nI (by omega) (by decide), gi_nI (by omega) (by decide), gi_nI (by omega) (by decide), nI_clamp (n := s) (by omega), nI_clamp (n := nx s s) (by omega), nI_clamp (n := ntN s) (by omega), hwnx, (hct _ hzN).1, nI_l (by have := (hct _ hzN).2; omega), lN_add, ← wS_low hs h0, pk_uLs, show Int32.toNatClampNeg 0 = 0 from rfl, show Int32.toNatClampNeg 1 = 1 from rfl, show Int32.toNatClampNeg 2 = 2 from rfl, hs0, hs1, hs2, nI_l (n := lk) (by omega), nI_l (n := dn) (by omega), lN_mul, lN_mul]
  dsimp only [nm]
  by_cases c1 : pc 10 s ≤ 1
  · rw [if_pos (show nI (pc 10 s) = 1 by rw [show pc 10 s = 1 by omega]; rfl), gi_nI (by omega) (by decide)]
    have hx : ∀ q, 1 ≤ q → sV (wS cv) lk dn B s q = wS cv s * lk := fun q hq => by rw [sV_rest1 hs hq (.inl c1), sV_item1 hs c1, Nat.add_zero]
    obtain ⟨ar', g1, g2, g3⟩ := rg72 (we := vp_updL we s (lN (wS cv s))) (ai := vp_updL ai s 0) (le := le) (x := wS cv s * lk) hs hB FU 1 ar (Nat.le_refl _) (by omega) (show B < 100000 + 1 by omega) (fun q q1 q2 => by omega)
    rw [show nI 1 = (1 : Int32) from rfl] at g1
    rw [g1]
    refine ⟨vp_updL we s (lN (wS cv s)), vp_updL ai s 0, ar', le, ?_, ?_, ⟨pk_uLs, ?_, fun q q1 q2 => by rw [g2 q q1 q2, hx q q1]⟩, fun k hk => ⟨pk_uLn hk, pk_uLn hk, fun q => g3 q k hk⟩⟩
    · unfold sL
      rw [if_pos c1]
    · rw [pk_uLn (by omega)]; exact hwe0
    · rw [pk_uLs, sV_item1 hs c1]; rfl
  · have hp2 : 2 ≤ pc 10 s := by omega
    rw [if_neg (show ¬ nI (pc 10 s) = 1 from fun z => c1 (by have := (nI_eq (b := 1) (by omega) (by decide)).mp z; omega))]
    have hmin : (if nI (pc 10 s) < nI B then nI (pc 10 s) else nI B) = nI (min B (pc 10 s)) := by
      by_cases y : pc 10 s < B
      · rw [if_pos (nI_lt y (by omega)), Nat.min_eq_right (by omega)]
      · rw [if_neg (nI_nlt (by omega) (by omega)), Nat.min_eq_left (by omega)]
    rw [hmin]
    obtain ⟨le1, g1, g2⟩ := split7 hw hl hd hB2 hB (we := we) (ai := ai) (ar := ar) (le := le) (top := min B (pc 10 s)) hs h0 hp2 hv (by omega) (by omega)
    rw [g1]
    dsimp only
    have hsp : sspl (sV (wS cv) lk dn B) s (min B (pc 10 s)) = sspl (sV (wS cv) lk dn B) s B := by
      by_cases y : pc 10 s < B
      · rw [Nat.min_eq_right (by omega)]
        exact (sV_stab s s (pc 10 s) B (Nat.le_refl _) h0 hs (Nat.le_refl _) (by omega)).2 hp2
      · rw [Nat.min_eq_left (by omega)]
    rw [gi_nI (by omega) (by decide), gi_nI (by omega) (by decide), gi_nI (by omega) (by decide), gi_nI (by omega) (by decide), nI_clamp (n := min B (pc 10 s)) (by omega), g2 _ (by omega) (Nat.le_refl _), hsp, lN_add, lN_add]
    rw [show wS cv s * lk + sspl (sV (wS cv) lk dn B) s B + wS cv s * dn = sV (wS cv) lk dn B s 0 from (sV_item hs hp2).symm, lN_add]
    obtain ⟨ar', g3, g4, g5⟩ := rg168 hw hl hd hB2 hB (we := vp_updL we s (lN (wS cv s))) (ai := vp_updL ai s (lN (sV (wS cv) lk dn B s 0))) (le := le1) (top := min B (pc 10 s)) (z0 := lN (wS cv s * lk + sspl (sV (wS cv) lk dn B) s B)) hs h0 hp2 rfl g2 FU 2 (va_up ar 1 (vp_updL (ar 1) s (lN (wS cv s * lk + sV (wS cv) lk dn B s 0)))) (by decide) hB2 (show B < 100000 + 2 by omega) (fun q q1 q2 => by
      rw [show q = 1 by omega, va_up_self, pk_uLs, sV_rest1 hs (Nat.le_refl 1) (.inr rfl)])
    rw [show nI 2 = (2 : Int32) from rfl] at g3
    rw [g3]
    refine ⟨vp_updL we s (lN (wS cv s)), vp_updL ai s (lN (sV (wS cv) lk dn B s 0)), ar', le1, ?_, ?_, ⟨pk_uLs, pk_uLs, g4⟩, fun k hk => ⟨pk_uLn hk, pk_uLn hk, fun q => ?_⟩⟩
    · unfold sL
      rw [if_neg c1]
    · rw [pk_uLn (by omega)]; exact hwe0
    · rw [g5 q k hk]
      by_cases z : q = 1
      · subst z; rw [va_up_self, pk_uLn hk]
      · rw [va_up_ne _ _ z]
theorem lc5_s {z : Int32} {ct se : Nat → Int32} (n : Nat) : f_X4_leastCost_L5 z ct se (n + 1) = f_X4_leastCost_L5_F z ct se (f_X4_leastCost_L5 z ct se n) := fx_s _ _ _
theorem shl1 : ∀ N, N ≤ 10 → 1 <<< (nI N &&& 31) = nI (2 ^ N) := by decide
theorem least7 {cv : Nat → Nat} {lk dn B : Nat} (hw : ∀ s, wS cv s ≤ 100000) (hl : lk ≤ 100) (hd : dn ≤ 100) (hB2 : 2 ≤ B) (hB : B ≤ 9) {we ai le : Nat → Int64} {ar : Nat → Nat → Int64} {ct se : Nat → Int32} {N : Nat} (hct : ∀ c, c < N → ct c = nI (cv c) ∧ cv c ≤ 10000) (hN : N ≤ 10) (hN1 : 1 ≤ N) (hs0 : se 0 = nI lk) (hs1 : se 1 = nI dn) (hs2 : se 2 = nI B) (hwe0 : we 0 = 0) : ∃ we' ai' ar' le', f_X4_leastCost (nI N) ct se we ai ar le = some (lN (sL cv lk dn B (2 ^ N - 1)), we', ai', ar', le') ∧ we' 0 = 0 := by
  have hp : 2 ^ N ≤ 2 ^ 10 := Nat.pow_le_pow_right (by decide) hN
  have hp2 : 2 ^ 1 ≤ 2 ^ N := Nat.pow_le_pow_right (by decide) hN1
  have key : ∀ (f s : Nat) (x : Int64) (we ai le : Nat → Int64) (ar : Nat → Nat → Int64), 1 ≤ s → s ≤ 2 ^ N → 2 ^ N < f + s → (2 ≤ s → x = lN (sL cv lk dn B (s - 1))) → we 0 = 0 → (∀ u, 0 < u → u < s → VS cv lk dn B u we ai ar) → ∃ we' ai' ar' le', f_X4_leastCost_L5 (nI N) ct se f we ai ar le x (nI s) = some (lN (sL cv lk dn B (2 ^ N - 1)), we', ai', ar', le') ∧ we' 0 = 0 := by
    intro f
    induction f with
    | zero => intro s x we ai le ar h1 h2 h3; omega
    | succ f ih =>
      intro s x we ai le ar h1 h2 h3 h4 h5 hv
      rw [lc5_s]
      unfold f_X4_leastCost_L5_F
      rw [shl1 N hN]
      by_cases e : s = 2 ^ N
      · rw [if_pos (nI_le (by omega) (by omega)), h4 (by omega), e]
        exact ⟨we, ai, ar, le, rfl, h5⟩
      · rw [if_neg (nI_ge (by omega) (by omega)), if_neg (show ¬ (1024 : Int32) ≤ _ from nI_ge (b := 1024) (show s < 1024 by omega) (by decide))]
        obtain ⟨we1, ai1, ar1, le1, g1, g2, g3, g4⟩ := rgroup hw hl hd hB2 hB (le := le) hct hN hs0 hs1 hs2 (show s < 2 ^ N by omega) (by omega) h5 hv
        rw [g1]
        dsimp only [ob5]
        rw [nI_1]
        refine ih (s + 1) _ we1 ai1 le1 ar1 (by omega) (by omega) (by omega) (fun _ => by rw [show s + 1 - 1 = s by omega]) g2 (fun u q1 q2 => ?_)
        by_cases z : u = s
        · subst z; exact g3
        · obtain ⟨k1, k2, k3⟩ := g4 u z
          obtain ⟨m1, m2, m3⟩ := hv u q1 (by omega)
          exact ⟨k1.trans m1, k2.trans m2, fun q a b => (k3 q).trans (m3 q a b)⟩
  unfold f_X4_leastCost
  have := key FU 1 0 we ai le ar (Nat.le_refl _) (by omega) (show 2 ^ N < 100000 + 1 by omega) (fun z => by omega) hwe0 (fun u q1 q2 => by omega)
  rw [show nI 1 = (1 : Int32) from rfl] at this
  exact this
