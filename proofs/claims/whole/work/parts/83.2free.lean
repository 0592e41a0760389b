/-! free: the reference -/
theorem bit_sub {s t c : Nat} (h : t &&& s = t) : (s ^^^ t) / 2 ^ c % 2 + t / 2 ^ c % 2 = s / 2 ^ c % 2 := by
  have h1 : (s ^^^ t) / 2 ^ c = (s / 2 ^ c) ^^^ (t / 2 ^ c) := Nat.xor_div_two_pow
  have h2 : (t &&& s) / 2 ^ c = (t / 2 ^ c) &&& (s / 2 ^ c) := Nat.and_div_two_pow
  rw [h] at h2
  obtain ⟨a1, _⟩ := bit_and (t / 2 ^ c) (s / 2 ^ c)
  obtain ⟨x1, _⟩ := bit_xor (s / 2 ^ c) (t / 2 ^ c)
  rw [← h2] at a1
  have b1 := bb_and (t / 2 ^ c % 2) (Nat.mod_lt _ (by decide)) (s / 2 ^ c % 2) (Nat.mod_lt _ (by decide)) a1.symm
  rw [h1, x1]
  exact b1
theorem wS_sub {cv : Nat → Nat} {s t : Nat} (h : t &&& s = t) : wS cv (s ^^^ t) + wS cv t = wS cv s := by
  unfold wS
  rw [← nsum_add]
  exact nsum_eq 10 (fun c _ => by rw [← Nat.add_mul, bit_sub h])
def dS (cv : Nat → Nat) (lk dn B s p : Nat) : Nat := if p = 1 then sL cv lk dn B s else sV (wS cv) lk dn B s (B - p + 1) + wS cv s * lk * (p - 1)
/-- what one first item t comes to -/
def cS (cv : Nat → Nat) (lk dn B s p t : Nat) : Nat := wS cv s * lk * p + (if t = s then sV (wS cv) lk dn B s 0 else sV (wS cv) lk dn B t 0 + sV (wS cv) lk dn B (s ^^^ t) (B - p))
theorem ix11s (a p : Nat) : 11 * nI a + nI p = nI (11 * a + p) := by
  rw [show (11 : Int32) = nI 11 from rfl, pk_mul, nI_add]
theorem se161 {k22 : (Nat → Int64) → Int32 → Int32 → Int64 → Int32 → Int32 → Option ((Nat → Int64))} {fr : Nat → Int64} {s p t : Nat} {b : Int64} {x5 : Int32} (ht : 1 ≤ t) : f_X8_sets_L161 k22 fr (nI s) (nI p) b x5 (nI t) = k22 fr (nI s) (nI p) b x5 (nI (nx s t)) := by
  unfold f_X8_sets_L161
  rw [nxN ht]
theorem se144 {k22 : (Nat → Int64) → Int32 → Int32 → Int64 → Int32 → Int32 → Option ((Nat → Int64))} {fr : Nat → Int64} {s p t b x y : Nat} {x5 : Int32} (ht : 1 ≤ t) (hb : b < 2 ^ 62) (hx : x + y < 2 ^ 62) : f_X8_sets_L144 k22 fr (nI s) (nI p) (lN b) x5 (nI t) (lN x) (lN y) = k22 fr (nI s) (nI p) (lN (min b (x + y))) x5 (nI (nx s t)) := by
  unfold f_X8_sets_L144 f_X8_sets_L160
  rw [lN_add, se161 ht, se161 ht]
  by_cases q : x + y < b
  · rw [if_pos ((pk_lLT (by omega) (by omega)).mpr q), Nat.min_eq_right (by omega)]
  · rw [if_neg (fun z => q ((pk_lLT (by omega) (by omega)).mp z)), Nat.min_eq_left (by omega)]
theorem se63 {cv : Nat → Nat} {lk dn B : Nat} (hw : ∀ s, wS cv s ≤ 100000) (hl : lk ≤ 100) (hd : dn ≤ 100) (hB2 : 2 ≤ B) (hB : B ≤ 9) {k22 : (Nat → Int64) → Int32 → Int32 → Int64 → Int32 → Int32 → Option ((Nat → Int64))} {fr sw : Nat → Int64} {s p t b : Nat} {x5 : Int32} (hs : s < 1024) (h0 : 0 < s) (ht0 : 0 < t) (hts : t ≤ s) (hsub : t &&& s = t) (hp : 1 ≤ p) (hpB : p ≤ B) (hpt : t ≠ s → p < B) (hb : b ≤ 2 ^ 60) (hsw : sw t = lN (wS cv t)) (h1 : 2 ≤ pc 10 t → fr (11 * t + 1) = lN (dS cv lk dn B t 1)) (h2 : t ≠ s → fr (11 * (s ^^^ t) + (p + 1)) = lN (dS cv lk dn B (s ^^^ t) (p + 1))) : f_X8_sets_L63 (nI lk) (nI dn) sw k22 fr (nI s) (nI p) (lN b) x5 (nI t) = k22 fr (nI s) (nI p) (lN (min b (cS cv lk dn B s p t))) x5 (nI (nx s t)) := by
  have hts2 : t < 1024 := by omega
  have hlp : lk * p ≤ 100 * 9 := Nat.mul_le_mul hl (by omega)
  have b0 : lk * p * wS cv t ≤ 900 * 100000 := Nat.mul_le_mul hlp (hw t)
  have b1 := sV_bdr hw hl hd hB2 (s := t) (q := 0) hts2
  have hws := wS_sub (cv := cv) hsub
  have hrest : ∀ x y : Nat, x + y = lk * p * wS cv t + sV (wS cv) lk dn B t 0 → x + y < 2 ^ 50 → f_X8_sets_L117 k22 fr (nI s) (nI p) (lN b) x5 (nI t) (lN x) (lN y) = k22 fr (nI s) (nI p) (lN (min b (cS cv lk dn B s p t))) x5 (nI (nx s t)) := by
    intro x y hxy hbd
    unfold f_X8_sets_L117
    by_cases e : t = s
    · rw [if_pos (by rw [e]), lN_add]
      have := se144 (k22 := k22) (fr := fr) (s := s) (p := p) (t := t) (b := b) (x := x + y) (y := 0) (x5 := x5) ht0 (by omega) (by omega)
      rw [show lN 0 = (0 : Int64) from rfl] at this
      rw [this, Nat.add_zero, hxy]
      unfold cS
      rw [if_pos e, e]
      have : lk * p * wS cv s = wS cv s * lk * p := by simp only [Nat.mul_comm, Nat.mul_left_comm, Nat.mul_assoc]
      rw [this]
    · have hx := sub_lt hs ht0 (by omega) hsub
      have b3 := sV_bdr hw hl hd hB2 (s := s ^^^ t) (q := B - p) (by omega)
      have b4 : wS cv (s ^^^ t) * lk * p ≤ 100000 * 100 * 9 := Nat.mul_le_mul (Nat.mul_le_mul (hw _) hl) (by omega)
      have hpB2 := hpt e
      have hds : dS cv lk dn B (s ^^^ t) (p + 1) = sV (wS cv) lk dn B (s ^^^ t) (B - p) + wS cv (s ^^^ t) * lk * p := by
        unfold dS
        rw [if_neg (by omega), show B - (p + 1) + 1 = B - p by omega, show p + 1 - 1 = p by omega]
      rw [if_neg (fun z => e ((nI_eq (by omega) (by omega)).mp z)), xorN, ix11s, nI_1, gi_nI (by omega) (by decide), nI_clamp (by omega), show 11 * (s ^^^ t) + p + 1 = 11 * (s ^^^ t) + (p + 1) by omega, h2 e, lN_add, hds, se144 ht0 (by omega) (by omega)]
      unfold cS
      rw [if_neg e, ← hws]
      have t1 : lk * p * wS cv t = wS cv t * lk * p := by simp only [Nat.mul_comm, Nat.mul_left_comm, Nat.mul_assoc]
      have t2 : (wS cv (s ^^^ t) + wS cv t) * lk * p = wS cv (s ^^^ t) * lk * p + wS cv t * lk * p := by simp only [Nat.add_mul]
      rw [t2]
      congr 3
      omega
  unfold f_X8_sets_L63
  rw [gi_nI (by omega) (by decide), nxN' (by omega), nI_clamp (by omega), hsw, pk_mul, nI_l (by omega), nI_l (by omega), lN_mul, lN_mul]
  by_cases c1 : pc 10 t ≤ 1
  · rw [if_pos (show nI (nx t t) = 0 by rw [(pc_one t hts2 ht0).mp c1]; rfl)]
    have := hrest (lk * p * wS cv t) 0 (by rw [sV_item1 hts2 c1]) (by omega)
    rw [show lN 0 = (0 : Int64) from rfl] at this
    exact this
  · have b5 : dn * wS cv t ≤ 100 * 100000 := Nat.mul_le_mul hd (hw t)
    have hit : dn * wS cv t + dS cv lk dn B t 1 = sV (wS cv) lk dn B t 0 := by
      unfold dS sL
      rw [if_pos rfl, if_neg c1, sV_item hts2 (by omega), Nat.mul_comm dn]
      omega
    rw [if_neg (show ¬ nI (nx t t) = 0 from fun z => c1 ((pc_one t hts2 ht0).mpr ((nI_eq (b := 0) (by have := nx_lt (s := t) ht0; omega) (by decide)).mp z))), show (1 : Int32) = nI 1 from rfl, ix11s, gi_nI (by omega) (by decide), nI_clamp (by omega), h1 (by omega), lN_add, hit]
    exact hrest (lk * p * wS cv t) (sV (wS cv) lk dn B t 0) rfl (by omega)
theorem se22_s {lk dn br : Int32} {sw : Nat → Int64} (n : Nat) : f_X8_sets_L22 lk dn br sw (n + 1) = f_X8_sets_L22_F lk dn br sw (f_X8_sets_L22 lk dn br sw n) := fx_s _ _ _
/-- behind the first one: all smaller sets, or none where the places are used up -/
theorem se22 {cv : Nat → Nat} {lk dn B : Nat} (hw : ∀ s, wS cv s ≤ 100000) (hl : lk ≤ 100) (hd : dn ≤ 100) (hB2 : 2 ≤ B) (hB : B ≤ 9) {fr sw : Nat → Int64} {s p : Nat} {x5 : Int32} (hs : s < 1024) (h0 : 0 < s) (hp : 1 ≤ p) (hpB : p ≤ B) (hsw : ∀ u, 0 < u → u ≤ s → sw u = lN (wS cv u)) (hv : ∀ u p', 0 < u → u < s → 1 ≤ p' → p' ≤ B → fr (11 * u + p') = lN (dS cv lk dn B u p')) : ∀ (f t b : Nat), t < f → t < s → t &&& s = t → b ≤ 2 ^ 60 → f_X8_sets_L22 (nI lk) (nI dn) (nI B) sw f fr (nI s) (nI p) (lN b) x5 (nI t) = some (vp_updL fr (11 * s + p) (lN (if p = B then b else fm (cS cv lk dn B s p) s t t b))) := by
  intro f
  induction f with
  | zero => intro t b h1; omega
  | succ f ih =>
    intro t b h1 h2 h3 hb
    rw [se22_s]
    unfold f_X8_sets_L22_F f_X8_sets_L46
    by_cases e : t = 0
    · subst e
      rw [if_pos (show nI 0 ≤ 0 by decide), ix11s, gi_nI (by omega) (by decide), nI_clamp (by omega), fm_0, ite_self]
    · have hne : ¬ nI t = nI s := fun z => by have := (nI_eq (by omega) (by omega)).mp z; omega
      have hnx := nx_lt (s := s) (t := t) (by omega)
      rw [if_neg (nI_nle (by omega) (by omega)), if_neg hne, if_neg hne]
      by_cases c1 : p = B
      · rw [if_pos (show nI p = nI B by rw [c1]), se161 (by omega), ih (nx s t) b (by omega) (by omega) nx_sub hb, if_pos c1, if_pos c1]
      · have hx := sub_lt hs (show 0 < t by omega) h2 h3
        rw [if_neg (show ¬ nI p = nI B from fun z => c1 ((nI_eq (by omega) (by omega)).mp z)), se63 hw hl hd hB2 hB hs h0 (by omega) (by omega) h3 hp hpB (fun _ => by omega) hb (hsw t (by omega) (by omega)) (fun _ => hv t 1 (by omega) h2 (Nat.le_refl _) (by omega)) (fun _ => hv _ (p + 1) hx.1 hx.2.1 (by omega) (by omega)), ih (nx s t) _ (by omega) (by omega) nx_sub (Nat.le_trans (Nat.min_le_left _ _) hb), if_neg c1, if_neg c1]
        obtain ⟨t', rfl⟩ : ∃ t', t = t' + 1 := ⟨t - 1, by omega⟩
        rw [fm_s (by omega)]
        congr 3
        exact fm_fuel _ _ _ _ (Nat.le_refl _) (by omega)
theorem cS_fm {cv : Nat → Nat} {lk dn B s p : Nat} (hs : s < 1024) (h0 : 0 < s) (hp2 : 2 ≤ pc 10 s) (hp : 1 ≤ p) (hpB : p < B) (b : Nat) : fm (cS cv lk dn B s p) s (nx s s) (nx s s) b = min b (wS cv s * lk * p + sspl (sV (wS cv) lk dn B) s (B - p + 1)) := by
  have p1 := nx_top s hs hp2
  have p2 : nx s s < s := nx_lt h0
  have hlt := nx_lt (s := s) (t := nx s s) p1
  obtain ⟨f, hf⟩ : ∃ f, nx s s = f + 1 := ⟨nx s s - 1, by omega⟩
  rw [show fm (cS cv lk dn B s p) s (nx s s) (nx s s) b = fm (cS cv lk dn B s p) s (f + 1) (nx s s) b by rw [← hf], fm_s p1, Nat.min_comm, fm_min, Nat.min_comm]
  congr 1
  unfold sspl
  rw [← fm_add]
  rw [show B - p + 1 - 1 = B - p by omega]
  have hc : cS cv lk dn B s p (nx s s) = wS cv s * lk * p + (sV (wS cv) lk dn B (nx s s) 0 + sV (wS cv) lk dn B (s ^^^ nx s s) (B - p)) := by
    unfold cS
    rw [if_neg (by omega)]
  rw [hc, fm_fuel f 1024 _ _ (by omega) (by omega)]
  exact fm_eq (fun t a b c => by
    unfold cS
    rw [if_neg (by omega)]) 1024 _ _ (by omega) nx_sub
theorem sets8 {cv : Nat → Nat} {lk dn B : Nat} (hw : ∀ s, wS cv s ≤ 100000) (hl : lk ≤ 100) (hd : dn ≤ 100) (hB2 : 2 ≤ B) (hB : B ≤ 9) {fr sw : Nat → Int64} {s p : Nat} (hs : s < 1024) (h0 : 0 < s) (hp : 1 ≤ p) (hpB : p ≤ B) (hsw : ∀ u, 0 < u → u ≤ s → sw u = lN (wS cv u)) (hv : ∀ u p', 0 < u → u < s → 1 ≤ p' → p' ≤ B → fr (11 * u + p') = lN (dS cv lk dn B u p')) (hv1 : 2 ≤ p → fr (11 * s + 1) = lN (dS cv lk dn B s 1)) : f_X8_sets (nI lk) (nI dn) (nI B) sw fr (nI s) (nI p) = some (vp_updL fr (11 * s + p) (lN (dS cv lk dn B s p))) := by
  have hnx := nx_lt (s := s) (t := s) h0
  have hpc1 := pc_pos 10 s h0 hs
  have b0 := sV_bdr hw hl hd hB2 (s := s) (q := 0) hs
  have b1 : wS cv s * lk * p ≤ 100000 * 100 * 9 := Nat.mul_le_mul (Nat.mul_le_mul (hw _) hl) (by omega)
  have hcs : cS cv lk dn B s p s = wS cv s * lk * p + sV (wS cv) lk dn B s 0 := by
    unfold cS
    rw [if_pos rfl]
  have step : ∀ (x5 : Int32) (f : Nat), (2 ≤ pc 10 s → 2 ≤ p) → ¬ (p = 1 ∧ x5 = 0) → s < f → f_X8_sets_L22 (nI lk) (nI dn) (nI B) sw (f + 1) fr (nI s) (nI p) (lN (2 ^ 60)) x5 (nI s) = some (vp_updL fr (11 * s + p) (lN (if p = B then cS cv lk dn B s p s else fm (cS cv lk dn B s p) s (nx s s) (nx s s) (cS cv lk dn B s p s)))) := by
    intro x5 f h2p hx hf
    have h63 := se63 (x5 := x5) hw hl hd hB2 hB (k22 := f_X8_sets_L22 (nI lk) (nI dn) (nI B) sw f) (fr := fr) (sw := sw) hs h0 h0 (Nat.le_refl s) (Nat.and_self s) hp hpB (fun z => absurd rfl z) (Nat.le_refl (2 ^ 60)) (hsw s h0 (Nat.le_refl _)) (fun z => hv1 (h2p z)) (fun z => absurd rfl z)
    rw [Nat.min_eq_right (show cS cv lk dn B s p s ≤ 2 ^ 60 by rw [hcs]; omega)] at h63
    have hgo := se22 hw hl hd hB2 hB (x5 := x5) hs h0 hp hpB hsw hv f (nx s s) (cS cv lk dn B s p s) (by omega) (by omega) nx_sub (by rw [hcs]; omega)
    rw [se22_s]
    unfold f_X8_sets_L22_F f_X8_sets_L46
    rw [if_neg (nI_nle (by omega) (by omega)), if_pos rfl, if_pos rfl, h63, hgo]
    by_cases c1 : p = 1
    · rw [if_pos (show nI p = 1 by rw [c1]; rfl), if_neg (fun z => hx ⟨c1, z⟩)]
    · rw [if_neg (show ¬ nI p = 1 from fun z => c1 ((nI_eq (b := 1) (by omega) (by decide)).mp z))]
  have hfu : ∀ F : Nat, s + 2 < F → ∀ x5 : Int32, x5 = (if nx s s = 0 then 1 else 0) → f_X8_sets_L22 (nI lk) (nI dn) (nI B) sw F fr (nI s) (nI p) (lN (2 ^ 60)) x5 (nI s) = some (vp_updL fr (11 * s + p) (lN (dS cv lk dn B s p))) := by
    intro F hF x5 hx5
    obtain ⟨f, rfl⟩ : ∃ f, F = f + 1 := ⟨F - 1, by omega⟩
    by_cases c1 : pc 10 s ≤ 1
    · have hz := (pc_one s hs h0).mp c1
      rw [if_pos hz] at hx5
      rw [step x5 f (fun z => by omega) (fun z => by rw [hx5] at z; exact absurd z.2 (by decide)) (by omega), hz, fm_0, ite_self, hcs]
      congr 2
      unfold dS sL
      by_cases y : p = 1
      · rw [if_pos y, if_pos c1, sV_item1 hs c1, y, Nat.mul_one, Nat.add_zero]
      · rw [if_neg y, sV_rest1 (q := B - p + 1) hs (by omega) (.inl c1)]
        obtain ⟨p, rfl⟩ : ∃ p', p = p' + 1 := ⟨p - 1, by omega⟩
        rw [show p + 1 - 1 = p by omega, Nat.mul_add, Nat.mul_one]
        congr 1
        omega
    · have hp2 : 2 ≤ pc 10 s := by omega
      have p1 := nx_top s hs hp2
      rw [if_neg (by omega)] at hx5
      by_cases y : p = 1
      · subst y
        rw [se22_s]
        unfold f_X8_sets_L22_F
        rw [if_neg (nI_nle (by omega) (by omega)), if_pos rfl, if_pos (show nI 1 = (1 : Int32) from rfl), if_pos hx5, se161 (by omega), se22 hw hl hd hB2 hB (x5 := x5) hs h0 hp hpB hsw hv f (nx s s) (2 ^ 60) (by omega) (by omega) nx_sub (Nat.le_refl _), if_neg (by omega), cS_fm hs h0 hp2 hp (by omega)]
        have q1 := sV_bdr hw hl hd hB2 (s := nx s s) (q := 0) (by omega)
        have q2 := sV_bdr hw hl hd hB2 (s := s ^^^ nx s s) (q := B - 1 + 1 - 1) (by have := sub_lt hs p1 hnx nx_sub; omega)
        have q3 : sspl (sV (wS cv) lk dn B) s (B - 1 + 1) ≤ sV (wS cv) lk dn B (nx s s) 0 + sV (wS cv) lk dn B (s ^^^ nx s s) (B - 1 + 1 - 1) := fm_le _ _ _
        rw [Nat.min_eq_right (by omega)]
        congr 2
        unfold dS sL
        rw [if_pos rfl, if_neg c1, Nat.mul_one, show B - 1 + 1 = B by omega]
      · rw [step x5 f (fun _ => by omega) (fun z => y z.1) (by omega)]
        congr 2
        unfold dS
        rw [if_neg y]
        obtain ⟨p', rfl⟩ : ∃ p', p = p' + 1 := ⟨p - 1, by omega⟩
        by_cases c2 : p' + 1 = B
        · rw [if_pos c2, hcs, c2, show B - B + 1 = 1 by omega, sV_rest1 hs (Nat.le_refl 1) (.inr rfl), ← c2, show p' + 1 - 1 = p' by omega, Nat.mul_add, Nat.mul_one]
          congr 1
          omega
        · rw [if_neg c2, cS_fm hs h0 hp2 hp (by omega), hcs, sV_rest (q := B - (p' + 1) + 1) hs (by omega) hp2, show p' + 1 - 1 = p' by omega, Nat.mul_add, Nat.mul_one]
          congr 1
          omega
  unfold f_X8_sets f_X8_sets_L17
  rw [nxN' (by omega), show (1152921504606846976 : Int64) = lN (2 ^ 60) from rfl]
  by_cases c : nx s s = 0
  · rw [if_pos (show nI (nx s s) = 0 by rw [c]; rfl)]
    exact hfu FU (show s + 2 < 100000 by omega) 1 (by rw [if_pos c])
  · rw [if_neg (show ¬ nI (nx s s) = 0 from fun z => c ((nI_eq (b := 0) (by omega) (by decide)).mp z))]
    exact hfu FU (show s + 2 < 100000 by omega) 0 (by rw [if_neg c])
theorem fr95_s {lk dn br : Int32} {k36} (n : Nat) : f_X8_free_L95 lk dn br k36 (n + 1) = f_X8_free_L95_F lk dn br k36 (f_X8_free_L95 lk dn br k36 n) := fx_s _ _ _
theorem fr50_s {cm lk dn br : Int32} {ct : Nat → Int32} {k36} (n : Nat) : f_X8_free_L50 cm lk dn br ct k36 (n + 1) = f_X8_free_L50_F cm lk dn br ct k36 (f_X8_free_L50 cm lk dn br ct k36 n) := fx_s _ _ _
theorem fr36_s {cm lk dn br : Int32} {ct : Nat → Int32} (n : Nat) : f_X8_free_L36 cm lk dn br ct (n + 1) = f_X8_free_L36_F cm lk dn br ct (f_X8_free_L36 cm lk dn br ct n) := fx_s _ _ _
theorem fr95 {cv : Nat → Nat} {lk dn B : Nat} (hw : ∀ s, wS cv s ≤ 100000) (hl : lk ≤ 100) (hd : dn ≤ 100) (hB2 : 2 ≤ B) (hB : B ≤ 9) {k36} {sw : Nat → Int64} {th x1 : Int32} {s : Nat} (hs : s < 1024) (h0 : 0 < s) (hsw : ∀ u, 0 < u → u ≤ s → sw u = lN (wS cv u)) : ∀ (f p : Nat) (fr : Nat → Int64), 1 ≤ p → p ≤ B + 1 → B + 1 < f + p → (∀ u p', 0 < u → u < s → 1 ≤ p' → p' ≤ B → fr (11 * u + p') = lN (dS cv lk dn B u p')) → (∀ p', 1 ≤ p' → p' < p → fr (11 * s + p') = lN (dS cv lk dn B s p')) → ∃ fr', f_X8_free_L95 (nI lk) (nI dn) (nI B) k36 f th fr sw x1 (nI s) (nI p) = k36 th fr' sw x1 (nI (s + 1)) ∧ (∀ u p', 0 < u → u < s + 1 → 1 ≤ p' → p' ≤ B → fr' (11 * u + p') = lN (dS cv lk dn B u p')) := by
  intro f
  induction f with
  | zero => intro p fr h1 h2 h3; omega
  | succ f ih =>
    intro p fr h1 h2 h3 hv hv1
    rw [fr95_s]
    unfold f_X8_free_L95_F
    by_cases e : p = B + 1
    · subst e
      rw [if_pos (nI_lt (by omega) (by omega)), nI_1]
      refine ⟨fr, rfl, fun u p' a b c d => ?_⟩
      by_cases z : u = s
      · subst z; exact hv1 p' c (by omega)
      · exact hv u p' a (by omega) c d
    · rw [if_neg (nI_nlt (by omega) (by omega)), sets8 hw hl hd hB2 hB hs h0 h1 (by omega) hsw hv (fun z => hv1 1 (Nat.le_refl _) (by omega))]
      dsimp only [ob]
      rw [nI_1]
      refine ih (p + 1) _ (by omega) (by omega) (by omega) (fun u p' a b c d => by rw [pk_uLn (by omega)]; exact hv u p' a b c d) (fun p' a b => ?_)
      by_cases z : p' = p
      · subst z; rw [pk_uLs]
      · rw [pk_uLn (by omega)]; exact hv1 p' a (by omega)
theorem wS_N {cv : Nat → Nat} {N s : Nat} (hN : N ≤ 10) (hs : s < 2 ^ N) : nsum (fun c => s / 2 ^ c % 2 * cv c) N = wS cv s := by
  have key : ∀ n, N ≤ n → nsum (fun c => s / 2 ^ c % 2 * cv c) n = nsum (fun c => s / 2 ^ c % 2 * cv c) N := by
    intro n
    induction n with
    | zero => intro h; rw [show N = 0 by omega]
    | succ n ih =>
      intro h
      by_cases e : N = n + 1
      · rw [e]
      · show nsum (fun c => s / 2 ^ c % 2 * cv c) n + s / 2 ^ n % 2 * cv n = _
        have : 2 ^ N ≤ 2 ^ n := Nat.pow_le_pow_right (by decide) (by omega)
        rw [ih (by omega), Nat.div_eq_of_lt (by omega), Nat.zero_mod, Nat.zero_mul, Nat.add_zero]
  exact (key 10 hN).symm
theorem fr50 {cv : Nat → Nat} {lk dn B : Nat} (hw : ∀ s, wS cv s ≤ 100000) (hl : lk ≤ 100) (hd : dn ≤ 100) (hB2 : 2 ≤ B) (hB : B ≤ 9) {k36} {fr : Nat → Int64} {th x1 : Int32} {ct : Nat → Int32} {N s : Nat} (hct : ∀ c, c < N → ct c = nI (cv c) ∧ cv c ≤ 10000) (hN : N ≤ 10) (hsN : s < 2 ^ N) (h0 : 0 < s) (hv : ∀ u p', 0 < u → u < s → 1 ≤ p' → p' ≤ B → fr (11 * u + p') = lN (dS cv lk dn B u p')) : ∀ (f c : Nat) (sw : Nat → Int64), c ≤ N → N < f + c → (∀ u, 0 < u → u < s → sw u = lN (wS cv u)) → sw s = lN (nsum (fun c => s / 2 ^ c % 2 * cv c) c) → ∃ fr' sw', f_X8_free_L50 (nI N) (nI lk) (nI dn) (nI B) ct k36 f th fr sw x1 (nI s) (nI c) = k36 th fr' sw' x1 (nI (s + 1)) ∧ (∀ u, 0 < u → u < s + 1 → sw' u = lN (wS cv u)) ∧ (∀ u p', 0 < u → u < s + 1 → 1 ≤ p' → p' ≤ B → fr' (11 * u + p') = lN (dS cv lk dn B u p')) := by
  have hs : s < 1024 := Nat.lt_of_lt_of_le hsN (show 2 ^ N ≤ 2 ^ 10 from Nat.pow_le_pow_right (by decide) hN)
  intro f
  induction f with
  | zero => intro c sw h1 h2; omega
  | succ f ih =>
    intro c sw h1 h2 h3 h4
    rw [fr50_s]
    unfold f_X8_free_L50_F f_X8_free_L85
    by_cases e : c = N
    · subst e
      rw [if_pos (nI_le (Nat.le_refl _) (by omega))]
      have hsw : ∀ u, 0 < u → u ≤ s → sw u = lN (wS cv u) := fun u a b => by
        by_cases z : u = s
        · subst z; rw [h4, wS_N hN hsN]
        · exact h3 u a (by omega)
      obtain ⟨fr', g1, g2⟩ := fr95 hw hl hd hB2 hB (k36 := k36) (th := th) (x1 := x1) hs h0 hsw FU 1 fr (Nat.le_refl _) (by omega) (show B + 1 < 100000 + 1 by omega) hv (fun p' a b => by omega)
      rw [show nI 1 = (1 : Int32) from rfl] at g1
      exact ⟨fr', sw, g1, fun u a b => hsw u a (by omega), g2⟩
    · rw [if_neg (nI_ge (by omega) (by omega)), gi_nI (by omega) (by decide), gi_nI (by omega) (by decide), gi_nI (by omega) (by decide), gi_nI (by omega) (by decide), nI_clamp (by omega), nI_clamp (by omega), sshN (by omega) (by omega), and1N, h4, (hct c (by omega)).1, nI_l (by have := (hct c (by omega)).2; omega), nI_1]
      have hb2 : s / 2 ^ c % 2 < 2 := Nat.mod_lt _ (by decide)
      have fin : ∀ x : Nat, x = s / 2 ^ c % 2 * cv c → ∃ fr' sw', f_X8_free_L50 (nI N) (nI lk) (nI dn) (nI B) ct k36 f th fr (vp_updL sw s (lN (nsum (fun c => s / 2 ^ c % 2 * cv c) c + x))) x1 (nI s) (nI (c + 1)) = k36 th fr' sw' x1 (nI (s + 1)) ∧ (∀ u, 0 < u → u < s + 1 → sw' u = lN (wS cv u)) ∧ (∀ u p', 0 < u → u < s + 1 → 1 ≤ p' → p' ≤ B → fr' (11 * u + p') = lN (dS cv lk dn B u p')) := by
        intro x hx
        refine ih (c + 1) _ (by omega) (by omega) (fun u a b => by rw [pk_uLn (by omega)]; exact h3 u a b) ?_
        rw [pk_uLs, hx]
        rfl
      by_cases q : s / 2 ^ c % 2 = 1
      · rw [if_pos (show nI (s / 2 ^ c % 2) = 1 by rw [q]; rfl), lN_add]
        exact fin (cv c) (by rw [q, Nat.one_mul])
      · rw [if_neg (show ¬ nI (s / 2 ^ c % 2) = 1 from fun z => q ((nI_eq (b := 1) (by omega) (by decide)).mp z)), show (0 : Int64) = lN 0 from rfl, lN_add]
        exact fin 0 (by rw [show s / 2 ^ c % 2 = 0 by omega, Nat.zero_mul])
theorem free8 {cv : Nat → Nat} {lk dn B : Nat} (hw : ∀ s, wS cv s ≤ 100000) (hl : lk ≤ 100) (hd : dn ≤ 100) (hB2 : 2 ≤ B) (hB : B ≤ 9) {fr sw : Nat → Int64} {th : Int32} {ct : Nat → Int32} {N : Nat} (hct : ∀ c, c < N → ct c = nI (cv c) ∧ cv c ≤ 10000) (hN : N ≤ 10) (hN1 : 1 ≤ N) : ∃ fr' sw', f_X8_free (nI N) (nI lk) (nI dn) (nI B) ct th fr sw = some (lN (sL cv lk dn B (2 ^ N - 1)), 0, fr', sw') := by
  have hp : 2 ^ N ≤ 2 ^ 10 := Nat.pow_le_pow_right (by decide) hN
  have hp2 : 2 ^ 1 ≤ 2 ^ N := Nat.pow_le_pow_right (by decide) hN1
  have key : ∀ (f s : Nat) (fr sw : Nat → Int64), 1 ≤ s → s ≤ 2 ^ N → 2 ^ N < f + s → (∀ u, 0 < u → u < s → sw u = lN (wS cv u)) → (∀ u p', 0 < u → u < s → 1 ≤ p' → p' ≤ B → fr (11 * u + p') = lN (dS cv lk dn B u p')) → ∃ fr' sw', f_X8_free_L36 (nI N) (nI lk) (nI dn) (nI B) ct f 0 fr sw (nI (2 ^ N - 1)) (nI s) = some (lN (sL cv lk dn B (2 ^ N - 1)), 0, fr', sw') := by
    intro f
    induction f with
    | zero => intro s fr sw h1 h2 h3; omega
    | succ f ih =>
      intro s fr sw h1 h2 h3 hsw hv
      rw [fr36_s]
      unfold f_X8_free_L36_F
      by_cases e : s = 2 ^ N
      · rw [if_pos (nI_lt (by omega) (by omega)), show (1 : Int32) = nI 1 from rfl, ix11s, gi_nI (by omega) (by decide), nI_clamp (by omega), hv (2 ^ N - 1) 1 (by omega) (by omega) (Nat.le_refl _) (by omega)]
        unfold dS
        rw [if_pos rfl]
        exact ⟨fr, sw, rfl⟩
      · rw [if_neg (nI_nlt (by omega) (by omega)), gi_nI (by omega) (by decide), nI_clamp (by omega)]
        obtain ⟨fr1, sw1, g1, g2, g3⟩ := fr50 hw hl hd hB2 hB (k36 := f_X8_free_L36 (nI N) (nI lk) (nI dn) (nI B) ct f) (th := 0) (x1 := nI (2 ^ N - 1)) hct hN (show s < 2 ^ N by omega) (by omega) hv FU 0 (vp_updL sw s 0) (Nat.zero_le _) (show N < 100000 + 0 by omega) (fun u a b => by rw [pk_uLn (by omega)]; exact hsw u a b) (by rw [pk_uLs]; rfl)
        rw [nI_0] at g1
        rw [g1]
        exact ih (s + 1) fr1 sw1 (by omega) (by omega) (by omega) g2 g3
  unfold f_X8_free
  rw [if_neg (nI_ne0 (by omega) (by omega)), if_pos (show nI N ≤ 10 from nI_le (b := 10) hN (by decide)), shl1 N hN, nI_m1 (by omega)]
  have := key FU 1 fr sw (Nat.le_refl _) (by omega) (show 2 ^ N < 100000 + 1 by omega) (fun u a b => by omega) (fun u p' a b => by omega)
  rw [show nI 1 = (1 : Int32) from rfl] at this
  exact this
theorem wS_bd {N : Nat} {ct : Nat → Int32} (h : ∀ c, c < N → ∃ v : Nat, v ≤ 10000 ∧ ct c = nI v) (s : Nat) : wS (cvv N ct) s ≤ 100000 := by
  have h1 : wS (cvv N ct) s ≤ nsum (fun _ => 10000) 10 := nsum_le 10 (fun c _ => by
    have a := (cvv_ok h).2 c
    have b : s / 2 ^ c % 2 < 2 := Nat.mod_lt _ (by decide)
    have : s / 2 ^ c % 2 * cvv N ct c ≤ 1 * 10000 := Nat.mul_le_mul (by omega) a
    omega)
  rw [nsum_const] at h1
  exact h1
/-- the cache of free -/
def RFr (N : Nat) (ct se : Nat → Int32) (fk : Int32) (fc : Int64) : Prop := fk = 0 ∨ (fk = 1 ∧ ∀ lk dn B : Nat, se 0 = nI lk → se 1 = nI dn → se 2 = nI B → lk ≤ 100 → dn ≤ 100 → B ≤ 9 → 1 ≤ N ∧ N ≤ 10 ∧ fc = lN (sL (cvv N ct) lk dn B (2 ^ N - 1)))
theorem s_free {N : Nat} {ct wd se ct8 wd8 : Nat → Int32} {lk dn br un : Int32} (hu : RU N ct wd se ct8 wd8 lk dn br un) {fk : Int32} {fc : Int64} (hf : RFr N ct se fk fc) {we ai le : Nat → Int64} {ar : Nat → Nat → Int64} (hwe : we 0 = 0) (th : Int32) (fr sw : Nat → Int64) : ∃ (r fc' : Int64) (fk' : Int32) (we' ai' : Nat → Int64) (ar' : Nat → Nat → Int64) (le' fr' sw' : Nat → Int64), f_X7_free (nI N) ct se fc fk we ai ar le = some (r, fc', fk', we', ai', ar', le') ∧ f_X8_free (nI N) lk dn br ct8 th fr sw = some (r, 0, fr', sw') ∧ RFr N ct se fk' fc' ∧ we' 0 = 0 := by
  obtain ⟨hN, h1, h2, h3, ⟨rfl, rfl, rfl, rfl⟩, ⟨lkN, l1, l2, hlk⟩, ⟨dnN, d1, hdn⟩, ⟨B, B1, B2, hB⟩, g3⟩ := hu
  obtain ⟨cv1, cv2⟩ := cvv_ok h2
  have hw := wS_bd h2
  by_cases c0 : N = 0
  · unfold f_X7_free f_X8_free
    rw [if_pos (show nI N = 0 by rw [c0]; rfl), if_pos (show nI N = 0 by rw [c0]; rfl)]
    exact ⟨_, _, _, _, _, _, _, _, _, rfl, rfl, hf, hwe⟩
  · by_cases c1 : N ≤ 10
    · obtain ⟨fr', sw', e8⟩ := free8 (cv := cvv N ct) hw l2 d1 B1 B2 (fr := fr) (sw := sw) (th := th) (ct := ct8) (N := N) (fun c hc => ⟨by rw [(h1 c hc).1]; exact cv1 c hc, cv2 c⟩) c1 (by omega)
      rw [hlk, hdn, hB, e8]
      unfold f_X7_free
      rw [if_neg (nI_ne0 (by omega) (by omega)), if_pos (show nI N ≤ 10 from nI_le (b := 10) c1 (by decide))]
      rcases hf with z | ⟨z, hk⟩
      · rw [if_pos z]
        obtain ⟨we', ai', ar', le', g1, g2⟩ := least7 (cv := cvv N ct) hw l2 d1 B1 B2 (we := we) (ai := ai) (le := le) (ar := ar) (ct := ct) (se := se) (N := N) (fun c hc => ⟨cv1 c hc, cv2 c⟩) c1 (by omega) hlk hdn hB hwe
        rw [g1]
        refine ⟨_, _, _, _, _, _, _, _, _, rfl, rfl, .inr ⟨rfl, fun lk2 dn2 BB q1 q2 q3 q4 q5 q6 => ⟨by omega, c1, ?_⟩⟩, g2⟩
        have z1 : lk2 = lkN := (nI_eq (by omega) (by omega)).mp (by rw [← q1, hlk])
        have z2 : dn2 = dnN := (nI_eq (by omega) (by omega)).mp (by rw [← q2, hdn])
        have z3 : BB = B := (nI_eq (by omega) (by omega)).mp (by rw [← q3, hB])
        rw [z1, z2, z3]
      · subst z
        rw [if_neg (show ¬ (1 : Int32) = 0 by decide)]
        have hk2 := (hk lkN dnN B hlk hdn hB l2 d1 B2).2.2
        rw [← hk2]
        exact ⟨_, _, _, _, _, _, _, _, _, rfl, rfl, .inr ⟨rfl, hk⟩, hwe⟩
    · unfold f_X7_free f_X8_free
      rw [if_neg (nI_ne0 (by omega) (by omega)), if_neg (nI_ne0 (by omega) (by omega)), if_neg (show ¬ nI N ≤ 10 from nI_ge (a := 10) (by omega) (by omega)), if_neg (show ¬ nI N ≤ 10 from nI_ge (a := 10) (by omega) (by omega))]
      exact ⟨_, _, _, _, _, _, _, _, _, rfl, rfl, hf, hwe⟩
