/-! best: the class's reckoning -/
def flt (c : Nat → Nat) (p : Nat × Nat) : Bool := !decide ((c p.1 : Int) = (c p.2 : Int))
def mps (N : Nat) (c : Nat → Nat) : List (Nat × Nat) := (aps N).filter (fun p => !decide ((fun x => (c x : Int)) p.1 = (fun x => (c x : Int)) p.2))
theorem lp7_s {cc : Nat → Int64} (n : Nat) : f_X0_listPairs_L7 cc (n + 1) = f_X0_listPairs_L7_F cc (f_X0_listPairs_L7 cc n) := fx_s _ _ _
theorem lp16_s {cc : Nat → Int64} {k7} (n : Nat) : f_X0_listPairs_L16 cc k7 (n + 1) = f_X0_listPairs_L16_F cc k7 (f_X0_listPairs_L16 cc k7 n) := fx_s _ _ _
theorem lpr16 {N a : Nat} (hN : N ≤ 12) (ha : a < N) {cc : Nat → Int64} {c : Nat → Nat} (hcc : ∀ x, x < N → cc x = lN (c x)) (hc : ∀ x, c x ≤ 10000) {k7} : ∀ (r b f : Nat) (D : List (Nat × Nat)) (lo up : Nat → Int32), b + r = N → r < f → D.length + r ≤ 66 → HA (D.filter (flt c)) lo up → ∃ lo' up', f_X0_listPairs_L16 cc k7 f (nI (D.filter (flt c)).length) lo up (nI N) (nI a) (nI b) = k7 (nI ((D ++ pbl a b r).filter (flt c)).length) lo' up' (nI N) (nI (a + 1)) ∧ HA ((D ++ pbl a b r).filter (flt c)) lo' up' := by
  intro r
  induction r with
  | zero =>
    intro b f D lo up h1 h2 h3 h4
    obtain ⟨f, rfl⟩ : ∃ k, f = k + 1 := ⟨f - 1, by omega⟩
    rw [lp16_s]
    unfold f_X0_listPairs_L16_F
    rw [if_pos (nI_le (by omega) (by omega)), nI_1, show D ++ pbl a b 0 = D from List.append_nil D]
    exact ⟨lo, up, rfl, h4⟩
  | succ r ih =>
    intro b f D lo up h1 h2 h3 h4
    obtain ⟨f, rfl⟩ : ∃ k, f = k + 1 := ⟨f - 1, by omega⟩
    have hfl : (D.filter (flt c)).length ≤ D.length := List.length_filter_le _ _
    have hl : (D ++ [(a, b)]).length = D.length + 1 := by simp
    have e : D ++ pbl a b (r + 1) = D ++ [(a, b)] ++ pbl a (b + 1) r := by rw [List.append_assoc]; rfl
    have hca := hc a
    have hcb := hc b
    rw [lp16_s, e]
    unfold f_X0_listPairs_L16_F f_X0_listPairs_L76
    rw [if_neg (nI_ge (by omega) (by omega)), gi_nI (by omega) (by decide), gi_nI (by omega) (by decide), nI_clamp (by omega), nI_clamp (by omega), hcc a ha, hcc b (by omega), nI_1]
    by_cases q : c a = c b
    · have hf : (D ++ [(a, b)]).filter (flt c) = D.filter (flt c) := by
        rw [List.filter_append, List.filter_cons_of_neg (by unfold flt; simp [q])]
        simp
      rw [if_pos (by rw [q])]
      have := ih (b + 1) f (D ++ [(a, b)]) lo up (by omega) (by omega) (by rw [hl]; omega) (by rw [hf]; exact h4)
      rw [hf] at this
      exact this
    · have hf : (D ++ [(a, b)]).filter (flt c) = D.filter (flt c) ++ [(a, b)] := by
        rw [List.filter_append, List.filter_cons_of_pos (by unfold flt; simp; omega)]
        rfl
      rw [if_neg (fun z => q (lN_inj (by omega) (by omega) z)), if_neg (show ¬ (66 : Int32) ≤ _ from nI_ge (b := 66) (show (D.filter (flt c)).length < 66 by omega) (by decide)), gi_nI (by omega) (by decide), gi_nI (by omega) (by decide), nI_clamp (by omega), nI_1]
      have := ih (b + 1) f (D ++ [(a, b)]) _ _ (by omega) (by omega) (by rw [hl]; omega) (by rw [hf]; exact ha_app (p := (a, b)) h4)
      rw [hf, show (D.filter (flt c) ++ [(a, b)]).length = (D.filter (flt c)).length + 1 by simp] at this
      exact this
theorem lpr7 {N : Nat} (hN : N ≤ 12) {cc : Nat → Int64} {c : Nat → Nat} (hcc : ∀ x, x < N → cc x = lN (c x)) (hc : ∀ x, c x ≤ 10000) : ∀ (r a f : Nat) (D : List (Nat × Nat)) (lo up : Nat → Int32), a + r = N → r < f → D.length + (pal N r a).length ≤ 66 → HA (D.filter (flt c)) lo up → ∃ lo' up', f_X0_listPairs_L7 cc f (nI (D.filter (flt c)).length) lo up (nI N) (nI a) = some (nI ((D ++ pal N r a).filter (flt c)).length, lo', up') ∧ HA ((D ++ pal N r a).filter (flt c)) lo' up' := by
  intro r
  induction r with
  | zero =>
    intro a f D lo up h1 h2 h3 h4
    obtain ⟨f, rfl⟩ : ∃ k, f = k + 1 := ⟨f - 1, by omega⟩
    rw [lp7_s]
    unfold f_X0_listPairs_L7_F
    rw [if_pos (nI_le (by omega) (by omega)), show D ++ pal N 0 a = D from List.append_nil D]
    exact ⟨lo, up, rfl, h4⟩
  | succ r ih =>
    intro a f D lo up h1 h2 h3 h4
    obtain ⟨f, rfl⟩ : ∃ k, f = k + 1 := ⟨f - 1, by omega⟩
    have hpl : ∀ q b, (pbl a b q).length = q := by
      intro q
      induction q with
      | zero => intro b; rfl
      | succ q ihq => intro b; show (pbl a (b + 1) q).length + 1 = q + 1; rw [ihq]
    have hll : (pal N (r + 1) a).length = (N - (a + 1)) + (pal N r (a + 1)).length := by
      show (pbl a (a + 1) (N - (a + 1)) ++ pal N r (a + 1)).length = _
      rw [List.length_append, hpl]
    rw [lp7_s]
    unfold f_X0_listPairs_L7_F
    rw [if_neg (nI_ge (by omega) (by omega)), nI_1]
    obtain ⟨lo1, up1, g1, g2⟩ := lpr16 hN (show a < N by omega) hcc hc (k7 := f_X0_listPairs_L7 cc f) (N - (a + 1)) (a + 1) FU D lo up (by omega) (show N - (a + 1) < 100000 by omega) (by omega) h4
    rw [g1]
    obtain ⟨lo2, up2, g3, g4⟩ := ih (a + 1) f (D ++ pbl a (a + 1) (N - (a + 1))) lo1 up1 (by omega) (by omega) (by rw [List.length_append, hpl]; omega) g2
    have e : D ++ pal N (r + 1) a = D ++ pbl a (a + 1) (N - (a + 1)) ++ pal N r (a + 1) := by rw [List.append_assoc]; rfl
    rw [e]
    exact ⟨lo2, up2, g3, g4⟩
theorem mps_lt {N : Nat} {c : Nat → Nat} {y : Nat} (hq : ∃ q, q ∈ mps N c ∧ (y = q.1 ∨ y = q.2)) : y < N := by
  obtain ⟨q, hq1, hq2⟩ := hq
  have := aps_mem.mp (List.mem_filter.mp hq1).1
  have h5 := this.1
  have h6 := this.2
  rcases hq2 with z | z <;> omega
theorem bg24_s {z : Int32} {ct se av pv hh pp : Nat → Int32} (n : Nat) : f_X0_begin_L24 z ct se av pv hh pp (n + 1) = f_X0_begin_L24_F z ct se av pv hh pp (f_X0_begin_L24 z ct se av pv hh pp n) := fx_s _ _ _
/-- the class's tables of best rows hold up to R exchanges -/
def VX (N : Nat) (c s : Nat → Nat) (u : Nat) (v : Int) (R : Nat) (pairs : Int32) (unl : Int64) (sums : Nat → Int64) (len : Nat → Int32) (rows : Nat → Nat → Int32) (lo up : Nat → Int32) (cc ss : Nat → Int64) : Prop :=
  pairs = nI (mps N c).length ∧ unl = lN u ∧ HA (mps N c) lo up ∧ (∀ x, x < N → cc x = lN (c x)) ∧ (∀ x, x < 12 → (∃ q, q ∈ mps N c ∧ (x = q.1 ∨ x = q.2)) → ss x = lN (s x)) ∧ sums 0 = Int64.ofInt v ∧ ∀ m, m ≤ R → Bs (mps N c) (bst (fun x => (c x : Int)) (u : Int) (aps N) v (fun x => (s x : Int)) m) (len m) (sums m) (rows m)
theorem begin7 {N : Nat} (hN : N ≤ 12) {ct se av pv hh pp : Nat → Int32} {c s : Nat → Nat} {u : Nat} {v : Int} (hct : ∀ x, x < N → ct x = nI (c x)) (hc : ∀ x, c x ≤ 10000) (hu : u ≤ 100) (hse : se 3 = nI u) (hs : ∀ x, s x ≤ 50000) (v1 : -10000000000 ≤ v) (v2 : v ≤ 10000000000) (hcost : f_X5_totalCost av pv hh pp (nI N) ct se = some (Int64.ofInt v)) (hstep : ∀ x, x < N → f_X5_stepsTo av pv hh pp se (nI x) = some (nI (s x))) (rk pairs : Int32) (unl : Int64) (sums : Nat → Int64) (len lo up : Nat → Int32) (rows : Nat → Nat → Int32) (cc ss : Nat → Int64) : ∃ (sums' : Nat → Int64) (len' lo' up' : Nat → Int32) (cc' ss' : Nat → Int64), f_X0_begin (nI N) ct se av pv hh pp rk pairs unl sums len lo up cc ss = some (0, nI (mps N c).length, lN u, sums', len', lo', up', cc', ss') ∧ VX N c s u v 0 (nI (mps N c).length) (lN u) sums' len' rows lo' up' cc' ss' := by
  have hlen := aps_len N hN
  have key : ∀ (f i : Nat) (cc ss : Nat → Int64), i ≤ N → N < f + i → (∀ x, x < i → cc x = lN (c x)) → (∀ x, x < i → ss x = lN (s x)) → ∃ (sums' : Nat → Int64) (len' lo' up' : Nat → Int32) (cc' ss' : Nat → Int64), f_X0_begin_L24 (nI N) ct se av pv hh pp f rk pairs (lN u) sums len lo up cc ss (nI N) (nI i) = some (0, nI (mps N c).length, lN u, sums', len', lo', up', cc', ss') ∧ VX N c s u v 0 (nI (mps N c).length) (lN u) sums' len' rows lo' up' cc' ss' := by
    intro f
    induction f with
    | zero => intro i cc ss h1 h2; omega
    | succ f ih =>
      intro i cc ss h1 h2 h3 h4
      rw [bg24_s]
      unfold f_X0_begin_L24_F
      by_cases e : i = N
      · subst e
        rw [if_pos (nI_le (Nat.le_refl _) (by omega))]
        obtain ⟨lo1, up1, g1, g2⟩ := lpr7 hN h3 hc i 0 FU [] lo up (by omega) (show i < 100000 by omega) (by show 0 + (aps i).length ≤ 66; omega) (fun x p hx => by simp at hx)
        have hm : ([] ++ pal i i 0).filter (flt c) = mps i c := rfl
        rw [hm] at g1 g2
        rw [show nI (([] : List (Nat × Nat)).filter (flt c)).length = (0 : Int32) from rfl, nI_0] at g1
        unfold f_X0_listPairs
        rw [g1]
        dsimp only [ob3]
        rw [hcost]
        dsimp only [ob]
        refine ⟨_, _, _, _, _, _, rfl, rfl, rfl, g2, h3, fun x _ hq => h4 x (mps_lt hq), pk_uLs, fun m hm2 => ?_⟩
        have hm0 : m = 0 := by omega
        subst hm0
        refine ⟨pk_us, pk_uLs, by show (0 : Nat) ≤ 3; omega, fun j p hj => ?_, by show (-100000000000 : Int) ≤ v; omega, by show v ≤ 100000000000; omega⟩
        change ([] : List (Nat × Nat))[j]? = some p at hj
        simp at hj
      · have := hc i
        have := hs i
        rw [if_neg (nI_ge (by omega) (by omega)), gi_nI (by omega) (by decide), gi_nI (by omega) (by decide), hstep i (by omega)]
        dsimp only [ob]
        rw [gi_nI (by omega) (by decide), nI_clamp (by omega), hct i (by omega), nI_l (by omega), nI_l (by omega), nI_1]
        refine ih (i + 1) _ _ (by omega) (by omega) (fun x hx => ?_) (fun x hx => ?_)
        · by_cases z : x = i
          · subst z; rw [pk_uLs]
          · rw [pk_uLn z]; exact h3 x (by omega)
        · by_cases z : x = i
          · subst z; rw [pk_uLs]
          · rw [pk_uLn z]; exact h4 x (by omega)
  unfold f_X0_begin
  rw [if_neg (show ¬ (12 : Int32) < nI N from nI_nlt (a := 12) hN (by decide)), show Int32.toNatClampNeg 3 = 3 from rfl, hse, nI_l (by omega)]
  have := key FU 0 cc ss (Nat.zero_le _) (show N < 100000 + 0 by omega) (fun x hx => by omega) (fun x hx => by omega)
  rw [nI_0] at this
  exact this
theorem rk22_s (n : Nat) : f_X0_reckon_L22 (n + 1) = f_X0_reckon_L22_F (f_X0_reckon_L22 n) := fx_s _ _ _
theorem mps_pr {N : Nat} (hN : N ≤ 12) {c : Nat → Nat} {lo up : Nat → Int32} (h : HA (mps N c) lo up) : Pr (mps N c) lo up := by
  have hlen := aps_len N hN
  refine ⟨Nat.le_trans (List.length_filter_le _ _) hlen, h, fun p hp => ?_⟩
  have := aps_mem.mp (List.mem_filter.mp hp).1
  exact ⟨this.1, by have := this.2; omega⟩
theorem rk22 {N : Nat} (hN : N ≤ 12) {c s : Nat → Nat} {u K : Nat} {v : Int} (hK : K ≤ 3) (hc : ∀ x, c x ≤ 10000) (hu : u ≤ 100) (hs : ∀ x, s x ≤ 50000) (v1 : -10000000000 ≤ v) (v2 : v ≤ 10000000000) {lo up : Nat → Int32} {cc : Nat → Int64} : ∀ (f R : Nat) (sums : Nat → Int64) (len : Nat → Int32) (rows : Nat → Nat → Int32) (ss : Nat → Int64) (row : Nat → Int32), R ≤ 3 → 4 < f + R → VX N c s u v R (nI (mps N c).length) (lN u) sums len rows lo up cc ss → ∃ (R' : Nat) (sums' : Nat → Int64) (len' : Nat → Int32) (rows' : Nat → Nat → Int32) (ss' : Nat → Int64) (row' : Nat → Int32), f_X0_reckon_L22 f (nI R) (nI (mps N c).length) (lN u) sums len rows lo up cc ss row (nI K) (nI (R + 1)) = some (nI R', nI (mps N c).length, lN u, sums', len', rows', lo, up, cc, ss', row') ∧ K ≤ R' ∧ R' ≤ 3 ∧ VX N c s u v R' (nI (mps N c).length) (lN u) sums' len' rows' lo up cc ss' := by
  intro f
  induction f with
  | zero => intro R sums len rows ss row h1 h2; omega
  | succ f ih =>
    intro R sums len rows ss row h1 h2 hv
    rw [rk22_s]
    unfold f_X0_reckon_L22_F
    by_cases e : K < R + 1
    · rw [if_pos (nI_lt e (by omega))]
      exact ⟨R, _, _, _, _, _, rfl, by omega, h1, hv⟩
    · rw [if_neg (nI_nlt (by omega) (by omega)), nI_pred, gi_nI (by omega) (by decide), gi_nI (by omega) (by decide), gi_nI (by omega) (by decide), gi_nI (by omega) (by decide), gi_nI (by omega) (by decide), gi_nI (by omega) (by decide), nI_clamp (by omega), nI_clamp (by omega), show Int32.toNatClampNeg 0 = 0 from rfl, show Int32.toNatClampNeg 3 = 3 from rfl, pk_uLn (show (0 : Nat) ≠ R + 1 by omega)]
      obtain ⟨w1, w2, w3, w4, w5, w6, w7⟩ := hv
      obtain ⟨b1, b2, b3, b4, b5, b6⟩ := w7 R (Nat.le_refl _)
      rw [w6]
      have hbc : Bc (mps N c) (R + 1) (bst (fun x => (c x : Int)) (u : Int) (aps N) v (fun x => (s x : Int)) R) (vp_updL sums (R + 1) (sums R)) (upd len (R + 1) (len R)) (va_up rows (R + 1) (va_cpy (rows R) (rows (R + 1)) 0 0 3)) := by
        refine ⟨by rw [pk_us]; exact b1, by rw [pk_uLs]; exact b2, b3, ?_, b5, b6⟩
        rw [va_up_self]
        refine rw_keep b4 (fun j hj => ?_)
        rw [pk_cpy_in (Nat.zero_le _) (by omega), Nat.zero_add, Nat.sub_zero]
      obtain ⟨sums2, len2, rows2, ss2, row2, g1, g2, g3, g4, g5⟩ := tries7 (c := c) (u := u) (mps_pr hN w3) (List.Pairwise.filter _ (pal_sorted N 0 (by omega))) (fun y hq => w4 y (mps_lt hq)) hc hu (n := R + 1) (by omega) 4 R v s [] _ _ _ _ ss row (by omega) (by simp) hs w5 (fun j p hj => by simp at hj) hbc (by simpa using v1) (by simpa using v2)
      rw [show nI ([] : List (Nat × Nat)).length = (0 : Int32) from rfl] at g1
      rw [g1]
      dsimp only [ob5]
      rw [nI_1]
      have hlast : Bs (mps N c) (bst (fun x => (c x : Int)) (u : Int) (aps N) v (fun x => (s x : Int)) (R + 1)) (len2 (R + 1)) (sums2 (R + 1)) (rows2 (R + 1)) := by
        rw [bst_C (by omega) (fun x => by omega) R]
        exact g4
      refine ih (R + 1) sums2 len2 rows2 ss2 row2 (by omega) (by omega) ⟨w1, w2, w3, w4, g2, ?_, fun m hm => ?_⟩
      · rw [(g5 0 (by omega)).1, pk_uLn (by omega)]; exact w6
      · by_cases z : m = R + 1
        · subst z; exact hlast
        · obtain ⟨k1, k2, k3⟩ := g5 m z
          obtain ⟨c1, c2, c3, c4, c5, c6⟩ := w7 m (by omega)
          refine ⟨by rw [k2, pk_un z]; exact c1, by rw [k1, pk_uLn z]; exact c2, c3, ?_, c5, c6⟩
          refine rw_keep c4 (fun j hj => ?_)
          rw [k3 j, va_up_ne _ _ z]
