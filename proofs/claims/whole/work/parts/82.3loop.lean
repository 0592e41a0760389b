/-! plan: the reference's loops -/
def offx (x : Nat) (le le0 : Nat → Int64) (me me0 fi fi0 : Nat → Int32) : Prop := ∀ k, k ≠ x → le k = le0 k ∧ me k = me0 k ∧ fi k = fi0 k
theorem E8_off {cv : Nat → Nat} {lk dn B n i p x : Nat} {le le0 : Nat → Int64} {me me0 fi fi0 : Nat → Int32} (h : E8 cv lk dn B n i p le0 me0 fi0) (ho : offx x le le0 me me0 fi fi0) (hx : ((41 * i + (i + n)) * 11 + p) ≠ x) : E8 cv lk dn B n i p le me fi := by
  obtain ⟨L, M, e1, e2, e3, e4⟩ := h
  obtain ⟨o1, o2, o3⟩ := ho _ hx
  exact ⟨L, M, o1.trans e1, o2.trans e2, o3.trans e3, e4⟩
theorem offx_up {x : Nat} {le le0 : Nat → Int64} {me me0 fi fi0 : Nat → Int32} {a : Int64} {b c : Int32} (h : offx x le le0 me me0 fi fi0) : offx x (vp_updL le x a) le0 (upd me x b) me0 (upd fi x c) fi0 := fun k hk => by
  rw [pk_uLn hk, pk_un hk, pk_un hk]; exact h k hk
theorem acc8 {k26 : (Nat → Int64) → (Nat → Int32) → (Nat → Int32) → Int32 → Int32 → Int32 → Int32 → Int32 → Int32 → Option ((Nat → Int64) × (Nat → Int32) × (Nat → Int32))} {le : Nat → Int64} {me fi : Nat → Int32} {a b c d : Int32} {x s v m L M : Nat} (hx : x < 18491) (h1 : le x = lN L) (h2 : me x = nI M) (hv : v < 2 ^ 60) (hL : L < 2 ^ 60) (hm : m < 64) (hM : M < 64) : f_X8_spans_L196 k26 le me fi a b c (nI x) d (nI s) (lN v) (nI m) = if 64 * v + m < 64 * L + M then k26 (vp_updL le x (lN v)) (upd me x (nI m)) (upd fi x (nI s)) a b c (nI x) d (nI (s + 1)) else k26 le me fi a b c (nI x) d (nI (s + 1)) := by
  unfold f_X8_spans_L196 f_X8_spans_L264 f_X8_spans_L237 f_X8_spans_L264
  rw [gi_nI hx (by decide), gi_nI hx (by decide), gi_nI hx (by decide), gi_nI hx (by decide), gi_nI hx (by decide), gi_nI hx (by decide), nI_clamp (by omega), h1, h2, nI_1]
  by_cases q1 : L < v
  · rw [if_pos ((pk_lLT (by omega) (by omega)).mpr q1), if_neg (by omega)]
  · rw [if_neg (fun z => q1 ((pk_lLT (by omega) (by omega)).mp z))]
    by_cases q2 : v = L
    · rw [if_pos (by rw [q2])]
      by_cases q3 : m < M
      · rw [if_pos (nI_lt q3 (by omega)), if_pos (by omega)]
      · rw [if_neg (nI_nlt (by omega) (by omega)), if_neg (by omega)]
    · rw [if_neg (fun z => q2 (by
        have a1 : lN v ≤ lN L := by rw [z]; exact Int64.le_refl _
        have a2 : lN L ≤ lN v := by rw [z]; exact Int64.le_refl _
        have b1 := (pk_lLE (by omega) (by omega)).mp a1
        have b2 := (pk_lLE (by omega) (by omega)).mp a2
        omega)), if_pos (by omega)]
theorem acc8_0 {k26 : (Nat → Int64) → (Nat → Int32) → (Nat → Int32) → Int32 → Int32 → Int32 → Int32 → Int32 → Int32 → Option ((Nat → Int64) × (Nat → Int32) × (Nat → Int32))} {le : Nat → Int64} {me fi : Nat → Int32} {a b c d : Int32} {x s v m : Nat} (hx : x < 18491) (h1 : le x = lN (2 ^ 60)) (hv : v < 2 ^ 60) : f_X8_spans_L196 k26 le me fi a b c (nI x) d (nI s) (lN v) (nI m) = k26 (vp_updL le x (lN v)) (upd me x (nI m)) (upd fi x (nI s)) a b c (nI x) d (nI (s + 1)) := by
  unfold f_X8_spans_L196 f_X8_spans_L264 f_X8_spans_L237 f_X8_spans_L264
  rw [gi_nI hx (by decide), gi_nI hx (by decide), gi_nI hx (by decide), gi_nI hx (by decide), gi_nI hx (by decide), gi_nI hx (by decide), nI_clamp (by omega), h1, nI_1]
  rw [if_neg (fun z => by have := (pk_lLT (by omega) (by omega)).mp z; omega), if_neg (fun z => by
    have a2 : lN (2 ^ 60) ≤ lN v := by rw [z]; exact Int64.le_refl _
    have b2 := (pk_lLE (by omega) (by omega)).mp a2
    omega)]
theorem sk48 {k26 : (Nat → Int64) → (Nat → Int32) → (Nat → Int32) → Int32 → Int32 → Int32 → Int32 → Int32 → Int32 → Option ((Nat → Int64) × (Nat → Int32) × (Nat → Int32))} {wt le : Nat → Int64} {me fi : Nat → Int32} {lk dn B n i s : Nat} {x s1 : Int32} (hi : i + n ≤ 40) (hs : 1 ≤ s) (hsn : s < n) (hs1 : ¬ s1 < nI s) : f_X8_spans_L48 (nI lk) (nI dn) (nI B) wt k26 le me fi (nI i) (nI (i + n)) (nI B) x (nI n) (nI s) (nI s) s1 = k26 le me fi (nI i) (nI (i + n)) (nI B) x (nI n) (nI (s + 1)) := by
  unfold f_X8_spans_L48 f_X8_spans_L136 f_X8_spans_L264 f_X8_span
  rw [if_neg hs1, nI_add, gi_nI (by omega) (by decide), gi_nI (by omega) (by decide)]
  dsimp only [nm, ob]
  rw [show (1 : Int32) = nI 1 from rfl, ix11, gi_nI (by omega) (by decide), gi_nI (by omega) (by decide), if_neg (nI_ge hsn (by omega)), if_pos rfl, nI_add, if_neg (nI_ge hsn (by omega)), if_pos rfl, ite_self]
def smx (n p : Nat) : Nat := if p = 1 ∧ 2 ≤ n then n - 1 else n
theorem sp26_s {lk dn br : Int32} {wt : Nat → Int64} (n : Nat) : f_X8_spans_L26 lk dn br wt (n + 1) = f_X8_spans_L26_F lk dn br wt (f_X8_spans_L26 lk dn br wt n) := fx_s _ _ _
theorem sp26 {lk dn br a b : Int32} {wt le : Nat → Int64} {me fi : Nat → Int32} {n p s f : Nat} {x : Int32} (hn : 1 ≤ n) (hn2 : n < 100) (hp : p < 100) : f_X8_spans_L26 lk dn br wt (f + 1) le me fi a b (nI p) x (nI n) (nI s) = f_X8_spans_L48 lk dn br wt (f_X8_spans_L26 lk dn br wt f) le me fi a b (nI p) x (nI n) (nI s) (nI s) (nI (smx n p)) := by
  rw [sp26_s]
  unfold f_X8_spans_L26_F f_X8_spans_L46 smx
  by_cases h1 : p = 1
  · rw [if_pos (show nI p = 1 by rw [h1]; rfl)]
    by_cases h2 : n ≤ 1
    · rw [if_pos (show nI n ≤ 1 from nI_le (b := 1) h2 (by decide)), if_neg (by omega)]
    · rw [if_neg (show ¬ nI n ≤ 1 from nI_ge (a := 1) (by omega) (by omega)), if_pos (by omega), nI_m1 hn]
  · rw [if_neg (show ¬ nI p = 1 from fun z => h1 ((nI_eq (b := 1) (by omega) (by decide)).mp z)), if_neg (by omega)]
theorem sp48_e {k26 : (Nat → Int64) → (Nat → Int32) → (Nat → Int32) → Int32 → Int32 → Int32 → Int32 → Int32 → Int32 → Option ((Nat → Int64) × (Nat → Int32) × (Nat → Int32))} {lk dn br a b x d : Int32} {wt le : Nat → Int64} {me fi : Nat → Int32} {p : Int32} {s z : Nat} (h : z < s) (hs : s < 2 ^ 31) : f_X8_spans_L48 lk dn br wt k26 le me fi a b p x d (nI s) (nI s) (nI z) = some (le, me, fi) := by
  unfold f_X8_spans_L48
  rw [if_pos (nI_lt h hs)]
theorem dC_bd {cv : Nat → Nat} {lk dn B N : Nat} (hw : ∀ n i, ww cv n i ≤ 400000) (hl : lk ≤ 100) (hd : dn ≤ 100) (hB2 : 2 ≤ B) (hB : B ≤ 9) (hN : N ≤ 40) {n i p s : Nat} (hn : n ≤ 40) (hs : s ≤ n) (hp : p ≤ 9) : dC cv lk dn B n i p s < 2 ^ 43 := by
  have p1 := pay_le (hw n i) hl
  have h2 : ww cv n i * lk * 64 * p ≤ 2560000000 * 9 := Nat.mul_le_mul p1 hp
  have b1 := dV_bdr hw hl hd hB2 (n := n) (i := i) (q := 0) hn
  have b2 := dV_bdr hw hl hd hB2 (n := s) (i := i) (q := 0) (by omega)
  have b3 := dV_bdr hw hl hd hB2 (n := n - s) (i := i + s) (q := B - p) (by omega)
  unfold dC dG
  split <;> omega
theorem sl26 {cv : Nat → Nat} {lk dn B N : Nat} (hw : ∀ n i, ww cv n i ≤ 400000) (hl : lk ≤ 100) (hd : dn ≤ 100) (hB2 : 2 ≤ B) (hB : B ≤ 9) (hN : N ≤ 40) {wt le0 : Nat → Int64} {me0 fi0 : Nat → Int32} {n i p : Nat} (hwt : ∀ j, j ≤ N → wt j = lN (pfx cv j)) (hn : 1 ≤ n) (hi : i + n ≤ N) (hp : 1 ≤ p) (hpB : p ≤ B) (h1 : ∀ s, 2 ≤ s → s ≤ n → (s < n ∨ 2 ≤ p) → E8 cv lk dn B s i 1 le0 me0 fi0) (h2 : ∀ s, 1 ≤ s → s < n → p < B → E8 cv lk dn B (n - s) (i + s) (p + 1) le0 me0 fi0) (hpB2 : p < B) (hn2 : 2 ≤ n) : ∀ (f s : Nat) (le : Nat → Int64) (me fi : Nat → Int32) (L M F : Nat), 2 ≤ s → s ≤ smx n p + 1 → smx n p + 1 < f + s → offx ((41 * i + (i + n)) * 11 + p) le le0 me me0 fi fi0 → le ((41 * i + (i + n)) * 11 + p) = lN L → me ((41 * i + (i + n)) * 11 + p) = nI M → fi ((41 * i + (i + n)) * 11 + p) = nI F → 64 * L + M = mnu (dC cv lk dn B n i p) (s - 2) → M + 1 ≤ n → (p = 1 → M + 2 ≤ n) → 1 ≤ F → F < s → dC cv lk dn B n i p F = mnu (dC cv lk dn B n i p) (s - 2) → (∀ t, 1 ≤ t → t < F → dC cv lk dn B n i p t ≠ mnu (dC cv lk dn B n i p) (s - 2)) → ∃ (le' : Nat → Int64) (me' fi' : Nat → Int32) (L' M' F' : Nat), f_X8_spans_L26 (nI lk) (nI dn) (nI B) wt f le me fi (nI i) (nI (i + n)) (nI p) (nI ((41 * i + (i + n)) * 11 + p)) (nI n) (nI s) = some (le', me', fi') ∧ offx ((41 * i + (i + n)) * 11 + p) le' le0 me' me0 fi' fi0 ∧ le' ((41 * i + (i + n)) * 11 + p) = lN L' ∧ me' ((41 * i + (i + n)) * 11 + p) = nI M' ∧ fi' ((41 * i + (i + n)) * 11 + p) = nI F' ∧ 64 * L' + M' = mnu (dC cv lk dn B n i p) (smx n p - 1) ∧ M' + 1 ≤ n ∧ (p = 1 → M' + 2 ≤ n) ∧ 1 ≤ F' ∧ F' ≤ smx n p ∧ dC cv lk dn B n i p F' = mnu (dC cv lk dn B n i p) (smx n p - 1) ∧ (∀ t, 1 ≤ t → t < F' → dC cv lk dn B n i p t ≠ mnu (dC cv lk dn B n i p) (smx n p - 1)) := by
  have hsm : smx n p ≤ n ∧ (p = 1 → smx n p + 1 ≤ n) ∧ 1 ≤ smx n p := by
    unfold smx
    split <;> omega
  intro f
  induction f with
  | zero => intro s le me fi L M F a1 a2 a3; omega
  | succ f ih =>
    intro s le me fi L M F a1 a2 a3 ho e1 e2 e3 e4 e5 e5' e6 e7 e8 e9
    rw [sp26 hn (by omega) (by omega)]
    by_cases q : s = smx n p + 1
    · rw [sp48_e (by omega) (by omega)]
      rw [show s - 2 = smx n p - 1 by omega] at e4 e8 e9
      exact ⟨le, me, fi, L, M, F, rfl, ho, e1, e2, e3, e4, e5, e5', e6, by omega, e8, e9⟩
    · have hss : s ≤ smx n p := by omega
      have hb0 := dC_bd hw hl hd hB2 hB hN (n := n) (i := i) (p := p) (s := F) (by omega) (by omega) (by omega)
      have hb1 := dC_bd hw hl hd hB2 hB hN (n := n) (i := i) (p := p) (s := s) (by omega) (by omega) (by omega)
      obtain ⟨v, m, g1, g2, g3, g4⟩ := sp48 (x := nI ((41 * i + (i + n)) * 11 + p)) (s1 := nI (smx n p)) (k26 := f_X8_spans_L26 (nI lk) (nI dn) (nI B) wt f) hw hl hd hB2 hB hN hwt hi (show 1 ≤ s by omega) (show s ≤ n by omega) hp hpB (fun _ => hpB2) (nI_nlt hss (by omega)) (fun z => E8_off (h1 s z (by omega) (by
        by_cases y : p = 1
        · left; have := hsm.2.1 y; omega
        · right; omega)) ho (by
          by_cases y : p = 1
          · have := hsm.2.1 y; omega
          · omega)) (fun z => E8_off (h2 s (by omega) z hpB2) ho (by omega))
      rw [g4, acc8 (by omega) e1 e2 (by omega) (by omega) (by omega) (by omega)]
      have hmn : mnu (dC cv lk dn B n i p) (s + 1 - 2) = min (mnu (dC cv lk dn B n i p) (s - 2)) (dC cv lk dn B n i p s) := by
        obtain ⟨s', rfl⟩ : ∃ s', s = s' + 2 := ⟨s - 2, by omega⟩
        rfl
      by_cases q2 : 64 * v + m < 64 * L + M
      · rw [if_pos q2]
        refine ih (s + 1) _ _ _ v m s (by omega) (by omega) (by omega) (offx_up ho) pk_uLs pk_us pk_us ?_ g2 (fun y => g3 (by have := hsm.2.1 y; omega)) (by omega) (by omega) ?_ (fun t b1 b2 => ?_)
        · rw [hmn]; omega
        · rw [hmn]; omega
        · rw [hmn]
          have := mnu_le (g := dC cv lk dn B n i p) (s - 2) t b1 (by omega)
          omega
      · rw [if_neg q2]
        refine ih (s + 1) le me fi L M F (by omega) (by omega) (by omega) ho e1 e2 e3 ?_ e5 e5' e6 (by omega) ?_ (fun t b1 b2 => ?_)
        · rw [hmn]; omega
        · rw [hmn]; omega
        · rw [hmn]
          have := e9 t b1 b2
          omega
theorem sk26 {cv : Nat → Nat} {lk dn B N : Nat} {wt le : Nat → Int64} {me fi : Nat → Int32} {n i x : Nat} (hN : N ≤ 40) (hi : i + n ≤ N) (hB2 : 2 ≤ B) (hB : B ≤ 9) : ∀ (r s f : Nat), 1 ≤ s → s + r = n → f_X8_spans_L26 (nI lk) (nI dn) (nI B) wt (f + r) le me fi (nI i) (nI (i + n)) (nI B) (nI x) (nI n) (nI s) = f_X8_spans_L26 (nI lk) (nI dn) (nI B) wt f le me fi (nI i) (nI (i + n)) (nI B) (nI x) (nI n) (nI n) := by
  have hsm : smx n B = n := by unfold smx; rw [if_neg (by omega)]
  intro r
  induction r with
  | zero => intro s f h1 h2; rw [show s = n by omega]; rfl
  | succ r ih =>
    intro s f h1 h2
    rw [show f + (r + 1) = (f + r) + 1 by omega, sp26 (by omega) (by omega) (by omega), sk48 (by omega) h1 (by omega) (by rw [hsm]; exact nI_nlt (by omega) (by omega))]
    exact ih (s + 1) f (by omega) (by omega)
theorem spans8 {cv : Nat → Nat} {lk dn B N : Nat} (hw : ∀ n i, ww cv n i ≤ 400000) (hl : lk ≤ 100) (hd : dn ≤ 100) (hB2 : 2 ≤ B) (hB : B ≤ 9) (hN : N ≤ 40) {wt le0 : Nat → Int64} {me0 fi0 : Nat → Int32} {n i p : Nat} (hwt : ∀ j, j ≤ N → wt j = lN (pfx cv j)) (hn : 1 ≤ n) (hi : i + n ≤ N) (hp : 1 ≤ p) (hpB : p ≤ B) (h1 : ∀ s, 2 ≤ s → s ≤ n → (s < n ∨ 2 ≤ p) → E8 cv lk dn B s i 1 le0 me0 fi0) (h2 : ∀ s, 1 ≤ s → s < n → p < B → E8 cv lk dn B (n - s) (i + s) (p + 1) le0 me0 fi0) : ∃ (le : Nat → Int64) (me fi : Nat → Int32), f_X8_spans (nI lk) (nI dn) (nI B) wt le0 me0 fi0 (nI i) (nI (i + n)) (nI p) = some (le, me, fi) ∧ E8 cv lk dn B n i p le me fi ∧ offx ((41 * i + (i + n)) * 11 + p) le le0 me me0 fi fi0 := by
  unfold f_X8_spans f_X8_span
  dsimp only [ob]
  rw [ix11, gi_nI (by omega) (by decide), nI_clamp (by omega), pk_sub (by omega), show i + n - i = n by omega, show (1152921504606846976 : Int64) = lN (2 ^ 60) from rfl]
  have ho : offx ((41 * i + (i + n)) * 11 + p) (vp_updL le0 ((41 * i + (i + n)) * 11 + p) (lN (2 ^ 60))) le0 me0 me0 fi0 fi0 := fun k hk => ⟨pk_uLn hk, rfl, rfl⟩
  have key : ∀ f : Nat, n + 2 < f → ∃ (le : Nat → Int64) (me fi : Nat → Int32), f_X8_spans_L26 (nI lk) (nI dn) (nI B) wt f (vp_updL le0 ((41 * i + (i + n)) * 11 + p) (lN (2 ^ 60))) me0 fi0 (nI i) (nI (i + n)) (nI p) (nI ((41 * i + (i + n)) * 11 + p)) (nI n) (nI 1) = some (le, me, fi) ∧ E8 cv lk dn B n i p le me fi ∧ offx ((41 * i + (i + n)) * 11 + p) le le0 me me0 fi fi0 := by
    intro f hf
    by_cases cB : p = B ∨ n = 1
    · -- one candidate alone: s = n
      have hsm : smx n p = n := by unfold smx; rw [if_neg (by omega)]
      have hgo : ∃ f', f_X8_spans_L26 (nI lk) (nI dn) (nI B) wt f (vp_updL le0 ((41 * i + (i + n)) * 11 + p) (lN (2 ^ 60))) me0 fi0 (nI i) (nI (i + n)) (nI p) (nI ((41 * i + (i + n)) * 11 + p)) (nI n) (nI 1) = f_X8_spans_L26 (nI lk) (nI dn) (nI B) wt (f' + 1 + 1) (vp_updL le0 ((41 * i + (i + n)) * 11 + p) (lN (2 ^ 60))) me0 fi0 (nI i) (nI (i + n)) (nI p) (nI ((41 * i + (i + n)) * 11 + p)) (nI n) (nI n) := by
        by_cases c1 : n = 1
        · exact ⟨f - 2, by rw [show f - 2 + 1 + 1 = f by omega]; congr 1; rw [c1]⟩
        · have c2 : p = B := by omega
          refine ⟨f - (n - 1) - 2, ?_⟩
          rw [c2]
          have := sk26 (lk := lk) (dn := dn) (B := B) (N := N) (cv := cv) (wt := wt) (le := vp_updL le0 ((41 * i + (i + n)) * 11 + B) (lN (2 ^ 60))) (me := me0) (fi := fi0) (x := (41 * i + (i + n)) * 11 + B) hN hi hB2 hB (n - 1) 1 (f - (n - 1) - 2 + 1 + 1) (by decide) (by omega)
          rw [show f - (n - 1) - 2 + 1 + 1 + (n - 1) = f by omega] at this
          exact this
      obtain ⟨f', hgo⟩ := hgo
      have hb1 := dC_bd hw hl hd hB2 hB hN (n := n) (i := i) (p := p) (s := n) (by omega) (by omega) (by omega)
      rw [hgo, sp26 hn (by omega) (by omega)]
      obtain ⟨v, m, g1, g2, g3, g4⟩ := sp48 (x := nI ((41 * i + (i + n)) * 11 + p)) (s1 := nI (smx n p)) (k26 := f_X8_spans_L26 (nI lk) (nI dn) (nI B) wt (f' + 1)) (le := vp_updL le0 ((41 * i + (i + n)) * 11 + p) (lN (2 ^ 60))) (me := me0) (fi := fi0) hw hl hd hB2 hB hN hwt hi hn (Nat.le_refl n) hp hpB (fun z => by omega) (by rw [hsm]; exact nI_nlt (Nat.le_refl _) (by omega)) (fun z => E8_off (h1 n z (Nat.le_refl _) (by omega)) ho (by omega)) (fun z => by omega)
      rw [g4, acc8_0 (by omega) pk_uLs (by omega), sp26 hn (by omega) (by omega), sp48_e (by omega) (by omega)]
      refine ⟨_, _, _, rfl, ⟨v, m, pk_uLs, pk_us, ?_, ?_, g2, fun y z => by omega⟩, offx_up ho⟩
      · rw [pk_us]
        unfold dF
        rw [if_pos (by omega)]
      · rw [g1]
        rcases cB with c | c
        · rw [c, dE_B hB2]
        · rw [dE_n1 hp hpB c, c]
    · have hn2 : 2 ≤ n := by omega
      have hpB2 : p < B := by omega
      obtain ⟨f, rfl⟩ : ∃ k, f = k + 1 := ⟨f - 1, by omega⟩
      have hsm : smx n p ≤ n ∧ (p = 1 → smx n p + 1 = n) ∧ 1 ≤ smx n p ∧ (p ≠ 1 → smx n p = n) := by
        unfold smx
        split <;> omega
      have hb1 := dC_bd hw hl hd hB2 hB hN (n := n) (i := i) (p := p) (s := 1) (by omega) (by omega) (by omega)
      rw [sp26 hn (by omega) (by omega)]
      obtain ⟨v, m, g1, g2, g3, g4⟩ := sp48 (x := nI ((41 * i + (i + n)) * 11 + p)) (s1 := nI (smx n p)) (k26 := f_X8_spans_L26 (nI lk) (nI dn) (nI B) wt f) (le := vp_updL le0 ((41 * i + (i + n)) * 11 + p) (lN (2 ^ 60))) (me := me0) (fi := fi0) hw hl hd hB2 hB hN hwt hi (Nat.le_refl 1) hn hp hpB (fun _ => hpB2) (nI_nlt hsm.2.2.1 (by omega)) (fun z => by omega) (fun z => E8_off (h2 1 (Nat.le_refl _) z hpB2) ho (by omega))
      rw [g4, acc8_0 (by omega) pk_uLs (by omega)]
      obtain ⟨le, me, fi, L, M, F, k1, k2, k3, k4, k5, k6, k7, k7', k8, k9, k10, k11⟩ := sl26 hw hl hd hB2 hB hN hwt hn hi hp hpB h1 h2 hpB2 hn2 f (1 + 1) _ _ _ v m 1 (Nat.le_refl _) (by omega) (by omega) (offx_up ho) pk_uLs pk_us pk_us g1 g2 (fun y => g3 (by omega)) (Nat.le_refl _) (by decide) rfl (fun t a b => by omega)
      refine ⟨le, me, fi, k1, ⟨L, M, k3, k4, ?_, ?_, k7, fun y _ => k7' y⟩, k2⟩
      · rw [k5]
        congr 1
        symm
        unfold dF
        rw [if_neg (by omega)]
        by_cases c1 : p = 1
        · subst c1
          have hs1 := hsm.2.1 rfl
          rw [if_pos rfl]
          rw [show smx n 1 - 1 = n - 2 by omega, mnu_C hn2] at k10 k11
          have hd2 : dspl (dV (ww cv) lk dn B) n i B = mnu (dG cv lk dn B n i 1) (n - 2) := by
            have := dspl_G (cv := cv) (lk := lk) (dn := dn) (B := B) (n := n) (i := i) (p := 1) (by decide) (by omega)
            rw [show B - 1 + 1 = B by omega] at this
            exact this
          rw [hd2]
          refine fct_spec (n - 1) 1 k8 (by omega) (fun t a b z => k11 t a b ?_) (fun z => ?_)
          · unfold dC
            rw [if_neg (by omega), z]
          · unfold dC at k10
            rw [if_neg (by omega)] at k10
            omega
        · have hs1 := hsm.2.2.2 c1
          rw [if_neg c1, dspl_G hp hpB2]
          have hmm : mnu (dC cv lk dn B n i p) (smx n p - 1) = ww cv n i * lk * 64 * p + min (dV (ww cv) lk dn B n i 0) (mnu (dG cv lk dn B n i p) (n - 2)) := by
            rw [hs1]
            obtain ⟨m', rfl⟩ : ∃ m', n = m' + 2 := ⟨n - 2, by omega⟩
            show min (mnu (dC cv lk dn B (m' + 2) i p) (m' + 2 - 2)) (dC cv lk dn B (m' + 2) i p (m' + 2)) = _
            rw [mnu_C hn2]
            unfold dC
            rw [if_pos rfl]
            omega
          rw [hmm] at k10 k11
          refine fct_spec (n - 1) 1 k8 (by omega) (fun t a b z => k11 t a b ?_) (fun z => ?_)
          · unfold dC
            rw [if_neg (by omega), z]
          · unfold dC at k10
            rw [if_neg (by omega)] at k10
            omega
      · rw [k6]
        by_cases c1 : p = 1
        · subst c1
          rw [dE_1 hB2 hn2, show smx n 1 - 1 = n - 2 by have := hsm.2.1 rfl; omega]
        · rw [dE_p (by omega) hpB2 hn2, hsm.2.2.2 c1]
  exact key FU (show n + 2 < 100000 by omega)
