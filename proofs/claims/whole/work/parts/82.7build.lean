/-! plan: the class builds -/
def BC (F : Nat → Nat → Nat → Nat) (C cur k L : Nat) (sa sb ab pa hm ph cn ow : Nat → Nat) (it : Nat → Nat → Sum Nat Nat) (lf lt sz av pv im hh pp : Nat → Int32) : Prop :=
  (∀ m, m < L → lf m = nI (sa m) ∧ lt m = nI (sb m)) ∧ (∀ l, l < L → sz l = nI (cn l)) ∧ (∀ l j, l ≤ cur → j < cn l → im (9 * l + j) = enc7 (it l j)) ∧ (∀ m, 0 < m → m < L → av m = nI (ab m) ∧ pv m = nI (pa m)) ∧ (av 0 = -1 ∧ pv 0 = 0) ∧ (∀ c, c < C → (ow c < cur ∨ (ow c = cur ∧ c < xs F (sa cur) (sb cur) k)) → hh c = nI (hm c) ∧ pp c = nI (ph c))
theorem bi_cn9 {F : Nat → Nat → Nat → Nat} {C cur k L : Nat} {sa sb ab pa hm ph cn ow : Nat → Nat} {it : Nat → Nat → Sum Nat Nat} (h : BI F C cur k L sa sb ab pa hm ph cn ow it) (hk : k ≤ 9) {l : Nat} (hl : l ≤ cur) : cn l ≤ 9 := by
  by_cases z : l = cur
  · rw [z, h.2.2.1.1]; exact hk
  · exact (h.2.2.1.2.2 l (by omega)).2.1
theorem bc_cmd {F : Nat → Nat → Nat → Nat} {C cur k L : Nat} {sa sb ab pa hm ph cn ow : Nat → Nat} {it : Nat → Nat → Sum Nat Nat} (h : BI F C cur k L sa sb ab pa hm ph cn ow it) {lf lt sz av pv im hh pp : Nat → Int32} (hc : BC F C cur k L sa sb ab pa hm ph cn ow it lf lt sz av pv im hh pp) {x : Nat} (hx : xs F (sa cur) (sb cur) k = x) (hxb : x < sb cur) (h1 : xs F (sa cur) (sb cur) (k + 1) = x + 1) (hk : k < 9) : BC F C cur (k + 1) L sa sb ab pa (uN hm x cur) (uN ph x (k + 1)) (uN cn cur (k + 1)) ow (uI it cur k (.inl x)) lf lt (upd sz cur (nI (k + 1))) av pv (upd im (9 * cur + k) (nI x)) (upd hh x (nI cur)) (upd pp x (nI (k + 1))) := by
  have h9 := fun l hl => bi_cn9 h (Nat.le_of_lt hk) (l := l) hl
  have how := h.2.2.2.2.2.2.2.1.2.2.1 x (by omega) hxb
  have c1 := h.2.2.1.1
  obtain ⟨g1, g2, g3, g4, g5, g6⟩ := hc
  rw [hx] at g6
  refine ⟨g1, fun l hl => ?_, fun l j hl hj => ?_, g4, g5, fun c hc hp => ?_⟩
  · by_cases z : l = cur
    · subst z; rw [pk_us, uN_s]
    · rw [pk_un z, uN_n z]; exact g2 l hl
  · by_cases z : l = cur ∧ j = k
    · obtain ⟨rfl, rfl⟩ := z
      rw [pk_us, uI_s]; rfl
    · have hj2 : j < cn l := by
        by_cases y : l = cur
        · subst y; rw [uN_s] at hj; rw [c1]; omega
        · rw [uN_n y] at hj; exact hj
      have := h9 l hl
      rw [uI_n z, pk_un (by omega)]
      exact g3 l j hl hj2
  · rw [h1] at hp
    by_cases z : c = x
    · subst z; rw [pk_us, pk_us, uN_s, uN_s]; exact ⟨rfl, rfl⟩
    · rw [pk_un z, pk_un z, uN_n z, uN_n z]
      exact g6 c hc (by omega)
theorem bc_menu {F : Nat → Nat → Nat → Nat} {B C cur k L : Nat} {sa sb ab pa hm ph cn ow : Nat → Nat} {it : Nat → Nat → Sum Nat Nat} (hF : FO B F) (h : BI F C cur k L sa sb ab pa hm ph cn ow it) {lf lt sz av pv im hh pp : Nat → Int32} (hc : BC F C cur k L sa sb ab pa hm ph cn ow it lf lt sz av pv im hh pp) {x y : Nat} (hx : xs F (sa cur) (sb cur) k = x) (hxb : x < sb cur) (h1 : xs F (sa cur) (sb cur) (k + 1) = y) (hy : x + 2 ≤ y) (hk : k < 9) : BC F C cur (k + 1) (L + 1) (uN sa L x) (uN sb L y) (uN ab L cur) (uN pa L (k + 1)) hm ph (uN (uN cn cur (k + 1)) L 0) (fun c => if x ≤ c ∧ c < y then L else ow c) (uI it cur k (.inr L)) (upd lf L (nI x)) (upd lt L (nI y)) (upd (upd sz cur (nI (k + 1))) L 0) (upd av L (nI cur)) (upd pv L (nI (k + 1))) (upd im (9 * cur + k) (nI L ^^^ (-1))) hh pp := by
  have h9 := fun l hl => bi_cn9 h (Nat.le_of_lt hk) (l := l) hl
  have hcL := h.1.2.2
  have c1 := h.2.2.1.1
  have hlt2 := xs_lt hF (by rw [hx]; exact hxb)
  rw [h1] at hlt2
  obtain ⟨g1, g2, g3, g4, g5, g6⟩ := hc
  rw [hx] at g6
  refine ⟨fun m hm2 => ?_, fun l hl => ?_, fun l j hl hj => ?_, fun m q1 q2 => ?_, ?_, fun c hc hp => ?_⟩
  · by_cases z : m = L
    · subst z; rw [pk_us, pk_us, uN_s, uN_s]; exact ⟨rfl, rfl⟩
    · rw [pk_un z, pk_un z, uN_n z, uN_n z]; exact g1 m (by omega)
  · by_cases z : l = L
    · subst z; rw [pk_us, uN_s]; rfl
    · rw [pk_un z, uN_n z]
      by_cases y2 : l = cur
      · subst y2; rw [pk_us, uN_s]
      · rw [pk_un y2, uN_n y2]; exact g2 l (by omega)
  · rw [uN_n (by omega)] at hj
    by_cases z : l = cur ∧ j = k
    · obtain ⟨rfl, rfl⟩ := z
      rw [pk_us, uI_s]; rfl
    · have hj2 : j < cn l := by
        by_cases y2 : l = cur
        · subst y2; rw [uN_s] at hj; rw [c1]; omega
        · rw [uN_n y2] at hj; exact hj
      have := h9 l hl
      rw [uI_n z, pk_un (by omega)]
      exact g3 l j hl hj2
  · by_cases z : m = L
    · subst z; rw [pk_us, pk_us, uN_s, uN_s]; exact ⟨rfl, rfl⟩
    · rw [pk_un z, pk_un z, uN_n z, uN_n z]; exact g4 m q1 (by omega)
  · rw [pk_un (by omega), pk_un (by omega)]; exact g5
  · rw [uN_n (by omega), uN_n (by omega), h1] at hp
    change (if x ≤ c ∧ c < y then L else ow c) < cur ∨ ((if x ≤ c ∧ c < y then L else ow c) = cur ∧ c < y) at hp
    by_cases z : x ≤ c ∧ c < y
    · rw [if_pos z] at hp; omega
    · rw [if_neg z] at hp
      exact g6 c hc (by omega)
theorem bc_next {F : Nat → Nat → Nat → Nat} {C cur k L : Nat} {sa sb ab pa hm ph cn ow : Nat → Nat} {it : Nat → Nat → Sum Nat Nat} (h : BI F C cur k L sa sb ab pa hm ph cn ow it) {lf lt sz av pv im hh pp : Nat → Int32} (hc : BC F C cur k L sa sb ab pa hm ph cn ow it lf lt sz av pv im hh pp) (hx : xs F (sa cur) (sb cur) k = sb cur) (hc1 : cur + 1 < L) : BC F C (cur + 1) 0 L sa sb ab pa hm ph cn ow it lf lt sz av pv im hh pp := by
  have i1 := h.2.2.2.2.2.2.2.1.1
  have hz := h.2.2.1.2.1 (cur + 1) (by omega) hc1
  obtain ⟨g1, g2, g3, g4, g5, g6⟩ := hc
  refine ⟨g1, g2, fun l j hl hj => ?_, g4, g5, fun c hc hp => g6 c hc ?_⟩
  · by_cases z : l = cur + 1
    · subst z; omega
    · exact g3 l j (by omega) hj
  · obtain ⟨v1, v2, v3⟩ := i1 c hc
    rcases hp with q2 | ⟨q2, q3⟩
    · by_cases z : ow c = cur
      · right; rw [hx]; rw [z] at v3; exact ⟨z, v3⟩
      · left; omega
    · rw [q2] at v2
      have : xs F (sa (cur + 1)) (sb (cur + 1)) 0 = sa (cur + 1) := rfl
      omega
theorem add_cmd {lf lt sz av pv im hh pp : Nat → Int32} {L cur k x : Nat} (hcur : cur < 80) (hk : k < 9) (hx : x < 40) (hs : sz cur = nI k) : f_X3_addSpan lf lt (nI L) sz av pv im hh pp (nI cur) (nI x) (nI (x + 1)) = some (lf, lt, nI L, upd sz cur (nI (k + 1)), av, pv, upd im (9 * cur + k) (nI x), upd hh x (nI cur), upd pp x (nI (k + 1))) := by
  unfold f_X3_addSpan
  rw [pk_sub (by omega), show x + 1 - x = 1 by omega, if_pos (show nI 1 = 1 from rfl), addCommand7 hcur hk hx hs]
  rfl
theorem add_menu {lf lt sz av pv im hh pp : Nat → Int32} {L cur k x y : Nat} (hcur : cur < L) (hL : L < 40) (hk : k < 9) (hxy : x + 2 ≤ y) (hy : y ≤ 40) (hs : sz cur = nI k) : f_X3_addSpan lf lt (nI L) sz av pv im hh pp (nI cur) (nI x) (nI y) = some (upd lf L (nI x), upd lt L (nI y), nI (L + 1), upd (upd sz cur (nI (k + 1))) L 0, upd av L (nI cur), upd pv L (nI (k + 1)), upd im (9 * cur + k) (nI L ^^^ (-1)), hh, pp) := by
  unfold f_X3_addSpan
  rw [pk_sub (by omega), if_neg (show ¬ nI (y - x) = 1 from fun z => by have := (nI_eq (b := 1) (by omega) (by decide)).mp z; omega), addMenu7 hcur (by omega) hk hs]
  dsimp only [ob6]
  rw [if_neg (show ¬ nI L = -1 from fun q => nI_pos (n := L) (by omega) (by rw [q]; decide)), if_neg (show ¬ (40 : Int32) ≤ _ from nI_ge (b := 40) hL (by decide)), gi_nI hL (by decide), gi_nI hL (by decide), nI_clamp (by omega)]
theorem l84 {k28} {lf lt sz av pv im hh pp : Nat → Int32} {ls x1 x4 x5 x6 x8 : Int32} {m : Nat} : f_X3_splitList_L84 k28 lf lt ls sz av pv im hh pp x1 x4 x5 x6 (nI (m + 1)) x8 = ob9 (f_X3_addSpan lf lt ls sz av pv im hh pp x1 x4 x8) fun a b c d e f g h i => k28 a b c d e f g h i x1 x8 x5 x6 (nI m) := by
  unfold f_X3_splitList_L84
  rw [pk_m1]
theorem sl28_s {be ai : Nat → Int64} {ar : Nat → Nat → Int64} {se : Nat → Int32} (n : Nat) : f_X3_splitList_L28 be ai ar se (n + 1) = f_X3_splitList_L28_F be ai ar se (f_X3_splitList_L28 be ai ar se n) := fx_s _ _ _
theorem sl28 {cv : Nat → Nat} {lk dn B N : Nat} (hw : ∀ n i, ww cv n i ≤ 400000) (hl : lk ≤ 100) (hd : dn ≤ 100) (hB2 : 2 ≤ B) (hB : B ≤ 9) (hN : N ≤ 40) {be ai : Nat → Int64} {ar : Nat → Nat → Int64} {se : Nat → Int32} (hks : KS cv lk dn B N be ai ar) (hs0 : se 0 = nI lk) {lf lt sz av pv im hh pp : Nat → Int32} {a b k x f : Nat} {ls x1 : Int32} (hb : b ≤ N) (hk : k < B) (hx : xs (dF cv lk dn B) a b k = x) (hxb : x < b) : f_X3_splitList_L28 be ai ar se (f + 1) lf lt ls sz av pv im hh pp x1 (nI x) (nI b) (nI B) (nI (B - k)) = ob9 (f_X3_addSpan lf lt ls sz av pv im hh pp x1 (nI x) (nI (xs (dF cv lk dn B) a b (k + 1)))) fun a0 b0 c d e f0 g h i => f_X3_splitList_L28 be ai ar se f a0 b0 c d e f0 g h i x1 (nI (xs (dF cv lk dn B) a b (k + 1))) (nI b) (nI B) (nI (B - (k + 1))) := by
  have hnx : xs (dF cv lk dn B) a b (k + 1) = x + dF cv lk dn B (b - x) x (k + 1) := by
    show xs (dF cv lk dn B) a b k + dF cv lk dn B (b - xs (dF cv lk dn B) a b k) (xs (dF cv lk dn B) a b k) (k + 1) = _
    rw [hx]
  rw [sl28_s]
  unfold f_X3_splitList_L28_F
  rw [if_neg (nI_nle (by omega) (by omega)), if_neg (nI_ge hxb (by omega)), show B - k = (B - (k + 1)) + 1 by omega, hnx]
  by_cases c1 : k + 1 = B
  · rw [if_pos (show nI (B - (k + 1) + 1) ≤ 1 from nI_le (b := 1) (by omega) (by decide)), l84, c1, dF_B, show x + (b - x) = b by omega]
  · rw [if_neg (show ¬ nI (B - (k + 1) + 1) ≤ 1 from nI_ge (a := 1) (by omega) (by omega)), pk_sub (by omega)]
    by_cases c2 : b - x = 1
    · rw [if_pos (show nI (b - x) ≤ 1 from nI_le (b := 1) (by omega) (by decide)), l84, c2]
      have := (dF_rng (cv := cv) (lk := lk) (dn := dn) (B := B) (n := 1) (i := x) (p := k + 1) (Nat.le_refl 1))
      rw [show dF cv lk dn B 1 x (k + 1) = 1 by omega, show x + 1 = b by omega]
    · rw [if_neg (show ¬ nI (b - x) ≤ 1 from nI_ge (a := 1) (by omega) (by omega))]
      have hfc := fc7 hw hl hd hB2 hB hN (se := se) hks hs0 (n := b - x) (i := x) (p := k + 1) (by omega) (by omega) (by omega) (by omega)
      rw [show x + (b - x) = b by omega] at hfc
      unfold f_X3_splitList_L78
      by_cases c3 : k = 0
      · rw [if_pos (show nI (B - (k + 1) + 1) = nI B by rw [c3]; congr 1; omega)]
        rw [if_pos (by omega)] at hfc
        rw [hfc]
        dsimp only [ob]
        rw [l84]
      · rw [if_neg (show ¬ nI (B - (k + 1) + 1) = nI B from fun z => by have := (nI_eq (by omega) (by omega)).mp z; omega)]
        rw [if_neg (by omega)] at hfc
        rw [hfc]
        dsimp only [ob]
        rw [l84]
/-- the class's tree of a plan, all lists split -/
def BF (F : Nat → Nat → Nat → Nat) (C L : Nat) (sa sb ab pa hm ph cn : Nat → Nat) (it : Nat → Nat → Sum Nat Nat) (sz av pv im hh pp : Nat → Int32) : Prop := ∃ (ow : Nat → Nat) (cur k : Nat) (lf lt : Nat → Int32), cur + 1 = L ∧ k ≤ 9 ∧ BI F C cur k L sa sb ab pa hm ph cn ow it ∧ BC F C cur k L sa sb ab pa hm ph cn ow it lf lt sz av pv im hh pp ∧ xs F (sa cur) (sb cur) k = sb cur
theorem splitL {cv : Nat → Nat} {lk dn B N : Nat} (hw : ∀ n i, ww cv n i ≤ 400000) (hl : lk ≤ 100) (hd : dn ≤ 100) (hB2 : 2 ≤ B) (hB : B ≤ 9) (hN : N ≤ 40) {be ai : Nat → Int64} {ar : Nat → Nat → Int64} {se : Nat → Int32} (hks : KS cv lk dn B N be ai ar) (hs0 : se 0 = nI lk) : ∀ (m k cur L : Nat) (sa sb ab pa hm ph cn ow : Nat → Nat) (it : Nat → Nat → Sum Nat Nat) (lf lt sz av pv im hh pp : Nat → Int32) (f : Nat), B ≤ k + m → k ≤ B → m < f → BI (dF cv lk dn B) N cur k L sa sb ab pa hm ph cn ow it → BC (dF cv lk dn B) N cur k L sa sb ab pa hm ph cn ow it lf lt sz av pv im hh pp → ∃ (k' L' : Nat) (sa' sb' ab' pa' hm' ph' cn' ow' : Nat → Nat) (it' : Nat → Nat → Sum Nat Nat) (lf' lt' sz' av' pv' im' hh' pp' : Nat → Int32), f_X3_splitList_L28 be ai ar se f lf lt (nI L) sz av pv im hh pp (nI cur) (nI (xs (dF cv lk dn B) (sa cur) (sb cur) k)) (nI (sb cur)) (nI B) (nI (B - k)) = some (lf', lt', nI L', sz', av', pv', im', hh', pp') ∧ k' ≤ 9 ∧ BI (dF cv lk dn B) N cur k' L' sa' sb' ab' pa' hm' ph' cn' ow' it' ∧ BC (dF cv lk dn B) N cur k' L' sa' sb' ab' pa' hm' ph' cn' ow' it' lf' lt' sz' av' pv' im' hh' pp' ∧ xs (dF cv lk dn B) (sa' cur) (sb' cur) k' = sb' cur ∧ sa' cur = sa cur ∧ sb' cur = sb cur := by
  have hF := FO_dF (cv := cv) (lk := lk) (dn := dn) hB2
  intro m
  induction m with
  | zero =>
    intro k cur L sa sb ab pa hm ph cn ow it lf lt sz av pv im hh pp f h1 h2 h3 hi hc
    have hk : k = B := by omega
    have hsp := hi.2.1.2.2.1 cur hi.1.2.2
    have hx : xs (dF cv lk dn B) (sa cur) (sb cur) k = sb cur := by rw [hk]; exact xs_B hF (by omega) (by omega)
    obtain ⟨f, rfl⟩ : ∃ z, f = z + 1 := ⟨f - 1, by omega⟩
    rw [sl28_s]
    unfold f_X3_splitList_L28_F
    rw [if_pos (show nI (B - k) ≤ 0 by rw [hk, Nat.sub_self]; decide)]
    exact ⟨k, L, sa, sb, ab, pa, hm, ph, cn, ow, it, lf, lt, sz, av, pv, im, hh, pp, rfl, by omega, hi, hc, hx, rfl, rfl⟩
  | succ m ih =>
    intro k cur L sa sb ab pa hm ph cn ow it lf lt sz av pv im hh pp f h1 h2 h3 hi hc
    have hsp := hi.2.1.2.2.1 cur hi.1.2.2
    have hcL := hi.1.2.2
    obtain ⟨f, rfl⟩ : ∃ z, f = z + 1 := ⟨f - 1, by omega⟩
    by_cases hxb : xs (dF cv lk dn B) (sa cur) (sb cur) k < sb cur
    · have hkB : k < B := by
        rcases Nat.lt_or_ge k B with z | z
        · exact z
        · have : k = B := by omega
          rw [this, xs_B hF (by omega) (by omega)] at hxb
          omega
      have hlt2 := xs_lt hF hxb
      rw [sl28 hw hl hd hB2 hB hN hks hs0 (a := sa cur) (b := sb cur) (by omega) hkB rfl hxb]
      have hszc : sz cur = nI k := by rw [hc.2.1 cur hcL, hi.2.2.1.1]
      have hL40 : L ≤ 39 := by
        have := hi.2.2.2.2.2.2.2.2
        omega
      by_cases c1 : xs (dF cv lk dn B) (sa cur) (sb cur) (k + 1) = xs (dF cv lk dn B) (sa cur) (sb cur) k + 1
      · rw [c1, add_cmd (by omega) (by omega) (by omega) hszc]
        dsimp only [ob9]
        have hi2 := bi_cmd hF hi rfl hxb c1
        have hc2 := bc_cmd hi hc rfl hxb c1 (by omega)
        obtain ⟨k', L', sa', sb', ab', pa', hm', ph', cn', ow', it', lf', lt', sz', av', pv', im', hh', pp', g1, g2, g3, g4, g5, g6, g7⟩ := ih (k + 1) cur L _ _ _ _ _ _ _ _ _ _ _ _ _ _ _ _ _ f (by omega) (by omega) (by omega) hi2 hc2
        rw [c1] at g1
        exact ⟨k', L', sa', sb', ab', pa', hm', ph', cn', ow', it', lf', lt', sz', av', pv', im', hh', pp', g1, g2, g3, g4, g5, g6, g7⟩
      · have hy : xs (dF cv lk dn B) (sa cur) (sb cur) k + 2 ≤ xs (dF cv lk dn B) (sa cur) (sb cur) (k + 1) := by omega
        obtain ⟨hi2, hL2⟩ := bi_menu hF hi rfl hxb rfl hy
        have hc2 := bc_menu hF hi hc rfl hxb rfl hy (by omega)
        rw [add_menu hcL (by omega) (by omega) hy (by omega) hszc]
        dsimp only [ob9]
        obtain ⟨k', L', sa', sb', ab', pa', hm', ph', cn', ow', it', lf', lt', sz', av', pv', im', hh', pp', g1, g2, g3, g4, g5, g6, g7⟩ := ih (k + 1) cur (L + 1) _ _ _ _ _ _ _ _ _ _ _ _ _ _ _ _ _ f (by omega) (by omega) (by omega) hi2 hc2
        rw [uN_n (by omega), uN_n (by omega)] at g1 
        rw [uN_n (by omega)] at g6 g7
        exact ⟨k', L', sa', sb', ab', pa', hm', ph', cn', ow', it', lf', lt', sz', av', pv', im', hh', pp', g1, g2, g3, g4, g5, g6, g7⟩
    · have hx := (xs_le hF (Nat.le_of_lt hsp.1) k).2
      rw [sl28_s]
      unfold f_X3_splitList_L28_F
      rw [if_pos (nI_le (show sb cur ≤ xs (dF cv lk dn B) (sa cur) (sb cur) k by omega) (by omega)), ite_self]
      exact ⟨k, L, sa, sb, ab, pa, hm, ph, cn, ow, it, lf, lt, sz, av, pv, im, hh, pp, rfl, by omega, hi, hc, by omega, rfl, rfl⟩
theorem bl23_s {be ai : Nat → Int64} {ar : Nat → Nat → Int64} {se : Nat → Int32} (n : Nat) : f_X3_build_L23 be ai ar se (n + 1) = f_X3_build_L23_F be ai ar se (f_X3_build_L23 be ai ar se n) := fx_s _ _ _
theorem buildL {cv : Nat → Nat} {lk dn B N : Nat} (hw : ∀ n i, ww cv n i ≤ 400000) (hl : lk ≤ 100) (hd : dn ≤ 100) (hB2 : 2 ≤ B) (hB : B ≤ 9) (hN : N ≤ 40) {be ai : Nat → Int64} {ar : Nat → Nat → Int64} {se : Nat → Int32} (hks : KS cv lk dn B N be ai ar) (hs0 : se 0 = nI lk) (hs2 : se 2 = nI B) : ∀ (f cur L : Nat) (sa sb ab pa hm ph cn ow : Nat → Nat) (it : Nat → Nat → Sum Nat Nat) (lf lt sz av pv im hh pp : Nat → Int32), 41 < f + cur → BI (dF cv lk dn B) N cur 0 L sa sb ab pa hm ph cn ow it → BC (dF cv lk dn B) N cur 0 L sa sb ab pa hm ph cn ow it lf lt sz av pv im hh pp → ∃ (L' : Nat) (sa' sb' ab' pa' hm' ph' cn' : Nat → Nat) (it' : Nat → Nat → Sum Nat Nat) (lf' lt' sz' av' pv' im' hh' pp' : Nat → Int32), f_X3_build_L23 be ai ar se f lf lt (nI L) sz av pv im hh pp (nI cur) = some (lf', lt', nI L', sz', av', pv', im', hh', pp') ∧ BF (dF cv lk dn B) N L' sa' sb' ab' pa' hm' ph' cn' it' sz' av' pv' im' hh' pp' := by
  have hF := FO_dF (cv := cv) (lk := lk) (dn := dn) hB2
  intro f
  induction f with
  | zero =>
    intro cur L sa sb ab pa hm ph cn ow it lf lt sz av pv im hh pp h1 hi hc
    have := hi.2.2.2.2.2.2.2.2
    have := hi.1.2.2
    omega
  | succ f ih =>
    intro cur L sa sb ab pa hm ph cn ow it lf lt sz av pv im hh pp h1 hi hc
    have hpot := hi.2.2.2.2.2.2.2.2
    have hcL := hi.1.2.2
    rw [bl23_s]
    unfold f_X3_build_L23_F f_X3_splitList
    rw [if_neg (nI_ge hcL (by omega)), if_neg (show ¬ (40 : Int32) ≤ _ from nI_ge (b := 40) (show cur < 40 by omega) (by decide)), gi_nI (by omega) (by decide), gi_nI (by omega) (by decide), nI_clamp (by omega), (hc.1 cur hcL).1, (hc.1 cur hcL).2, show Int32.toNatClampNeg 2 = 2 from rfl, hs2]
    obtain ⟨k', L', sa', sb', ab', pa', hm', ph', cn', ow', it', lf', lt', sz', av', pv', im', hh', pp', g1, g2, g3, g4, g5, g6, g7⟩ := splitL hw hl hd hB2 hB hN hks hs0 B 0 cur L sa sb ab pa hm ph cn ow it lf lt sz av pv im hh pp FU (by omega) (by omega) (show B < 100000 by omega) hi hc
    rw [show xs (dF cv lk dn B) (sa cur) (sb cur) 0 = sa cur from rfl, Nat.sub_zero] at g1
    rw [g1]
    dsimp only [ob9]
    rw [nI_1]
    by_cases e : cur + 1 < L'
    · exact ih (cur + 1) L' sa' sb' ab' pa' hm' ph' cn' ow' it' lf' lt' sz' av' pv' im' hh' pp' (by omega) (bi_next hF g3 g5 g2 e) (bc_next g3 g4 g5 e)
    · have hcL2 := g3.1.2.2
      have hpot2 := g3.2.2.2.2.2.2.2.2
      have hfin : ∀ F : Nat, 0 < F → f_X3_build_L23 be ai ar se F lf' lt' (nI L') sz' av' pv' im' hh' pp' (nI (cur + 1)) = some (lf', lt', nI L', sz', av', pv', im', hh', pp') := fun F hF2 => by
        obtain ⟨F, rfl⟩ : ∃ z, F = z + 1 := ⟨F - 1, by omega⟩
        rw [bl23_s]
        unfold f_X3_build_L23_F
        rw [if_pos (nI_le (by omega) (by omega))]
      rw [hfin f (by omega)]
      exact ⟨L', sa', sb', ab', pa', hm', ph', cn', it', lf', lt', sz', av', pv', im', hh', pp', rfl, ow', cur, k', lf', lt', by omega, g2, g3, g4, g5⟩
theorem build7 {cv : Nat → Nat} {lk dn B N : Nat} (hw : ∀ n i, ww cv n i ≤ 400000) (hl : lk ≤ 100) (hd : dn ≤ 100) (hB2 : 2 ≤ B) (hB : B ≤ 9) (hN : N ≤ 40) (hN1 : 1 ≤ N) {be ai : Nat → Int64} {ar : Nat → Nat → Int64} {se : Nat → Int32} (hks : KS cv lk dn B N be ai ar) (hs0 : se 0 = nI lk) (hs2 : se 2 = nI B) {lf lt sz av pv im hh pp : Nat → Int32} {ls : Int32} : ∃ (L' : Nat) (sa' sb' ab' pa' hm' ph' cn' : Nat → Nat) (it' : Nat → Nat → Sum Nat Nat) (lf' lt' sz' av' pv' im' hh' pp' : Nat → Int32), f_X3_build be ai ar (nI N) se lf lt ls sz av pv im hh pp = some (lf', lt', nI L', sz', av', pv', im', hh', pp') ∧ BF (dF cv lk dn B) N L' sa' sb' ab' pa' hm' ph' cn' it' sz' av' pv' im' hh' pp' := by
  unfold f_X3_build f_X5_begin
  dsimp only [ob4]
  have hi : BI (dF cv lk dn B) N 0 0 1 (fun _ => 0) (fun _ => N) (fun _ => 0) (fun _ => 0) (fun _ => 0) (fun _ => 0) (fun _ => 0) (fun _ => 0) (fun _ _ => .inl 0) := by
    refine ⟨⟨hN, hN1, Nat.zero_lt_one⟩, ⟨rfl, rfl, fun m _ => ⟨hN1, Nat.le_refl N⟩, fun m q1 q2 => absurd q2 (by omega)⟩, ⟨rfl, fun l q1 q2 => rfl, fun l q1 => absurd q1 (Nat.not_lt_zero l)⟩, fun l j q1 q2 => absurd q2 (Nat.not_lt_zero j), fun l j c q1 q2 _ => absurd q2 (Nat.not_lt_zero j), fun l j c q1 q2 _ => absurd q2 (Nat.not_lt_zero j), fun m q1 q2 => absurd q2 (by omega), ⟨fun c q1 => ⟨Nat.zero_lt_one, Nat.zero_le c, q1⟩, fun m c q1 q2 => absurd q2 (by omega), fun c q1 q2 => rfl, fun c q1 q2 => ?_⟩, ?_⟩
    · rcases q2 with z | ⟨_, z⟩
      · exact absurd z (Nat.not_lt_zero _)
      · exact absurd z (Nat.not_lt_zero c)
    · show 1 + (0 + 0) + (if (0 : Nat) = 0 then N - 0 - 2 else N - 0 - 1) ≤ 39
      rw [if_pos rfl]
      omega
  have hc : BC (dF cv lk dn B) N 0 0 1 (fun _ => 0) (fun _ => N) (fun _ => 0) (fun _ => 0) (fun _ => 0) (fun _ => 0) (fun _ => 0) (fun _ => 0) (fun _ _ => .inl 0) (upd lf 0 0) (upd lt 0 (nI N)) (upd sz 0 0) (upd av 0 (-1)) (upd pv 0 0) im hh pp := by
    refine ⟨fun m q => ?_, fun l q => ?_, fun l j q1 q2 => absurd q2 (Nat.not_lt_zero j), fun m q1 q2 => absurd q2 (by omega), ⟨pk_us, pk_us⟩, fun c q1 q2 => ?_⟩
    · rw [Nat.lt_one_iff.mp q, pk_us, pk_us]; exact ⟨rfl, rfl⟩
    · rw [Nat.lt_one_iff.mp q, pk_us]; rfl
    · rcases q2 with z | ⟨_, z⟩
      · exact absurd z (Nat.not_lt_zero _)
      · exact absurd z (Nat.not_lt_zero c)
  exact buildL hw hl hd hB2 hB hN hks hs0 hs2 FU 0 1 _ _ _ _ _ _ _ _ _ _ _ _ _ _ _ _ _ (show 41 < 100000 + 0 by decide) hi hc
theorem bf_at {F : Nat → Nat → Nat → Nat} {C L : Nat} {sa sb ab pa hm ph cn : Nat → Nat} {it : Nat → Nat → Sum Nat Nat} {sz av pv im hh pp : Nat → Int32} (h : BF F C L sa sb ab pa hm ph cn it sz av pv im hh pp) : AT L C ab pa hm ph cn it ∧ TC L C ab pa hm ph cn it sz av pv im hh pp := by
  obtain ⟨ow, cur, k, lf, lt, h1, h2, hi, hc, hx⟩ := h
  have hi0 := hi
  obtain ⟨⟨a1, a2, a3⟩, ⟨b1, b2, b3, b4⟩, ⟨c1, c2, c3⟩, d, e, f, g, ⟨i1, i2, i3, i4⟩, j⟩ := hi
  have hk1 : 1 ≤ k := by
    rcases Nat.eq_zero_or_pos k with z | z
    · subst z
      have : sa cur = sb cur := hx
      have := (b3 cur a3).1
      omega
    · exact z
  have hpl : ∀ c, c < C → ow c < cur ∨ (ow c = cur ∧ c < xs F (sa cur) (sb cur) k) := fun c hc => by
    obtain ⟨v1, v2, v3⟩ := i1 c hc
    by_cases z : ow c = cur
    · right; rw [hx]; rw [z] at v3; exact ⟨z, v3⟩
    · left; omega
  refine ⟨⟨by omega, by omega, a1, fun l hl => ?_, fun l j' c hl hj hi2 => ?_, fun l j' m hl hj hi2 => ?_, fun c hc => ?_, fun m q1 q2 => ?_⟩, ⟨hc.2.1, fun l j' hl hj => hc.2.2.1 l j' (by omega) hj, hc.2.2.2.1, hc.2.2.2.2.1, fun c hc2 => hc.2.2.2.2.2 c hc2 (hpl c hc2)⟩⟩
  · by_cases z : l = cur
    · rw [z, c1]; exact ⟨hk1, h2⟩
    · have := c3 l (by omega); exact ⟨this.1, this.2.1⟩
  · obtain ⟨v1, v2, v3, v4, v5, v6⟩ := e l j' c (by omega) hj hi2
    exact ⟨v3, v5, v6⟩
  · obtain ⟨v1, v2, v3, v4, v5, v6⟩ := f l j' m (by omega) hj hi2
    exact ⟨v1, v2, v3, v4⟩
  · obtain ⟨v1, v2, v3, v4⟩ := i4 c hc (hpl c hc)
    have := (i1 c hc).1
    exact ⟨by omega, v2, v3, v4⟩
  · obtain ⟨v1, v2, v3, v4, v5⟩ := g m q1 q2
    exact ⟨v1, v3, v4, v5⟩
