/-! the relation of the two trees -/
def enc7 : Sum Nat Nat → Int32
  | .inl c => nI c
  | .inr m => nI m ^^^ (-1)
def enc8 (pi : Nat → Nat) : Sum Nat Nat → Int32
  | .inl c => nI c
  | .inr m => (-2) - nI (pi m)
/-- a tree of L lists over C commands: list l has cn l items it l k; a list m stands in ab m at place pa m, a command c in hm c at ph c -/
def AT (L C : Nat) (ab pa hm ph cn : Nat → Nat) (it : Nat → Nat → Sum Nat Nat) : Prop :=
  1 ≤ L ∧ L ≤ 40 ∧ C ≤ 40
  ∧ (∀ l, l < L → 1 ≤ cn l ∧ cn l ≤ 9)
  ∧ (∀ l k c, l < L → k < cn l → it l k = .inl c → c < C ∧ hm c = l ∧ ph c = k + 1)
  ∧ (∀ l k m, l < L → k < cn l → it l k = .inr m → 0 < m ∧ m < L ∧ ab m = l ∧ pa m = k + 1)
  ∧ (∀ c, c < C → hm c < L ∧ 1 ≤ ph c ∧ ph c ≤ cn (hm c) ∧ it (hm c) (ph c - 1) = .inl c)
  ∧ (∀ m, 0 < m → m < L → ab m < m ∧ 1 ≤ pa m ∧ pa m ≤ cn (ab m) ∧ it (ab m) (pa m - 1) = .inr m)
/-- the class's rows hold the tree -/
def TC (L C : Nat) (ab pa hm ph cn : Nat → Nat) (it : Nat → Nat → Sum Nat Nat) (sz av pv im hh pp : Nat → Int32) : Prop :=
  (∀ l, l < L → sz l = nI (cn l)) ∧ (∀ l k, l < L → k < cn l → im (9 * l + k) = enc7 (it l k)) ∧ (∀ m, 0 < m → m < L → av m = nI (ab m) ∧ pv m = nI (pa m)) ∧ (av 0 = -1 ∧ pv 0 = 0) ∧ (∀ c, c < C → hh c = nI (hm c) ∧ pp c = nI (ph c))
/-- the reference's rows hold it, its lists renumbered -/
def T8 (L : Nat) (cn : Nat → Nat) (it : Nat → Nat → Sum Nat Nat) (pi qi : Nat → Nat) (im8 mn8 : Nat → Int32) : Prop :=
  pi 0 = 0 ∧ (∀ l, l < L → pi l < L ∧ qi (pi l) = l) ∧ (∀ r, r < L → qi r < L ∧ pi (qi r) = r) ∧ (∀ l, l < L → mn8 (pi l) = nI (cn l)) ∧ (∀ l k, l < L → k < cn l → im8 (9 * pi l + k) = enc8 pi (it l k))
def RTr (L C : Nat) (sz av pv im hh pp im8 mn8 : Nat → Int32) : Prop :=
  L = 0 ∨ ∃ (ab pa hm ph cn : Nat → Nat) (it : Nat → Nat → Sum Nat Nat) (pi qi : Nat → Nat), AT L C ab pa hm ph cn it ∧ TC L C ab pa hm ph cn it sz av pv im hh pp ∧ T8 L cn it pi qi im8 mn8
theorem m2_lt {m : Nat} (h : m < 84) : (-2 : Int32) - nI m < 0 := by
  have : ∀ m, m < 84 → (-2 : Int32) - nI m < 0 := by decide
  exact this m h
theorem m2_inj {a b : Nat} (ha : a < 84) (hb : b < 84) (h : (-2 : Int32) - nI a = (-2) - nI b) : a = b := by
  have h2 : (-2 : Int32) - ((-2) - nI a) = (-2) - ((-2) - nI b) := by rw [h]
  have e : ∀ x : Int32, (-2 : Int32) - ((-2) - x) = x := fun x => by rw [Int32.sub_eq_add_neg, Int32.neg_sub, Int32.add_comm, Int32.sub_add_cancel]
  rw [e, e] at h2
  exact (nI_eq (by omega) (by omega)).mp h2
theorem m2_back {a : Nat} : (-2 : Int32) - ((-2) - nI a) = nI a := by
  rw [Int32.sub_eq_add_neg, Int32.neg_sub, Int32.add_comm, Int32.sub_add_cancel]
theorem m1_lt {m : Nat} (h : m < 84) : nI m ^^^ (-1) < 0 := by
  have : ∀ m, m < 84 → nI m ^^^ (-1) < 0 := by decide
  exact this m h
theorem m1_back {m : Int32} : (m ^^^ (-1)) ^^^ (-1) = m := by
  rw [Int32.xor_assoc, show (-1 : Int32) ^^^ (-1) = 0 by decide, Int32.xor_zero]
/-- the lists on the way to a command, from below, each with the place in it -/
def wy (ab pa hm ph : Nat → Nat) (c : Nat) : List (Nat × Nat) := (hm c, ph c) :: ups ab pa (hm c) (hm c)
theorem wy_len {L C : Nat} {ab pa hm ph cn : Nat → Nat} {it : Nat → Nat → Sum Nat Nat} (h : AT L C ab pa hm ph cn it) {c : Nat} (hc : c < C) : 1 ≤ (wy ab pa hm ph c).length ∧ (wy ab pa hm ph c).length ≤ L := by
  obtain ⟨h1, h2, h3, h4, h5, h6, h7, h8⟩ := h
  have := ups_len (pa := pa) (fun l q1 q2 => (h8 l q1 q2).1) (hm c) (hm c) (h7 c hc).1
  have := (h7 c hc).1
  unfold wy
  rw [List.length_cons]
  omega
theorem r_steps7 {L C : Nat} {ab pa hm ph cn : Nat → Nat} {it : Nat → Nat → Sum Nat Nat} {sz av pv im hh pp : Nat → Int32} (h : AT L C ab pa hm ph cn it) (ht : TC L C ab pa hm ph cn it sz av pv im hh pp) (se : Nat → Int32) {c : Nat} (hc : c < C) : f_X5_stepsTo av pv hh pp se (nI c) = some (se 0 * nI (ph c) + usum (se 0) (se 1) (ups ab pa (hm c) (hm c))) := by
  obtain ⟨h1, h2, h3, h4, h5, h6, h7, h8⟩ := h
  obtain ⟨t1, t2, t3, t4, t5⟩ := ht
  exact stepsTo_eq (N := L) (fun l q1 q2 => ⟨(t3 l q1 q2).1, (h8 l q1 q2).1, (t3 l q1 q2).2⟩) (by omega) (by omega) (t5 c hc).1 (t5 c hc).2 (h7 c hc).1
theorem r_way8 {L C : Nat} {ab pa hm ph cn : Nat → Nat} {it : Nat → Nat → Sum Nat Nat} {pi qi : Nat → Nat} {im8 mn8 : Nat → Int32} (h : AT L C ab pa hm ph cn it) (ht : T8 L cn it pi qi im8 mn8) {c : Nat} (hc : c < C) (w0 : Int32) (wl wp : Nat → Int32) :
    ∃ wl' wp' : Nat → Int32, f_X8_way im8 mn8 w0 wl wp (nI c) = some (nI (wy ab pa hm ph c).length, wl', wp') ∧ ∀ k q, (wy ab pa hm ph c)[k]? = some q → wl' ((wy ab pa hm ph c).length - 1 - k) = nI (pi q.1) ∧ wp' ((wy ab pa hm ph c).length - 1 - k) = nI q.2 := by
  obtain ⟨h1, h2, h3, h4, h5, h6, h7, h8⟩ := h
  obtain ⟨t1, t2, t3, t4, t5⟩ := ht
  refine way_eq (N := L) (cnt := fun r => cn (qi r)) (by omega) t1 (fun l hl => (t2 l hl).1) (fun l k hl hk e => by rw [← (t2 l hl).2, e, (t2 k hk).2]) (fun l q1 q2 => (h8 l q1 q2).1) (fun r hr => ?_) (fun r hr => (h4 _ (t3 r hr).1).2) (fun l q1 q2 => ?_) (fun l q1 q2 r k hr hk e => ?_) (by omega) (h7 c hc).1 ?_ (fun r k hr hk e => ?_) w0 wl wp
  · have := t4 (qi r) (t3 r hr).1
    rw [(t3 r hr).2] at this
    exact this
  · obtain ⟨u1, u2, u3, u4⟩ := h8 l q1 q2
    refine ⟨u2, ?_, ?_⟩
    · show pa l ≤ cn (qi (pi (ab l)))
      rw [(t2 (ab l) (by omega)).2]; exact u3
    · rw [t5 (ab l) (pa l - 1) (by omega) (by omega), u4]; rfl
  · obtain ⟨v1, v2⟩ := t3 r hr
    have e2 := t5 (qi r) k v1 hk
    rw [v2, e] at e2
    cases hi : it (qi r) k with
    | inl d =>
      rw [hi] at e2
      have := (h5 _ _ _ v1 hk hi).1
      exact absurd (m2_lt (m := pi l) (by have := (t2 l q2).1; omega)) (by rw [e2]; exact nI_pos (by omega))
    | inr m =>
      rw [hi] at e2
      obtain ⟨y1, y2, y3, y4⟩ := h6 _ _ _ v1 hk hi
      have e3 := m2_inj (by have := (t2 l q2).1; omega) (by have := (t2 m y2).1; omega) e2
      have e4 : l = m := by rw [← (t2 l q2).2, e3, (t2 m y2).2]
      subst e4
      exact ⟨by rw [y3, v2], by omega⟩
  · obtain ⟨u1, u2, u3, u4⟩ := h7 c hc
    refine ⟨u2, ?_, ?_⟩
    · show ph c ≤ cn (qi (pi (hm c)))
      rw [(t2 (hm c) u1).2]; exact u3
    · rw [t5 (hm c) (ph c - 1) u1 (by omega), u4]; rfl
  · obtain ⟨v1, v2⟩ := t3 r hr
    have e2 := t5 (qi r) k v1 hk
    rw [v2, e] at e2
    cases hi : it (qi r) k with
    | inl d =>
      rw [hi] at e2
      obtain ⟨y1, y2, y3⟩ := h5 _ _ _ v1 hk hi
      have e4 : c = d := (nI_eq (by omega) (by omega)).mp e2
      subst e4
      exact ⟨by rw [y2, v2], by omega⟩
    | inr m =>
      rw [hi] at e2
      obtain ⟨y1, y2, y3, y4⟩ := h6 _ _ _ v1 hk hi
      exact absurd (m2_lt (m := pi m) (by have := (t2 m y2).1; omega)) (by rw [show (-2 : Int32) - nI (pi m) = nI c from e2.symm]; exact nI_pos (by omega))
theorem r_steps8 {L C : Nat} {ab pa hm ph cn : Nat → Nat} {it : Nat → Nat → Sum Nat Nat} {pi qi : Nat → Nat} {im8 mn8 : Nat → Int32} (h : AT L C ab pa hm ph cn it) (ht : T8 L cn it pi qi im8 mn8) {c : Nat} (hc : c < C) (lk dn w0 : Int32) (wl wp : Nat → Int32) :
    ∃ (w' : Int32) (wl' wp' : Nat → Int32), f_X8_stepsOf lk dn im8 mn8 w0 wl wp (nI c) = some (lk * nI (ph c) + usum lk dn (ups ab pa (hm c) (hm c)), w', wl', wp') := by
  have hlen := wy_len h hc
  have hL := h.2.1
  obtain ⟨wl', wp', h1, h2⟩ := r_way8 h ht hc w0 wl wp
  refine ⟨nI (wy ab pa hm ph c).length, wl', wp', ?_⟩
  unfold f_X8_stepsOf
  rw [h1]
  have h3 := so_L19 (lk := lk) (base := dn * (nI (wy ab pa hm ph c).length - 1)) (m := (wy ab pa hm ph c).length) (by omega) (wl := wl') (wp := wp') FU 0 (Nat.zero_le _) (show _ < 100000 + 0 by omega)
  rw [show (fsum (fun k => lk * wp' k) 0 : Int32) = 0 from rfl, Int32.add_zero, nI_0] at h3
  dsimp only [ob3]
  rw [h3, fsum_psum _ _ (fun k q hk => (h2 k q hk).2), usum_psum]
  unfold wy
  rw [List.length_cons, nI_pred]
  show some (dn * nI (ups ab pa (hm c) (hm c)).length + (lk * nI (ph c) + psum lk (ups ab pa (hm c) (hm c))), _, wl', wp') = _
  rw [Int32.add_comm, Int32.add_assoc]
def stp (ab pa hm ph : Nat → Nat) (lk dn : Int32) (c : Nat) : Int32 := lk * nI (ph c) + usum lk dn (ups ab pa (hm c) (hm c))
theorem r_cost7 {L C : Nat} {ab pa hm ph cn : Nat → Nat} {it : Nat → Nat → Sum Nat Nat} {sz av pv im hh pp : Nat → Int32} (h : AT L C ab pa hm ph cn it) (ht : TC L C ab pa hm ph cn it sz av pv im hh pp) (ct se : Nat → Int32) : f_X5_totalCost av pv hh pp (nI C) ct se = some (csum ct (stp ab pa hm ph (se 0) (se 1)) C) :=
  totalCost_eq h.2.2.1 (fun _ hc => r_steps7 h ht se hc)
theorem csum_eq {ct ct' st : Nat → Int32} : ∀ (n : Nat), (∀ c, c < n → ct' c = ct c) → csum ct' st n = csum ct st n
  | 0, _ => rfl
  | n + 1, h => by
    show csum ct' st n + _ = csum ct st n + _
    rw [csum_eq n (fun c hc => h c (by omega)), h n (by omega)]
theorem r_cost8 {L C : Nat} {ab pa hm ph cn : Nat → Nat} {it : Nat → Nat → Sum Nat Nat} {pi qi : Nat → Nat} {im8 mn8 : Nat → Int32} (h : AT L C ab pa hm ph cn it) (ht : T8 L cn it pi qi im8 mn8) (lk dn : Int32) (ct : Nat → Int32) (w : Int32) (wl wp : Nat → Int32) : ∃ (w' : Int32) (wl' wp' : Nat → Int32), f_X8_costOf (nI C) lk dn ct im8 mn8 w wl wp = some (csum ct (stp ab pa hm ph lk dn) C, w', wl', wp') :=
  costOf_eq h.2.2.1 (fun _ hc w wl wp => r_steps8 h ht hc lk dn w wl wp) w wl wp
theorem ex0 : f_X5_exists (nI 0) = some 0 := by decide
theorem ex1 {L : Nat} (h0 : 0 < L) (h : L < 2 ^ 31) : f_X5_exists (nI L) = some 1 := by
  unfold f_X5_exists
  rw [if_neg (nI_nle h0 h)]
theorem s_cost {N L : Nat} {ct wd se ct8 wd8 : Nat → Int32} {lk dn br un : Int32} {sz av pv im hh pp im8 mn8 : Nat → Int32} (hu : RU N ct wd se ct8 wd8 lk dn br un) (ht : RTr L N sz av pv im hh pp im8 mn8) (th w : Int32) (wl wp : Nat → Int32) : ∃ r w' wl' wp', f_X7_cost (nI N) ct se (nI L) av pv hh pp = some r ∧ f_X8_cost (nI N) lk dn (nI L) ct8 im8 mn8 th w wl wp = some (r, 0, w', wl', wp') := by
  obtain ⟨hN, h1, h2, h3, ⟨rfl, rfl, rfl, rfl⟩, hs⟩ := hu
  unfold f_X7_cost f_X8_cost
  rcases ht with rfl | ⟨ab, pa, hm, ph, cn, it, pi, qi, a, b, c⟩
  · rw [ex0, if_pos nI_0]
    dsimp only [ob]
    rw [if_pos rfl]
    exact ⟨_, _, _, _, rfl, rfl⟩
  · have ha := a.1
    have hb := a.2.1
    rw [ex1 (by omega) (by omega), if_neg (nI_ne0 (by omega) (by omega))]
    dsimp only [ob]
    rw [if_neg (show ¬ (1 : Int32) = 0 by decide), r_cost7 a b ct se]
    obtain ⟨w', wl', wp', e⟩ := r_cost8 a c (se 0) (se 1) ct8 w wl wp
    rw [e, csum_eq N (fun c hc => (h1 c hc).1)]
    exact ⟨_, _, _, _, rfl, rfl⟩
theorem s_steps {N L : Nat} {ct wd se ct8 wd8 : Nat → Int32} {lk dn br un : Int32} {sz av pv im hh pp im8 mn8 : Nat → Int32} (hu : RU N ct wd se ct8 wd8 lk dn br un) (ht : RTr L N sz av pv im hh pp im8 mn8) (th w a : Int32) (wl wp : Nat → Int32) : (f_X7_steps (nI N) se (nI L) av pv hh pp a = some (.inl "java/lang/IndexOutOfBoundsException") ∧ f_X8_steps (nI N) lk dn (nI L) im8 mn8 th w wl wp a = some (0, 1, w, wl, wp)) ∨ ∃ r w' wl' wp', f_X7_steps (nI N) se (nI L) av pv hh pp a = some (.inr r) ∧ f_X8_steps (nI N) lk dn (nI L) im8 mn8 th w wl wp a = some (r, 0, w', wl', wp') := by
  obtain ⟨hN, h1, h2, h3, ⟨rfl, rfl, rfl, rfl⟩, hs⟩ := hu
  unfold f_X7_steps f_X8_steps
  rcases icm (th := th) (a := a) hN with ⟨c, hc, rfl, e1, e2⟩ | ⟨e1, e2⟩
  · right
    rw [e1, e2]
    dsimp only [obx, ob2]
    rw [if_neg (show ¬ (1 : Int32) = 0 by decide)]
    rcases ht with rfl | ⟨ab, pa, hm, ph, cn, it, pi, qi, a, b, d⟩
    · rw [ex0, if_pos nI_0]
      dsimp only [ob]
      rw [if_pos rfl]
      exact ⟨_, _, _, _, rfl, rfl⟩
    · have ha := a.1
      have hb := a.2.1
      rw [ex1 (by omega) (by omega), if_neg (nI_ne0 (by omega) (by omega))]
      dsimp only [ob]
      rw [if_neg (show ¬ (1 : Int32) = 0 by decide), r_steps7 a b se hc]
      obtain ⟨w', wl', wp', e⟩ := r_steps8 a d hc (se 0) (se 1) w wl wp
      rw [e]
      exact ⟨_, _, _, _, rfl, rfl⟩
  · left
    rw [e1, e2]
    dsimp only [obx, ob2]
    rw [if_pos rfl]
    exact ⟨rfl, rfl⟩
theorem wl12_s {av : Nat → Int32} (n : Nat) : f_X5_wayLength_L12 av (n + 1) = f_X5_wayLength_L12_F av (f_X5_wayLength_L12 av n) := rfl
theorem wl12 {L : Nat} {ab pa : Nat → Nat} {av : Nat → Int32} (hL : L ≤ 80) (hav : ∀ l, 0 < l → l < L → av l = nI (ab l) ∧ ab l < l) : ∀ (f n w l up : Nat), l ≤ f → l < L → up + l < 80 → l < n → f_X5_wayLength_L12 av n (nI w) (nI l) (nI up) = some (nI (w + (ups ab pa f l).length)) := by
  intro f
  have base : ∀ (f n w up : Nat), up < 80 → 0 < n → f_X5_wayLength_L12 av n (nI w) (nI 0) (nI up) = some (nI (w + (ups ab pa f 0).length)) := by
    intro f n w up h1 h2
    obtain ⟨n, rfl⟩ : ∃ k, n = k + 1 := ⟨n - 1, by omega⟩
    rw [wl12_s]
    unfold f_X5_wayLength_L12_F
    rw [if_neg (show ¬ (80 : Int32) ≤ _ from nI_ge (b := 80) h1 (by decide)), if_pos (by decide), ups_0]
    rfl
  induction f with
  | zero =>
    intro n w l up h1 h2 h3 h4
    have e : l = 0 := by omega
    subst e
    exact base 0 n w up (by omega) h4
  | succ f ih =>
    intro n w l up h1 h2 h3 h4
    by_cases e : l = 0
    · subst e
      exact base (f + 1) n w up (by omega) h4
    · obtain ⟨n, rfl⟩ : ∃ k, n = k + 1 := ⟨n - 1, by omega⟩
      obtain ⟨q1, q2⟩ := hav l (by omega) h2
      rw [wl12_s]
      unfold f_X5_wayLength_L12_F
      rw [if_neg (show ¬ (80 : Int32) ≤ _ from nI_ge (b := 80) (show up < 80 by omega) (by decide)), if_neg (nI_nle (by omega) (by omega)), gi_nI (by omega) (by decide), nI_clamp (by omega), q1, nI_1, nI_1, ih n (w + 1) (ab l) (up + 1) (by omega) (by omega) (by omega) (by omega)]
      rw [show ups ab pa (f + 1) l = (ab l, pa l) :: ups ab pa f (ab l) from if_neg e, List.length_cons, show w + 1 + (ups ab pa f (ab l)).length = w + ((ups ab pa f (ab l)).length + 1) by omega]
theorem r_len7 {L C : Nat} {ab pa hm ph cn : Nat → Nat} {it : Nat → Nat → Sum Nat Nat} {sz av pv im hh pp : Nat → Int32} (h : AT L C ab pa hm ph cn it) (ht : TC L C ab pa hm ph cn it sz av pv im hh pp) {c : Nat} (hc : c < C) : f_X5_wayLength av hh (nI c) = some (nI (wy ab pa hm ph c).length) := by
  obtain ⟨h1, h2, h3, h4, h5, h6, h7, h8⟩ := h
  obtain ⟨t1, t2, t3, t4, t5⟩ := ht
  unfold f_X5_wayLength
  rw [gi_nI (by omega) (by decide), nI_clamp (by omega), (t5 c hc).1]
  have hh := (h7 c hc).1
  have := wl12 (L := L) (ab := ab) (pa := pa) (av := av) (by omega) (fun l q1 q2 => ⟨(t3 l q1 q2).1, (h8 l q1 q2).1⟩) (hm c) FU 1 (hm c) 0 (Nat.le_refl _) hh (by omega) (show hm c < 100000 by omega)
  rw [show (1 : Int32) = nI 1 from rfl, show (0 : Int32) = nI 0 from rfl, this]
  unfold wy
  rw [List.length_cons, Nat.add_comm]
theorem pw24_s {av pv : Nat → Int32} (n : Nat) : f_X5_placeOnWay_L24 av pv (n + 1) = f_X5_placeOnWay_L24_F av pv (f_X5_placeOnWay_L24 av pv n) := rfl
theorem lw16_s {av : Nat → Int32} (n : Nat) : f_X5_listOnWay_L16 av (n + 1) = f_X5_listOnWay_L16_F av (f_X5_listOnWay_L16 av n) := rfl
theorem pw24 {L : Nat} {ab pa : Nat → Nat} {av pv : Nat → Int32} (hL : L ≤ 80) (hav : ∀ l, 0 < l → l < L → av l = nI (ab l) ∧ pv l = nI (pa l) ∧ ab l < l) : ∀ (f n p l k a : Nat), l ≤ f → l < L → a = (ups ab pa f l).length → k ≤ a → l < n → f_X5_placeOnWay_L24 av pv n (nI k) (nI p) (nI l) (nI a) = some (nI (((l, p) :: ups ab pa f l).getD (a - k) (0, 0)).2) ∧ f_X5_listOnWay_L16 av n (nI k) (nI l) (nI a) = some (nI (((l, p) :: ups ab pa f l).getD (a - k) (0, 0)).1) := by
  intro f
  induction f with
  | zero =>
    intro n p l k a h1 h2 h3 h4 h5
    obtain ⟨n, rfl⟩ : ∃ k, n = k + 1 := ⟨n - 1, by omega⟩
    have e : a = 0 := by rw [h3]; rfl
    rw [pw24_s, lw16_s]
    unfold f_X5_placeOnWay_L24_F f_X5_listOnWay_L16_F
    rw [if_pos (nI_le (by omega) (by omega)), if_pos (nI_le (by omega) (by omega)), show a - k = 0 by omega]
    exact ⟨rfl, rfl⟩
  | succ f ih =>
    intro n p l k a h1 h2 h3 h4 h5
    have hal : a ≤ l := by rw [h3]; exact ups_len (N := L) (fun l q1 q2 => (hav l q1 q2).2.2) (f + 1) l h2
    obtain ⟨n, rfl⟩ : ∃ k, n = k + 1 := ⟨n - 1, by omega⟩
    rw [pw24_s, lw16_s]
    unfold f_X5_placeOnWay_L24_F f_X5_listOnWay_L16_F
    by_cases q : a ≤ k
    · rw [if_pos (nI_le q (by omega)), if_pos (nI_le q (by omega)), show a - k = 0 by omega]
      exact ⟨rfl, rfl⟩
    · have e : l ≠ 0 := by
        intro e
        subst e
        rw [ups_0] at h3
        simp at h3
        omega
      obtain ⟨v1, v2, v3⟩ := hav l (by omega) h2
      have hu : ups ab pa (f + 1) l = (ab l, pa l) :: ups ab pa f (ab l) := if_neg e
      rw [hu] at h3 ⊢
      rw [List.length_cons] at h3
      obtain ⟨g1, g2⟩ := ih n (pa l) (ab l) k (a - 1) (by omega) (by omega) (by omega) (by omega) (by omega)
      rw [if_neg (nI_ge (by omega) (by omega)), if_neg (nI_ge (by omega) (by omega)), if_neg (nI_nle (by omega) (by omega)), if_neg (nI_nle (by omega) (by omega)), gi_nI (by omega) (by decide), gi_nI (by omega) (by decide), gi_nI (by omega) (by decide), nI_clamp (by omega), v1, v2]
      obtain ⟨b, rfl⟩ : ∃ b, a = b + 1 := ⟨a - 1, by omega⟩
      rw [pk_m1, show b + 1 - k = (b - k) + 1 by omega]
      rw [show b + 1 - 1 = b by omega] at g1 g2
      rw [g1, g2]
      exact ⟨rfl, rfl⟩
theorem r_on7 {L C : Nat} {ab pa hm ph cn : Nat → Nat} {it : Nat → Nat → Sum Nat Nat} {sz av pv im hh pp : Nat → Int32} (h : AT L C ab pa hm ph cn it) (ht : TC L C ab pa hm ph cn it sz av pv im hh pp) {c k : Nat} (hc : c < C) (hk : k < (wy ab pa hm ph c).length) : f_X5_placeOnWay av pv hh pp (nI c) (nI k) = some (nI ((wy ab pa hm ph c).getD ((wy ab pa hm ph c).length - 1 - k) (0, 0)).2) ∧ f_X5_listOnWay av hh (nI c) (nI k) = some (nI ((wy ab pa hm ph c).getD ((wy ab pa hm ph c).length - 1 - k) (0, 0)).1) := by
  have hl := r_len7 h ht hc
  have hw := wy_len h hc
  obtain ⟨h1, h2, h3, h4, h5, h6, h7, h8⟩ := h
  obtain ⟨t1, t2, t3, t4, t5⟩ := ht
  have hhm := (h7 c hc).1
  have hle : (wy ab pa hm ph c).length = (ups ab pa (hm c) (hm c)).length + 1 := by unfold wy; rw [List.length_cons]
  obtain ⟨g1, g2⟩ := pw24 (L := L) (ab := ab) (pa := pa) (av := av) (pv := pv) (by omega) (fun l q1 q2 => ⟨(t3 l q1 q2).1, (t3 l q1 q2).2, (h8 l q1 q2).1⟩) (hm c) FU (ph c) (hm c) k ((ups ab pa (hm c) (hm c)).length) (Nat.le_refl _) hhm rfl (by omega) (show hm c < 100000 by omega)
  unfold f_X5_placeOnWay f_X5_listOnWay
  rw [gi_nI (by omega) (by decide), gi_nI (by omega) (by decide), gi_nI (by omega) (by decide), hl, nI_clamp (by omega), (t5 c hc).1, (t5 c hc).2]
  dsimp only [ob]
  rw [hle, nI_pred, g1, g2]
  exact ⟨rfl, rfl⟩
theorem s_place {N L : Nat} {ct wd se ct8 wd8 : Nat → Int32} {lk dn br un : Int32} {sz av pv im hh pp im8 mn8 : Nat → Int32} (hu : RU N ct wd se ct8 wd8 lk dn br un) (ht : RTr L N sz av pv im hh pp im8 mn8) (th w a b : Int32) (wl wp : Nat → Int32) : (f_X7_place (nI N) (nI L) av pv hh pp a b = some (.inl "java/lang/IndexOutOfBoundsException") ∧ f_X8_place (nI N) (nI L) im8 mn8 th w wl wp a b = some (0, 1, w, wl, wp)) ∨ ∃ r w' wl' wp', f_X7_place (nI N) (nI L) av pv hh pp a b = some (.inr r) ∧ f_X8_place (nI N) (nI L) im8 mn8 th w wl wp a b = some (r, 0, w', wl', wp') := by
  obtain ⟨hN, h1, h2, h3, ⟨rfl, rfl, rfl, rfl⟩, hs⟩ := hu
  unfold f_X7_place f_X8_place
  rcases icm (th := th) (a := a) hN with ⟨c, hc, rfl, e1, e2⟩ | ⟨e1, e2⟩
  · right
    rw [e1, e2]
    dsimp only [obx, ob2]
    rw [if_neg (show ¬ (1 : Int32) = 0 by decide)]
    rcases ht with rfl | ⟨ab, pa, hm, ph, cn, it, pi, qi, at1, tc, t8⟩
    · rw [ex0, if_pos nI_0]
      dsimp only [ob]
      rw [if_pos rfl]
      exact ⟨_, _, _, _, rfl, rfl⟩
    · have ha := at1.1
      have hb := at1.2.1
      have hw := wy_len at1 hc
      rw [ex1 (by omega) (by omega), if_neg (nI_ne0 (by omega) (by omega))]
      dsimp only [ob]
      rw [if_neg (show ¬ (1 : Int32) = 0 by decide)]
      obtain ⟨wl', wp', e, e4⟩ := r_way8 at1 t8 hc w wl wp
      rw [e]
      dsimp only [ob3]
      by_cases q0 : b < 0
      · rw [if_pos q0, if_pos q0]
        exact ⟨_, _, _, _, rfl, rfl⟩
      · rw [if_neg q0, if_neg q0, r_len7 at1 tc hc]
        dsimp only [ob]
        obtain ⟨k, hk, rfl⟩ := nI_of q0
        by_cases q1 : k < (wy ab pa hm ph c).length
        · rw [if_pos (nI_lt q1 (by omega)), if_neg (nI_ge q1 (by omega)), (r_on7 at1 tc hc q1).1, gi_nI (by omega) (by decide), nI_clamp hk]
          dsimp only
          refine ⟨_, nI (wy ab pa hm ph c).length, wl', wp', rfl, ?_⟩
          have hg : (wy ab pa hm ph c)[(wy ab pa hm ph c).length - 1 - k]? = some ((wy ab pa hm ph c).getD ((wy ab pa hm ph c).length - 1 - k) (0, 0)) := by
            rw [List.getD_eq_getElem?_getD, List.getElem?_eq_getElem (by omega)]; rfl
          have e5 := (e4 _ _ hg).2
          rw [show (wy ab pa hm ph c).length - 1 - ((wy ab pa hm ph c).length - 1 - k) = k by omega] at e5
          rw [e5]
        · rw [if_neg (nI_nlt (by omega) hk), if_pos (nI_le (by omega) hk)]
          exact ⟨_, _, _, _, rfl, rfl⟩
  · left
    rw [e1, e2]
    dsimp only [obx, ob2]
    rw [if_pos rfl]
    exact ⟨rfl, rfl⟩
