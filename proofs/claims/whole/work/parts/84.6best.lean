/-! best and exchange, whole -/
def RX (N : Nat) (ct se av pv hh pp : Nat → Int32) (rk pairs : Int32) (unl : Int64) (sums : Nat → Int64) (len : Nat → Int32) (rows : Nat → Nat → Int32) (lo up : Nat → Int32) (cc ss : Nat → Int64) : Prop :=
  rk = -1 ∨ ∃ (R : Nat) (s : Nat → Nat) (u : Nat) (v : Int), R ≤ 3 ∧ rk = nI R ∧ N ≤ 12 ∧ (u ≤ 100 ∧ se 3 = nI u) ∧ ((∀ x, s x ≤ 50000) ∧ (∀ x, x < N → f_X5_stepsTo av pv hh pp se (nI x) = some (nI (s x))) ∧ ∀ x, N ≤ x → s x = 0) ∧ (f_X5_totalCost av pv hh pp (nI N) ct se = some (Int64.ofInt v) ∧ -10000000000 ≤ v ∧ v ≤ 10000000000) ∧ VX N (cvv N ct) s u v R pairs unl sums len rows lo up cc ss
theorem nsum_bd {g : Nat → Nat} {b : Nat} (h : ∀ k, g k ≤ b) : ∀ n, nsum g n ≤ n * b
  | 0 => Nat.zero_le _
  | n + 1 => by
    have h1 := nsum_bd h n
    have h2 := h n
    show nsum g n + g n ≤ (n + 1) * b
    rw [Nat.succ_mul]
    omega
theorem tfacts {L N : Nat} {ab pa hm ph cn : Nat → Nat} {it : Nat → Nat → Sum Nat Nat} {pi qi : Nat → Nat} {sz av pv im hh pp im8 mn8 : Nat → Int32} (a : AT L N ab pa hm ph cn it) (b : TC L N ab pa hm ph cn it sz av pv im hh pp) (d : T8 L cn it pi qi im8 mn8) (hN : N ≤ 12) {ct ct8 se : Nat → Int32} {lk dn : Nat} (h0 : se 0 = nI lk) (h1 : se 1 = nI dn) (hl : lk ≤ 100) (hd : dn ≤ 100) (hct : ∀ c, c < N → ct c = nI (cvv N ct c)) (hc : ∀ c, cvv N ct c ≤ 10000) (hct8 : ∀ c, c < N → ct8 c = ct c) :
    ∃ (s : Nat → Nat) (v : Int), (∀ x, s x ≤ 50000) ∧ (∀ x, N ≤ x → s x = 0) ∧ -10000000000 ≤ v ∧ v ≤ 10000000000 ∧ (∀ x, x < N → f_X5_stepsTo av pv hh pp se (nI x) = some (nI (s x))) ∧ f_X5_totalCost av pv hh pp (nI N) ct se = some (Int64.ofInt v) ∧ (∀ (w : Int32) (wl wp : Nat → Int32), ∃ (w' : Int32) (wl' wp' : Nat → Int32), f_X8_costOf (nI N) (se 0) (se 1) ct8 im8 mn8 w wl wp = some (Int64.ofInt v, w', wl', wp')) ∧ (∀ x, x < N → ∀ (w : Int32) (wl wp : Nat → Int32), ∃ (w' : Int32) (wl' wp' : Nat → Int32), f_X8_stepsOf (se 0) (se 1) im8 mn8 w wl wp (nI x) = some (nI (s x), w', wl', wp')) := by
  have hL := a.2.1
  have hab : ∀ m, 0 < m → m < L → ab m < m ∧ pa m ≤ 9 := fun m q1 q2 => by
    obtain ⟨k1, k2, k3, k4⟩ := a.2.2.2.2.2.2.2 m q1 q2
    have := (a.2.2.2.1 (ab m) (by omega)).2
    exact ⟨k1, by omega⟩
  let s : Nat → Nat := fun x => if x < N then lk * ph x + pre lk dn ab pa (hm x) else 0
  have hsx : ∀ x, x < N → s x = lk * ph x + pre lk dn ab pa (hm x) := fun x hx => if_pos hx
  have hstp : ∀ x, x < N → stp ab pa hm ph (se 0) (se 1) x = nI (s x) := fun x hx => by
    rw [h0, h1, stp_nat, hsx x hx]
  have hs : ∀ x, s x ≤ 50000 := fun x => by
    by_cases q : x < N
    · rw [hsx x q]
      obtain ⟨k1, k2, k3, k4⟩ := a.2.2.2.2.2.2.1 x q
      have h5 := (a.2.2.2.1 (hm x) k1).2
      have h6 := pre_bd hl hd hab (hm x) (hm x) (Nat.le_refl _) k1
      have h7 : lk * ph x ≤ 100 * 9 := Nat.mul_le_mul hl (by omega)
      have h8 : 1000 * hm x ≤ 40000 := by omega
      omega
    · show (if x < N then _ else 0) ≤ _
      rw [if_neg q]; exact Nat.zero_le _
  have hcs : csum ct (stp ab pa hm ph (se 0) (se 1)) N = Int64.ofInt ((nsum (fun c => cvv N ct c * s c) N : Nat) : Int) := by
    rw [← oi_nat]
    refine csum_nat N (fun c hc1 => ⟨hct c hc1, by have := hc c; omega, hstp c hc1, by have := hs c; omega⟩)
  have hv : nsum (fun c => cvv N ct c * s c) N ≤ 10000000000 := by
    have h1 := nsum_bd (g := fun c => cvv N ct c * s c) (b := 10000 * 50000) (fun k => Nat.mul_le_mul (hc k) (hs k)) N
    have h2 : N * (10000 * 50000) ≤ 12 * (10000 * 50000) := Nat.mul_le_mul hN (Nat.le_refl _)
    omega
  refine ⟨s, ((nsum (fun c => cvv N ct c * s c) N : Nat) : Int), hs, fun x hx => if_neg (by omega), by omega, by omega, fun x hx => ?_, ?_, fun w wl wp => ?_, fun x hx w wl wp => ?_⟩
  · rw [r_steps7 a b se hx]; exact congrArg some (hstp x hx)
  · rw [r_cost7 a b ct se, hcs]
  · obtain ⟨w', wl', wp', e⟩ := r_cost8 a d (se 0) (se 1) ct8 w wl wp
    rw [csum_eq N hct8, hcs] at e
    exact ⟨w', wl', wp', e⟩
  · obtain ⟨w', wl', wp', e⟩ := r_steps8 a d hx (se 0) (se 1) w wl wp
    have := hstp x hx
    unfold stp at this
    rw [this] at e
    exact ⟨w', wl', wp', e⟩
theorem reckX7 {N : Nat} (hN : N ≤ 12) {ct se av pv hh pp : Nat → Int32} {s : Nat → Nat} {u K : Nat} {v : Int} (hK : K ≤ 3) (hct : ∀ x, x < N → ct x = nI (cvv N ct x)) (hc : ∀ x, cvv N ct x ≤ 10000) (hu : u ≤ 100) (hse : se 3 = nI u) (hs : ∀ x, s x ≤ 50000) (hs0 : ∀ x, N ≤ x → s x = 0) (v1 : -10000000000 ≤ v) (v2 : v ≤ 10000000000) (hcost : f_X5_totalCost av pv hh pp (nI N) ct se = some (Int64.ofInt v)) (hstep : ∀ x, x < N → f_X5_stepsTo av pv hh pp se (nI x) = some (nI (s x))) {rk pairs : Int32} {unl : Int64} {sums : Nat → Int64} {len lo up : Nat → Int32} {rows : Nat → Nat → Int32} {cc ss : Nat → Int64} (hx : RX N ct se av pv hh pp rk pairs unl sums len rows lo up cc ss) (row : Nat → Int32) : ∃ (R' : Nat) (sums' : Nat → Int64) (len' : Nat → Int32) (rows' : Nat → Nat → Int32) (lo' up' : Nat → Int32) (cc' ss' : Nat → Int64) (row' : Nat → Int32), f_X0_reckon (nI N) ct se av pv hh pp rk pairs unl sums len rows lo up cc ss row (nI K) = some (nI R', nI (mps N (cvv N ct)).length, lN u, sums', len', rows', lo', up', cc', ss', row') ∧ K ≤ R' ∧ R' ≤ 3 ∧ VX N (cvv N ct) s u v R' (nI (mps N (cvv N ct)).length) (lN u) sums' len' rows' lo' up' cc' ss' := by
  unfold f_X0_reckon f_X0_reckon_L14
  rcases hx with rfl | ⟨R, s2, u2, w, hR, rfl, _, ⟨hu2, hse2⟩, ⟨ht1, ht2, ht3⟩, ⟨hw, w1, w2⟩, hv⟩
  · rw [if_pos rfl]
    obtain ⟨sums1, len1, lo1, up1, cc1, ss1, g1, g2⟩ := begin7 hN hct hc hu hse hs v1 v2 hcost hstep (-1) pairs unl sums len lo up rows cc ss
    rw [g1]
    dsimp only [ob9]
    obtain ⟨R', sums2, len2, rows2, ss2, row2, g3, g4, g5, g6⟩ := rk22 hN hK hc hu hs v1 v2 FU 0 sums1 len1 rows ss1 row (by omega) (show 4 < 100000 + 0 by omega) g2
    rw [nI_0] at g3
    exact ⟨R', sums2, len2, rows2, lo1, up1, cc1, ss2, row2, g3, g4, g5, g6⟩
  · have e1 : u2 = u := by rw [hse] at hse2; exact ((nI_eq (by omega) (by omega)).mp hse2).symm
    have e2 : s2 = s := funext fun x => by
      by_cases q : x < N
      · have h5 := ht2 x q
        rw [hstep x q] at h5
        have := hs x
        have := ht1 x
        exact ((nI_eq (by omega) (by omega)).mp (Option.some.inj h5)).symm
      · rw [hs0 x (by omega), ht3 x (by omega)]
    have e3 : w = v := by
      rw [hcost] at hw
      have := congrArg Int64.toInt (Option.some.inj hw)
      rw [oi_toInt (by omega) (by omega), oi_toInt (by omega) (by omega)] at this
      exact this.symm
    subst e1 e2 e3
    obtain ⟨k1, k2, k3⟩ := (⟨hv.1, hv.2.1, hv⟩ : pairs = nI (mps N (cvv N ct)).length ∧ unl = lN u2 ∧ _)
    subst k1 k2
    rw [if_neg (show ¬ nI R = -1 from fun z => absurd (show (0 : Int32) ≤ nI R from nI_le (a := 0) (Nat.zero_le _) (by omega)) (by rw [z]; decide)), nI_1]
    obtain ⟨R', sums2, len2, rows2, ss2, row2, g3, g4, g5, g6⟩ := rk22 hN hK hc hu hs v1 v2 FU R sums len rows ss row hR (show 4 < 100000 + R by omega) k3
    exact ⟨R', sums2, len2, rows2, lo, up, cc, ss2, row2, g3, g4, g5, g6⟩
theorem tb0 {N : Nat} : f_X7_tellsBest (nI N) (nI 0) = some 0 := by
  unfold f_X7_tellsBest
  rw [ex0]
  rfl
theorem tb1 {N L : Nat} (h0 : 0 < L) (h : L ≤ 40) (hN : N ≤ 40) : f_X7_tellsBest (nI N) (nI L) = some (if 12 < N then 0 else 1) := by
  unfold f_X7_tellsBest
  rw [ex1 h0 (by omega)]
  dsimp only [ob]
  rw [if_neg (show ¬ (1 : Int32) = 0 by decide)]
  by_cases q : 12 < N
  · rw [if_pos (show (12 : Int32) < nI N from nI_lt (a := 12) q (by omega)), if_pos q]
  · rw [if_neg (show ¬ (12 : Int32) < nI N from nI_nlt (a := 12) (by omega) (by decide)), if_neg q]
theorem cs_0 {cm lk dn un : Int32} {ct im mn : Nat → Int32} {w pr bm : Int32} {bs : Int64} {wl wp st p1 p2 row best : Nat → Int32} {k : Int32} : f_X8_chooses cm lk dn un (nI 0) ct im mn w pr bm bs wl wp st p1 p2 row best k = some (0, w, pr, bm, bs, wl, wp, st, p1, p2, row, best) := by
  unfold f_X8_chooses
  rw [if_pos nI_0]
theorem cs_12 {N L : Nat} (h0 : 0 < L) (hL : L ≤ 40) (h : 12 < N) (hN : N ≤ 40) {lk dn un : Int32} {ct im mn : Nat → Int32} {w pr bm : Int32} {bs : Int64} {wl wp st p1 p2 row best : Nat → Int32} {k : Int32} : f_X8_chooses (nI N) lk dn un (nI L) ct im mn w pr bm bs wl wp st p1 p2 row best k = some (0, w, pr, bm, bs, wl, wp, st, p1, p2, row, best) := by
  unfold f_X8_chooses
  rw [if_neg (nI_ne0 (by omega) (by omega)), if_neg (show ¬ nI N ≤ (12 : Int32) from nI_ge (b := N) (a := 12) h (by omega))]
/-- both choices, or neither -/
theorem both {N L : Nat} {ct wd se ct8 wd8 : Nat → Int32} {lk dn br un : Int32} {sz av pv im hh pp im8 mn8 : Nat → Int32} (hu : RU N ct wd se ct8 wd8 lk dn br un) (ht : RTr L N sz av pv im hh pp im8 mn8) {rk pairs : Int32} {unl : Int64} {sums : Nat → Int64} {len lo up : Nat → Int32} {rows : Nat → Nat → Int32} {cc ss : Nat → Int64} (hx : RX N ct se av pv hh pp rk pairs unl sums len rows lo up cc ss) (row : Nat → Int32) {K : Nat} (hK : K ≤ 3) (w pr bm : Int32) (bs : Int64) (wl wp st p1 p2 row8 best : Nat → Int32) :
    (f_X7_tellsBest (nI N) (nI L) = some 0 ∧ f_X8_chooses (nI N) lk dn un (nI L) ct8 im8 mn8 w pr bm bs wl wp st p1 p2 row8 best (nI K) = some (0, w, pr, bm, bs, wl, wp, st, p1, p2, row8, best)) ∨
    ∃ (b : Int × List (Nat × Nat)) (M : List (Nat × Nat)) (rk' pairs' : Int32) (unl' : Int64) (sums' : Nat → Int64) (len' : Nat → Int32) (rows' : Nat → Nat → Int32) (lo' up' : Nat → Int32) (cc' ss' : Nat → Int64) (row' : Nat → Int32) (w' pr' bm' : Int32) (bs' : Int64) (wl' wp' st' p1' p2' row8' best' : Nat → Int32),
      f_X7_tellsBest (nI N) (nI L) = some 1 ∧ f_X0_reckon (nI N) ct se av pv hh pp rk pairs unl sums len rows lo up cc ss row (nI K) = some (rk', pairs', unl', sums', len', rows', lo', up', cc', ss', row') ∧ RX N ct se av pv hh pp rk' pairs' unl' sums' len' rows' lo' up' cc' ss'
      ∧ f_X8_chooses (nI N) lk dn un (nI L) ct8 im8 mn8 w pr bm bs wl wp st p1 p2 row8 best (nI K) = some (1, w', pr', bm', bs', wl', wp', st', p1', p2', row8', best')
      ∧ Pr M lo' up' ∧ Bs M b (len' K) (sums' K) (rows' K) ∧ Pr (aps N) p1' p2' ∧ Bs (aps N) b bm' bs' best' := by
  obtain ⟨hN, h1, h2, h3, ⟨rfl, rfl, rfl, rfl⟩, ⟨lk, hl1, hl2, hl3⟩, ⟨dn, hd1, hd2⟩, hb, ⟨u, hu1, hu2⟩⟩ := hu
  rcases ht with rfl | ⟨ab, pa, hm, ph, cn, it, pi, qi, a, b, d⟩
  · exact .inl ⟨tb0, cs_0⟩
  · have ha := a.1
    have hb := a.2.1
    by_cases q : 12 < N
    · exact .inl ⟨by rw [tb1 (by omega) hb hN, if_pos q], cs_12 (by omega) hb q hN⟩
    · right
      have hN2 : N ≤ 12 := by omega
      obtain ⟨hct, hc⟩ := cvv_ok h2
      obtain ⟨s, v, f1, f2, f3, f4, f5, f6, f7, f8⟩ := tfacts a b d hN2 (ct := ct) (ct8 := ct8) hl3 hd2 hl2 hd1 hct hc (fun c hc => (h1 c hc).1)
      obtain ⟨R', sums', len', rows', lo', up', cc', ss', row', g1, g2, g3, g4⟩ := reckX7 hN2 hK hct hc hu1 hu2 f1 f2 f3 f4 f6 f5 hx row
      obtain ⟨w', bm', bs', wl', wp', st', p1', p2', row8', best', k1, k2, k3⟩ := cs20 hN2 hK (lk := se 0) (dn := se 1) (ct := ct8) (im := im8) (mn := mn8) (c := cvv N ct) (s := s) (u := u) (v := v) (fun x hx => by rw [(h1 x hx).1]; exact hct x hx) hc hu1 f1 f3 f4 f7 f8 f2 L ⟨by omega, hb⟩ w pr bm bs wl wp st p1 p2 row8 best
      rw [← hu2] at k1
      refine ⟨_, _, _, _, _, sums', len', rows', lo', up', cc', ss', row', w', _, bm', bs', wl', wp', st', p1', p2', row8', best', by rw [tb1 (by omega) hb hN, if_neg q], g1, .inr ⟨R', s, u, v, g3, rfl, hN2, ⟨hu1, hu2⟩, ⟨f1, f5, f2⟩, ⟨f6, f3, f4⟩, g4⟩, k1, mps_pr hN2 g4.2.2.1, g4.2.2.2.2.2.2 K g2, ⟨aps_len N hN2, k2, fun p hp => ?_⟩, k3⟩
      have := aps_mem.mp hp
      exact ⟨this.1, by have := this.2; omega⟩
theorem rqx {a : Int32} : (f_X7_requireExchanges a = some (.inl "java/lang/IllegalArgumentException") ∧ (a < 0 ∨ ¬ a ≤ 3)) ∨ ∃ K : Nat, K ≤ 3 ∧ a = nI K ∧ f_X7_requireExchanges a = some (.inr ()) := by
  unfold f_X7_requireExchanges
  by_cases h0 : a < 0
  · exact .inl ⟨if_pos h0, .inl h0⟩
  · rw [if_neg h0]
    by_cases h3 : a ≤ 3
    · right
      obtain ⟨j, hj, rfl⟩ := nI_of h0
      refine ⟨j, ?_, rfl, if_pos h3⟩
      by_cases z : j ≤ 3
      · exact z
      · exact absurd h3 (show ¬ nI j ≤ (3 : Int32) from nI_ge (b := j) (a := 3) (by omega) hj)
    · exact .inl ⟨if_neg h3, .inr h3⟩
theorem s_best {N L : Nat} {ct wd se ct8 wd8 : Nat → Int32} {lk dn br un : Int32} {sz av pv im hh pp im8 mn8 : Nat → Int32} (hu : RU N ct wd se ct8 wd8 lk dn br un) (ht : RTr L N sz av pv im hh pp im8 mn8) {rk pairs : Int32} {unl : Int64} {sums : Nat → Int64} {len lo up : Nat → Int32} {rows : Nat → Nat → Int32} {cc ss : Nat → Int64} (hx : RX N ct se av pv hh pp rk pairs unl sums len rows lo up cc ss) (row : Nat → Int32) (th w pr bm : Int32) (bs : Int64) (wl wp st p1 p2 row8 best : Nat → Int32) (a : Int32) :
    (f_X7_best (nI N) ct se (nI L) av pv hh pp rk pairs unl sums len rows lo up cc ss row a = some (.inl "java/lang/IllegalArgumentException") ∧ f_X8_best (nI N) lk dn un (nI L) ct8 im8 mn8 th w pr bm bs wl wp st p1 p2 row8 best a = some (0, 1, w, pr, bm, bs, wl, wp, st, p1, p2, row8, best)) ∨
    ∃ (r : Int64) (rk' pairs' : Int32) (unl' : Int64) (sums' : Nat → Int64) (len' : Nat → Int32) (rows' : Nat → Nat → Int32) (lo' up' : Nat → Int32) (cc' ss' : Nat → Int64) (row' : Nat → Int32) (w' pr' bm' : Int32) (bs' : Int64) (wl' wp' st' p1' p2' row8' best' : Nat → Int32),
      f_X7_best (nI N) ct se (nI L) av pv hh pp rk pairs unl sums len rows lo up cc ss row a = some (.inr (r, rk', pairs', unl', sums', len', rows', lo', up', cc', ss', row')) ∧ f_X8_best (nI N) lk dn un (nI L) ct8 im8 mn8 th w pr bm bs wl wp st p1 p2 row8 best a = some (r, 0, w', pr', bm', bs', wl', wp', st', p1', p2', row8', best') ∧ RX N ct se av pv hh pp rk' pairs' unl' sums' len' rows' lo' up' cc' ss' := by
  unfold f_X7_best f_X8_best f_X8_best_L15 f_X8_best_L20
  rcases rqx (a := a) with ⟨e, h⟩ | ⟨K, hK, rfl, e⟩
  · left
    rw [e]
    refine ⟨rfl, ?_⟩
    have hb : ∀ th : Int32, f_X8_bad th 1 1 = some (1, 1) := fun th => by
      unfold f_X8_bad
      rw [if_neg (show ¬ (1 : Int32) = 0 by decide)]
      rfl
    rcases h with h | h
    · rw [if_pos h, hb]
      dsimp only [ob2]
      rw [if_neg (show ¬ (1 : Int32) = 0 by decide)]
    · by_cases h0 : a < 0
      · rw [if_pos h0, hb]
        dsimp only [ob2]
        rw [if_neg (show ¬ (1 : Int32) = 0 by decide)]
      · rw [if_neg h0, if_neg h, hb]
        dsimp only [ob2]
        rw [if_neg (show ¬ (1 : Int32) = 0 by decide)]
  · right
    rw [e, if_neg (show ¬ nI K < 0 from nI_pos (by omega)), if_pos (show nI K ≤ 3 from nI_le (b := 3) hK (by decide)), show f_X8_bad 0 0 1 = some (0, 0) from rfl]
    dsimp only [ob2, obx]
    rw [if_pos rfl]
    rcases both hu ht hx row hK w pr bm bs wl wp st p1 p2 row8 best with ⟨e1, e2⟩ | ⟨b, M, rk', pairs', unl', sums', len', rows', lo', up', cc', ss', row', w', pr', bm', bs', wl', wp', st', p1', p2', row8', best', e1, e2, e3, e4, e5, e6, e7, e8⟩
    · rw [e1, e2]
      dsimp only [ob, ob12]
      rw [if_pos rfl, if_pos rfl]
      exact ⟨_, _, _, _, _, _, _, _, _, _, _, _, _, _, _, _, _, _, _, _, _, _, _, rfl, rfl, hx⟩
    · rw [e1, e4]
      dsimp only [ob, ob12]
      rw [if_neg (show ¬ (1 : Int32) = 0 by decide), if_neg (show ¬ (1 : Int32) = 0 by decide), e2]
      dsimp only [ob11]
      rw [gi_nI (by omega) (by decide), nI_clamp (by omega), e6.2.1, e8.2.1]
      exact ⟨_, _, _, _, _, _, _, _, _, _, _, _, _, _, _, _, _, _, _, _, _, _, _, rfl, rfl, e3⟩
theorem s_exchange {N L : Nat} {ct wd se ct8 wd8 : Nat → Int32} {lk dn br un : Int32} {sz av pv im hh pp im8 mn8 : Nat → Int32} (hu : RU N ct wd se ct8 wd8 lk dn br un) (ht : RTr L N sz av pv im hh pp im8 mn8) {rk pairs : Int32} {unl : Int64} {sums : Nat → Int64} {len lo up : Nat → Int32} {rows : Nat → Nat → Int32} {cc ss : Nat → Int64} (hx : RX N ct se av pv hh pp rk pairs unl sums len rows lo up cc ss) (row : Nat → Int32) (th w pr bm : Int32) (bs : Int64) (wl wp st p1 p2 row8 best : Nat → Int32) (a i z : Int32) :
    (f_X7_exchange (nI N) ct se (nI L) av pv hh pp rk pairs unl sums len rows lo up cc ss row a i z = some (.inl "java/lang/IllegalArgumentException") ∧ f_X8_exchange (nI N) lk dn un (nI L) ct8 im8 mn8 th w pr bm bs wl wp st p1 p2 row8 best a i z = some (0, 1, w, pr, bm, bs, wl, wp, st, p1, p2, row8, best)) ∨
    ∃ (r : Int32) (rk' pairs' : Int32) (unl' : Int64) (sums' : Nat → Int64) (len' : Nat → Int32) (rows' : Nat → Nat → Int32) (lo' up' : Nat → Int32) (cc' ss' : Nat → Int64) (row' : Nat → Int32) (w' pr' bm' : Int32) (bs' : Int64) (wl' wp' st' p1' p2' row8' best' : Nat → Int32),
      f_X7_exchange (nI N) ct se (nI L) av pv hh pp rk pairs unl sums len rows lo up cc ss row a i z = some (.inr (r, rk', pairs', unl', sums', len', rows', lo', up', cc', ss', row')) ∧ f_X8_exchange (nI N) lk dn un (nI L) ct8 im8 mn8 th w pr bm bs wl wp st p1 p2 row8 best a i z = some (r, 0, w', pr', bm', bs', wl', wp', st', p1', p2', row8', best') ∧ RX N ct se av pv hh pp rk' pairs' unl' sums' len' rows' lo' up' cc' ss' := by
  have h24 : f_X8_exchange_L24 (nI N) lk dn un (nI L) ct8 im8 mn8 0 w pr bm bs wl wp st p1 p2 row8 best a i z = some (0, 1, w, pr, bm, bs, wl, wp, st, p1, p2, row8, best) := by
    unfold f_X8_exchange_L24 f_X8_exchange_L29 f_X8_bad
    rw [if_neg (show ¬ (1 : Int32) = 0 by decide), show ∀ (α : Type) (k : Option α), gb 1 k = k from fun α k => if_pos (.inr rfl)]
    dsimp only [ob2]
    rw [if_neg (show ¬ (1 : Int32) = 0 by decide)]
  unfold f_X7_exchange f_X8_exchange
  rcases rqx (a := a) with ⟨e, h⟩ | ⟨K, hK, rfl, e⟩
  · left
    rw [e]
    refine ⟨rfl, ?_⟩
    by_cases h0 : a < 0
    · rw [if_pos h0, h24]
    · rw [if_neg h0, if_pos (Int32.not_le.mp (h.resolve_left h0)), h24]
  · rw [e, if_neg (show ¬ nI K < 0 from nI_pos (by omega)), if_neg (show ¬ (3 : Int32) < nI K from nI_nlt (a := 3) hK (by decide))]
    dsimp only [obx]
    by_cases hz : z = 0 ∨ z = 1
    · right
      have hz1 : ¬ z < 0 := by rcases hz with rfl | rfl <;> decide
      have hz2 : z ≤ 1 := by rcases hz with rfl | rfl <;> decide
      rw [if_neg hz1, if_pos hz2]
      have hq : ∀ (α : Type) (x y : α), (if z = 0 then x else if z = 1 then x else y) = x := fun α x y => by
        by_cases q : z = 0
        · rw [if_pos q]
        · rw [if_neg q, if_pos (hz.resolve_left q)]
      rw [hq]
      unfold f_X7_exchange_L24 f_X8_exchange_L29
      rw [show f_X8_bad 0 0 1 = some (0, 0) from rfl]
      dsimp only [ob2]
      rw [if_pos rfl]
      rcases both hu ht hx row hK w pr bm bs wl wp st p1 p2 row8 best with ⟨e1, e2⟩ | ⟨b, M, rk', pairs', unl', sums', len', rows', lo', up', cc', ss', row', w', pr', bm', bs', wl', wp', st', p1', p2', row8', best', e1, e2, e3, e4, e5, e6, e7, e8⟩
      · rw [e1, e2]
        dsimp only [ob, ob12]
        rw [if_pos rfl, if_pos rfl]
        exact ⟨_, _, _, _, _, _, _, _, _, _, _, _, _, _, _, _, _, _, _, _, _, _, _, rfl, rfl, hx⟩
      · rw [e1, e4]
        dsimp only [ob, ob12]
        rw [if_neg (show ¬ (1 : Int32) = 0 by decide), if_neg (show ¬ (1 : Int32) = 0 by decide), e2]
        dsimp only [ob11]
        by_cases hi : i < 0
        · rw [if_pos hi, if_pos hi]
          exact ⟨_, _, _, _, _, _, _, _, _, _, _, _, _, _, _, _, _, _, _, _, _, _, _, rfl, rfl, e3⟩
        · obtain ⟨j, hj, rfl⟩ := nI_of hi
          rw [if_neg hi, if_neg hi, gi_nI (by omega) (by decide), nI_clamp (by omega)]
          have hb3 := e6.2.2.1
          rw [e6.1, e8.1]
          by_cases hjl : j < b.2.length
          · obtain ⟨p, hp⟩ : ∃ p, b.2[j]? = some p := ⟨_, List.getElem?_eq_getElem hjl⟩
            obtain ⟨x, x1, x2⟩ := e6.2.2.2.1 j p hp
            obtain ⟨y, y1, y2⟩ := e8.2.2.2.1 j p hp
            have hxl : x < 66 := Nat.lt_of_lt_of_le (List.getElem?_eq_some_iff.mp x2).1 e5.1
            have hyl : y < 66 := Nat.lt_of_lt_of_le (List.getElem?_eq_some_iff.mp y2).1 e7.1
            obtain ⟨c1, c2⟩ := e5.2.1 x p x2
            obtain ⟨d1, d2⟩ := e7.2.1 y p y2
            rw [if_pos (nI_lt hjl (by omega)), if_pos (nI_lt hjl (by omega))]
            unfold f_X0_partner
            rw [gi_nI (by omega) (by decide), gi_nI (show j < 3 by omega) (by decide), nI_clamp (show K < 2 ^ 31 by omega), nI_clamp hj, x1, gi_nI hxl (by decide), gi_nI hxl (by decide), nI_clamp (show x < 2 ^ 31 by omega), c1, c2, y1, gi_nI (show j < 3 by omega) (by decide), gi_nI (show j < 3 by omega) (by decide), gi_nI hyl (by decide), gi_nI hyl (by decide), nI_clamp (show y < 2 ^ 31 by omega), d1, d2]
            by_cases q : z = 0
            · rw [if_pos q, if_pos q]
              exact ⟨_, _, _, _, _, _, _, _, _, _, _, _, _, _, _, _, _, _, _, _, _, _, _, rfl, rfl, e3⟩
            · rw [if_neg q, if_neg q]
              exact ⟨_, _, _, _, _, _, _, _, _, _, _, _, _, _, _, _, _, _, _, _, _, _, _, rfl, rfl, e3⟩
          · rw [if_neg (nI_nlt (by omega) (by omega)), if_neg (nI_nlt (by omega) (by omega))]
            exact ⟨_, _, _, _, _, _, _, _, _, _, _, _, _, _, _, _, _, _, _, _, _, _, _, rfl, rfl, e3⟩
    · left
      rw [if_neg (fun q => hz (.inl q)), if_neg (fun q => hz (.inr q))]
      refine ⟨rfl, ?_⟩
      by_cases h0 : z < 0
      · rw [if_pos h0, h24]
      · rw [if_neg h0]
        by_cases h1 : z ≤ 1
        · exfalso
          obtain ⟨j, hj, rfl⟩ := nI_of h0
          by_cases y0 : j = 0
          · subst y0; exact hz (.inl rfl)
          · by_cases y1 : j = 1
            · subst y1; exact hz (.inr rfl)
            · exact absurd h1 (show ¬ nI j ≤ (1 : Int32) from nI_ge (b := j) (a := 1) (by omega) hj)
        · rw [if_neg h1, h24]
