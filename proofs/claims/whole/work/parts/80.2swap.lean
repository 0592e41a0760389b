/-! swap -/
def tw (a b c : Nat) : Nat := if c = a then b else if c = b then a else c
theorem tw_tw (a b c : Nat) : tw a b (tw a b c) = c := by
  unfold tw
  by_cases h : c = a
  · subst h
    rw [if_pos rfl]
    by_cases q : b = c
    · rw [if_pos q, q]
    · rw [if_neg q, if_pos rfl]
  · rw [if_neg h]
    by_cases q : c = b
    · rw [if_pos q, if_pos rfl, q]
    · rw [if_neg q, if_neg h, if_neg q]
theorem tw_lt {a b c N : Nat} (ha : a < N) (hb : b < N) (hc : c < N) : tw a b c < N := by
  unfold tw
  split
  · exact hb
  · split
    · exact ha
    · exact hc
def twi (a b : Nat) : Sum Nat Nat → Sum Nat Nat
  | .inl c => .inl (tw a b c)
  | .inr m => .inr m
theorem at_tw {L C : Nat} {ab pa hm ph cn : Nat → Nat} {it : Nat → Nat → Sum Nat Nat} (h : AT L C ab pa hm ph cn it) {a b : Nat} (ha : a < C) (hb : b < C) : AT L C ab pa (fun c => hm (tw a b c)) (fun c => ph (tw a b c)) cn (fun l k => twi a b (it l k)) := by
  obtain ⟨h1, h2, h3, h4, h5, h6, h7, h8⟩ := h
  refine ⟨h1, h2, h3, h4, fun l k c hl hk e => ?_, fun l k m hl hk e => ?_, fun c hc => ?_, fun m q1 q2 => ?_⟩
  · change twi a b (it l k) = _ at e
    cases hi : it l k with
    | inl d =>
      rw [hi] at e
      injection e with e
      obtain ⟨u1, u2, u3⟩ := h5 l k d hl hk hi
      subst e
      refine ⟨tw_lt ha hb u1, ?_, ?_⟩
      · show hm (tw a b (tw a b d)) = l
        rw [tw_tw]; exact u2
      · show ph (tw a b (tw a b d)) = k + 1
        rw [tw_tw]; exact u3
    | inr m => rw [hi] at e; cases e
  · change twi a b (it l k) = _ at e
    cases hi : it l k with
    | inl d => rw [hi] at e; cases e
    | inr m2 =>
      rw [hi] at e
      injection e with e
      subst e
      exact h6 l k _ hl hk hi
  · obtain ⟨u1, u2, u3, u4⟩ := h7 (tw a b c) (tw_lt ha hb hc)
    refine ⟨u1, u2, u3, ?_⟩
    show twi a b (it (hm (tw a b c)) (ph (tw a b c) - 1)) = .inl c
    rw [u4]
    show Sum.inl (tw a b (tw a b c)) = _
    rw [tw_tw]
  · obtain ⟨u1, u2, u3, u4⟩ := h8 m q1 q2
    refine ⟨u1, u2, u3, ?_⟩
    show twi a b (it (ab m) (pa m - 1)) = .inr m
    rw [u4]
    rfl
theorem ix_c {l p : Nat} (hp : 1 ≤ p) : (nI l * 9 + nI p) - 1 = nI (9 * l + (p - 1)) := by
  rw [show (9 : Int32) = nI 9 from rfl, pk_mul, nI_add, show l * 9 + p = (9 * l + (p - 1)) + 1 by omega, nI_pred]
theorem trade7 {im hh pp : Nat → Int32} {a b la ja lb jb : Nat} (ha : a < 40) (hb : b < 40) (e1 : hh a = nI la) (e2 : pp a = nI ja) (e3 : hh b = nI lb) (e4 : pp b = nI jb) (g1 : 1 ≤ ja) (g2 : ja ≤ 9) (g3 : 1 ≤ jb) (g4 : jb ≤ 9) (g5 : la < 80) (g6 : lb < 80) : f_X5_trade im hh pp (nI a) (nI b) = some (upd (upd im (9 * lb + (jb - 1)) (nI a)) (9 * la + (ja - 1)) (nI b), upd (upd hh a (nI lb)) b (nI la), upd (upd pp a (nI jb)) b (nI ja)) := by
  unfold f_X5_trade f_X5_seat
  rw [gi_nI ha (by decide), gi_nI ha (by decide), gi_nI hb (by decide), gi_nI hb (by decide), nI_clamp (by omega), nI_clamp (by omega), e1, e2, e3, e4, ix_c g3, ix_c g1, gi_nI ha (by decide), gi_nI ha (by decide), gi_nI (by omega) (by decide), nI_clamp (by omega)]
  dsimp only [ob3]
  rw [gi_nI hb (by decide), gi_nI hb (by decide), gi_nI (by omega) (by decide), nI_clamp (by omega)]
theorem upd2 {f : Nat → Int32} {a b c : Nat} {x y : Int32} : upd (upd f a x) b y c = if c = b then y else if c = a then x else f c := by
  unfold upd
  rfl
theorem tc_tw {L C : Nat} {ab pa hm ph cn : Nat → Nat} {it : Nat → Nat → Sum Nat Nat} {sz av pv im hh pp : Nat → Int32} (h : AT L C ab pa hm ph cn it) (ht : TC L C ab pa hm ph cn it sz av pv im hh pp) {a b : Nat} (ha : a < C) (hb : b < C) : TC L C ab pa (fun c => hm (tw a b c)) (fun c => ph (tw a b c)) cn (fun l k => twi a b (it l k)) sz av pv (upd (upd im (9 * hm b + (ph b - 1)) (nI a)) (9 * hm a + (ph a - 1)) (nI b)) (upd (upd hh a (nI (hm b))) b (nI (hm a))) (upd (upd pp a (nI (ph b))) b (nI (ph a))) := by
  obtain ⟨h1, h2, h3, h4, h5, h6, h7, h8⟩ := h
  obtain ⟨t1, t2, t3, t4, t5⟩ := ht
  obtain ⟨a1, a2, a3, a4⟩ := h7 a ha
  obtain ⟨b1, b2, b3, b4⟩ := h7 b hb
  have ac := (h4 _ a1).2
  have bc := (h4 _ b1).2
  refine ⟨t1, fun l k hl hk => ?_, t3, t4, fun c hc => ?_⟩
  · have hk9 := (h4 l hl).2
    rw [upd2]
    by_cases q1 : 9 * l + k = 9 * hm a + (ph a - 1)
    · have e1 : l = hm a := by omega
      have e2 : k = ph a - 1 := by omega
      rw [if_pos q1, e1, e2]
      show _ = enc7 (twi a b (it (hm a) (ph a - 1)))
      rw [a4]
      show nI b = nI (tw a b a)
      unfold tw
      rw [if_pos rfl]
    · rw [if_neg q1]
      by_cases q2 : 9 * l + k = 9 * hm b + (ph b - 1)
      · have e1 : l = hm b := by omega
        have e2 : k = ph b - 1 := by omega
        rw [if_pos q2, e1, e2]
        show _ = enc7 (twi a b (it (hm b) (ph b - 1)))
        rw [b4]
        show nI a = nI (tw a b b)
        unfold tw
        by_cases e : b = a
        · rw [if_pos e, e]
        · rw [if_neg e, if_pos rfl]
      · rw [if_neg q2, t2 l k hl hk]
        change enc7 (it l k) = enc7 (twi a b (it l k))
        cases hi : it l k with
        | inl d =>
          show nI d = nI (tw a b d)
          obtain ⟨u1, u2, u3⟩ := h5 l k d hl hk hi
          unfold tw
          have n1 : d ≠ a := fun e => by subst e; omega
          have n2 : d ≠ b := fun e => by subst e; omega
          rw [if_neg n1, if_neg n2]
        | inr m => rfl
  · have key : tw a b c = if c = b then a else if c = a then b else c := by
      unfold tw
      by_cases e : c = b
      · by_cases e2 : c = a
        · rw [if_pos e2, if_pos e, ← e2, e]
        · rw [if_neg e2, if_pos e, if_pos e]
      · by_cases e2 : c = a
        · rw [if_pos e2, if_neg e, if_pos e2]
        · rw [if_neg e2, if_neg e, if_neg e, if_neg e2]
    rw [upd2, upd2]
    show _ = nI (hm (tw a b c)) ∧ _ = nI (ph (tw a b c))
    rw [key]
    by_cases e : c = b
    · rw [if_pos e, if_pos e, if_pos e]; exact ⟨rfl, rfl⟩
    · rw [if_neg e, if_neg e, if_neg e]
      by_cases e2 : c = a
      · rw [if_pos e2, if_pos e2, if_pos e2]; exact ⟨rfl, rfl⟩
      · rw [if_neg e2, if_neg e2, if_neg e2]; exact t5 c hc
def swx (x y z : Int32) : Int32 := if z = x then y else if z = y then x else z
theorem sw42_s {mn : Nat → Int32} {k31 : Int32 → Int32 → (Nat → Int32) → (Nat → Int32) → (Nat → Int32) → Int32 → Int32 → Int32 → Option (Int64 × Int32 × Int32 × (Nat → Int32) × (Nat → Int32) × (Nat → Int32))} (n : Nat) : f_X8_swap_L42 mn k31 (n + 1) = f_X8_swap_L42_F mn k31 (f_X8_swap_L42 mn k31 n) := rfl
theorem sw42_1 {mn : Nat → Int32} {k31 : Int32 → Int32 → (Nat → Int32) → (Nat → Int32) → (Nat → Int32) → Int32 → Int32 → Int32 → Option (Int64 × Int32 × Int32 × (Nat → Int32) × (Nat → Int32) × (Nat → Int32))} {n l j J : Nat} {th w x y : Int32} {g wl wp : Nat → Int32} (hm : mn l = nI J) (hJ : J ≤ 9) (hl : l < 84) (hj : j < J) : f_X8_swap_L42 mn k31 (n + 1) th w g wl wp x y (nI l) (nI j) = f_X8_swap_L42 mn k31 n th w (upd g (9 * l + j) (swx x y (g (9 * l + j)))) wl wp x y (nI l) (nI (j + 1)) := by
  rw [sw42_s]
  unfold f_X8_swap_L42_F f_X8_swap_L100
  rw [gi_nI hl (by decide), nI_clamp (by omega), hm, if_neg (nI_ge hj (by omega)), ix9, gi_nI (by omega) (by decide), gi_nI (by omega) (by decide), gi_nI (by omega) (by decide), gi_nI (by omega) (by decide), nI_clamp (by omega), nI_1]
  unfold swx
  by_cases e : g (9 * l + j) = x
  · rw [if_pos e, if_pos e]
  · rw [if_neg e, if_neg e]
    by_cases e2 : g (9 * l + j) = y
    · rw [if_pos e2, if_pos e2]
    · rw [if_neg e2, if_neg e2]
theorem sw42 {mn im8 : Nat → Int32} {cnt : Nat → Nat} {L : Nat} (hL : L ≤ 84) (hm : ∀ r, r < L → mn r = nI (cnt r)) (hc : ∀ r, r < L → cnt r ≤ 9) {k31 : Int32 → Int32 → (Nat → Int32) → (Nat → Int32) → (Nat → Int32) → Int32 → Int32 → Int32 → Option (Int64 × Int32 × Int32 × (Nat → Int32) × (Nat → Int32) × (Nat → Int32))} {l : Nat} (hl : l < L) {th w x y : Int32} {wl wp : Nat → Int32} : ∀ (n j : Nat) (g : Nat → Int32), j ≤ cnt l → cnt l < n + j → (∀ r k, r < L → k < cnt r → g (9 * r + k) = if r < l ∨ (r = l ∧ k < j) then swx x y (im8 (9 * r + k)) else im8 (9 * r + k)) → ∃ g', (∀ r k, r < L → k < cnt r → g' (9 * r + k) = if r < l + 1 then swx x y (im8 (9 * r + k)) else im8 (9 * r + k)) ∧ f_X8_swap_L42 mn k31 n th w g wl wp x y (nI l) (nI j) = k31 th w g' wl wp x y (nI (l + 1)) := by
  intro n
  induction n with
  | zero => intro j g h1 h2; omega
  | succ n ih =>
    intro j g h1 h2 hg
    have hcl := hc l hl
    by_cases e : j = cnt l
    · refine ⟨g, fun r k hr hk => ?_, ?_⟩
      · rw [hg r k hr hk]
        by_cases q : r < l + 1
        · rw [if_pos q, if_pos (by
            rcases Nat.lt_or_eq_of_le (Nat.le_of_lt_succ q) with z | z
            · exact .inl z
            · right; subst z; exact ⟨rfl, by omega⟩)]
        · rw [if_neg q, if_neg (by omega)]
      · rw [sw42_s]
        unfold f_X8_swap_L42_F
        rw [gi_nI (by omega) (by decide), nI_clamp (by omega), hm l hl, if_pos (nI_le (by omega) (by omega)), nI_1]
    · rw [sw42_1 (hm l hl) hcl (by omega) (by omega)]
      refine ih (j + 1) _ (by omega) (by omega) (fun r k hr hk => ?_)
      have hk9 := hc r hr
      by_cases q : 9 * r + k = 9 * l + j
      · have e1 : r = l := by omega
        have e2 : k = j := by omega
        subst e1; subst e2
        rw [pk_us, hg r k hr hk, if_neg (by omega), if_pos (by omega)]
      · rw [pk_un q, hg r k hr hk]
        by_cases z : r < l ∨ (r = l ∧ k < j)
        · rw [if_pos z, if_pos (by omega)]
        · rw [if_neg z, if_neg (by omega)]
theorem sw31_s {cm lk dn ls : Int32} {ct mn : Nat → Int32} (n : Nat) : f_X8_swap_L31 cm lk dn ls ct mn (n + 1) = f_X8_swap_L31_F cm lk dn ls ct mn (f_X8_swap_L31 cm lk dn ls ct mn n) := rfl
theorem sw31 {mn im8 ct : Nat → Int32} {cnt : Nat → Nat} {L : Nat} (hL : L ≤ 84) (hm : ∀ r, r < L → mn r = nI (cnt r)) (hc : ∀ r, r < L → cnt r ≤ 9) {cm lk dn th w x y : Int32} {wl wp : Nat → Int32} : ∀ (n l : Nat) (g : Nat → Int32), l ≤ L → L < n + l → (∀ r k, r < L → k < cnt r → g (9 * r + k) = if r < l then swx x y (im8 (9 * r + k)) else im8 (9 * r + k)) → ∃ g', (∀ r k, r < L → k < cnt r → g' (9 * r + k) = swx x y (im8 (9 * r + k))) ∧ f_X8_swap_L31 cm lk dn (nI L) ct mn n th w g wl wp x y (nI l) = ob4 (f_X8_costOf cm lk dn ct g' mn w wl wp) fun r_4 f_ways_1 g_wayList_2 g_wayPlace_3 => some (r_4, th, f_ways_1, g', g_wayList_2, g_wayPlace_3) := by
  intro n
  induction n with
  | zero => intro l g h1 h2; omega
  | succ n ih =>
    intro l g h1 h2 hg
    rw [sw31_s]
    unfold f_X8_swap_L31_F
    by_cases e : l = L
    · subst e
      rw [if_pos (nI_le (Nat.le_refl _) (by omega))]
      exact ⟨g, fun r k hr hk => by rw [hg r k hr hk, if_pos hr], rfl⟩
    · have hl : l < L := by omega
      rw [if_neg (nI_ge hl (by omega))]
      have hcl := hc l hl
      obtain ⟨g', h3, h4⟩ := sw42 (im8 := im8) hL hm hc (k31 := f_X8_swap_L31 cm lk dn (nI L) ct mn n) hl (th := th) (w := w) (x := x) (y := y) (wl := wl) (wp := wp) FU 0 g (Nat.zero_le _) (show cnt l < 100000 + 0 by omega) (fun r k hr hk => by
        rw [hg r k hr hk]
        by_cases z : r < l
        · rw [if_pos z, if_pos (.inl z)]
        · rw [if_neg z, if_neg (by omega)])
      rw [show (0 : Int32) = nI 0 from rfl, h4]
      exact ih (l + 1) g' (by omega) (by omega) h3
theorem t8_tw {L C : Nat} {ab pa hm ph cn : Nat → Nat} {it : Nat → Nat → Sum Nat Nat} {pi qi : Nat → Nat} {im8 mn8 g : Nat → Int32} (h : AT L C ab pa hm ph cn it) (ht : T8 L cn it pi qi im8 mn8) {a b : Nat} (ha : a < C) (hb : b < C) (hg : ∀ r k, r < L → k < cn (qi r) → g (9 * r + k) = swx (nI a) (nI b) (im8 (9 * r + k))) : T8 L cn (fun l k => twi a b (it l k)) pi qi g mn8 := by
  obtain ⟨h1, h2, h3, h4, h5, h6, h7, h8⟩ := h
  obtain ⟨t1, t2, t3, t4, t5⟩ := ht
  refine ⟨t1, t2, t3, t4, fun l k hl hk => ?_⟩
  rw [hg (pi l) k (t2 l hl).1 (by rw [(t2 l hl).2]; exact hk), t5 l k hl hk]
  unfold swx
  change (if enc8 pi (it l k) = nI a then nI b else if enc8 pi (it l k) = nI b then nI a else enc8 pi (it l k)) = enc8 pi (twi a b (it l k))
  cases hi : it l k with
  | inl d =>
    have hd := (h5 l k d hl hk hi).1
    show (if nI d = nI a then nI b else if nI d = nI b then nI a else nI d) = nI (tw a b d)
    unfold tw
    by_cases e : d = a
    · subst e; rw [if_pos rfl, if_pos rfl]
    · rw [if_neg (fun q => e ((nI_eq (by omega) (by omega)).mp q)), if_neg e]
      by_cases e2 : d = b
      · subst e2; rw [if_pos rfl, if_pos rfl]
      · rw [if_neg (fun q => e2 ((nI_eq (by omega) (by omega)).mp q)), if_neg e2]
  | inr m =>
    have hm2 := (h6 l k m hl hk hi).2.1
    have hlt := m2_lt (m := pi m) (by have := (t2 m hm2).1; omega)
    show (if (-2) - nI (pi m) = nI a then nI b else if (-2) - nI (pi m) = nI b then nI a else (-2) - nI (pi m)) = (-2) - nI (pi m)
    rw [if_neg (fun q => nI_pos (n := a) (by omega) (by rw [← q]; exact hlt)), if_neg (fun q => nI_pos (n := b) (by omega) (by rw [← q]; exact hlt))]
theorem s_swap {N L : Nat} {ct wd se ct8 wd8 : Nat → Int32} {lk dn br un : Int32} {sz av pv im hh pp im8 mn8 : Nat → Int32} (hu : RU N ct wd se ct8 wd8 lk dn br un) (ht : RTr L N sz av pv im hh pp im8 mn8) (rk th w a b : Int32) (wl wp : Nat → Int32) : (f_X7_swap (nI N) ct se (nI L) av pv im hh pp rk a b = some (.inl "java/lang/IndexOutOfBoundsException") ∧ ∃ th', th' = 1 ∧ f_X8_swap (nI N) lk dn (nI L) ct8 mn8 th w im8 wl wp a b = some (0, th', w, im8, wl, wp)) ∨ ∃ r im' hh' pp' rk' w' im8' wl' wp', f_X7_swap (nI N) ct se (nI L) av pv im hh pp rk a b = some (.inr (r, im', hh', pp', rk')) ∧ f_X8_swap (nI N) lk dn (nI L) ct8 mn8 th w im8 wl wp a b = some (r, 0, w', im8', wl', wp') ∧ RTr L N sz av pv im' hh' pp' im8' mn8 ∧ (rk' = -1 ∨ (rk' = rk ∧ im' = im ∧ hh' = hh ∧ pp' = pp ∧ im8' = im8)) := by
  obtain ⟨hN, h1, h2, h3, ⟨rfl, rfl, rfl, rfl⟩, hs⟩ := hu
  unfold f_X7_swap f_X8_swap
  rcases icm (th := th) (a := a) hN with ⟨c, hc, rfl, e1, e2⟩ | ⟨e1, e2⟩
  · rw [e1, e2]
    dsimp only [obx, ob2]
    rw [if_neg (show ¬ (1 : Int32) = 0 by decide)]
    rcases icm (th := 0) (a := b) hN with ⟨d, hd, rfl, e3, e4⟩ | ⟨e3, e4⟩
    · right
      rw [e3, e4]
      dsimp only [obx, ob2]
      rw [if_neg (show ¬ (1 : Int32) = 0 by decide)]
      rcases ht with rfl | ⟨ab, pa, hm, ph, cn, it, pi, qi, at1, tc, t8⟩
      · rw [ex0, if_pos nI_0]
        dsimp only [ob]
        rw [if_pos rfl]
        exact ⟨_, _, _, _, _, _, _, _, _, rfl, rfl, .inl rfl, .inr ⟨rfl, rfl, rfl, rfl, rfl⟩⟩
      · have ha := at1.1
        have hb := at1.2.1
        obtain ⟨a1, a2, a3, a4⟩ := at1.2.2.2.2.2.2.1 c hc
        obtain ⟨b1, b2, b3, b4⟩ := at1.2.2.2.2.2.2.1 d hd
        have c1 := (at1.2.2.2.1 _ a1).2
        have c2 := (at1.2.2.2.1 _ b1).2
        rw [ex1 (by omega) (by omega), if_neg (nI_ne0 (by omega) (by omega))]
        dsimp only [ob]
        rw [if_neg (show ¬ (1 : Int32) = 0 by decide), trade7 (by omega) (by omega) (tc.2.2.2.2 c hc).1 (tc.2.2.2.2 c hc).2 (tc.2.2.2.2 d hd).1 (tc.2.2.2.2 d hd).2 a2 (by omega) b2 (by omega) (by omega) (by omega)]
        dsimp only [ob3]
        have at2 := at_tw at1 hc hd
        have tc2 := tc_tw at1 tc hc hd
        rw [show f_X0_forget rk = some (-1) from rfl]
        dsimp only
        rw [r_cost7 at2 tc2 ct se]
        obtain ⟨g, g1, g2⟩ := sw31 (im8 := im8) (ct := ct8) (mn := mn8) (cnt := fun r => cn (qi r)) (L := L) (by omega) (fun r hr => by
          have := t8.2.2.2.1 (qi r) (t8.2.2.1 r hr).1
          rw [(t8.2.2.1 r hr).2] at this
          exact this) (fun r hr => (at1.2.2.2.1 _ (t8.2.2.1 r hr).1).2) (cm := nI N) (lk := se 0) (dn := se 1) (th := 0) (w := w) (x := nI c) (y := nI d) (wl := wl) (wp := wp) FU 0 im8 (Nat.zero_le _) (show L < 100000 + 0 by omega) (fun r k hr hk => by rw [if_neg (by omega)])
        have t82 := t8_tw at1 t8 hc hd g1
        obtain ⟨w', wl', wp', e⟩ := r_cost8 at2 t82 (se 0) (se 1) ct8 w wl wp
        rw [show (0 : Int32) = nI 0 from rfl] at g2 ⊢
        rw [g2, e, csum_eq N (fun c hc => (h1 c hc).1)]
        exact ⟨_, _, _, _, _, _, _, _, _, rfl, rfl, .inr ⟨_, _, _, _, _, _, _, _, at2, tc2, t82⟩, .inl rfl⟩
    · left
      rw [e3, e4]
      dsimp only [obx, ob2]
      rw [if_pos rfl]
      exact ⟨rfl, _, rfl, rfl⟩
  · left
    rw [e1, e2]
    dsimp only [obx, ob2]
    rw [if_pos rfl]
    exact ⟨rfl, _, rfl, rfl⟩
