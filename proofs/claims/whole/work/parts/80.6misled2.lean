/-! misled, whole -/
theorem ups_ok {L C : Nat} {ab pa hm ph cn : Nat → Nat} {it : Nat → Nat → Sum Nat Nat} (h : AT L C ab pa hm ph cn it) : ∀ (f l : Nat), l < L → ∀ q, q ∈ ups ab pa f l → q.1 < L ∧ 1 ≤ q.2 ∧ q.2 ≤ cn q.1
  | 0, _, _, q, hq => by simp [ups] at hq
  | f + 1, l, hl, q, hq => by
    by_cases e : l = 0
    · subst e; rw [ups_0] at hq; simp at hq
    · rw [show ups ab pa (f + 1) l = (ab l, pa l) :: ups ab pa f (ab l) from if_neg e] at hq
      obtain ⟨u1, u2, u3, u4⟩ := h.2.2.2.2.2.2.2 l (by omega) hl
      rcases List.mem_cons.mp hq with z | z
      · subst z; exact ⟨by show ab l < L; omega, u2, u3⟩
      · exact ups_ok h f (ab l) (by omega) q z
theorem wy_ok {L C : Nat} {ab pa hm ph cn : Nat → Nat} {it : Nat → Nat → Sum Nat Nat} (h : AT L C ab pa hm ph cn it) {c : Nat} (hc : c < C) {i : Nat} (hi : i < (wy ab pa hm ph c).length) : ((wy ab pa hm ph c).getD i (0, 0)).1 < L ∧ 1 ≤ ((wy ab pa hm ph c).getD i (0, 0)).2 ∧ ((wy ab pa hm ph c).getD i (0, 0)).2 ≤ cn ((wy ab pa hm ph c).getD i (0, 0)).1 := by
  have hm2 : (wy ab pa hm ph c).getD i (0, 0) ∈ wy ab pa hm ph c := by
    rw [List.getD_eq_getElem?_getD, List.getElem?_eq_getElem hi]
    exact List.getElem_mem hi
  obtain ⟨u1, u2, u3, u4⟩ := h.2.2.2.2.2.2.1 c hc
  generalize (wy ab pa hm ph c).getD i (0, 0) = q at hm2 ⊢
  unfold wy at hm2
  rcases List.mem_cons.mp hm2 with z | z
  · subst z; exact ⟨u1, u2, u3⟩
  · exact ups_ok h _ _ u1 q z
/-- the k-th list on the way, from above, with the place in it -/
def wk (ab pa hm ph : Nat → Nat) (c k : Nat) : Nat × Nat := (wy ab pa hm ph c).getD ((wy ab pa hm ph c).length - 1 - k) (0, 0)
def mis (ab pa hm ph cn : Nat → Nat) (C : Nat) (wv : Nat → Nat) (it : Nat → Nat → Sum Nat Nat) (c k : Nat) : Bool := fnd (msp ab hm C wv it c (wk ab pa hm ph c k).1 (wk ab pa hm ph c k).2) 0 (cn (wk ab pa hm ph c k).1)
theorem mat7 {L C : Nat} {ab pa hm ph cn : Nat → Nat} {it : Nat → Nat → Sum Nat Nat} {sz av pv im hh pp wd : Nat → Int32} {wv : Nat → Nat} (h : AT L C ab pa hm ph cn it) (ht : TC L C ab pa hm ph cn it sz av pv im hh pp) (hw : ∀ c, c < C → wd c = nI (wv c) ∧ wv c < 16777216) {c k : Nat} (hc : c < C) (hk : k < (wy ab pa hm ph c).length) (g : Nat → Int32) : ∃ g', f_X5_misleadsAt sz av pv im hh pp (nI C) wd g (nI c) (nI k) = some (if mis ab pa hm ph cn C wv it c k = true then 1 else 0, g') := by
  obtain ⟨e1, e2⟩ := r_on7 h ht hc hk
  obtain ⟨u1, u2, u3⟩ := wy_ok h hc (show (wy ab pa hm ph c).length - 1 - k < (wy ab pa hm ph c).length by omega)
  have hL := h.2.1
  unfold f_X5_misleadsAt mis
  rw [e1, e2]
  unfold wk
  generalize hq : (wy ab pa hm ph c).getD ((wy ab pa hm ph c).length - 1 - k) (0, 0) = q at u1 u2 u3 ⊢
  have h9 := (h.2.2.2.1 q.1 u1).2
  dsimp only [ob]
  have hi := itemAt7 (im := im) (l := q.1) (k := q.2 - 1) (by omega) (by omega)
  rw [show q.2 - 1 + 1 = q.2 by omega] at hi
  rw [hi, ht.2.1 q.1 (q.2 - 1) u1 (by omega)]
  dsimp only
  obtain ⟨g1, e3⟩ := shared7 h ht hw hc u1 (show q.2 - 1 < cn q.1 by omega) g
  rw [e3]
  dsimp only [ob2]
  have := ms7 h ht hw hc u1 u2 u3 FU 0 g1 (Nat.zero_le _) (show cn q.1 < 100000 + 0 by omega)
  exact this
def fstk (M : Nat → Bool) : Nat → Nat → Int32
  | _, 0 => -1
  | i, n + 1 => if M i = true then nI i else fstk M (i + 1) n
theorem mi28_s {z : Int32} {wd sz av pv im hh pp : Nat → Int32} (n : Nat) : f_X7_misled_L28 z wd sz av pv im hh pp (n + 1) = f_X7_misled_L28_F z wd sz av pv im hh pp (f_X7_misled_L28 z wd sz av pv im hh pp n) := rfl
theorem mi28 {L C : Nat} {ab pa hm ph cn : Nat → Nat} {it : Nat → Nat → Sum Nat Nat} {sz av pv im hh pp wd : Nat → Int32} {wv : Nat → Nat} (h : AT L C ab pa hm ph cn it) (ht : TC L C ab pa hm ph cn it sz av pv im hh pp) (hw : ∀ c, c < C → wd c = nI (wv c) ∧ wv c < 16777216) {c : Nat} (hc : c < C) : ∀ (n k : Nat) (g : Nat → Int32), k ≤ (wy ab pa hm ph c).length → (wy ab pa hm ph c).length < n + k → ∃ g', f_X7_misled_L28 (nI C) wd sz av pv im hh pp n g (nI c) (nI (wy ab pa hm ph c).length) (nI k) = some (fstk (mis ab pa hm ph cn C wv it c) k ((wy ab pa hm ph c).length - k), g') := by
  have hwl := wy_len h hc
  have hL := h.2.1
  intro n
  induction n with
  | zero => intro k g h1 h2; omega
  | succ n ih =>
    intro k g h1 h2
    rw [mi28_s]
    unfold f_X7_misled_L28_F
    by_cases e : k = (wy ab pa hm ph c).length
    · rw [if_pos (nI_le (by omega) (by omega)), e, Nat.sub_self]
      exact ⟨g, rfl⟩
    · obtain ⟨r, hr⟩ : ∃ r, (wy ab pa hm ph c).length - k = r + 1 := ⟨(wy ab pa hm ph c).length - k - 1, by omega⟩
      have hr2 : (wy ab pa hm ph c).length - (k + 1) = r := by omega
      obtain ⟨g1, e1⟩ := mat7 h ht hw hc (show k < (wy ab pa hm ph c).length by omega) g
      rw [if_neg (nI_ge (by omega) (by omega)), e1, hr]
      dsimp only [ob2]
      show ∃ g', _ = some (if mis ab pa hm ph cn C wv it c k = true then nI k else fstk (mis ab pa hm ph cn C wv it c) (k + 1) r, g')
      by_cases q : mis ab pa hm ph cn C wv it c k = true
      · rw [if_pos q, if_pos q, if_neg (show ¬ (1 : Int32) = 0 by decide)]
        exact ⟨g1, rfl⟩
      · rw [if_neg q, if_neg q, if_pos rfl, nI_1]
        have := ih (k + 1) g1 (by omega) (by omega)
        rw [hr2] at this
        exact this
theorem mi78_s {wd im mn : Nat → Int32} {k26 : Int32 → Int32 → (Nat → Int32) → (Nat → Int32) → (Nat → Int32) → Int32 → Int32 → Option (Int32 × Int32 × Int32 × (Nat → Int32) × (Nat → Int32) × (Nat → Int32))} (n : Nat) : f_X8_misled_L78 wd im mn k26 (n + 1) = f_X8_misled_L78_F wd im mn k26 (f_X8_misled_L78 wd im mn k26 n) := rfl
theorem shared8 {L C : Nat} {ab pa hm ph cn : Nat → Nat} {it : Nat → Nat → Sum Nat Nat} {wd8 : Nat → Int32} {wv : Nat → Nat} (hw : ∀ c, c < C → wd8 c = nI (wv c) ∧ wv c < 16777216) {c : Nat} (hc : c < C) (i : Sum Nat Nat) : f_X8_ones (wd8 c &&& hdi ab hm C wv i) = some (shv ab hm C wv c i) := by
  rw [(hw c hc).1, and_nat, ones_eq (Nat.lt_of_le_of_lt Nat.and_le_left (Nat.lt_trans (hw c hc).2 (by decide)))]
  rfl
theorem mi78 {L C : Nat} {ab pa hm ph cn : Nat → Nat} {it : Nat → Nat → Sum Nat Nat} {pi qi : Nat → Nat} {im8 mn8 wd8 : Nat → Int32} {wv : Nat → Nat} (h : AT L C ab pa hm ph cn it) (ht : T8 L cn it pi qi im8 mn8) (hw : ∀ c, c < C → wd8 c = nI (wv c) ∧ wv c < 16777216) {k26 : Int32 → Int32 → (Nat → Int32) → (Nat → Int32) → (Nat → Int32) → Int32 → Int32 → Option (Int32 × Int32 × Int32 × (Nat → Int32) × (Nat → Int32) × (Nat → Int32))} {th ways : Int32} {wl wp : Nat → Int32} {c l p k : Nat} (hc : c < C) (hl : l < L) (hp : 1 ≤ p) (hp2 : p ≤ cn l) (hk : k < 84) (hwp : wp k = nI p) : ∀ (n i : Nat) (g : Nat → Int32), i ≤ cn l → cn l < n + i → ∃ g', f_X8_misled_L78 wd8 im8 mn8 k26 n th ways wl wp g (nI c) (nI k) (nI (pi l)) (shv ab hm C wv c (it l (p - 1))) (nI i) = if fnd (msp ab hm C wv it c l p) i (cn l - i) = true then some (nI k, th, ways, wl, wp, g') else k26 th ways wl wp g' (nI c) (nI (k + 1)) := by
  have hL := h.2.1
  have hC := h.2.2.1
  have h9 := (h.2.2.2.1 l hl).2
  have hpl := (ht.2.1 l hl).1
  intro n
  induction n with
  | zero => intro i g h1 h2; omega
  | succ n ih =>
    intro i g h1 h2
    rw [mi78_s]
    unfold f_X8_misled_L78_F f_X8_misled_L135
    rw [gi_nI (by omega) (by decide), nI_clamp (by omega), ht.2.2.2.1 l hl]
    by_cases e : i = cn l
    · subst e
      rw [if_pos (nI_le (Nat.le_refl _) (by omega)), Nat.sub_self, nI_1]
      refine ⟨g, ?_⟩
      rw [if_neg (by simp [fnd])]
    · obtain ⟨r, hr⟩ : ∃ r, cn l - i = r + 1 := ⟨cn l - i - 1, by omega⟩
      have hr2 : cn l - (i + 1) = r := by omega
      obtain ⟨p1, rfl⟩ : ∃ p1, p = p1 + 1 := ⟨p - 1, by omega⟩
      rw [if_neg (nI_ge (by omega) (by omega)), gi_nI hk (by decide), nI_clamp (n := k) (by omega), hwp, nI_pred, hr]
      show ∃ g', _ = if (msp ab hm C wv it c l (p1 + 1) i || fnd (msp ab hm C wv it c l (p1 + 1)) (i + 1) r) = true then _ else _
      by_cases q : i = p1
      · have hm1 : msp ab hm C wv it c l (p1 + 1) i = false := by
          unfold msp
          rw [show p1 + 1 - 1 = i by omega]
          simp
        rw [if_pos (by rw [q]), nI_1, hm1, Bool.false_or]
        have := ih (i + 1) g (by omega) (by omega)
        rw [hr2] at this
        exact this
      · rw [if_neg (fun z => q ((nI_eq (by omega) (by omega)).mp z)), gi_nI (by omega) (by decide), ix9, gi_nI (by omega) (by decide), nI_clamp (n := 9 * pi l + i) (by omega), ht.2.2.2.2 l i hl (by omega)]
        obtain ⟨g1, e1⟩ := heading_eq h ht hw hl (show i < cn l by omega) g
        rw [e1]
        dsimp only [ob2]
        rw [nI_clamp (n := c) (by omega), shared8 (L := L) (ab := ab) (pa := pa) (hm := hm) (ph := ph) (cn := cn) (it := it) hw hc]
        dsimp only [ob]
        by_cases z : shv ab hm C wv c (it l i) < shv ab hm C wv c (it l (p1 + 1 - 1))
        · have hm1 : msp ab hm C wv it c l (p1 + 1) i = false := by
            unfold msp
            simp only [z, decide_true, Bool.not_true, Bool.and_false]
          rw [if_pos z, nI_1, hm1, Bool.false_or]
          have := ih (i + 1) g1 (by omega) (by omega)
          rw [hr2] at this
          exact this
        · have hm1 : msp ab hm C wv it c l (p1 + 1) i = true := by
            unfold msp
            simp only [z, decide_false, Bool.not_false, Bool.and_true]
            simp
            omega
          rw [if_neg z, hm1, Bool.true_or]
          exact ⟨g1, (if_pos rfl).symm⟩
theorem mi26_s {wd im mn : Nat → Int32} (n : Nat) : f_X8_misled_L26 wd im mn (n + 1) = f_X8_misled_L26_F wd im mn (f_X8_misled_L26 wd im mn n) := rfl
theorem mi26 {L C : Nat} {ab pa hm ph cn : Nat → Nat} {it : Nat → Nat → Sum Nat Nat} {pi qi : Nat → Nat} {im8 mn8 wd8 : Nat → Int32} {wv : Nat → Nat} (h : AT L C ab pa hm ph cn it) (ht : T8 L cn it pi qi im8 mn8) (hw : ∀ c, c < C → wd8 c = nI (wv c) ∧ wv c < 16777216) {th : Int32} {wl wp : Nat → Int32} {c : Nat} (hc : c < C) (hwl : ∀ k, k < (wy ab pa hm ph c).length → wl k = nI (pi (wk ab pa hm ph c k).1) ∧ wp k = nI (wk ab pa hm ph c k).2) : ∀ (n k : Nat) (g : Nat → Int32), k ≤ (wy ab pa hm ph c).length → (wy ab pa hm ph c).length < n + k → ∃ g', f_X8_misled_L26 wd8 im8 mn8 n th (nI (wy ab pa hm ph c).length) wl wp g (nI c) (nI k) = some (fstk (mis ab pa hm ph cn C wv it c) k ((wy ab pa hm ph c).length - k), th, nI (wy ab pa hm ph c).length, wl, wp, g') := by
  have hwy := wy_len h hc
  have hL := h.2.1
  have hC := h.2.2.1
  intro n
  induction n with
  | zero => intro k g h1 h2; omega
  | succ n ih =>
    intro k g h1 h2
    rw [mi26_s]
    unfold f_X8_misled_L26_F
    by_cases e : k = (wy ab pa hm ph c).length
    · rw [if_pos (nI_le (by omega) (by omega)), e, Nat.sub_self]
      exact ⟨g, rfl⟩
    · obtain ⟨r, hr⟩ : ∃ r, (wy ab pa hm ph c).length - k = r + 1 := ⟨(wy ab pa hm ph c).length - k - 1, by omega⟩
      have hr2 : (wy ab pa hm ph c).length - (k + 1) = r := by omega
      have hkl : k < (wy ab pa hm ph c).length := by omega
      obtain ⟨a1, a2⟩ := hwl k hkl
      obtain ⟨u1, u2, u3⟩ := wy_ok h hc (show (wy ab pa hm ph c).length - 1 - k < (wy ab pa hm ph c).length by omega)
      have hmk : mis ab pa hm ph cn C wv it c k = fnd (msp ab hm C wv it c (wk ab pa hm ph c k).1 (wk ab pa hm ph c k).2) 0 (cn (wk ab pa hm ph c k).1) := rfl
      change (wk ab pa hm ph c k).1 < L at u1
      change 1 ≤ (wk ab pa hm ph c k).2 at u2
      change (wk ab pa hm ph c k).2 ≤ cn (wk ab pa hm ph c k).1 at u3
      generalize wk ab pa hm ph c k = q at a1 a2 u1 u2 u3 hmk
      have h9 := (h.2.2.2.1 q.1 u1).2
      have hpl := (ht.2.1 q.1 u1).1
      rw [if_neg (nI_ge hkl (by omega)), gi_nI (by omega) (by decide), gi_nI (by omega) (by decide), gi_nI (by omega) (by decide), nI_clamp (n := k) (by omega), a1, a2]
      rw [show (9 * nI (pi q.1) + nI q.2) - 1 = nI (9 * pi q.1 + (q.2 - 1)) by
        rw [ix9, show 9 * pi q.1 + q.2 = (9 * pi q.1 + (q.2 - 1)) + 1 by omega, nI_pred], gi_nI (by omega) (by decide), nI_clamp (n := 9 * pi q.1 + (q.2 - 1)) (by omega), ht.2.2.2.2 q.1 (q.2 - 1) u1 (by omega)]
      obtain ⟨g1, e1⟩ := heading_eq h ht hw u1 (show q.2 - 1 < cn q.1 by omega) g
      rw [e1]
      dsimp only [ob2]
      rw [nI_clamp (n := c) (by omega), shared8 (L := L) (ab := ab) (pa := pa) (hm := hm) (ph := ph) (cn := cn) (it := it) hw hc]
      dsimp only [ob]
      obtain ⟨g2, e2⟩ := mi78 h ht hw (k26 := f_X8_misled_L26 wd8 im8 mn8 n) (th := th) (ways := nI (wy ab pa hm ph c).length) (wl := wl) (wp := wp) hc u1 u2 u3 (show k < 84 by omega) a2 FU 0 g1 (Nat.zero_le _) (show cn q.1 < 100000 + 0 by omega)
      rw [show (0 : Int32) = nI 0 from rfl, e2, hr]
      show ∃ g', _ = some (if mis ab pa hm ph cn C wv it c k = true then nI k else fstk (mis ab pa hm ph cn C wv it c) (k + 1) r, _)
      rw [Nat.sub_zero, ← hmk]
      by_cases z : mis ab pa hm ph cn C wv it c k = true
      · rw [if_pos z, if_pos z]
        exact ⟨g2, rfl⟩
      · rw [if_neg z, if_neg z]
        have := ih (k + 1) g2 (by omega) (by omega)
        rw [hr2] at this
        exact this
theorem s_misled {N L : Nat} {ct wd se ct8 wd8 : Nat → Int32} {lk dn br un : Int32} {sz av pv im hh pp im8 mn8 : Nat → Int32} (hu : RU N ct wd se ct8 wd8 lk dn br un) (ht : RTr L N sz av pv im hh pp im8 mn8) (th w a : Int32) (ty wl wp bt : Nat → Int32) : (f_X7_misled (nI N) wd (nI L) sz av pv im hh pp ty a = some (.inl "java/lang/IndexOutOfBoundsException") ∧ f_X8_misled (nI N) (nI L) wd8 im8 mn8 th w wl wp bt a = some (0, 1, w, wl, wp, bt)) ∨ ∃ r ty' w' wl' wp' bt', f_X7_misled (nI N) wd (nI L) sz av pv im hh pp ty a = some (.inr (r, ty')) ∧ f_X8_misled (nI N) (nI L) wd8 im8 mn8 th w wl wp bt a = some (r, 0, w', wl', wp', bt') := by
  obtain ⟨hN, h1, h2, h3, ⟨rfl, rfl, rfl, rfl⟩, hs⟩ := hu
  unfold f_X7_misled f_X8_misled
  rcases icm (th := th) (a := a) hN with ⟨c, hc, rfl, e1, e2⟩ | ⟨e1, e2⟩
  · right
    rw [e1, e2]
    dsimp only [obx, ob2]
    rw [if_neg (show ¬ (1 : Int32) = 0 by decide)]
    rcases ht with rfl | ⟨ab, pa, hm, ph, cn, it, pi, qi, at1, tc, t8⟩
    · rw [ex0, if_pos nI_0]
      dsimp only [ob]
      rw [if_pos rfl]
      exact ⟨_, _, _, _, _, _, rfl, rfl⟩
    · have ha := at1.1
      have hb := at1.2.1
      have hwy := wy_len at1 hc
      have hw : ∀ c, c < N → wd c = nI ((wd c).toNatClampNeg) ∧ (wd c).toNatClampNeg < 16777216 := fun c hc => by
        obtain ⟨v, hv, e⟩ := h3 c hc
        rw [e, nI_clamp (by omega)]
        exact ⟨rfl, by omega⟩
      have hw8 : ∀ c, c < N → wd8 c = nI ((wd c).toNatClampNeg) ∧ (wd c).toNatClampNeg < 16777216 := fun c hc => by
        rw [(h1 c hc).2]; exact hw c hc
      rw [ex1 (by omega) (by omega), if_neg (nI_ne0 (by omega) (by omega))]
      dsimp only [ob]
      rw [if_neg (show ¬ (1 : Int32) = 0 by decide), r_len7 at1 tc hc]
      dsimp only
      obtain ⟨wl', wp', e, e4⟩ := r_way8 at1 t8 hc w wl wp
      rw [e]
      dsimp only [ob3]
      obtain ⟨ty', q1⟩ := mi28 (wv := fun c => (wd c).toNatClampNeg) at1 tc hw hc FU 0 ty (Nat.zero_le _) (show _ < 100000 + 0 by omega)
      obtain ⟨bt', q2⟩ := mi26 (wv := fun c => (wd c).toNatClampNeg) at1 t8 hw8 (th := 0) (wl := wl') (wp := wp') hc (fun k hk => by
        have hg : (wy ab pa hm ph c)[(wy ab pa hm ph c).length - 1 - k]? = some (wk ab pa hm ph c k) := by
          unfold wk
          rw [List.getD_eq_getElem?_getD, List.getElem?_eq_getElem (by omega)]; rfl
        have e5 := e4 _ _ hg
        rw [show (wy ab pa hm ph c).length - 1 - ((wy ab pa hm ph c).length - 1 - k) = k by omega] at e5
        exact e5) FU 0 bt (Nat.zero_le _) (show _ < 100000 + 0 by omega)
      rw [nI_0] at q1 q2
      rw [q1, q2]
      exact ⟨_, _, _, _, _, _, rfl, rfl⟩
  · left
    rw [e1, e2]
    dsimp only [obx, ob2]
    rw [if_pos rfl]
    exact ⟨rfl, rfl⟩
