/-! headings, and misled -/
theorem iu10_s {av : Nat → Int32} (n : Nat) : f_X5_isUnder_L10 av (n + 1) = f_X5_isUnder_L10_F av (f_X5_isUnder_L10 av n) := rfl
theorem iu10 {L : Nat} {ab : Nat → Nat} {av : Nat → Int32} (hL : L ≤ 80) (hav : ∀ l, 0 < l → l < L → av l = nI (ab l) ∧ ab l < l) {m : Nat} (hm0 : 0 < m) (hm : m < L) : ∀ (f n l up : Nat), l ≤ f → l < L → up + l < 80 → l < n → f_X5_isUnder_L10 av n (nI m) (nI l) (nI up) = some (if und ab l m = true then 1 else 0) := by
  intro f
  have hab : ∀ l, 0 < l → l < L → ab l < l := fun l q1 q2 => (hav l q1 q2).2
  have base : ∀ (n up : Nat), up < 80 → 0 < n → f_X5_isUnder_L10 av n (nI m) (nI 0) (nI up) = some (if und ab 0 m = true then 1 else 0) := by
    intro n up h1 h2
    obtain ⟨n, rfl⟩ : ∃ k, n = k + 1 := ⟨n - 1, by omega⟩
    rw [iu10_s]
    unfold f_X5_isUnder_L10_F f_X5_isUnder_L39
    rw [if_neg (show ¬ (80 : Int32) ≤ _ from nI_ge (b := 80) h1 (by decide)), if_pos (by decide), if_neg (fun q => by have := (nI_eq (a := 0) (b := m) (by omega) (by omega)).mp q; omega), und_0, if_neg (by simp; omega)]
  induction f with
  | zero =>
    intro n l up h1 h2 h3 h4
    have e : l = 0 := by omega
    subst e
    exact base n up (by omega) h4
  | succ f ih =>
    intro n l up h1 h2 h3 h4
    by_cases e : l = 0
    · subst e
      exact base n up (by omega) h4
    · obtain ⟨n, rfl⟩ : ∃ k, n = k + 1 := ⟨n - 1, by omega⟩
      obtain ⟨q1, q2⟩ := hav l (by omega) h2
      rw [iu10_s, und_s hab (by omega) h2]
      unfold f_X5_isUnder_L10_F f_X5_isUnder_L39
      rw [if_neg (show ¬ (80 : Int32) ≤ _ from nI_ge (b := 80) (show up < 80 by omega) (by decide)), if_neg (nI_nle (by omega) (by omega))]
      by_cases z : l = m
      · subst z
        rw [if_pos rfl, if_pos rfl, if_pos (by simp)]
      · rw [if_neg (fun q => z ((nI_eq (by omega) (by omega)).mp q)), gi_nI (by omega) (by decide), nI_clamp (by omega), q1, nI_1, ih n (ab l) (up + 1) (by omega) (by omega) (by omega) (by omega)]
        have : (l == m) = false := by simp [z]
        rw [this, Bool.false_or]
theorem isUnder_eq {L C : Nat} {ab pa hm ph cn : Nat → Nat} {it : Nat → Nat → Sum Nat Nat} {sz av pv im hh pp : Nat → Int32} (h : AT L C ab pa hm ph cn it) (ht : TC L C ab pa hm ph cn it sz av pv im hh pp) {c m : Nat} (hc : c < C) (hm0 : 0 < m) (hm2 : m < L) : f_X5_isUnder av hh (nI c) (nI m) = some (if und ab (hm c) m = true then 1 else 0) := by
  obtain ⟨h1, h2, h3, h4, h5, h6, h7, h8⟩ := h
  obtain ⟨t1, t2, t3, t4, t5⟩ := ht
  have hh := (h7 c hc).1
  unfold f_X5_isUnder
  rw [gi_nI (by omega) (by decide), nI_clamp (by omega), (t5 c hc).1]
  exact iu10 (L := L) (ab := ab) (by omega) (fun l q1 q2 => ⟨(t3 l q1 q2).1, (h8 l q1 q2).1⟩) hm0 hm2 (hm c) FU (hm c) 0 (Nat.le_refl _) hh (by omega) (show hm c < 100000 by omega)
theorem tw2_s (n : Nat) : f_X5_tallyWords_L2 (n + 1) = f_X5_tallyWords_L2_F (f_X5_tallyWords_L2 n) := rfl
theorem tally_eq {v : Nat} (hv : v < 2 ^ 31) (g : Nat → Int32) : ∃ g', f_X5_tallyWords g (nI v) = some g' ∧ ∀ b, b < 24 → g' b = g b + nI (v / 2 ^ b % 2) := by
  have key : ∀ (n i : Nat) (t : Nat → Int32), i ≤ 24 → 24 < n + i → (∀ b, b < 24 → t b = if b < i then g b + nI (v / 2 ^ b % 2) else g b) → ∃ g', f_X5_tallyWords_L2 n t (nI v) (nI i) = some g' ∧ ∀ b, b < 24 → g' b = g b + nI (v / 2 ^ b % 2) := by
    intro n
    induction n with
    | zero => intro i t h1 h2; omega
    | succ n ih =>
      intro i t h1 h2 ht
      rw [tw2_s]
      unfold f_X5_tallyWords_L2_F
      by_cases e : i = 24
      · subst e
        rw [if_pos (by decide)]
        exact ⟨t, rfl, fun b hb => by rw [ht b hb, if_pos hb]⟩
      · rw [if_neg (show ¬ (24 : Int32) ≤ _ from nI_ge (b := 24) (show i < 24 by omega) (by decide)), gi_nI (by omega) (by decide), gi_nI (by omega) (by decide), nI_clamp (by omega), ushN hv (by omega), and1N, nI_1]
        refine ih (i + 1) _ (by omega) (by omega) (fun b hb => ?_)
        by_cases q : b = i
        · subst q
          rw [pk_us, ht b hb, if_neg (Nat.lt_irrefl _), if_pos (by omega)]
        · rw [pk_un q, ht b hb]
          by_cases z : b < i
          · rw [if_pos z, if_pos (by omega)]
          · rw [if_neg z, if_neg (by omega)]
  unfold f_X5_tallyWords
  exact key FU 0 g (by decide) (show 24 < 100000 + 0 by decide) (fun b _ => by rw [if_neg (by omega)])
theorem fi5_s (n : Nat) : f_J7_fill_53178_L5 (n + 1) = f_J7_fill_53178_L5_F (f_J7_fill_53178_L5 n) := rfl
theorem fill_eq (x : Int32) (g : Nat → Int32) : ∃ g', f_J7_fill_53178 g x = some g' ∧ ∀ b, b < 24 → g' b = x := by
  have key : ∀ (n i : Nat) (t : Nat → Int32), i ≤ 24 → 24 < n + i → (∀ b, b < i → t b = x) → ∃ g', f_J7_fill_53178_L5 n t x (nI i) 24 = some g' ∧ ∀ b, b < 24 → g' b = x := by
    intro n
    induction n with
    | zero => intro i t h1 h2; omega
    | succ n ih =>
      intro i t h1 h2 ht
      rw [fi5_s]
      unfold f_J7_fill_53178_L5_F
      by_cases e : i = 24
      · subst e
        rw [if_pos (by decide)]
        exact ⟨t, rfl, ht⟩
      · rw [if_neg (show ¬ (24 : Int32) ≤ _ from nI_ge (b := 24) (show i < 24 by omega) (by decide)), gi_nI (by omega) (by decide), nI_clamp (by omega), nI_1]
        refine ih (i + 1) _ (by omega) (by omega) (fun b hb => ?_)
        by_cases q : b = i
        · subst q; rw [pk_us]
        · rw [pk_un q, ht b (by omega)]
  unfold f_J7_fill_53178
  exact key FU 0 g (by decide) (show 24 < 100000 + 0 by decide) (fun b hb => by omega)
/-- the heading out of the tally -/
def hd (g : Nat → Int32) (mb : Int32) : Nat → Int32
  | 0 => 0
  | n + 1 => if 2 * g n < mb then hd g mb n else hd g mb n ||| (1 <<< (nI n &&& 31))
theorem hd_eq {g g' : Nat → Int32} {mb : Int32} : ∀ n, (∀ b, b < n → g b = g' b) → hd g mb n = hd g' mb n
  | 0, _ => rfl
  | n + 1, h => by
    show (if 2 * g n < mb then hd g mb n else hd g mb n ||| (1 <<< (nI n &&& 31))) = (if 2 * g' n < mb then hd g' mb n else hd g' mb n ||| (1 <<< (nI n &&& 31)))
    rw [hd_eq n (fun b hb => h b (by omega)), h n (by omega)]
theorem mh58_s (n : Nat) : f_X5_menuHeading_L58 (n + 1) = f_X5_menuHeading_L58_F (f_X5_menuHeading_L58 n) := rfl
theorem mh58 {g : Nat → Int32} {mb : Int32} : ∀ (n i : Nat), i ≤ 24 → 24 < n + i → f_X5_menuHeading_L58 n g mb (hd g mb i) (nI i) = some (hd g mb 24, g) := by
  intro n
  induction n with
  | zero => intro i h1 h2; omega
  | succ n ih =>
    intro i h1 h2
    rw [mh58_s]
    unfold f_X5_menuHeading_L58_F f_X5_menuHeading_L87
    by_cases e : i = 24
    · subst e; rw [if_pos (by decide)]
    · have h3 := ih (i + 1) (by omega) (by omega)
      rw [if_neg (show ¬ (24 : Int32) ≤ _ from nI_ge (b := 24) (show i < 24 by omega) (by decide)), gi_nI (by omega) (by decide), nI_clamp (by omega), nI_1, ← h3]
      show _ = f_X5_menuHeading_L58 n g mb (if 2 * g i < mb then hd g mb i else hd g mb i ||| (1 <<< (nI i &&& 31))) (nI (i + 1))
      by_cases q : 2 * g i < mb
      · rw [if_pos q, if_pos q]
      · rw [if_neg q, if_neg q]
theorem he46_s (n : Nat) : f_X8_heading_L46 (n + 1) = f_X8_heading_L46_F (f_X8_heading_L46 n) := rfl
theorem he46 {g : Nat → Int32} {mb : Int32} : ∀ (n i : Nat), i ≤ 24 → 24 < n + i → f_X8_heading_L46 n g mb (hd g mb i) (nI i) = some (hd g mb 24, g) := by
  intro n
  induction n with
  | zero => intro i h1 h2; omega
  | succ n ih =>
    intro i h1 h2
    rw [he46_s]
    unfold f_X8_heading_L46_F f_X8_heading_L75
    by_cases e : i = 24
    · subst e; rw [if_pos (by decide)]
    · have h3 := ih (i + 1) (by omega) (by omega)
      rw [if_neg (show ¬ (24 : Int32) ≤ _ from nI_ge (b := 24) (show i < 24 by omega) (by decide)), gi_nI (by omega) (by decide), nI_clamp (by omega), nI_1, ← h3, Int32.or_zero]
      show _ = f_X8_heading_L46 n g mb (if 2 * g i < mb then hd g mb i else hd g mb i ||| (1 <<< (nI i &&& 31))) (nI (i + 1))
      by_cases q : 2 * g i < mb
      · rw [if_pos q, if_pos q]
      · rw [if_neg q, if_neg q]
/-- the heading of an item -/
def hdi (ab hm : Nat → Nat) (C : Nat) (wv : Nat → Nat) : Sum Nat Nat → Int32
  | .inl c => nI (wv c)
  | .inr m => hd (fun b => usm ab hm C m (fun c => nI (wv c / 2 ^ b % 2))) (usm ab hm C m (fun _ => 1)) 24
theorem mh13_s {av hh wd : Nat → Int32} {z : Int32} (n : Nat) : f_X5_menuHeading_L13 av hh z wd (n + 1) = f_X5_menuHeading_L13_F av hh z wd (f_X5_menuHeading_L13 av hh z wd n) := rfl
theorem menuHeading_eq {L C : Nat} {ab pa hm ph cn : Nat → Nat} {it : Nat → Nat → Sum Nat Nat} {sz av pv im hh pp wd : Nat → Int32} {wv : Nat → Nat} (h : AT L C ab pa hm ph cn it) (ht : TC L C ab pa hm ph cn it sz av pv im hh pp) (hw : ∀ c, c < C → wd c = nI (wv c) ∧ wv c < 16777216) {m : Nat} (hm0 : 0 < m) (hm2 : m < L) (g : Nat → Int32) : ∃ g', f_X5_menuHeading av hh (nI C) wd g (nI m) = some (hdi ab hm C wv (.inr m), g') := by
  have hC := h.2.2.1
  have key : ∀ (n i : Nat) (t : Nat → Int32), i ≤ C → C < n + i → (∀ b, b < 24 → t b = fsum (fun c => if und ab (hm c) m = true then nI (wv c / 2 ^ b % 2) else 0) i) → ∃ g', f_X5_menuHeading_L13 av hh (nI C) wd n t (nI m) (fsum (fun c => if und ab (hm c) m = true then 1 else 0) i) (nI i) = some (hdi ab hm C wv (.inr m), g') := by
    intro n
    induction n with
    | zero => intro i t h1 h2; omega
    | succ n ih =>
      intro i t h1 h2 h3
      rw [mh13_s]
      unfold f_X5_menuHeading_L13_F f_X5_menuHeading_L46
      by_cases e : i = C
      · subst e
        rw [if_pos (nI_le (Nat.le_refl _) (by omega))]
        have h4 := mh58 (g := t) (mb := fsum (fun c => if und ab (hm c) m = true then 1 else 0) i) FU 0 (by decide) (show 24 < 100000 + 0 by decide)
        refine ⟨t, ?_⟩
        rw [show (0 : Int32) = nI 0 from rfl]
        refine Eq.trans h4 ?_
        rw [hd_eq 24 h3]
        rfl
      · have hi : i < C := by omega
        rw [if_neg (nI_ge hi (by omega)), isUnder_eq h ht hi hm0 hm2]
        dsimp only [ob]
        by_cases q : und ab (hm i) m = true
        · rw [if_pos q, if_neg (show ¬ (1 : Int32) = 0 by decide), gi_nI (by omega) (by decide), nI_clamp (by omega), (hw i hi).1]
          obtain ⟨t', e1, e2⟩ := tally_eq (v := wv i) (by have := (hw i hi).2; omega) t
          rw [e1]
          dsimp only
          rw [nI_1]
          have h5 := ih (i + 1) t' (by omega) (by omega) (fun b hb => by
            rw [e2 b hb, h3 b hb]
            show _ = fsum _ i + (if und ab (hm i) m = true then nI (wv i / 2 ^ b % 2) else 0)
            rw [if_pos q])
          rw [show fsum (fun c => if und ab (hm c) m = true then (1 : Int32) else 0) (i + 1) = fsum (fun c => if und ab (hm c) m = true then (1 : Int32) else 0) i + (if und ab (hm i) m = true then (1 : Int32) else 0) from rfl, if_pos q] at h5
          exact h5
        · rw [if_neg q, if_pos rfl, nI_1]
          have h5 := ih (i + 1) t (by omega) (by omega) (fun b hb => by
            rw [h3 b hb]
            show _ = fsum _ i + (if und ab (hm i) m = true then nI (wv i / 2 ^ b % 2) else 0)
            rw [if_neg q, Int32.add_zero])
          rw [show fsum (fun c => if und ab (hm c) m = true then (1 : Int32) else 0) (i + 1) = fsum (fun c => if und ab (hm c) m = true then (1 : Int32) else 0) i + (if und ab (hm i) m = true then (1 : Int32) else 0) from rfl, if_neg q, Int32.add_zero] at h5
          exact h5
  unfold f_X5_menuHeading
  obtain ⟨g0, e1, e2⟩ := fill_eq 0 g
  rw [e1]
  dsimp only [ob]
  exact key FU 0 g0 (Nat.zero_le _) (show C < 100000 + 0 by omega) (fun b hb => e2 b hb)
theorem ga53_s {self : (Nat → Int32) → Int32 → Option (Int32 × (Nat → Int32))} {wd : Nat → Int32} {k4 : (Nat → Int32) → Int32 → Int32 → Int32 → Option (Int32 × (Nat → Int32))} (n : Nat) : f_X8_gathers_L53 self wd k4 (n + 1) = f_X8_gathers_L53_F self wd k4 (f_X8_gathers_L53 self wd k4 n) := rfl
theorem ga53 {self : (Nat → Int32) → Int32 → Option (Int32 × (Nat → Int32))} {wd : Nat → Int32} {k4 : (Nat → Int32) → Int32 → Int32 → Int32 → Option (Int32 × (Nat → Int32))} {c v : Nat} (hc : c < 40) (hv : v < 2 ^ 31) (hw : wd c = nI v) {x1 x2 x3 : Int32} (g : Nat → Int32) : ∃ g', f_X8_gathers_L53 self wd k4 FU g x1 x2 x3 (nI c) 0 = k4 g' x1 x2 (x3 + 1) ∧ ∀ b, b < 24 → g' b = g b + nI (v / 2 ^ b % 2) := by
  have key : ∀ (n i : Nat) (t : Nat → Int32), i ≤ 24 → 24 < n + i → (∀ b, b < 24 → t b = if b < i then g b + nI (v / 2 ^ b % 2) else g b) → ∃ g', f_X8_gathers_L53 self wd k4 n t x1 x2 x3 (nI c) (nI i) = k4 g' x1 x2 (x3 + 1) ∧ ∀ b, b < 24 → g' b = g b + nI (v / 2 ^ b % 2) := by
    intro n
    induction n with
    | zero => intro i t h1 h2; omega
    | succ n ih =>
      intro i t h1 h2 ht
      rw [ga53_s]
      unfold f_X8_gathers_L53_F f_X8_gathers_L88
      by_cases e : i = 24
      · subst e
        rw [if_pos (by decide)]
        exact ⟨t, rfl, fun b hb => by rw [ht b hb, if_pos hb]⟩
      · rw [if_neg (show ¬ (24 : Int32) ≤ _ from nI_ge (b := 24) (show i < 24 by omega) (by decide)), gi_nI (by omega) (by decide), gi_nI hc (by decide), gi_nI (by omega) (by decide), nI_clamp (by omega), nI_clamp (by omega), hw, sshN hv (by omega), and1N, nI_1]
        refine ih (i + 1) _ (by omega) (by omega) (fun b hb => ?_)
        by_cases q : b = i
        · subst q
          rw [pk_us, ht b hb, if_neg (Nat.lt_irrefl _), if_pos (by omega)]
        · rw [pk_un q, ht b hb]
          by_cases z : b < i
          · rw [if_pos z, if_pos (by omega)]
          · rw [if_neg z, if_neg (by omega)]
  exact key FU 0 g (by decide) (show 24 < 100000 + 0 by decide) (fun b _ => by rw [if_neg (by omega)])
theorem ga4_s {self : (Nat → Int32) → Int32 → Option (Int32 × (Nat → Int32))} {wd im mn : Nat → Int32} (n : Nat) : f_X8_gathers_L4 self wd im mn (n + 1) = f_X8_gathers_L4_F self wd im mn (f_X8_gathers_L4 self wd im mn n) := rfl
theorem ga_s {wd im mn : Nat → Int32} (d : Nat) : f_X8_gathers wd im mn (d + 1) = f_X8_gathers_B wd im mn (f_X8_gathers wd im mn d) := fx_s _ _ _
theorem gathers_eq {L C : Nat} {ab pa hm ph cn : Nat → Nat} {it : Nat → Nat → Sum Nat Nat} {pi qi : Nat → Nat} {im8 mn8 wd8 : Nat → Int32} {wv : Nat → Nat} (h : AT L C ab pa hm ph cn it) (ht : T8 L cn it pi qi im8 mn8) (hw : ∀ c, c < C → wd8 c = nI (wv c) ∧ wv c < 16777216) : ∀ (d m : Nat) (g : Nat → Int32), m < L → L < d + m → ∃ g', f_X8_gathers wd8 im8 mn8 d g (nI (pi m)) = some (usm ab hm C m (fun _ => 1), g') ∧ ∀ b, b < 24 → g' b = g b + usm ab hm C m (fun c => nI (wv c / 2 ^ b % 2)) := by
  have hh := h
  obtain ⟨h1, h2, h3, h4, h5, h6, h7, h8⟩ := h
  obtain ⟨t1, t2, t3, t4, t5⟩ := ht
  intro d
  induction d with
  | zero => intro m g q1 q2; omega
  | succ d ihd =>
    intro m g hmL hd
    have hpm := (t2 m hmL).1
    have hcm := h4 m hmL
    have key : ∀ (n k : Nat) (t : Nat → Int32), k ≤ cn m → cn m < n + k → (∀ b, b < 24 → t b = g b + fsum (fun j => usi ab hm C (fun c => nI (wv c / 2 ^ b % 2)) (it m j)) k) → ∃ g', f_X8_gathers_L4 (f_X8_gathers wd8 im8 mn8 d) wd8 im8 mn8 n t (nI (pi m)) (fsum (fun j => usi ab hm C (fun _ => 1) (it m j)) k) (nI k) = some (fsum (fun j => usi ab hm C (fun _ => 1) (it m j)) (cn m), g') ∧ ∀ b, b < 24 → g' b = g b + fsum (fun j => usi ab hm C (fun c => nI (wv c / 2 ^ b % 2)) (it m j)) (cn m) := by
      intro n
      induction n with
      | zero => intro k t q1 q2; omega
      | succ n ih =>
        intro k t q1 q2 q3
        rw [ga4_s]
        unfold f_X8_gathers_L4_F
        rw [gi_nI (by omega) (by decide), nI_clamp (by omega), t4 m hmL]
        by_cases e : k = cn m
        · subst e
          rw [if_pos (nI_le (Nat.le_refl _) (by omega))]
          exact ⟨t, rfl, q3⟩
        · have hk : k < cn m := by omega
          rw [if_neg (nI_ge hk (by omega)), ix9, gi_nI (by omega) (by decide), nI_clamp (by omega), t5 m k hmL hk]
          cases hi : it m k with
          | inl c =>
            have hc := (h5 m k c hmL hk hi).1
            show ∃ g', (if 0 ≤ nI c then _ else _) = _ ∧ _
            rw [if_pos (nI_pos' (by omega))]
            obtain ⟨g1, e1, e2⟩ := ga53 (self := f_X8_gathers wd8 im8 mn8 d) (wd := wd8) (k4 := f_X8_gathers_L4 (f_X8_gathers wd8 im8 mn8 d) wd8 im8 mn8 n) (c := c) (v := wv c) (by omega) (by have := (hw c hc).2; omega) (hw c hc).1 (x1 := nI (pi m)) (x2 := fsum (fun j => usi ab hm C (fun _ => 1) (it m j)) k + 1) (x3 := nI k) t
            have h9 := ih (k + 1) g1 (by omega) (by omega) (fun b hb => by
              rw [e2 b hb, q3 b hb]
              show _ = g b + (fsum _ k + usi ab hm C _ (it m k))
              rw [hi, Int32.add_assoc]
              rfl)
            rw [show fsum (fun j => usi ab hm C (fun _ => 1) (it m j)) (k + 1) = fsum (fun j => usi ab hm C (fun _ => 1) (it m j)) k + usi ab hm C (fun _ => 1) (it m k) from rfl, hi] at h9
            rw [nI_1] at e1
            obtain ⟨g2, e3, e4⟩ := h9
            exact ⟨g2, e1.trans e3, e4⟩
          | inr m' =>
            obtain ⟨y1, y2, y3, y4⟩ := h6 m k m' hmL hk hi
            have hmm := (h8 m' y1 y2).1
            have hlt := m2_lt (m := pi m') (by have := (t2 m' y2).1; omega)
            show ∃ g', (if 0 ≤ (-2) - nI (pi m') then _ else (ob2 (f_X8_gathers wd8 im8 mn8 d t ((-2) - ((-2) - nI (pi m')))) _)) = _ ∧ _
            rw [if_neg (Int32.not_le.mpr hlt), m2_back]
            obtain ⟨g1, e1, e2⟩ := ihd m' t y2 (by omega)
            rw [e1]
            dsimp only [ob2]
            unfold f_X8_gathers_L88
            rw [nI_1]
            have h9 := ih (k + 1) g1 (by omega) (by omega) (fun b hb => by
              rw [e2 b hb, q3 b hb]
              show _ = g b + (fsum _ k + usi ab hm C _ (it m k))
              rw [hi, Int32.add_assoc]
              rfl)
            rw [show fsum (fun j => usi ab hm C (fun _ => 1) (it m j)) (k + 1) = fsum (fun j => usi ab hm C (fun _ => 1) (it m j)) k + usi ab hm C (fun _ => 1) (it m k) from rfl, hi] at h9
            exact h9
    rw [ga_s]
    unfold f_X8_gathers_B
    obtain ⟨g', e1, e2⟩ := key FU 0 g (Nat.zero_le _) (show cn m < 100000 + 0 by omega) (fun b hb => by
      show _ = g b + 0
      rw [Int32.add_zero])
    refine ⟨g', ?_, fun b hb => ?_⟩
    · rw [usm_rec hh hmL]
      exact e1
    · rw [usm_rec hh hmL]
      exact e2 b hb
theorem he13_s {wd im mn : Nat → Int32} (n : Nat) : f_X8_heading_L13 wd im mn (n + 1) = f_X8_heading_L13_F wd im mn (f_X8_heading_L13 wd im mn n) := rfl
theorem heading_eq {L C : Nat} {ab pa hm ph cn : Nat → Nat} {it : Nat → Nat → Sum Nat Nat} {pi qi : Nat → Nat} {im8 mn8 wd8 : Nat → Int32} {wv : Nat → Nat} (h : AT L C ab pa hm ph cn it) (ht : T8 L cn it pi qi im8 mn8) (hw : ∀ c, c < C → wd8 c = nI (wv c) ∧ wv c < 16777216) {l k : Nat} (hl : l < L) (hk : k < cn l) (g : Nat → Int32) : ∃ g', f_X8_heading wd8 im8 mn8 g (enc8 pi (it l k)) = some (hdi ab hm C wv (it l k), g') := by
  have hL := h.2.1
  unfold f_X8_heading
  cases hi : it l k with
  | inl c =>
    have hc := (h.2.2.2.2.1 l k c hl hk hi).1
    have hC := h.2.2.1
    show ∃ g', (if nI c < 0 then _ else _) = _
    rw [if_neg (nI_pos (by omega)), show enc8 pi (.inl c) = nI c from rfl, gi_nI (by omega) (by decide), nI_clamp (by omega), (hw c hc).1]
    exact ⟨g, rfl⟩
  | inr m =>
    obtain ⟨y1, y2, y3, y4⟩ := h.2.2.2.2.2.1 l k m hl hk hi
    have hp := (ht.2.1 m y2).1
    show ∃ g', (if (-2) - nI (pi m) < 0 then _ else _) = _
    rw [if_pos (m2_lt (by omega))]
    have key : ∀ (n i : Nat) (t : Nat → Int32), i ≤ 24 → 24 < n + i → (∀ b, b < i → t b = 0) → ∃ g', f_X8_heading_L13 wd8 im8 mn8 n t ((-2) - nI (pi m)) (nI i) = some (hdi ab hm C wv (.inr m), g') := by
      intro n
      induction n with
      | zero => intro i t h1 h2; omega
      | succ n ih =>
        intro i t h1 h2 h3
        rw [he13_s]
        unfold f_X8_heading_L13_F
        by_cases e : i = 24
        · subst e
          rw [if_pos (by decide), m2_back]
          obtain ⟨g1, e1, e2⟩ := gathers_eq h ht hw 50 m t y2 (by omega)
          rw [e1]
          dsimp only [ob2]
          have h4 := he46 (g := g1) (mb := usm ab hm C m (fun _ => 1)) FU 0 (by decide) (show 24 < 100000 + 0 by decide)
          refine ⟨g1, ?_⟩
          rw [show (0 : Int32) = nI 0 from rfl]
          refine Eq.trans h4 ?_
          rw [hd_eq (g' := fun b => usm ab hm C m (fun c => nI (wv c / 2 ^ b % 2))) 24 (fun b hb => by rw [e2 b hb, h3 b hb, Int32.zero_add])]
          rfl
        · rw [if_neg (show ¬ (24 : Int32) ≤ _ from nI_ge (b := 24) (show i < 24 by omega) (by decide)), gi_nI (by omega) (by decide), nI_clamp (by omega), nI_1]
          refine ih (i + 1) _ (by omega) (by omega) (fun b hb => ?_)
          by_cases q : b = i
          · subst q; rw [pk_us]
          · rw [pk_un q, h3 b (by omega)]
    exact key FU 0 g (by decide) (show 24 < 100000 + 0 by decide) (fun b hb => by omega)
/-- how many words of command c an item's heading has -/
def shv (ab hm : Nat → Nat) (C : Nat) (wv : Nat → Nat) (c : Nat) (i : Sum Nat Nat) : Int32 := nI (bsum (wv c &&& (hdi ab hm C wv i).toBitVec.toNat) 24)
theorem and_nat (v : Nat) (h : Int32) : nI v &&& h = nI (v &&& h.toBitVec.toNat) := by
  have e : h = nI h.toBitVec.toNat := by
    apply Int32.toBitVec_inj.mp
    show _ = BitVec.ofNat 32 h.toBitVec.toNat
    rw [BitVec.ofNat_toNat, BitVec.setWidth_eq]
  rw [← andN, ← e]
theorem shared7 {L C : Nat} {ab pa hm ph cn : Nat → Nat} {it : Nat → Nat → Sum Nat Nat} {sz av pv im hh pp wd : Nat → Int32} {wv : Nat → Nat} (h : AT L C ab pa hm ph cn it) (ht : TC L C ab pa hm ph cn it sz av pv im hh pp) (hw : ∀ c, c < C → wd c = nI (wv c) ∧ wv c < 16777216) {c l k : Nat} (hc : c < C) (hl : l < L) (hk : k < cn l) (g : Nat → Int32) : ∃ g', f_X5_sharedWords av hh (nI C) wd g (nI c) (enc7 (it l k)) = some (shv ab hm C wv c (it l k), g') := by
  have hL := h.2.1
  have hC := h.2.2.1
  have fin : ∀ (t : Nat → Int32) (x : Int32), f_X5_sharedWords_L21 wd t (nI c) x = some (nI (bsum (wv c &&& x.toBitVec.toNat) 24), t) := by
    intro t x
    unfold f_X5_sharedWords_L21
    rw [gi_nI (by omega) (by decide), nI_clamp (by omega), (hw c hc).1, and_nat, bitCount_eq (Nat.lt_of_le_of_lt Nat.and_le_left (hw c hc).2)]
    rfl
  unfold f_X5_sharedWords
  cases hi : it l k with
  | inl d =>
    have hd := (h.2.2.2.2.1 l k d hl hk hi).1
    show ∃ g', (if nI d < 0 then _ else _) = _
    rw [if_neg (nI_pos (by omega)), show enc7 (.inl d) = nI d from rfl, gi_nI (by omega) (by decide), nI_clamp (by omega), (hw d hd).1, fin]
    exact ⟨g, rfl⟩
  | inr m =>
    obtain ⟨y1, y2, y3, y4⟩ := h.2.2.2.2.2.1 l k m hl hk hi
    show ∃ g', (if nI m ^^^ (-1) < 0 then (ob2 (f_X5_menuHeading av hh (nI C) wd g ((nI m ^^^ (-1)) ^^^ (-1))) _) else _) = _
    rw [if_pos (m1_lt (by omega)), m1_back]
    obtain ⟨g1, e1⟩ := menuHeading_eq h ht hw y1 y2 g
    rw [e1]
    dsimp only [ob2]
    rw [fin]
    exact ⟨g1, rfl⟩
def fnd (P : Nat → Bool) : Nat → Nat → Bool
  | _, 0 => false
  | i, n + 1 => P i || fnd P (i + 1) n
/-- another item of the list has as many of the words -/
def msp (ab hm : Nat → Nat) (C : Nat) (wv : Nat → Nat) (it : Nat → Nat → Sum Nat Nat) (c l p j : Nat) : Bool := j != p - 1 && !decide (shv ab hm C wv c (it l j) < shv ab hm C wv c (it l (p - 1)))
theorem ms35_s {sz av im hh wd : Nat → Int32} {z : Int32} (n : Nat) : f_X5_misleadsAt_L35 sz av im hh z wd (n + 1) = f_X5_misleadsAt_L35_F sz av im hh z wd (f_X5_misleadsAt_L35 sz av im hh z wd n) := rfl
theorem itemAt7 {im : Nat → Int32} {l k : Nat} (hl : l < 80) (hk : k < 9) : f_X5_itemAt im (nI l) (nI (k + 1)) = some (im (9 * l + k)) := by
  unfold f_X5_itemAt
  rw [ix_c (by omega), show k + 1 - 1 = k by omega, gi_nI (by omega) (by decide), nI_clamp (by omega)]
theorem ms7 {L C : Nat} {ab pa hm ph cn : Nat → Nat} {it : Nat → Nat → Sum Nat Nat} {sz av pv im hh pp wd : Nat → Int32} {wv : Nat → Nat} (h : AT L C ab pa hm ph cn it) (ht : TC L C ab pa hm ph cn it sz av pv im hh pp) (hw : ∀ c, c < C → wd c = nI (wv c) ∧ wv c < 16777216) {c l p : Nat} (hc : c < C) (hl : l < L) (hp : 1 ≤ p) (hp2 : p ≤ cn l) : ∀ (n i : Nat) (g : Nat → Int32), i ≤ cn l → cn l < n + i → ∃ g', f_X5_misleadsAt_L35 sz av im hh (nI C) wd n g (nI c) (nI l) (nI p) (shv ab hm C wv c (it l (p - 1))) (nI (i + 1)) = some (if fnd (msp ab hm C wv it c l p) i (cn l - i) = true then 1 else 0, g') := by
  have hL := h.2.1
  have h9 := (h.2.2.2.1 l hl).2
  intro n
  induction n with
  | zero => intro i g h1 h2; omega
  | succ n ih =>
    intro i g h1 h2
    rw [ms35_s]
    unfold f_X5_misleadsAt_L35_F f_X5_misleadsAt_L75
    rw [gi_nI (by omega) (by decide), nI_clamp (by omega), ht.1 l hl]
    by_cases e : i = cn l
    · subst e
      rw [if_pos (nI_lt (by omega) (by omega)), Nat.sub_self]
      exact ⟨g, rfl⟩
    · obtain ⟨r, hr⟩ : ∃ r, cn l - i = r + 1 := ⟨cn l - i - 1, by omega⟩
      have hr2 : cn l - (i + 1) = r := by omega
      rw [if_neg (nI_nlt (by omega) (by omega)), hr]
      show ∃ g', _ = some (if (msp ab hm C wv it c l p i || fnd (msp ab hm C wv it c l p) (i + 1) r) = true then 1 else 0, g')
      by_cases q : i + 1 = p
      · have hm1 : msp ab hm C wv it c l p i = false := by
          unfold msp
          rw [show p - 1 = i by omega]
          simp
        rw [if_pos (by rw [q]), nI_1, hm1, Bool.false_or]
        have := ih (i + 1) g (by omega) (by omega)
        rw [hr2] at this
        exact this
      · rw [if_neg (fun z => q ((nI_eq (by omega) (by omega)).mp z)), itemAt7 (by omega) (by omega), ht.2.1 l i hl (by omega)]
        dsimp only [ob]
        obtain ⟨g1, e1⟩ := shared7 h ht hw hc hl (show i < cn l by omega) g
        rw [e1]
        dsimp only [ob2]
        by_cases z : shv ab hm C wv c (it l i) < shv ab hm C wv c (it l (p - 1))
        · have hm1 : msp ab hm C wv it c l p i = false := by
            unfold msp
            simp [z]
          rw [if_pos z, nI_1, hm1, Bool.false_or]
          have := ih (i + 1) g1 (by omega) (by omega)
          rw [hr2] at this
          exact this
        · have hm1 : msp ab hm C wv it c l p i = true := by
            unfold msp
            simp [z]
            omega
          rw [if_neg z, hm1, Bool.true_or, if_pos rfl]
          exact ⟨g1, rfl⟩
