/-! best: the list of all pairs; the best rows, length by length -/
def pbl (a : Nat) : Nat → Nat → List (Nat × Nat)
  | _, 0 => []
  | b, r + 1 => (a, b) :: pbl a (b + 1) r
def pal (N : Nat) : Nat → Nat → List (Nat × Nat)
  | 0, _ => []
  | r + 1, a => pbl a (a + 1) (N - (a + 1)) ++ pal N r (a + 1)
def aps (N : Nat) : List (Nat × Nat) := pal N N 0
theorem mem_pbl {a : Nat} {p : Nat × Nat} : ∀ (r b : Nat), p ∈ pbl a b r ↔ p.1 = a ∧ b ≤ p.2 ∧ p.2 < b + r
  | 0, b => by
    constructor
    · intro h; cases h
    · intro h; omega
  | r + 1, b => by
    show p ∈ (a, b) :: pbl a (b + 1) r ↔ _
    rw [List.mem_cons, mem_pbl r (b + 1)]
    constructor
    · rintro (h | h)
      · subst h; exact ⟨rfl, Nat.le_refl _, by show b < b + (r + 1); omega⟩
      · omega
    · intro h
      by_cases e : p.2 = b
      · left; exact Prod.ext h.1 e
      · right; omega
theorem mem_pal {N : Nat} {p : Nat × Nat} : ∀ (r a : Nat), a + r = N → (p ∈ pal N r a ↔ a ≤ p.1 ∧ p.1 < p.2 ∧ p.2 < N)
  | 0, a, h => by
    constructor
    · intro h; cases h
    · intro h; omega
  | r + 1, a, h => by
    show p ∈ pbl a (a + 1) (N - (a + 1)) ++ pal N r (a + 1) ↔ _
    rw [List.mem_append, mem_pbl, mem_pal r (a + 1) (by omega)]
    omega
theorem aps_mem {N : Nat} {p : Nat × Nat} : p ∈ aps N ↔ isP N p := by
  unfold aps isP
  rw [mem_pal N 0 (by omega)]
  omega
theorem pbl_sorted {a : Nat} : ∀ (r b : Nat), (pbl a b r).Pairwise plt
  | 0, b => List.Pairwise.nil
  | r + 1, b => by
    refine List.Pairwise.cons (fun q hq => ?_) (pbl_sorted r (b + 1))
    have := (mem_pbl r (b + 1)).mp hq
    unfold plt
    show a < q.1 ∨ (a = q.1 ∧ b < q.2)
    omega
theorem pal_sorted {N : Nat} : ∀ (r a : Nat), a + r = N → (pal N r a).Pairwise plt
  | 0, a, _ => List.Pairwise.nil
  | r + 1, a, h => by
    refine List.pairwise_append.mpr ⟨pbl_sorted _ _, pal_sorted r (a + 1) (by omega), fun p hp q hq => ?_⟩
    have h1 := (mem_pbl _ _).mp hp
    have h2 := (mem_pal r (a + 1) (by omega)).mp hq
    unfold plt
    omega
theorem aps_len : ∀ N, N ≤ 12 → (aps N).length ≤ 66 := by decide
def HA (D : List (Nat × Nat)) (p1 p2 : Nat → Int32) : Prop := ∀ x p, D[x]? = some p → p1 x = nI p.1 ∧ p2 x = nI p.2
theorem ha_app {D : List (Nat × Nat)} {p1 p2 : Nat → Int32} {p : Nat × Nat} (h : HA D p1 p2) : HA (D ++ [p]) (upd p1 D.length (nI p.1)) (upd p2 D.length (nI p.2)) := by
  intro x q hx
  by_cases e : x < D.length
  · rw [List.getElem?_append_left e] at hx
    rw [pk_un (by omega), pk_un (by omega)]
    exact h x q hx
  · rw [List.getElem?_append_right (by omega)] at hx
    have hj0 : x - D.length = 0 := by
      rcases Nat.eq_zero_or_pos (x - D.length) with z | z
      · exact z
      · obtain ⟨k, hk⟩ : ∃ k, x - D.length = k + 1 := ⟨x - D.length - 1, by omega⟩
        rw [hk] at hx
        simp at hx
    rw [hj0] at hx
    have : p = q := by simpa using hx
    subst this
    rw [show x = D.length by omega, pk_us, pk_us]
    exact ⟨rfl, rfl⟩
/-- the best row of at most n exchanges -/
def bst (c : Nat → Int) (u : Int) (M : List (Nat × Nat)) (v : Int) (s : Nat → Int) : Nat → Int × List (Nat × Nat)
  | 0 => (v, [])
  | n + 1 => scn c u M (n + 1) v s [] (bst c u M v s n)
theorem bst_low {c : Nat → Int} {u : Int} {M : List (Nat × Nat)} {v : Int} {s : Nat → Int} : ∀ n, Low c u M (n + 1) v s (bst c u M v s n).1
  | 0 => fun t ht _ => by
    have e : t = [] := List.eq_nil_of_length_eq_zero (by omega)
    subst e
    exact Int.le_refl _
  | n + 1 => fun t ht hm => by
    obtain ⟨h1, h2⟩ := scn_le (c := c) (u := u) (M := M) (n + 1) v s [] (bst c u M v s n)
    by_cases e : t.length = n + 1
    · exact h2 t e hm
    · exact Int.le_trans h1 (bst_low n t (by omega) hm)
theorem bst_C {c : Nat → Int} {u : Int} {N : Nat} (hu : 0 ≤ u) (hc0 : ∀ x, 0 ≤ c x) {v : Int} {s : Nat → Int} (n : Nat) : bst c u (aps N) v s (n + 1) = scC c u ((aps N).filter (fun p => !decide (c p.1 = c p.2))) (n + 1) v s [] none (bst c u (aps N) v s n) :=
  scn_same (fun _ => aps_mem) (pal_sorted N 0 (by omega)) hu hc0 (n + 1) v s [] none _ (bst_low n) (fun e he => by cases he)
/-! the reference's choice -/
theorem cs64_s {cm : Int32} {k52} (n : Nat) : f_X8_chooses_L64 cm k52 (n + 1) = f_X8_chooses_L64_F cm k52 (f_X8_chooses_L64 cm k52 n) := fx_s _ _ _
theorem cs52_s {cm lk dn un : Int32} {ct im mn : Nat → Int32} (n : Nat) : f_X8_chooses_L52 cm lk dn un ct im mn (n + 1) = f_X8_chooses_L52_F cm lk dn un ct im mn (f_X8_chooses_L52 cm lk dn un ct im mn n) := fx_s _ _ _
theorem cs20_s {cm lk dn un : Int32} {ct im mn : Nat → Int32} (n : Nat) : f_X8_chooses_L20 cm lk dn un ct im mn (n + 1) = f_X8_chooses_L20_F cm lk dn un ct im mn (f_X8_chooses_L20 cm lk dn un ct im mn n) := fx_s _ _ _
theorem cs129_s {cm lk dn un : Int32} {ct im mn : Nat → Int32} (n : Nat) : f_X8_chooses_L129 cm lk dn un ct im mn (n + 1) = f_X8_chooses_L129_F cm lk dn un ct im mn (f_X8_chooses_L129 cm lk dn un ct im mn n) := fx_s _ _ _
theorem cs64 {N a : Nat} (hN : N ≤ 12) {k52} {wy0 bm : Int32} {bs : Int64} {wl wp st row best : Nat → Int32} {x1 : Int32} : ∀ (r b f : Nat) (D : List (Nat × Nat)) (p1 p2 : Nat → Int32), b + r = N → r < f → D.length + r ≤ 66 → HA D p1 p2 → ∃ p1' p2', f_X8_chooses_L64 (nI N) k52 f wy0 (nI D.length) bm bs wl wp st p1 p2 row best x1 (nI a) (nI b) = k52 wy0 (nI (D ++ pbl a b r).length) bm bs wl wp st p1' p2' row best x1 (nI (a + 1)) ∧ HA (D ++ pbl a b r) p1' p2' := by
  intro r
  induction r with
  | zero =>
    intro b f D p1 p2 h1 h2 h3 h4
    obtain ⟨f, rfl⟩ : ∃ k, f = k + 1 := ⟨f - 1, by omega⟩
    rw [cs64_s]
    unfold f_X8_chooses_L64_F
    rw [if_pos (nI_le (by omega) (by omega)), nI_1]
    refine ⟨p1, p2, ?_, ?_⟩
    · rw [show D ++ pbl a b 0 = D from List.append_nil D]
    · rw [show D ++ pbl a b 0 = D from List.append_nil D]; exact h4
  | succ r ih =>
    intro b f D p1 p2 h1 h2 h3 h4
    obtain ⟨f, rfl⟩ : ∃ k, f = k + 1 := ⟨f - 1, by omega⟩
    rw [cs64_s]
    unfold f_X8_chooses_L64_F
    rw [if_neg (nI_ge (by omega) (by omega)), gi_nI (by omega) (by decide), gi_nI (by omega) (by decide), nI_clamp (by omega), nI_1, nI_1]
    have hl : (D ++ [(a, b)]).length = D.length + 1 := by simp
    obtain ⟨p1', p2', g1, g2⟩ := ih (b + 1) f (D ++ [(a, b)]) _ _ (by omega) (by omega) (by rw [hl]; omega) (ha_app (p := (a, b)) h4)
    rw [hl] at g1
    have e : D ++ pbl a b (r + 1) = D ++ [(a, b)] ++ pbl a (b + 1) r := by rw [List.append_assoc]; rfl
    rw [e]
    exact ⟨p1', p2', g1, g2⟩
theorem cs52 {N : Nat} (hN : N ≤ 12) {lk dn un : Int32} {ct im mn : Nat → Int32} {wy0 bm : Int32} {bs : Int64} {wl wp st row best : Nat → Int32} {x1 : Int32} : ∀ (r a f : Nat) (D : List (Nat × Nat)) (p1 p2 : Nat → Int32), a + r = N → r < f → D.length + (pal N r a).length ≤ 66 → HA D p1 p2 → ∃ p1' p2', f_X8_chooses_L52 (nI N) lk dn un ct im mn f wy0 (nI D.length) bm bs wl wp st p1 p2 row best x1 (nI a) = (ob4 (f_X8_costOf (nI N) lk dn ct im mn wy0 wl wp) fun r_13 f_ways_10 g_wayList_11 g_wayPlace_12 => f_X8_chooses_L129 (nI N) lk dn un ct im mn FU f_ways_10 (nI (D ++ pal N r a).length) 0 r_13 g_wayList_11 g_wayPlace_12 st p1' p2' row best x1 1) ∧ HA (D ++ pal N r a) p1' p2' := by
  intro r
  induction r with
  | zero =>
    intro a f D p1 p2 h1 h2 h3 h4
    obtain ⟨f, rfl⟩ : ∃ k, f = k + 1 := ⟨f - 1, by omega⟩
    rw [cs52_s]
    unfold f_X8_chooses_L52_F
    rw [if_pos (nI_le (by omega) (by omega))]
    refine ⟨p1, p2, ?_, ?_⟩
    · rw [show D ++ pal N 0 a = D from List.append_nil D]
    · rw [show D ++ pal N 0 a = D from List.append_nil D]; exact h4
  | succ r ih =>
    intro a f D p1 p2 h1 h2 h3 h4
    obtain ⟨f, rfl⟩ : ∃ k, f = k + 1 := ⟨f - 1, by omega⟩
    have hpl : ∀ q b, (pbl a b q).length = q := by
      intro q
      induction q with
      | zero => intro b; rfl
      | succ q ihq => intro b; show (pbl a (b + 1) q).length + 1 = q + 1; rw [ihq]
    have hll : (pal N (r + 1) a).length = (N - (a + 1)) + (pal N r (a + 1)).length := by
      show (pbl a (a + 1) (N - (a + 1)) ++ pal N r (a + 1)).length = _
      rw [List.length_append, hpl]
    rw [cs52_s]
    unfold f_X8_chooses_L52_F
    rw [if_neg (nI_ge (by omega) (by omega)), nI_1]
    obtain ⟨q1, q2, g1, g2⟩ := cs64 hN (k52 := f_X8_chooses_L52 (nI N) lk dn un ct im mn f) (a := a) (wy0 := wy0) (bm := bm) (bs := bs) (wl := wl) (wp := wp) (st := st) (row := row) (best := best) (x1 := x1) (N - (a + 1)) (a + 1) FU D p1 p2 (by omega) (show N - (a + 1) < 100000 by omega) (by omega) h4
    rw [g1]
    obtain ⟨p1', p2', g3, g4⟩ := ih (a + 1) f (D ++ pbl a (a + 1) (N - (a + 1))) q1 q2 (by omega) (by omega) (by rw [List.length_append, hpl]; omega) g2
    have e : D ++ pal N (r + 1) a = D ++ pbl a (a + 1) (N - (a + 1)) ++ pal N r (a + 1) := by rw [List.append_assoc]; rfl
    rw [e]
    exact ⟨p1', p2', g3, g4⟩
theorem bs_len {M : List (Nat × Nat)} {b : Int × List (Nat × Nat)} {bm : Int32} {bs : Int64} {best : Nat → Int32} (h : Bs M b bm bs best) : b.2.length ≤ 3 := h.2.2.1
theorem cs129 {N K : Nat} (hN : N ≤ 12) (hK : K ≤ 3) {lk dn : Int32} {ct im mn p1 p2 : Nat → Int32} {c s : Nat → Nat} {u : Nat} {v : Int} (hP : Pr (aps N) p1 p2) (hct : ∀ x, x < N → ct x = nI (c x)) (hc : ∀ x, c x ≤ 10000) (hu : u ≤ 100) (hs : ∀ x, s x ≤ 50000) (v1 : -10000000000 ≤ v) (v2 : v ≤ 10000000000) (hcost : ∀ (w : Int32) (wl wp : Nat → Int32), ∃ (w' : Int32) (wl' wp' : Nat → Int32), f_X8_costOf (nI N) lk dn ct im mn w wl wp = some (Int64.ofInt v, w', wl', wp')) : ∀ (f n : Nat) (w bm : Int32) (bs : Int64) (wl wp st row best : Nat → Int32), 1 ≤ n → n ≤ K + 1 → K + 1 < f + n → (∀ x, x < 12 → (∃ q, q ∈ aps N ∧ (x = q.1 ∨ x = q.2)) → st x = nI (s x)) → Bs (aps N) (bst (fun x => (c x : Int)) (u : Int) (aps N) v (fun x => (s x : Int)) (n - 1)) bm bs best → ∃ (w' bm' : Int32) (bs' : Int64) (wl' wp' st' row' best' : Nat → Int32), f_X8_chooses_L129 (nI N) lk dn (nI u) ct im mn f w (nI (aps N).length) bm bs wl wp st p1 p2 row best (nI K) (nI n) = some (1, w', nI (aps N).length, bm', bs', wl', wp', st', p1, p2, row', best') ∧ Bs (aps N) (bst (fun x => (c x : Int)) (u : Int) (aps N) v (fun x => (s x : Int)) K) bm' bs' best' := by
  intro f
  induction f with
  | zero => intro n w bm bs wl wp st row best h1 h2 h3; omega
  | succ f ih =>
    intro n w bm bs wl wp st row best h1 h2 h3 hst hb
    rw [cs129_s]
    unfold f_X8_chooses_L129_F
    by_cases e : n = K + 1
    · subst e
      rw [if_pos (nI_lt (by omega) (by omega))]
      rw [show K + 1 - 1 = K by omega] at hb
      exact ⟨_, _, _, _, _, _, _, _, rfl, hb⟩
    · rw [if_neg (nI_nlt (by omega) (by omega))]
      obtain ⟨w1, wl1, wp1, e1⟩ := hcost w wl wp
      rw [e1]
      dsimp only [ob4]
      obtain ⟨bm2, bs2, st2, row2, best2, g1, g2, g3, g4⟩ := tries8 (c := c) (u := u) (ct := ct) hP (fun x hx hq => by
        obtain ⟨p, hp, hq⟩ := hq
        have hp2 := aps_mem.mp hp
        refine hct x ?_
        have := hp2.1
        have := hp2.2
        rcases hq with z | z <;> omega) hc hu (show n ≤ 3 by omega) 5 n v s [] (bst (fun x => (c x : Int)) (u : Int) (aps N) v (fun x => (s x : Int)) (n - 1)) bm bs st row best (by omega) (by simp) hs hst (fun j p hj => by simp at hj) hb (by simpa using v1) (by simpa using v2)
      rw [show nI ([] : List (Nat × Nat)).length = (0 : Int32) from rfl] at g1
      rw [g1]
      dsimp only [ob5]
      rw [nI_1]
      refine ih (n + 1) w1 bm2 bs2 wl1 wp1 st2 row2 best2 (by omega) (by omega) (by omega) g2 ?_
      obtain ⟨m, rfl⟩ : ∃ m, n = m + 1 := ⟨n - 1, by omega⟩
      exact g4
theorem cs20 {N K : Nat} (hN : N ≤ 12) (hK : K ≤ 3) {lk dn : Int32} {ct im mn : Nat → Int32} {c s : Nat → Nat} {u : Nat} {v : Int} (hct : ∀ x, x < N → ct x = nI (c x)) (hc : ∀ x, c x ≤ 10000) (hu : u ≤ 100) (hs : ∀ x, s x ≤ 50000) (v1 : -10000000000 ≤ v) (v2 : v ≤ 10000000000) (hcost : ∀ (w : Int32) (wl wp : Nat → Int32), ∃ (w' : Int32) (wl' wp' : Nat → Int32), f_X8_costOf (nI N) lk dn ct im mn w wl wp = some (Int64.ofInt v, w', wl', wp')) (hstep : ∀ x, x < N → ∀ (w : Int32) (wl wp : Nat → Int32), ∃ (w' : Int32) (wl' wp' : Nat → Int32), f_X8_stepsOf lk dn im mn w wl wp (nI x) = some (nI (s x), w', wl', wp')) (hs0 : ∀ x, N ≤ x → s x = 0) (ls : Nat) (hls : 1 ≤ ls ∧ ls ≤ 40) (w : Int32) (pr bm : Int32) (bs : Int64) (wl wp st p1 p2 row best : Nat → Int32) : ∃ (w' bm' : Int32) (bs' : Int64) (wl' wp' st' p1' p2' row' best' : Nat → Int32), f_X8_chooses (nI N) lk dn (nI u) (nI ls) ct im mn w pr bm bs wl wp st p1 p2 row best (nI K) = some (1, w', nI (aps N).length, bm', bs', wl', wp', st', p1', p2', row', best') ∧ HA (aps N) p1' p2' ∧ Bs (aps N) (bst (fun x => (c x : Int)) (u : Int) (aps N) v (fun x => (s x : Int)) K) bm' bs' best' := by
  have hlen := aps_len N hN
  -- steps beyond the commands are read by nobody: take what lies there
  have key : ∀ (f i : Nat) (w : Int32) (wl wp st : Nat → Int32), i ≤ N → N < f + i → (∀ x, x < i → st x = nI (s x)) → ∃ (w' : Int32) (wl' wp' st' : Nat → Int32), f_X8_chooses_L20 (nI N) lk dn (nI u) ct im mn f w pr bm bs wl wp st p1 p2 row best (nI K) (nI i) = f_X8_chooses_L52 (nI N) lk dn (nI u) ct im mn FU w' 0 bm bs wl' wp' st' p1 p2 row best (nI K) 0 ∧ (∀ x, x < N → st' x = nI (s x)) := by
    intro f
    induction f with
    | zero => intro i w wl wp st h1 h2; omega
    | succ f ih =>
      intro i w wl wp st h1 h2 h3
      rw [cs20_s]
      unfold f_X8_chooses_L20_F
      by_cases e : i = N
      · subst e
        rw [if_pos (nI_le (Nat.le_refl _) (by omega))]
        exact ⟨_, _, _, _, rfl, h3⟩
      · rw [if_neg (nI_ge (by omega) (by omega))]
        obtain ⟨w1, wl1, wp1, e1⟩ := hstep i (by omega) w wl wp
        rw [e1]
        dsimp only [ob4]
        rw [gi_nI (by omega) (by decide), nI_clamp (by omega), nI_1]
        refine ih (i + 1) w1 wl1 wp1 _ (by omega) (by omega) (fun x hx => ?_)
        by_cases z : x = i
        · subst z; rw [pk_us]
        · rw [pk_un z]; exact h3 x (by omega)
  unfold f_X8_chooses
  rw [if_neg (nI_ne0 (by omega) (by omega)), if_pos (show nI N ≤ 12 from nI_le (b := 12) hN (by decide))]
  obtain ⟨w1, wl1, wp1, st1, g1, g2⟩ := key FU 0 w wl wp st (Nat.zero_le _) (show N < 100000 + 0 by omega) (fun x hx => by omega)
  rw [nI_0] at g1
  rw [g1]
  obtain ⟨p1', p2', g3, g4⟩ := cs52 hN (lk := lk) (dn := dn) (un := nI u) (ct := ct) (im := im) (mn := mn) (wy0 := w1) (bm := bm) (bs := bs) (wl := wl1) (wp := wp1) (st := st1) (row := row) (best := best) (x1 := nI K) N 0 FU [] p1 p2 (by omega) (show N < 100000 by omega) (by show 0 + (aps N).length ≤ 66; omega) (fun x p hx => by simp at hx)
  rw [show nI ([] : List (Nat × Nat)).length = (0 : Int32) from rfl, nI_0] at g3
  rw [g3]
  obtain ⟨w2, wl2, wp2, e2⟩ := hcost w1 wl1 wp1
  rw [e2]
  dsimp only [ob4]
  have hP : Pr (aps N) p1' p2' := ⟨hlen, g4, fun p hp => by
    have := aps_mem.mp hp
    exact ⟨this.1, by have := this.2; omega⟩⟩
  obtain ⟨w3, bm3, bs3, wl3, wp3, st3, row3, best3, g5, g6⟩ := cs129 hN hK (lk := lk) (dn := dn) (im := im) (mn := mn) hP hct hc hu hs v1 v2 hcost FU 1 w2 0 (Int64.ofInt v) wl2 wp2 st1 row best (Nat.le_refl _) (by omega) (show K + 1 < 100000 + 1 by omega) (fun x hx hq => by
    obtain ⟨p, hp, hq⟩ := hq
    have hp2 := aps_mem.mp hp
    refine g2 x ?_
    have := hp2.1
    have := hp2.2
    rcases hq with z | z <;> omega) ⟨rfl, rfl, by show (0 : Nat) ≤ 3; omega, fun j p hj => by
      change ([] : List (Nat × Nat))[j]? = some p at hj
      simp at hj, by show (-100000000000 : Int) ≤ v; omega, by show v ≤ 100000000000; omega⟩
  rw [show nI 1 = (1 : Int32) from rfl] at g5
  exact ⟨w3, bm3, bs3, wl3, wp3, st3, p1', p2', row3, best3, g5, g4, g6⟩
