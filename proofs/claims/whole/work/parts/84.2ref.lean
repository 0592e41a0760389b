/-! best: the reference tries -/
theorem oi_toInt {z : Int} (h1 : -4611686018427387904 ≤ z) (h2 : z < 4611686018427387904) : (Int64.ofInt z).toInt = z := Int64.toInt_ofInt_of_le (by omega) (by omega)
theorem oi_lt {a b : Int} (a1 : -4611686018427387904 ≤ a) (a2 : a < 4611686018427387904) (b1 : -4611686018427387904 ≤ b) (b2 : b < 4611686018427387904) : Int64.ofInt a < Int64.ofInt b ↔ a < b := by
  rw [Int64.lt_iff_toInt_lt, oi_toInt a1 a2, oi_toInt b1 b2]
theorem oi_nat (n : Nat) : lN n = Int64.ofInt (n : Int) := (Int64.ofInt_eq_ofNat).symm
theorem oi_32 {x : Int32} : x.toInt64 = Int64.ofInt x.toInt := by
  have h1 := x.le_toInt
  have h2 := x.toInt_lt
  apply Int64.toInt_inj.mp
  rw [Int32.toInt_toInt64, oi_toInt (by omega) (by omega)]
theorem oi_sub {a b : Nat} (ha : a < 2 ^ 30) (hb : b < 2 ^ 30) : (nI a - nI b).toInt64 = Int64.ofInt ((a : Int) - b) := by
  rw [oi_32, pk_sub_toInt ha hb]
theorem oi_n {a : Nat} (ha : a < 2 ^ 31) : (nI a).toInt64 = Int64.ofInt (a : Int) := by
  rw [oi_32, nI_toInt ha]
def swN (s : Nat → Nat) (p : Nat × Nat) : Nat → Nat := fun x => if x = p.1 then s p.2 else if x = p.2 then s p.1 else s x
theorem sw_cast {s : Nat → Nat} {p : Nat × Nat} : sw (fun x => (s x : Int)) p = fun x => (swN s p x : Int) := by
  funext x
  unfold sw swN
  by_cases h1 : x = p.1
  · rw [if_pos h1, if_pos h1]
  · rw [if_neg h1, if_neg h1]
    by_cases h2 : x = p.2
    · rw [if_pos h2, if_pos h2]
    · rw [if_neg h2, if_neg h2]
theorem swN_bd {s : Nat → Nat} {p : Nat × Nat} {K : Nat} (h : ∀ x, s x ≤ K) : ∀ x, swN s p x ≤ K := by
  intro x
  unfold swN
  split
  · exact h _
  · split <;> exact h _
theorem abs_mul {a b A B : Int} (ha : -A ≤ a) (ha2 : a ≤ A) (hb : -B ≤ b) (hb2 : b ≤ B) (hA : 0 ≤ A) (hB : 0 ≤ B) : -(A * B) ≤ a * b ∧ a * b ≤ A * B := by
  have h1 : a.natAbs ≤ A.natAbs := by omega
  have h2 : b.natAbs ≤ B.natAbs := by omega
  have h3 : (a * b).natAbs ≤ (A * B).natAbs := by
    rw [Int.natAbs_mul, Int.natAbs_mul]
    exact Nat.mul_le_mul h1 h2
  have h4 : 0 ≤ A * B := Int.mul_nonneg hA hB
  omega
theorem ch_bd {c s : Nat → Nat} {u : Nat} (hc : ∀ x, c x ≤ 10000) (hs : ∀ x, s x ≤ 50000) (hu : u ≤ 100) (p : Nat × Nat) : -1000000000 ≤ ch (fun x => (c x : Int)) (fun x => (s x : Int)) (u : Int) p ∧ ch (fun x => (c x : Int)) (fun x => (s x : Int)) (u : Int) p ≤ 1000000000 := by
  unfold ch
  have c1 := hc p.1
  have c2 := hc p.2
  have s1 := hs p.1
  have s2 := hs p.2
  have h1 := abs_mul (a := (c p.1 : Int) - c p.2) (b := (s p.2 : Int) - s p.1) (A := 10000) (B := 50000) (by omega) (by omega) (by omega) (by omega) (by decide) (by decide)
  have h2 := abs_mul (a := (u : Int)) (b := (c p.1 : Int) + c p.2) (A := 100) (B := 20000) (by omega) (by omega) (by omega) (by omega) (by decide) (by decide)
  show -1000000000 ≤ ((c p.1 : Int) - c p.2) * ((s p.2 : Int) - s p.1) + (u : Int) * ((c p.1 : Int) + c p.2) ∧ ((c p.1 : Int) - c p.2) * ((s p.2 : Int) - s p.1) + (u : Int) * ((c p.1 : Int) + c p.2) ≤ 1000000000
  omega
/-- a row told by the places of its pairs -/
def Rw (M : List (Nat × Nat)) (w : List (Nat × Nat)) (row : Nat → Int32) : Prop := ∀ j p, w[j]? = some p → ∃ x : Nat, row j = nI x ∧ M[x]? = some p
def Bs (M : List (Nat × Nat)) (b : Int × List (Nat × Nat)) (bm : Int32) (bs : Int64) (best : Nat → Int32) : Prop := bm = nI b.2.length ∧ bs = Int64.ofInt b.1 ∧ b.2.length ≤ 3 ∧ Rw M b.2 best ∧ -100000000000 ≤ b.1 ∧ b.1 ≤ 100000000000
def Pr (M : List (Nat × Nat)) (p1 p2 : Nat → Int32) : Prop := M.length ≤ 66 ∧ (∀ x p, M[x]? = some p → p1 x = nI p.1 ∧ p2 x = nI p.2) ∧ ∀ p, p ∈ M → p.1 < p.2 ∧ p.2 < 12
theorem rw_app {M w : List (Nat × Nat)} {row : Nat → Int32} {x : Nat} {p : Nat × Nat} (h : Rw M w row) (hp : M[x]? = some p) : Rw M (w ++ [p]) (upd row w.length (nI x)) := by
  intro j q hj
  by_cases e : j < w.length
  · rw [List.getElem?_append_left e] at hj
    rw [pk_un (by omega)]
    exact h j q hj
  · rw [List.getElem?_append_right (by omega)] at hj
    have hj0 : j - w.length = 0 := by
      rcases Nat.eq_zero_or_pos (j - w.length) with z | z
      · exact z
      · obtain ⟨k, hk⟩ : ∃ k, j - w.length = k + 1 := ⟨j - w.length - 1, by omega⟩
        rw [hk] at hj
        simp at hj
    rw [hj0] at hj
    have : p = q := by simpa using hj
    subst this
    rw [show j = w.length by omega, pk_us]
    exact ⟨x, rfl, hp⟩
theorem rw_keep {M w : List (Nat × Nat)} {row row' : Nat → Int32} (h : Rw M w row) (hk : ∀ j, j < w.length → row' j = row j) : Rw M w row' := by
  intro j p hj
  have hlt : j < w.length := (List.getElem?_eq_some_iff.mp hj).1
  rw [hk j hlt]
  exact h j p hj
theorem tr28_s {self} (n : Nat) : f_X8_tries_L28 self (n + 1) = f_X8_tries_L28_F self (f_X8_tries_L28 self n) := fx_s _ _ _
theorem tr58_s {self} {un P : Int32} {ct p1 p2 : Nat → Int32} (n : Nat) : f_X8_tries_L58 self un P ct p1 p2 (n + 1) = f_X8_tries_L58_F self un P ct p1 p2 (f_X8_tries_L58 self un P ct p1 p2 n) := fx_s _ _ _
theorem tri_s {un P : Int32} {ct p1 p2 : Nat → Int32} (d : Nat) : f_X8_tries un P ct p1 p2 (d + 1) = f_X8_tries_B un P ct p1 p2 (f_X8_tries un P ct p1 p2 d) := fx_s _ _ _
theorem tr28 {self} {bm : Int32} {bs : Int64} {st row : Nat → Int32} {n : Nat} (hn : n ≤ 3) : ∀ (f i : Nat) (best : Nat → Int32), i ≤ n → n < f + i → (∀ j, j < i → best j = row j) → ∃ best', f_X8_tries_L28 self f bm bs st row best (nI n) (nI i) = some (bm, bs, st, row, best') ∧ ∀ j, j < n → best' j = row j := by
  intro f
  induction f with
  | zero => intro i best h1 h2; omega
  | succ f ih =>
    intro i best h1 h2 h3
    rw [tr28_s]
    unfold f_X8_tries_L28_F
    by_cases e : i = n
    · subst e
      rw [if_pos (nI_le (Nat.le_refl _) (by omega))]
      exact ⟨best, rfl, h3⟩
    · rw [if_neg (nI_ge (by omega) (by omega)), gi_nI (by omega) (by decide), gi_nI (by omega) (by decide), nI_clamp (by omega), nI_1]
      refine ih (i + 1) _ (by omega) (by omega) (fun j hj => ?_)
      by_cases z : j = i
      · subst z; rw [pk_us]
      · rw [pk_un z]; exact h3 j (by omega)
theorem changes8 {st : Nat → Int32} {s : Nat → Nat} {p : Nat × Nat} {Q : Nat → Prop} (h1 : p.1 < p.2) (h2 : p.2 < 12) (k1 : Q p.1) (k2 : Q p.2) (hs : ∀ x, x < 12 → Q x → st x = nI (s x)) : ∃ st', f_X8_changes st (nI p.1) (nI p.2) = some st' ∧ ∀ x, x < 12 → Q x → st' x = nI (swN s p x) := by
  unfold f_X8_changes
  rw [gi_nI (by omega) (by decide), gi_nI (by omega) (by decide), gi_nI (by omega) (by decide), gi_nI (by omega) (by decide), nI_clamp (by omega), nI_clamp (by omega)]
  refine ⟨_, rfl, fun x hx hq => ?_⟩
  rw [upd2]
  unfold swN
  by_cases a : x = p.2
  · rw [if_pos a, if_neg (by omega), if_pos a, hs p.1 (by omega) k1]
  · rw [if_neg a]
    by_cases b : x = p.1
    · rw [if_pos b, if_pos b, hs p.2 (by omega) k2]
    · rw [if_neg b, if_neg b, if_neg a, hs x hx hq]
theorem tries8 {M : List (Nat × Nat)} {ct p1 p2 : Nat → Int32} {c : Nat → Nat} {u : Nat} (hP : Pr M p1 p2) (hct : ∀ x, x < 12 → (∃ p, p ∈ M ∧ (x = p.1 ∨ x = p.2)) → ct x = nI (c x)) (hc : ∀ x, c x ≤ 10000) (hu : u ≤ 100) {n : Nat} (hn : n ≤ 3) : ∀ (d r : Nat) (v : Int) (s : Nat → Nat) (w : List (Nat × Nat)) (b : Int × List (Nat × Nat)) (bm : Int32) (bs : Int64) (st row best : Nat → Int32), r < d → w.length + r = n → (∀ x, s x ≤ 50000) → (∀ x, x < 12 → (∃ q, q ∈ M ∧ (x = q.1 ∨ x = q.2)) → st x = nI (s x)) → Rw M w row → Bs M b bm bs best → -10000000000 - 1000000000 * (w.length : Int) ≤ v → v ≤ 10000000000 + 1000000000 * (w.length : Int) → ∃ (bm' : Int32) (bs' : Int64) (st' row' best' : Nat → Int32), f_X8_tries (nI u) (nI M.length) ct p1 p2 d bm bs st row best (nI w.length) (nI n) (Int64.ofInt v) = some (bm', bs', st', row', best') ∧ (∀ x, x < 12 → (∃ q, q ∈ M ∧ (x = q.1 ∨ x = q.2)) → st' x = nI (s x)) ∧ (∀ j, j < w.length → row' j = row j) ∧ Bs M (scn (fun x => (c x : Int)) (u : Int) M r v (fun x => (s x : Int)) w b) bm' bs' best' := by
  intro d
  induction d with
  | zero => intro r v s w b bm bs st row best h1; omega
  | succ d ihd =>
    intro r v s w b bm bs st row best h1 h2 hs hst hw hb v1 v2
    rw [tri_s]
    unfold f_X8_tries_B
    cases r with
    | zero =>
      rw [if_pos (show nI w.length = nI n by rw [show w.length = n by omega])]
      obtain ⟨b1, b2, b3, b4, b5, b6⟩ := hb
      show ∃ (bm' : Int32) (bs' : Int64) (st' row' best' : Nat → Int32), _ ∧ _ ∧ _ ∧ Bs M (if v < b.1 then (v, w) else b) bm' bs' best'
      by_cases e : v < b.1
      · rw [b2, if_pos ((oi_lt (by omega) (by omega) (by omega) (by omega)).mpr e), if_pos e]
        obtain ⟨best', g1, g2⟩ := tr28 (self := f_X8_tries (nI u) (nI M.length) ct p1 p2 d) (bm := nI n) (bs := Int64.ofInt v) (st := st) (row := row) hn FU 0 best (Nat.zero_le _) (show n < 100000 + 0 by omega) (fun j hj => by omega)
        rw [nI_0] at g1
        rw [g1]
        exact ⟨_, _, _, _, _, rfl, hst, fun j _ => rfl, by show nI n = nI w.length; rw [show w.length = n by omega], rfl, by show w.length ≤ 3; omega, rw_keep hw (fun j hj => g2 j (by have : j < w.length := hj; omega)), by show (-100000000000 : Int) ≤ v; omega, by show v ≤ 100000000000; omega⟩
      · rw [b2, if_neg (fun z => e ((oi_lt (by omega) (by omega) (by omega) (by omega)).mp z)), if_neg e]
        exact ⟨_, _, _, _, _, rfl, hst, fun j _ => rfl, b1, rfl, b3, b4, b5, b6⟩
    | succ r =>
      rw [if_neg (show ¬ nI w.length = nI n from fun z => by have := (nI_eq (by omega) (by omega)).mp z; omega)]
      have key : ∀ (E D : List (Nat × Nat)) (f : Nat) (b : Int × List (Nat × Nat)) (bm : Int32) (bs : Int64) (st row best : Nat → Int32), M = D ++ E → E.length < f → (∀ x, x < 12 → (∃ q, q ∈ M ∧ (x = q.1 ∨ x = q.2)) → st x = nI (s x)) → Rw M w row → Bs M b bm bs best → ∃ (bm' : Int32) (bs' : Int64) (st' row' best' : Nat → Int32), f_X8_tries_L58 (f_X8_tries (nI u) (nI M.length) ct p1 p2 d) (nI u) (nI M.length) ct p1 p2 f bm bs st row best (nI w.length) (nI n) (Int64.ofInt v) (nI D.length) = some (bm', bs', st', row', best') ∧ (∀ x, x < 12 → (∃ q, q ∈ M ∧ (x = q.1 ∨ x = q.2)) → st' x = nI (s x)) ∧ (∀ j, j < w.length → row' j = row j) ∧ Bs M (E.foldl (fun b p => scn (fun x => (c x : Int)) (u : Int) M r (v + ch (fun x => (c x : Int)) (fun x => (s x : Int)) (u : Int) p) (sw (fun x => (s x : Int)) p) (w ++ [p]) b) b) bm' bs' best' := by
        intro E
        induction E with
        | nil =>
          intro D f b bm bs st row best hM hf hst hw hb
          obtain ⟨f, rfl⟩ : ∃ k, f = k + 1 := ⟨f - 1, by omega⟩
          have hl := hP.1
          rw [tr58_s]
          unfold f_X8_tries_L58_F
          rw [if_pos (by rw [hM, List.append_nil]; exact nI_le (Nat.le_refl _) (by rw [hM, List.append_nil] at hl; omega))]
          exact ⟨_, _, _, _, _, rfl, hst, fun j _ => rfl, hb⟩
        | cons p E ihE =>
          intro D f b bm bs st row best hM hf hst hw hb
          obtain ⟨f, rfl⟩ : ∃ k, f = k + 1 := ⟨f - 1, by omega⟩
          have hl := hP.1
          have hlen : M.length = D.length + (E.length + 1) := by rw [hM, List.length_append, List.length_cons]
          have hget : M[D.length]? = some p := by rw [hM, List.getElem?_append_right (Nat.le_refl _), Nat.sub_self]; rfl
          have hpM : p ∈ M := by rw [hM]; exact List.mem_append_right _ (List.mem_cons_self ..)
          obtain ⟨q1, q2⟩ := hP.2.2 p hpM
          obtain ⟨r1, r2⟩ := hP.2.1 _ _ hget
          have hc1 := hc p.1
          have hc2 := hc p.2
          have hs1 := hs p.1
          have hs2 := hs p.2
          have hchb := ch_bd hc hs hu p
          rw [tr58_s]
          unfold f_X8_tries_L58_F
          rw [if_neg (nI_ge (by omega) (by omega)), gi_nI (by omega) (by decide), gi_nI (by omega) (by decide), nI_clamp (by omega), r1, r2, gi_nI (by omega) (by decide), gi_nI (by omega) (by decide), gi_nI (by omega) (by decide), gi_nI (by omega) (by decide), gi_nI (by omega) (by decide), gi_nI (by omega) (by decide), nI_clamp (by omega), nI_clamp (by omega), hct p.1 (by omega) ⟨p, hpM, .inl rfl⟩, hct p.2 q2 ⟨p, hpM, .inr rfl⟩, hst p.1 (by omega) ⟨p, hpM, .inl rfl⟩, hst p.2 q2 ⟨p, hpM, .inr rfl⟩, oi_sub (by omega) (by omega), oi_sub (by omega) (by omega), nI_add, oi_n (by omega), oi_n (by omega)]
          dsimp only [nm]
          rw [gi_nI (by omega) (by decide), nI_clamp (by omega)]
          obtain ⟨st1, g1, g2⟩ := changes8 (Q := fun x => ∃ q, q ∈ M ∧ (x = q.1 ∨ x = q.2)) q1 q2 ⟨p, hpM, .inl rfl⟩ ⟨p, hpM, .inr rfl⟩ hst
          rw [g1]
          dsimp only [ob]
          rw [nI_1, ← Int64.ofInt_mul, ← Int64.ofInt_mul, ← Int64.ofInt_add, ← Int64.ofInt_add]
          have hch : ((c p.1 : Int) - c p.2) * ((s p.2 : Int) - s p.1) + (u : Int) * ((c p.1 + c p.2 : Nat) : Int) = ch (fun x => (c x : Int)) (fun x => (s x : Int)) (u : Int) p := by
            unfold ch
            rw [Int.natCast_add]
          rw [hch]
          have hwl : (w ++ [p]).length = w.length + 1 := by simp
          obtain ⟨bm2, bs2, st2, row2, best2, k1, k2, k3, k4⟩ := ihd r (v + ch (fun x => (c x : Int)) (fun x => (s x : Int)) (u : Int) p) (swN s p) (w ++ [p]) b bm bs st1 (upd row w.length (nI D.length)) best (by omega) (by rw [hwl]; omega) (swN_bd hs) g2 (rw_app hw hget) hb (by rw [hwl]; omega) (by rw [hwl]; omega)
          rw [hwl] at k1
          rw [k1]
          dsimp only [ob5]
          obtain ⟨st3, g3, g4⟩ := changes8 (Q := fun x => ∃ q, q ∈ M ∧ (x = q.1 ∨ x = q.2)) q1 q2 ⟨p, hpM, .inl rfl⟩ ⟨p, hpM, .inr rfl⟩ k2
          rw [g3]
          dsimp only
          rw [nI_1]
          have hst3 : ∀ x, x < 12 → (∃ q, q ∈ M ∧ (x = q.1 ∨ x = q.2)) → st3 x = nI (s x) := fun x hx hq => by
            rw [g4 x hx hq]
            congr 1
            unfold swN
            by_cases a : x = p.1
            · rw [if_pos a, if_neg (by omega), if_pos rfl, a]
            · rw [if_neg a]
              by_cases b : x = p.2
              · rw [if_pos b, if_pos rfl, b]
              · rw [if_neg b, if_neg a, if_neg b]
          have hrow2 : ∀ j, j < w.length → row2 j = row j := fun j hj => by rw [k3 j (by rw [hwl]; omega), pk_un (by omega)]
          obtain ⟨bm4, bs4, st4, row4, best4, m1, m2, m3, m4⟩ := ihE (D ++ [p]) f _ bm2 bs2 st3 row2 best2 (by rw [hM, List.append_assoc]; rfl) (by rw [List.length_cons] at hf; omega) hst3 (rw_keep hw hrow2) k4
          rw [show (D ++ [p]).length = D.length + 1 by simp] at m1
          refine ⟨bm4, bs4, st4, row4, best4, m1, m2, fun j hj => by rw [m3 j hj, hrow2 j hj], ?_⟩
          show Bs M (E.foldl _ (scn (fun x => (c x : Int)) (u : Int) M r (v + ch (fun x => (c x : Int)) (fun x => (s x : Int)) (u : Int) p) (sw (fun x => (s x : Int)) p) (w ++ [p]) b)) bm4 bs4 best4
          rw [sw_cast]
          exact m4
      have hl := hP.1
      have := key M [] FU b bm bs st row best rfl (show M.length < 100000 by omega) hst hw hb
      rw [show nI ([] : List (Nat × Nat)).length = (0 : Int32) from rfl] at this
      exact this
