/-! best: the class tries -/
theorem tp_s {P : Int32} {un : Int64} {lo up : Nat → Int32} {cc : Nat → Int64} (d : Nat) : f_X0_tryRows P un lo up cc (d + 1) = f_X0_tryRows_B P un lo up cc (f_X0_tryRows P un lo up cc d) := fx_s _ _ _
theorem tp28_s {self} {P : Int32} {un : Int64} {lo up : Nat → Int32} {cc : Nat → Int64} (n : Nat) : f_X0_tryRows_L28 self P un lo up cc (n + 1) = f_X0_tryRows_L28_F self P un lo up cc (f_X0_tryRows_L28 self P un lo up cc n) := fx_s _ _ _
def Bc (M : List (Nat × Nat)) (n : Nat) (b : Int × List (Nat × Nat)) (sums : Nat → Int64) (len : Nat → Int32) (rows : Nat → Nat → Int32) : Prop := Bs M b (len n) (sums n) (rows n)
theorem change7 {M : List (Nat × Nat)} {lo up : Nat → Int32} {cc ss : Nat → Int64} {c s : Nat → Nat} {u x : Nat} {p : Nat × Nat} (hP : Pr M lo up) (hx : M[x]? = some p) (hcc : ∀ y, (∃ q, q ∈ M ∧ (y = q.1 ∨ y = q.2)) → cc y = lN (c y)) (hss : ∀ y, y < 12 → (∃ q, q ∈ M ∧ (y = q.1 ∨ y = q.2)) → ss y = lN (s y)) : f_X0_change (lN u) lo up cc ss (nI x) = some (Int64.ofInt (ch (fun y => (c y : Int)) (fun y => (s y : Int)) (u : Int) p)) := by
  have hxl : x < M.length := (List.getElem?_eq_some_iff.mp hx).1
  have hl := hP.1
  have hpM : p ∈ M := List.mem_of_getElem? hx
  obtain ⟨q1, q2⟩ := hP.2.2 p hpM
  obtain ⟨r1, r2⟩ := hP.2.1 _ _ hx
  unfold f_X0_change
  rw [gi_nI (by omega) (by decide), gi_nI (by omega) (by decide), nI_clamp (by omega), r1, r2, gi_nI (by omega) (by decide), gi_nI (by omega) (by decide), gi_nI (by omega) (by decide), gi_nI (by omega) (by decide), gi_nI (by omega) (by decide), gi_nI (by omega) (by decide), nI_clamp (by omega), nI_clamp (by omega), hcc p.1 ⟨p, hpM, .inl rfl⟩, hcc p.2 ⟨p, hpM, .inr rfl⟩, hss p.1 (by omega) ⟨p, hpM, .inl rfl⟩, hss p.2 q2 ⟨p, hpM, .inr rfl⟩, oi_nat, oi_nat, oi_nat, oi_nat, oi_nat, ← Int64.ofInt_sub, ← Int64.ofInt_sub, ← Int64.ofInt_mul, ← Int64.ofInt_add, ← Int64.ofInt_mul, ← Int64.ofInt_add]
  rfl
theorem trade64 {M : List (Nat × Nat)} {lo up : Nat → Int32} {ss : Nat → Int64} {s : Nat → Nat} {x : Nat} {p : Nat × Nat} (hP : Pr M lo up) (hx : M[x]? = some p) (hss : ∀ y, y < 12 → (∃ q, q ∈ M ∧ (y = q.1 ∨ y = q.2)) → ss y = lN (s y)) : ∃ ss', f_X0_tradeSteps lo up ss (nI x) = some ss' ∧ (∀ y, y < 12 → (∃ q, q ∈ M ∧ (y = q.1 ∨ y = q.2)) → ss' y = lN (swN s p y)) := by
  have hxl : x < M.length := (List.getElem?_eq_some_iff.mp hx).1
  have hl := hP.1
  have hpM : p ∈ M := List.mem_of_getElem? hx
  obtain ⟨q1, q2⟩ := hP.2.2 p hpM
  obtain ⟨r1, r2⟩ := hP.2.1 _ _ hx
  unfold f_X0_tradeSteps
  rw [gi_nI (by omega) (by decide), nI_clamp (by omega), r1, r2, gi_nI (by omega) (by decide), gi_nI (by omega) (by decide), gi_nI (by omega) (by decide), gi_nI (by omega) (by decide), gi_nI (by omega) (by decide), gi_nI (by omega) (by decide), gi_nI (by omega) (by decide), nI_clamp (by omega), nI_clamp (by omega)]
  refine ⟨_, rfl, fun y hy hq => ?_⟩
  unfold swN
  by_cases a : y = p.2
  · rw [a, pk_uLs, if_neg (by omega), if_pos rfl, hss p.1 (by omega) ⟨p, hpM, .inl rfl⟩]
  · rw [pk_uLn a]
    by_cases b : y = p.1
    · rw [b, pk_uLs, if_pos rfl, hss p.2 q2 ⟨p, hpM, .inr rfl⟩]
    · rw [pk_uLn b, if_neg b, if_neg a, hss y hy hq]
theorem sorted_lt {M : List (Nat × Nat)} (hs : M.Pairwise plt) {x y : Nat} {p q : Nat × Nat} (hx : M[x]? = some p) (hy : M[y]? = some q) (h : x < y) : plt p q := by
  obtain ⟨hx1, hx2⟩ := List.getElem?_eq_some_iff.mp hx
  obtain ⟨hy1, hy2⟩ := List.getElem?_eq_some_iff.mp hy
  have := List.pairwise_iff_getElem.mp hs x y hx1 hy1 h
  rw [hx2, hy2] at this
  exact this
theorem needless7 {M : List (Nat × Nat)} {lo up : Nat → Int32} (hP : Pr M lo up) (hs : M.Pairwise plt) {x y : Nat} {e p : Nat × Nat} (hx : M[x]? = some e) (hy : M[y]? = some p) : f_X0_isNeedless lo up (nI x) (nI y) = some (if ndl e p = true then 1 else 0) := by
  have hxl : x < M.length := (List.getElem?_eq_some_iff.mp hx).1
  have hyl : y < M.length := (List.getElem?_eq_some_iff.mp hy).1
  have hl := hP.1
  obtain ⟨e1, e2⟩ := hP.2.2 e (List.mem_of_getElem? hx)
  obtain ⟨q1, q2⟩ := hP.2.2 p (List.mem_of_getElem? hy)
  obtain ⟨r1, r2⟩ := hP.2.1 _ _ hx
  obtain ⟨t1, t2⟩ := hP.2.1 _ _ hy
  unfold f_X0_isNeedless
  by_cases c1 : y < x
  · have hlt := sorted_lt hs hy hx c1
    have hpb := pltb_t.mpr hlt
    have hne : ¬ p = e := fun z => by rw [z] at hlt; rcases hlt with a | a <;> omega
    have hnd : ndl e p = !(decide (p.1 = e.1) || decide (p.1 = e.2) || decide (p.2 = e.1) || decide (p.2 = e.2)) := by
      unfold ndl
      rw [hpb, decide_eq_false hne, Bool.false_or, Bool.true_and]
    rw [hnd, if_pos (nI_lt c1 (by omega)), gi_nI (by omega) (by decide), gi_nI (by omega) (by decide), nI_clamp (by omega), nI_clamp (by omega), r1, r2, t1, t2]
    by_cases d1 : p.1 = e.1
    · rw [if_pos (by rw [d1])]; simp [d1]
    rw [if_neg (fun z => d1 ((nI_eq (by omega) (by omega)).mp z)), gi_nI (by omega) (by decide), gi_nI (by omega) (by decide)]
    by_cases d2 : p.1 = e.2
    · rw [if_pos (by rw [d2])]; simp [d2]
    rw [if_neg (fun z => d2 ((nI_eq (by omega) (by omega)).mp z)), gi_nI (by omega) (by decide), gi_nI (by omega) (by decide)]
    by_cases d3 : p.2 = e.1
    · rw [if_pos (by rw [d3])]; simp [d3]
    rw [if_neg (fun z => d3 ((nI_eq (by omega) (by omega)).mp z)), gi_nI (by omega) (by decide), gi_nI (by omega) (by decide)]
    by_cases d4 : p.2 = e.2
    · rw [if_pos (by rw [d4])]; simp [d4]
    rw [if_neg (fun z => d4 ((nI_eq (by omega) (by omega)).mp z))]
    simp [d1, d2, d3, d4]
  · rw [if_neg (nI_nlt (by omega) (by omega))]
    by_cases c2 : y = x
    · subst c2
      rw [hx] at hy
      injection hy with hy
      subst hy
      rw [if_pos rfl]
      have : ndl e e = true := by unfold ndl; simp
      rw [if_pos this]
    · have hlt := sorted_lt hs hx hy (show x < y by omega)
      have hne : ¬ p = e := fun z => by rw [z] at hlt; rcases hlt with a | a <;> omega
      have hnl : pltb p e = false := by
        cases hb : pltb p e with
        | false => rfl
        | true =>
          have := pltb_t.mp hb
          unfold plt at this hlt
          omega
      have hnd : ndl e p = false := by
        unfold ndl
        rw [hnl, decide_eq_false hne]
        rfl
      rw [if_neg (fun z => c2 ((nI_eq (by omega) (by omega)).mp z)), hnd, if_neg (show ¬ (false = true) by decide)]
theorem swN_swN {s : Nat → Nat} {p : Nat × Nat} (h : p.1 ≠ p.2) (x : Nat) : swN (swN s p) p x = s x := by
  unfold swN
  by_cases a : x = p.1
  · rw [if_pos a, if_neg (fun z => h z.symm), if_pos rfl, a]
  · rw [if_neg a]
    by_cases b : x = p.2
    · rw [if_pos b, if_pos rfl, b]
    · rw [if_neg b, if_neg a, if_neg b]
theorem l128 {self k28} {sums : Nat → Int64} {len : Nat → Int32} {rows : Nat → Nat → Int32} {ss : Nat → Int64} {row : Nat → Int32} {x1 x2 x5 : Int32} {x3 : Int64} {y : Nat} : f_X0_tryRows_L128 self k28 sums len rows ss row x1 x2 x3 x5 (nI y) = k28 sums len rows ss row x1 x2 x3 x5 (nI (y + 1)) := by
  unfold f_X0_tryRows_L128
  rw [nI_1]
set_option maxHeartbeats 1000000 in
theorem tries7 {M : List (Nat × Nat)} {lo up : Nat → Int32} {cc : Nat → Int64} {c : Nat → Nat} {u : Nat} (hP : Pr M lo up) (hs0 : M.Pairwise plt) (hcc : ∀ y, (∃ q, q ∈ M ∧ (y = q.1 ∨ y = q.2)) → cc y = lN (c y)) (hc : ∀ x, c x ≤ 10000) (hu : u ≤ 100) {n : Nat} (hn : n ≤ 3) : ∀ (d r : Nat) (v : Int) (s : Nat → Nat) (w : List (Nat × Nat)) (b : Int × List (Nat × Nat)) (sums : Nat → Int64) (len : Nat → Int32) (rows : Nat → Nat → Int32) (ss : Nat → Int64) (row : Nat → Int32), r < d → w.length + (r + 1) = n → (∀ x, s x ≤ 50000) → (∀ y, y < 12 → (∃ q, q ∈ M ∧ (y = q.1 ∨ y = q.2)) → ss y = lN (s y)) → Rw M w row → Bc M n b sums len rows → -10000000000 - 1000000000 * (w.length : Int) ≤ v → v ≤ 10000000000 + 1000000000 * (w.length : Int) → ∃ (sums' : Nat → Int64) (len' : Nat → Int32) (rows' : Nat → Nat → Int32) (ss' : Nat → Int64) (row' : Nat → Int32), f_X0_tryRows (nI M.length) (lN u) lo up cc d sums len rows ss row (nI w.length) (nI n) (Int64.ofInt v) = some (sums', len', rows', ss', row') ∧ (∀ y, y < 12 → (∃ q, q ∈ M ∧ (y = q.1 ∨ y = q.2)) → ss' y = lN (s y)) ∧ (∀ j, j < w.length → row' j = row j) ∧ Bc M n (scC (fun x => (c x : Int)) (u : Int) M (r + 1) v (fun x => (s x : Int)) w w.getLast? b) sums' len' rows' ∧ (∀ k, k ≠ n → sums' k = sums k ∧ len' k = len k ∧ ∀ j, rows' k j = rows k j) := by
  intro d
  induction d with
  | zero => intro r v s w b sums len rows ss row h1; omega
  | succ d ihd =>
    intro r v s w b sums len rows ss row h1 h2 hs hss hw hb v1 v2
    rw [tp_s]
    unfold f_X0_tryRows_B f_X0_tryRows_L23
    have hl := hP.1
    have key : ∀ (E D : List (Nat × Nat)) (f : Nat) (b : Int × List (Nat × Nat)) (sums : Nat → Int64) (len : Nat → Int32) (rows : Nat → Nat → Int32) (ss : Nat → Int64) (row : Nat → Int32), M = D ++ E → E.length < f → (∀ y, y < 12 → (∃ q, q ∈ M ∧ (y = q.1 ∨ y = q.2)) → ss y = lN (s y)) → Rw M w row → Bc M n b sums len rows → ∃ (sums' : Nat → Int64) (len' : Nat → Int32) (rows' : Nat → Nat → Int32) (ss' : Nat → Int64) (row' : Nat → Int32), f_X0_tryRows_L28 (f_X0_tryRows (nI M.length) (lN u) lo up cc d) (nI M.length) (lN u) lo up cc f sums len rows ss row (nI w.length) (nI n) (Int64.ofInt v) (if r = 0 then 1 else 0) (nI D.length) = some (sums', len', rows', ss', row') ∧ (∀ y, y < 12 → (∃ q, q ∈ M ∧ (y = q.1 ∨ y = q.2)) → ss' y = lN (s y)) ∧ (∀ j, j < w.length → row' j = row j) ∧ Bc M n (E.foldl (fun b p => if ndo w.getLast? p = true then b else scC (fun x => (c x : Int)) (u : Int) M r (v + ch (fun x => (c x : Int)) (fun x => (s x : Int)) (u : Int) p) (sw (fun x => (s x : Int)) p) (w ++ [p]) (some p) b) b) sums' len' rows' ∧ (∀ k, k ≠ n → sums' k = sums k ∧ len' k = len k ∧ ∀ j, rows' k j = rows k j) := by
      intro E
      induction E with
      | nil =>
        intro D f b sums len rows ss row hM hf hss hw hb
        obtain ⟨f, rfl⟩ : ∃ k, f = k + 1 := ⟨f - 1, by omega⟩
        rw [tp28_s]
        unfold f_X0_tryRows_L28_F
        rw [if_pos (by rw [hM, List.append_nil]; exact nI_le (Nat.le_refl _) (by rw [hM, List.append_nil] at hl; omega))]
        exact ⟨_, _, _, _, _, rfl, hss, fun j _ => rfl, hb, fun k _ => ⟨rfl, rfl, fun _ => rfl⟩⟩
      | cons p E ihE =>
        intro D f b sums len rows ss row hM hf hss hw hb
        obtain ⟨f, rfl⟩ : ∃ k, f = k + 1 := ⟨f - 1, by omega⟩
        have hlen : M.length = D.length + (E.length + 1) := by rw [hM, List.length_append, List.length_cons]
        have hget : M[D.length]? = some p := by rw [hM, List.getElem?_append_right (Nat.le_refl _), Nat.sub_self]; rfl
        have hpM : p ∈ M := by rw [hM]; exact List.mem_append_right _ (List.mem_cons_self ..)
        obtain ⟨q1, q2⟩ := hP.2.2 p hpM
        have hchb := ch_bd hc hs hu p
        have hwl : (w ++ [p]).length = w.length + 1 := by simp
        have hgl : (w ++ [p]).getLast? = some p := by simp
        have hMD : M = (D ++ [p]) ++ E := by rw [hM, List.append_assoc]; rfl
        have hDl : (D ++ [p]).length = D.length + 1 := by simp
        rw [List.length_cons] at hf
        -- one pair tried
        have go : ∃ (sums' : Nat → Int64) (len' : Nat → Int32) (rows' : Nat → Nat → Int32) (ss' : Nat → Int64) (row' : Nat → Int32), f_X0_tryRows_L61 (f_X0_tryRows (nI M.length) (lN u) lo up cc d) (lN u) lo up cc (f_X0_tryRows_L28 (f_X0_tryRows (nI M.length) (lN u) lo up cc d) (nI M.length) (lN u) lo up cc f) sums len rows ss row (nI w.length) (nI n) (Int64.ofInt v) (if r = 0 then 1 else 0) (nI D.length) = f_X0_tryRows_L28 (f_X0_tryRows (nI M.length) (lN u) lo up cc d) (nI M.length) (lN u) lo up cc f sums' len' rows' ss' row' (nI w.length) (nI n) (Int64.ofInt v) (if r = 0 then 1 else 0) (nI (D.length + 1)) ∧ (∀ y, y < 12 → (∃ q, q ∈ M ∧ (y = q.1 ∨ y = q.2)) → ss' y = lN (s y)) ∧ (∀ j, j < w.length → row' j = row j) ∧ Bc M n (scC (fun x => (c x : Int)) (u : Int) M r (v + ch (fun x => (c x : Int)) (fun x => (s x : Int)) (u : Int) p) (sw (fun x => (s x : Int)) p) (w ++ [p]) (some p) b) sums' len' rows' ∧ (∀ k, k ≠ n → sums' k = sums k ∧ len' k = len k ∧ ∀ j, rows' k j = rows k j) := by
          unfold f_X0_tryRows_L61
          rw [gi_nI (by omega) (by decide), change7 hP hget hcc hss]
          dsimp only [ob]
          rw [← Int64.ofInt_add, nI_clamp (by omega)]
          by_cases hr : r = 0
          · subst hr
            rw [if_pos (show (0 : Nat) = 0 from rfl), if_neg (show ¬ (1 : Int32) = 0 by decide), gi_nI (by omega) (by decide), nI_clamp (by omega)]
            obtain ⟨b1, b2, b3, b4, b5, b6⟩ := hb
            show ∃ (sums' : Nat → Int64) (len' : Nat → Int32) (rows' : Nat → Nat → Int32) (ss' : Nat → Int64) (row' : Nat → Int32), _ ∧ _ ∧ _ ∧ Bc M n (if v + ch (fun x => (c x : Int)) (fun x => (s x : Int)) (u : Int) p < b.1 then (v + ch (fun x => (c x : Int)) (fun x => (s x : Int)) (u : Int) p, w ++ [p]) else b) sums' len' rows' ∧ _
            by_cases e : v + ch (fun x => (c x : Int)) (fun x => (s x : Int)) (u : Int) p < b.1
            · rw [b2, if_pos ((oi_lt (by omega) (by omega) (by omega) (by omega)).mpr e), if_pos e]
              unfold f_X0_keepRow
              rw [gi_nI (by omega) (by decide), gi_nI (by omega) (by decide), gi_nI (by omega) (by decide), nI_clamp (by omega)]
              dsimp only [ob3]
              rw [l128]
              refine ⟨_, _, _, _, _, rfl, hss, fun j hj => pk_un (by omega), ⟨?_, ?_, ?_, ?_, ?_, ?_⟩, fun k hk => ⟨pk_uLn hk, pk_un hk, fun j => ?_⟩⟩
              · rw [pk_us]; show nI n = nI (w ++ [p]).length; rw [hwl, show w.length + 1 = n by omega]
              · rw [pk_uLs]
              · show (w ++ [p]).length ≤ 3; rw [hwl]; omega
              · rw [va_up_self]
                refine rw_keep (rw_app hw hget) (fun j hj => ?_)
                have hj2 : j < w.length + 1 := by rw [← hwl]; exact hj
                show va_cpy (upd row w.length (nI D.length)) (rows n) 0 0 3 j = _
                rw [pk_cpy_in (Nat.zero_le _) (by omega), Nat.zero_add, Nat.sub_zero]
              · show (-100000000000 : Int) ≤ v + _; omega
              · show v + _ ≤ 100000000000; omega
              · rw [va_up_ne _ _ hk]
            · rw [b2, if_neg (fun z => e ((oi_lt (by omega) (by omega) (by omega) (by omega)).mp z)), if_neg e, l128]
              exact ⟨_, _, _, _, _, rfl, hss, fun j hj => pk_un (by omega), ⟨b1, b2, b3, b4, b5, b6⟩, fun k _ => ⟨rfl, rfl, fun _ => rfl⟩⟩
          · rw [if_neg hr, if_pos (show (0 : Int32) = 0 from rfl)]
            obtain ⟨r', rfl⟩ : ∃ r', r = r' + 1 := ⟨r - 1, by omega⟩
            obtain ⟨ss1, g1, g2⟩ := trade64 hP hget hss
            rw [g1]
            dsimp only
            rw [nI_1]
            obtain ⟨sums2, len2, rows2, ss2, row2, k1, k2, k3, k4, k5⟩ := ihd r' (v + ch (fun x => (c x : Int)) (fun x => (s x : Int)) (u : Int) p) (swN s p) (w ++ [p]) b sums len rows ss1 (upd row w.length (nI D.length)) (by omega) (by rw [hwl]; omega) (swN_bd hs) g2 (rw_app hw hget) hb (by rw [hwl]; omega) (by rw [hwl]; omega)
            rw [hwl] at k1
            rw [k1]
            dsimp only [ob5]
            obtain ⟨ss3, g3, g4⟩ := trade64 hP hget k2
            rw [g3]
            dsimp only
            rw [l128]
            rw [hgl] at k4
            refine ⟨sums2, len2, rows2, ss3, row2, rfl, fun y hy hq => by rw [g4 y hy hq, swN_swN (by omega)], fun j hj => by rw [k3 j (by rw [hwl]; omega), pk_un (by omega)], ?_, k5⟩
            rw [sw_cast]
            exact k4
        rw [tp28_s]
        unfold f_X0_tryRows_L28_F
        rw [if_neg (nI_ge (by omega) (by omega))]
        show ∃ (sums' : Nat → Int64) (len' : Nat → Int32) (rows' : Nat → Nat → Int32) (ss' : Nat → Int64) (row' : Nat → Int32), _ ∧ _ ∧ _ ∧ Bc M n (E.foldl _ (if ndo w.getLast? p = true then b else scC (fun x => (c x : Int)) (u : Int) M r (v + ch (fun x => (c x : Int)) (fun x => (s x : Int)) (u : Int) p) (sw (fun x => (s x : Int)) p) (w ++ [p]) (some p) b)) sums' len' rows' ∧ _
        have fin : (if ndo w.getLast? p = true then b else scC (fun x => (c x : Int)) (u : Int) M r (v + ch (fun x => (c x : Int)) (fun x => (s x : Int)) (u : Int) p) (sw (fun x => (s x : Int)) p) (w ++ [p]) (some p) b) = scC (fun x => (c x : Int)) (u : Int) M r (v + ch (fun x => (c x : Int)) (fun x => (s x : Int)) (u : Int) p) (sw (fun x => (s x : Int)) p) (w ++ [p]) (some p) b → ∃ (sums' : Nat → Int64) (len' : Nat → Int32) (rows' : Nat → Nat → Int32) (ss' : Nat → Int64) (row' : Nat → Int32), f_X0_tryRows_L61 (f_X0_tryRows (nI M.length) (lN u) lo up cc d) (lN u) lo up cc (f_X0_tryRows_L28 (f_X0_tryRows (nI M.length) (lN u) lo up cc d) (nI M.length) (lN u) lo up cc f) sums len rows ss row (nI w.length) (nI n) (Int64.ofInt v) (if r = 0 then 1 else 0) (nI D.length) = some (sums', len', rows', ss', row') ∧ (∀ y, y < 12 → (∃ q, q ∈ M ∧ (y = q.1 ∨ y = q.2)) → ss' y = lN (s y)) ∧ (∀ j, j < w.length → row' j = row j) ∧ Bc M n (E.foldl (fun b p => if ndo w.getLast? p = true then b else scC (fun x => (c x : Int)) (u : Int) M r (v + ch (fun x => (c x : Int)) (fun x => (s x : Int)) (u : Int) p) (sw (fun x => (s x : Int)) p) (w ++ [p]) (some p) b) (if ndo w.getLast? p = true then b else scC (fun x => (c x : Int)) (u : Int) M r (v + ch (fun x => (c x : Int)) (fun x => (s x : Int)) (u : Int) p) (sw (fun x => (s x : Int)) p) (w ++ [p]) (some p) b)) sums' len' rows' ∧ (∀ k, k ≠ n → sums' k = sums k ∧ len' k = len k ∧ ∀ j, rows' k j = rows k j) := by
          intro he
          rw [he]
          obtain ⟨sums1, len1, rows1, ss1, row1, g1, g2, g3, g4, g5⟩ := go
          rw [g1]
          obtain ⟨sums2, len2, rows2, ss2, row2, m1, m2, m3, m4, m5⟩ := ihE (D ++ [p]) f _ sums1 len1 rows1 ss1 row1 hMD (by omega) g2 (rw_keep hw g3) g4
          rw [hDl] at m1
          exact ⟨sums2, len2, rows2, ss2, row2, m1, m2, fun j hj => by rw [m3 j hj, g3 j hj], m4, fun k hk => ⟨(m5 k hk).1.trans (g5 k hk).1, (m5 k hk).2.1.trans (g5 k hk).2.1, fun j => ((m5 k hk).2.2 j).trans ((g5 k hk).2.2 j)⟩⟩
        rcases Nat.eq_zero_or_pos w.length with z | z
        · have hw0 : w = [] := List.eq_nil_of_length_eq_zero z
          rw [if_pos (show nI w.length ≤ 0 by rw [z]; decide)]
          exact fin (by rw [hw0]; rfl)
        · obtain ⟨e, he⟩ : ∃ e, w.getLast? = some e := ⟨w.getLast (by intro y; rw [y] at z; simp at z), List.getLast?_eq_some_getLast _⟩
          have hlast : w[w.length - 1]? = some e := by rw [← List.getLast?_eq_getElem?]; exact he
          obtain ⟨x, hx1, hx2⟩ := hw _ _ hlast
          have hnl := needless7 hP hs0 hx2 hget
          rw [if_neg (nI_nle (by omega) (by omega)), nI_m1 (by omega), gi_nI (by omega) (by decide), nI_clamp (by omega), hx1, hnl]
          dsimp only [ob]
          have hndo : ndo w.getLast? p = ndl e p := by rw [he]; rfl
          by_cases cn : ndl e p = true
          · rw [if_pos cn, if_neg (show ¬ (1 : Int32) = 0 by decide), l128, if_pos (show ndo w.getLast? p = true from hndo.trans cn)]
            obtain ⟨sums2, len2, rows2, ss2, row2, m1, m2, m3, m4, m5⟩ := ihE (D ++ [p]) f b sums len rows ss row hMD (by omega) hss hw hb
            rw [hDl] at m1
            exact ⟨sums2, len2, rows2, ss2, row2, m1, m2, m3, m4, m5⟩
          · rw [if_neg cn, if_pos (show (0 : Int32) = 0 from rfl)]
            exact fin (by rw [if_neg (by rw [hndo]; exact cn)])
    have hk := key M [] FU b sums len rows ss row rfl (show M.length < 100000 by omega) hss hw hb
    rw [show nI ([] : List (Nat × Nat)).length = (0 : Int32) from rfl] at hk
    rw [if_neg (nI_ge (by omega) (by omega)), if_pos (show nI w.length < 3 from nI_lt (b := 3) (by omega) (by decide)), nI_1]
    by_cases hr : r = 0
    · subst hr
      rw [if_pos (show nI (w.length + 1) = nI n by rw [show w.length + 1 = n by omega])]
      rw [if_pos (show (0 : Nat) = 0 from rfl)] at hk
      exact hk
    · rw [if_neg (show ¬ nI (w.length + 1) = nI n from fun z => by have := (nI_eq (by omega) (by omega)).mp z; omega)]
      rw [if_neg hr] at hk
      exact hk
