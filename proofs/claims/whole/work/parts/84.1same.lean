/-! best: what the class leaves out is never kept -/
def isP (N : Nat) (p : Nat × Nat) : Prop := p.1 < p.2 ∧ p.2 < N
theorem trp_lt {a b x N : Nat} (ha : a < N) (hb : b < N) (hx : x < N) : trp a b x < N := tw_lt ha hb hx
/-- an exchange of two commands of one count: without it the row is shorter and as good -/
theorem val_same {c s : Nat → Int} {u v : Int} {N : Nat} {M : List (Nat × Nat)} (hM : ∀ p, p ∈ M ↔ isP N p) (hu : 0 ≤ u) (hc0 : ∀ x, 0 ≤ c x) {p : Nat × Nat} (hp : p ∈ M) (he : c p.1 = c p.2) {t : List (Nat × Nat)} (ht : inM M t) : ∃ t', t'.length = t.length ∧ inM M t' ∧ val c u v s t' ≤ val c u v s (p :: t) := by
  have hpp := (hM p).mp hp
  refine ⟨(t.map (fun q => (trp p.1 p.2 q.1, trp p.1 p.2 q.2))).map nrm, by simp, fun q hq => ?_, ?_⟩
  · obtain ⟨q1, h1, h2⟩ := List.mem_map.mp hq
    obtain ⟨q2, h3, h4⟩ := List.mem_map.mp h1
    have hq2 := (hM q2).mp (ht q2 h3)
    have l1 := trp_lt (a := p.1) (b := p.2) (x := q2.1) (N := N) (by have := hpp.1; have := hpp.2; omega) hpp.2 (by have := hq2.1; have := hq2.2; omega)
    have l2 := trp_lt (a := p.1) (b := p.2) (x := q2.2) (N := N) (by have := hpp.1; have := hpp.2; omega) hpp.2 hq2.2
    have hne : trp p.1 p.2 q2.1 ≠ trp p.1 p.2 q2.2 := fun z => by
      have : q2.1 = q2.2 := by rw [← trp_trp p.1 p.2 q2.1, z, trp_trp]
      have := hq2.1
      omega
    rw [hM, ← h2, ← h4]
    unfold nrm isP
    by_cases e : trp p.1 p.2 q2.1 < trp p.1 p.2 q2.2
    · rw [if_pos e]; exact ⟨e, l2⟩
    · rw [if_neg e]
      exact ⟨by show trp p.1 p.2 q2.2 < trp p.1 p.2 q2.1; omega, l1⟩
  · rw [val_nrm _ _ _ (fun q hq => by
      obtain ⟨q2, h3, h4⟩ := List.mem_map.mp hq
      have hq2 := (hM q2).mp (ht q2 h3)
      rw [← h4]
      intro z
      have : q2.1 = q2.2 := by rw [← trp_trp p.1 p.2 q2.1, show trp p.1 p.2 q2.1 = trp p.1 p.2 q2.2 from z, trp_trp]
      have := hq2.1
      omega), ← val_trp he, ← sw_trp]
    have e1 : ch c s u p = u * (c p.1 + c p.2) := by
      unfold ch
      rw [he, Int.sub_self, Int.zero_mul, Int.zero_add]
    show _ ≤ val c u (v + ch c s u p) (sw s p) t
    rw [val_add, e1]
    have : 0 ≤ u * (c p.1 + c p.2) := Int.mul_nonneg hu (Int.add_nonneg (hc0 _) (hc0 _))
    omega
theorem val_twice {c s : Nat → Int} {u v : Int} (hu : 0 ≤ u) (hc0 : ∀ x, 0 ≤ c x) {p : Nat × Nat} (hp : p.1 ≠ p.2) {t : List (Nat × Nat)} : val c u v s t ≤ val c u v s (p :: p :: t) := by
  show _ ≤ val c u (v + ch c s u p + ch c (sw s p) u p) (sw (sw s p) p) t
  rw [sw_sw, show v + ch c s u p + ch c (sw s p) u p = v + (ch c s u p + ch c (sw s p) u p) by omega, ch_sw hp, val_add]
  have : 0 ≤ u * (c p.1 + c p.2) := Int.mul_nonneg hu (Int.add_nonneg (hc0 _) (hc0 _))
  omega
def Low (c : Nat → Int) (u : Int) (M : List (Nat × Nat)) (r : Nat) (v : Int) (s : Nat → Int) (x : Int) : Prop := ∀ t, t.length < r → inM M t → x ≤ val c u v s t
theorem low_le {c : Nat → Int} {u : Int} {M : List (Nat × Nat)} {r : Nat} {v : Int} {s : Nat → Int} {x y : Int} (h : Low c u M r v s x) (hy : y ≤ x) : Low c u M r v s y := fun t ht hm => Int.le_trans hy (h t ht hm)
theorem scn_same {c : Nat → Int} {u : Int} {N : Nat} {M : List (Nat × Nat)} (hM : ∀ p, p ∈ M ↔ isP N p) (hs : M.Pairwise plt) (hu : 0 ≤ u) (hc0 : ∀ x, 0 ≤ c x) : ∀ (r : Nat) (v : Int) (s : Nat → Int) (w : List (Nat × Nat)) (o : Option (Nat × Nat)) (b : Int × List (Nat × Nat)), Low c u M r v s b.1 → (∀ e, o = some e → ∃ v' s', isP N e ∧ v = v' + ch c s' u e ∧ s = sw s' e ∧ Low c u M (r + 1) v' s' b.1 ∧ ∀ q, q ∈ M → plt q e → ∀ t, t.length = r → inM M t → b.1 ≤ val c u v' s' (q :: t)) → scn c u M r v s w b = scC c u (M.filter (fun p => !decide (c p.1 = c p.2))) r v s w o b := by
  intro r
  induction r with
  | zero => intro v s w o b _ _; rfl
  | succ r ih =>
    intro v s w o b hlow ho
    have key : ∀ (D E : List (Nat × Nat)) (b : Int × List (Nat × Nat)), M = D ++ E → Low c u M (r + 1) v s b.1 → (∀ e, o = some e → ∃ v' s', isP N e ∧ v = v' + ch c s' u e ∧ s = sw s' e ∧ Low c u M (r + 1 + 1) v' s' b.1 ∧ ∀ q, q ∈ M → plt q e → ∀ t, t.length = r + 1 → inM M t → b.1 ≤ val c u v' s' (q :: t)) → (∀ q, q ∈ D → ∀ t, t.length = r → inM M t → b.1 ≤ val c u v s (q :: t)) → E.foldl (fun b p => scn c u M r (v + ch c s u p) (sw s p) (w ++ [p]) b) b = (E.filter (fun p => !decide (c p.1 = c p.2))).foldl (fun b p => if ndo o p = true then b else scC c u (M.filter (fun p => !decide (c p.1 = c p.2))) r (v + ch c s u p) (sw s p) (w ++ [p]) (some p) b) b := by
      intro D E
      induction E generalizing D with
      | nil => intro b _ _ _ _; rfl
      | cons p E ihE =>
        intro b hME hl hoo hD
        have hpM : p ∈ M := by rw [hME]; exact List.mem_append_right _ (List.mem_cons_self ..)
        have hpP := (hM p).mp hpM
        have hpre := hs
        rw [hME] at hpre
        have hME2 : M = (D ++ [p]) ++ E := by rw [hME, List.append_assoc]; rfl
        -- the exchange is left out, and all rows with it change nothing
        have skip : (∀ t, t.length = r → inM M t → b.1 ≤ val c u v s (p :: t)) → scn c u M r (v + ch c s u p) (sw s p) (w ++ [p]) b = b ∧ E.foldl (fun b p => scn c u M r (v + ch c s u p) (sw s p) (w ++ [p]) b) b = (E.filter (fun p => !decide (c p.1 = c p.2))).foldl (fun b p => if ndo o p = true then b else scC c u (M.filter (fun p => !decide (c p.1 = c p.2))) r (v + ch c s u p) (sw s p) (w ++ [p]) (some p) b) b := by
          intro hh
          refine ⟨scn_id r _ _ _ b hh, ihE (D ++ [p]) b hME2 hl hoo (fun q hq t ht hm => ?_)⟩
          rcases List.mem_append.mp hq with z | z
          · exact hD q z t ht hm
          · have : q = p := by simpa using z
            subst this
            exact hh t ht hm
        show E.foldl _ (scn c u M r (v + ch c s u p) (sw s p) (w ++ [p]) b) = _
        by_cases c1 : c p.1 = c p.2
        · obtain ⟨k1, k2⟩ := skip (fun t ht hm => by
            obtain ⟨t', g1, g2, g3⟩ := val_same (s := s) (v := v) hM hu hc0 hpM c1 hm
            exact Int.le_trans (hl t' (by omega) g2) g3)
          rw [k1, k2, List.filter_cons_of_neg (by simp [c1])]
        · rw [List.filter_cons_of_pos (by simp [c1])]
          show _ = (E.filter _).foldl _ (if ndo o p = true then b else scC c u (M.filter (fun p => !decide (c p.1 = c p.2))) r (v + ch c s u p) (sw s p) (w ++ [p]) (some p) b)
          by_cases c2 : ndo o p = true
          · rw [if_pos c2]
            cases ho2 : o with
            | none => rw [ho2] at c2; cases c2
            | some e =>
              obtain ⟨v', s', e1, e2, e3, e4, e5⟩ := hoo e ho2
              rw [ho2] at c2
              change ndl e p = true at c2
              unfold ndl at c2
              rw [Bool.or_eq_true, Bool.and_eq_true] at c2
              have hh : ∀ t, t.length = r → inM M t → b.1 ≤ val c u v s (p :: t) := by
                intro t ht hm
                rw [e2, e3]
                show b.1 ≤ val c u v' s' (e :: p :: t)
                rcases c2 with z | ⟨z1, z2⟩
                · have z := of_decide_eq_true z
                  subst z
                  exact Int.le_trans (e4 t (by omega) hm) (val_twice hu hc0 (by have := hpP.1; omega))
                · have z1 := pltb_t.mp z1
                  simp only [Bool.not_eq_true', Bool.or_eq_false_iff, decide_eq_false_iff_not] at z2
                  obtain ⟨⟨⟨y1, y2⟩, y3⟩, y4⟩ := z2
                  rw [val_comm (p := e) (q := p) (fun q => y1 q.symm) (fun q => y3 q.symm) (fun q => y2 q.symm) (fun q => y4 q.symm)]
                  exact e5 p hpM z1 (e :: t) (by simp [ht]) (fun q hq => by
                    rcases List.mem_cons.mp hq with q1 | q1
                    · subst q1; exact (hM q).mpr e1
                    · exact hm q q1)
              obtain ⟨k1, k2⟩ := skip hh
              rw [k1]
              rw [ho2] at k2
              exact k2
          · rw [if_neg c2]
            have hsc : scn c u M r (v + ch c s u p) (sw s p) (w ++ [p]) b = scC c u (M.filter (fun p => !decide (c p.1 = c p.2))) r (v + ch c s u p) (sw s p) (w ++ [p]) (some p) b := by
              refine ih _ _ _ (some p) b (fun t ht hm => hl (p :: t) (by simp; omega) (fun q hq => by
                rcases List.mem_cons.mp hq with q1 | q1
                · subst q1; exact hpM
                · exact hm q q1)) (fun e he => ?_)
              injection he with he
              subst he
              refine ⟨v, s, hpP, rfl, rfl, hl, fun q hq hlt t ht hm => hD q ?_ t ht hm⟩
              rw [hME] at hq
              rcases List.mem_append.mp hq with z | z
              · exact z
              · exfalso
                have hpw := (List.pairwise_append.mp hpre).2.1
                rcases List.mem_cons.mp z with y | y
                · subst y
                  rcases hlt with a | a <;> omega
                · have := (List.pairwise_cons.mp hpw).1 q y
                  unfold plt at this hlt
                  omega
            rw [← hsc]
            obtain ⟨g1, g2⟩ := scn_le (c := c) (u := u) (M := M) r (v + ch c s u p) (sw s p) (w ++ [p]) b
            exact ihE (D ++ [p]) _ hME2 (low_le hl g1) (fun e he => by
              obtain ⟨v', s', e1, e2, e3, e4, e5⟩ := hoo e he
              exact ⟨v', s', e1, e2, e3, low_le e4 g1, fun q hq hlt t ht hm => Int.le_trans g1 (e5 q hq hlt t ht hm)⟩) (fun q hq t ht hm => by
              rcases List.mem_append.mp hq with z | z
              · exact Int.le_trans g1 (hD q z t ht hm)
              · have : q = p := by simpa using z
                subst this
                exact g2 t ht hm)
    exact key [] M b rfl hlow ho (fun q hq => by cases hq)
