/-! best: rows of exchanges -/
def ch (c s : Nat → Int) (u : Int) (p : Nat × Nat) : Int := (c p.1 - c p.2) * (s p.2 - s p.1) + u * (c p.1 + c p.2)
def sw (s : Nat → Int) (p : Nat × Nat) : Nat → Int := fun x => if x = p.1 then s p.2 else if x = p.2 then s p.1 else s x
def val (c : Nat → Int) (u : Int) : Int → (Nat → Int) → List (Nat × Nat) → Int
  | v, _, [] => v
  | v, s, p :: r => val c u (v + ch c s u p) (sw s p) r
theorem val_add {c : Nat → Int} {u d : Int} : ∀ (r : List (Nat × Nat)) (v : Int) (s : Nat → Int), val c u (v + d) s r = val c u v s r + d
  | [], v, s => rfl
  | p :: r, v, s => by
    show val c u (v + d + ch c s u p) (sw s p) r = val c u (v + ch c s u p) (sw s p) r + d
    rw [show v + d + ch c s u p = (v + ch c s u p) + d by omega, val_add r]
/-- a row keeps its worth if its commands are renamed within one count -/
def trp (a b x : Nat) : Nat := if x = a then b else if x = b then a else x
theorem trp_trp (a b x : Nat) : trp a b (trp a b x) = x := tw_tw a b x
def nrm (p : Nat × Nat) : Nat × Nat := if p.1 < p.2 then p else (p.2, p.1)
theorem ch_sym {c s : Nat → Int} {u : Int} {x y : Nat} : ch c s u (x, y) = ch c s u (y, x) := by
  unfold ch
  show (c x - c y) * (s y - s x) + u * (c x + c y) = (c y - c x) * (s x - s y) + u * (c y + c x)
  rw [show c y - c x = -(c x - c y) by omega, show s x - s y = -(s y - s x) by omega, Int.neg_mul_neg, Int.add_comm (c y)]
theorem sw_sym {s : Nat → Int} {x y : Nat} (h : x ≠ y) : sw s (x, y) = sw s (y, x) := by
  funext z
  show (if z = x then s y else if z = y then s x else s z) = (if z = y then s x else if z = x then s y else s z)
  by_cases h1 : z = x
  · rw [if_pos h1, if_neg (by omega), if_pos h1]
  · rw [if_neg h1, if_neg h1]
theorem val_nrm {c : Nat → Int} {u : Int} : ∀ (r : List (Nat × Nat)) (v : Int) (s : Nat → Int), (∀ p, p ∈ r → p.1 ≠ p.2) → val c u v s (r.map nrm) = val c u v s r
  | [], v, s, _ => rfl
  | p :: r, v, s, h => by
    have hp := h p (List.mem_cons_self ..)
    show val c u (v + ch c s u (nrm p)) (sw s (nrm p)) (r.map nrm) = val c u (v + ch c s u p) (sw s p) r
    rw [val_nrm r _ _ (fun q hq => h q (List.mem_cons_of_mem _ hq))]
    unfold nrm
    by_cases e : p.1 < p.2
    · rw [if_pos e]
    · rw [if_neg e, ch_sym, sw_sym (fun z => hp z.symm)]
theorem val_trp {c : Nat → Int} {u : Int} {a b : Nat} (hc : c a = c b) : ∀ (r : List (Nat × Nat)) (v : Int) (s : Nat → Int), val c u v (fun x => s (trp a b x)) r = val c u v s (r.map (fun q => (trp a b q.1, trp a b q.2)))
  | [], v, s => rfl
  | q :: r, v, s => by
    have hcc : ∀ x, c (trp a b x) = c x := fun x => by
      unfold trp
      by_cases h1 : x = a
      · rw [if_pos h1, h1, hc]
      · rw [if_neg h1]
        by_cases h2 : x = b
        · rw [if_pos h2, h2, hc]
        · rw [if_neg h2]
    have e1 : ch c (fun x => s (trp a b x)) u q = ch c s u (trp a b q.1, trp a b q.2) := by
      unfold ch
      show (c q.1 - c q.2) * (s (trp a b q.2) - s (trp a b q.1)) + u * (c q.1 + c q.2) = (c (trp a b q.1) - c (trp a b q.2)) * (s (trp a b q.2) - s (trp a b q.1)) + u * (c (trp a b q.1) + c (trp a b q.2))
      rw [hcc, hcc]
    have e2 : sw (fun x => s (trp a b x)) q = fun x => sw s (trp a b q.1, trp a b q.2) (trp a b x) := by
      funext x
      have inj : ∀ y z, trp a b y = trp a b z → y = z := fun y z h => by rw [← trp_trp a b y, h, trp_trp]
      show (if x = q.1 then s (trp a b q.2) else if x = q.2 then s (trp a b q.1) else s (trp a b x)) = (if trp a b x = trp a b q.1 then s (trp a b q.2) else if trp a b x = trp a b q.2 then s (trp a b q.1) else s (trp a b x))
      by_cases h1 : x = q.1
      · rw [if_pos h1, if_pos (by rw [h1])]
      · rw [if_neg h1, if_neg (fun z => h1 (inj _ _ z))]
        by_cases h2 : x = q.2
        · rw [if_pos h2, if_pos (by rw [h2])]
        · rw [if_neg h2, if_neg (fun z => h2 (inj _ _ z))]
    show val c u (v + ch c (fun x => s (trp a b x)) u q) (sw (fun x => s (trp a b x)) q) r = val c u (v + ch c s u (trp a b q.1, trp a b q.2)) (sw s (trp a b q.1, trp a b q.2)) (r.map _)
    rw [e1, e2, val_trp hc r]
theorem sw_trp {s : Nat → Int} {p : Nat × Nat} : sw s p = fun x => s (trp p.1 p.2 x) := by
  funext x
  unfold trp
  show (if x = p.1 then s p.2 else if x = p.2 then s p.1 else s x) = _
  by_cases h1 : x = p.1
  · rw [if_pos h1, if_pos h1]
  · rw [if_neg h1, if_neg h1]
    by_cases h2 : x = p.2
    · rw [if_pos h2, if_pos h2]
    · rw [if_neg h2, if_neg h2]
def plt (p q : Nat × Nat) : Prop := p.1 < q.1 ∨ (p.1 = q.1 ∧ p.2 < q.2)
def pltb (p q : Nat × Nat) : Bool := decide (p.1 < q.1) || (decide (p.1 = q.1) && decide (p.2 < q.2))
theorem pltb_t {p q : Nat × Nat} : pltb p q = true ↔ plt p q := by
  unfold pltb plt
  rw [Bool.or_eq_true, Bool.and_eq_true, decide_eq_true_eq, decide_eq_true_eq, decide_eq_true_eq]
theorem sw_sw {s : Nat → Int} {p : Nat × Nat} : sw (sw s p) p = s := by
  rw [sw_trp (s := sw s p), sw_trp (s := s)]
  funext x
  show s (trp p.1 p.2 (trp p.1 p.2 x)) = s x
  rw [trp_trp]
theorem ch_sw {c s : Nat → Int} {u : Int} {p : Nat × Nat} (h : p.1 ≠ p.2) : ch c s u p + ch c (sw s p) u p = 2 * (u * (c p.1 + c p.2)) := by
  unfold ch sw
  rw [if_pos rfl, if_neg (fun z => h z.symm), if_pos rfl]
  rw [show s p.1 - s p.2 = -(s p.2 - s p.1) by omega, Int.mul_neg]
  omega
/-- exchanges that share no command may change places -/
theorem val_comm {c s : Nat → Int} {u v : Int} {p q : Nat × Nat} {r : List (Nat × Nat)} (h1 : p.1 ≠ q.1) (h2 : p.1 ≠ q.2) (h3 : p.2 ≠ q.1) (h4 : p.2 ≠ q.2) : val c u v s (p :: q :: r) = val c u v s (q :: p :: r) := by
  have e1 : ch c (sw s p) u q = ch c s u q := by
    unfold ch sw
    rw [if_neg (fun z => h2 z.symm), if_neg (fun z => h4 z.symm), if_neg (fun z => h1 z.symm), if_neg (fun z => h3 z.symm)]
  have e2 : ch c (sw s q) u p = ch c s u p := by
    unfold ch sw
    rw [if_neg h3, if_neg h4, if_neg h1, if_neg h2]
  have e3 : sw (sw s p) q = sw (sw s q) p := by
    funext x
    have k1 : sw s p q.2 = s q.2 := by unfold sw; rw [if_neg (fun z => h2 z.symm), if_neg (fun z => h4 z.symm)]
    have k2 : sw s p q.1 = s q.1 := by unfold sw; rw [if_neg (fun z => h1 z.symm), if_neg (fun z => h3 z.symm)]
    have k3 : sw s q p.2 = s p.2 := by unfold sw; rw [if_neg h3, if_neg h4]
    have k4 : sw s q p.1 = s p.1 := by unfold sw; rw [if_neg h1, if_neg h2]
    show (if x = q.1 then sw s p q.2 else if x = q.2 then sw s p q.1 else sw s p x) = (if x = p.1 then sw s q p.2 else if x = p.2 then sw s q p.1 else sw s q x)
    rw [k1, k2, k3, k4]
    by_cases a : x = q.1
    · rw [if_pos a, if_neg (fun z => h1 (z.symm.trans a)), if_neg (fun z => h3 (z.symm.trans a))]
      unfold sw
      rw [if_pos a]
    · rw [if_neg a]
      by_cases b : x = q.2
      · rw [if_pos b, if_neg (fun z => h2 (z.symm.trans b)), if_neg (fun z => h4 (z.symm.trans b))]
        unfold sw
        rw [if_neg a, if_pos b]
      · rw [if_neg b]
        unfold sw
        rw [if_neg a, if_neg b]
  show val c u (v + ch c s u p + ch c (sw s p) u q) (sw (sw s p) q) r = val c u (v + ch c s u q + ch c (sw s q) u p) (sw (sw s q) p) r
  rw [e1, e2, e3, show v + ch c s u p + ch c s u q = v + ch c s u q + ch c s u p by omega]
/-- all rows of r exchanges more, the first of the least kept -/
def scn (c : Nat → Int) (u : Int) (M : List (Nat × Nat)) : Nat → Int → (Nat → Int) → List (Nat × Nat) → Int × List (Nat × Nat) → Int × List (Nat × Nat)
  | 0, v, _, w, b => if v < b.1 then (v, w) else b
  | r + 1, v, s, w, b => M.foldl (fun b p => scn c u M r (v + ch c s u p) (sw s p) (w ++ [p]) b) b
def inM (M r : List (Nat × Nat)) : Prop := ∀ p, p ∈ r → p ∈ M
theorem scn_le {c : Nat → Int} {u : Int} {M : List (Nat × Nat)} : ∀ (r : Nat) (v : Int) (s : Nat → Int) (w : List (Nat × Nat)) (b : Int × List (Nat × Nat)), (scn c u M r v s w b).1 ≤ b.1 ∧ ∀ t, t.length = r → inM M t → (scn c u M r v s w b).1 ≤ val c u v s t := by
  intro r
  induction r with
  | zero =>
    intro v s w b
    show (if v < b.1 then (v, w) else b).1 ≤ b.1 ∧ _
    refine ⟨?_, fun t ht _ => ?_⟩
    · split <;> omega
    · have e : t = [] := List.eq_nil_of_length_eq_zero ht
      subst e
      show (if v < b.1 then (v, w) else b).1 ≤ v
      split <;> omega
  | succ r ih =>
    intro v s w b
    have key : ∀ (N : List (Nat × Nat)) (b : Int × List (Nat × Nat)), (N.foldl (fun b p => scn c u M r (v + ch c s u p) (sw s p) (w ++ [p]) b) b).1 ≤ b.1 ∧ ∀ p, p ∈ N → ∀ t, t.length = r → inM M t → (N.foldl (fun b p => scn c u M r (v + ch c s u p) (sw s p) (w ++ [p]) b) b).1 ≤ val c u v s (p :: t) := by
      intro N
      induction N with
      | nil => intro b; exact ⟨Int.le_refl _, fun p hp => by cases hp⟩
      | cons q N ihN =>
        intro b
        obtain ⟨h1, h2⟩ := ihN (scn c u M r (v + ch c s u q) (sw s q) (w ++ [q]) b)
        obtain ⟨h3, h4⟩ := ih (v + ch c s u q) (sw s q) (w ++ [q]) b
        refine ⟨Int.le_trans h1 h3, fun p hp t ht hm => ?_⟩
        rcases List.mem_cons.mp hp with z | z
        · subst z
          exact Int.le_trans h1 (h4 t ht hm)
        · exact h2 p z t ht hm
    obtain ⟨h1, h2⟩ := key M b
    refine ⟨h1, fun t ht hm => ?_⟩
    cases t with
    | nil => cases ht
    | cons p t => exact h2 p (hm p (List.mem_cons_self ..)) t (by simpa using ht) (fun q hq => hm q (List.mem_cons_of_mem _ hq))
theorem scn_id {c : Nat → Int} {u : Int} {M : List (Nat × Nat)} : ∀ (r : Nat) (v : Int) (s : Nat → Int) (w : List (Nat × Nat)) (b : Int × List (Nat × Nat)), (∀ t, t.length = r → inM M t → b.1 ≤ val c u v s t) → scn c u M r v s w b = b := by
  intro r
  induction r with
  | zero =>
    intro v s w b h
    have := h [] rfl (fun p hp => by cases hp)
    show (if v < b.1 then (v, w) else b) = b
    exact if_neg (by change b.1 ≤ v at this; omega)
  | succ r ih =>
    intro v s w b h
    have key : ∀ (N : List (Nat × Nat)), (∀ p, p ∈ N → p ∈ M) → N.foldl (fun b p => scn c u M r (v + ch c s u p) (sw s p) (w ++ [p]) b) b = b := by
      intro N
      induction N with
      | nil => intro _; rfl
      | cons q N ihN =>
        intro hN
        show N.foldl _ (scn c u M r (v + ch c s u q) (sw s q) (w ++ [q]) b) = b
        rw [ih _ _ _ b (fun t ht hm => h (q :: t) (by simp [ht]) (fun p hp => by
          rcases List.mem_cons.mp hp with z | z
          · subst z; exact hN p (List.mem_cons_self ..)
          · exact hm p z))]
        exact ihN (fun p hp => hN p (List.mem_cons_of_mem _ hp))
    exact key M (fun p hp => hp)
/-- what the class leaves out behind the exchange e -/
def ndl (e p : Nat × Nat) : Bool := decide (p = e) || (pltb p e && !(decide (p.1 = e.1) || decide (p.1 = e.2) || decide (p.2 = e.1) || decide (p.2 = e.2)))
def ndo : Option (Nat × Nat) → Nat × Nat → Bool
  | none, _ => false
  | some e, p => ndl e p
def scC (c : Nat → Int) (u : Int) (M : List (Nat × Nat)) : Nat → Int → (Nat → Int) → List (Nat × Nat) → Option (Nat × Nat) → Int × List (Nat × Nat) → Int × List (Nat × Nat)
  | 0, v, _, w, _, b => if v < b.1 then (v, w) else b
  | r + 1, v, s, w, o, b => M.foldl (fun b p => if ndo o p = true then b else scC c u M r (v + ch c s u p) (sw s p) (w ++ [p]) (some p) b) b
