/-! pure words: what a method's text is turned to; 'none' where the machine would throw, or the fuel is out -/
def gi {α : Type} (i : Int32) (n : Nat) (k : Option α) : Option α := if 0 ≤ i.toInt ∧ i.toInt < (n : Int) then k else none
theorem gi_1 {α : Type} {i : Int32} {n : Nat} {k : Option α} {r : α} (h : gi i n k = some r) : vp_in i n := by
  unfold gi at h
  by_cases q : 0 ≤ i.toInt ∧ i.toInt < (n : Int)
  · exact vp_in_iff.mpr q
  · rw [if_neg q] at h; cases h
theorem gi_2 {α : Type} {i : Int32} {n : Nat} {k : Option α} {r : α} (h : gi i n k = some r) : k = some r := by
  unfold gi at h
  by_cases q : 0 ≤ i.toInt ∧ i.toInt < (n : Int)
  · rw [if_pos q] at h; exact h
  · rw [if_neg q] at h; cases h
theorem gi_in {α : Type} {i : Int32} {n : Nat} {k : Option α} (hi : vp_in i n) : gi i n k = k := by unfold gi; rw [if_pos (vp_in_iff.mp hi)]
theorem gi_nI {α : Type} {j n : Nat} {k : Option α} (h : j < n) (hn : n < 2 ^ 31) : gi (nI j) n k = k := gi_in (vp_in_nI h hn)
/-- a boolean that is handed on: 0 or 1 -/
def gb {α : Type} (x : Int32) (k : Option α) : Option α := if x = 0 ∨ x = 1 then k else none
theorem gb_1 {α : Type} {x : Int32} {k : Option α} {r : α} (h : gb x k = some r) : x = 0 ∨ x = 1 := by
  unfold gb at h
  by_cases q : x = 0 ∨ x = 1
  · exact q
  · rw [if_neg q] at h; cases h
theorem gb_2 {α : Type} {x : Int32} {k : Option α} {r : α} (h : gb x k = some r) : k = some r := by
  unfold gb at h
  by_cases q : x = 0 ∨ x = 1
  · rw [if_pos q] at h; exact h
  · rw [if_neg q] at h; cases h
theorem nar_z {x : Int32} (h : x = 0 ∨ x = 1) : narrow .boolean (.int x) = .int x := by rcases h with rfl | rfl <;> rfl
/-- System.arraycopy's own tests -/
def gc {α : Type} (sp dp n : Int32) (n0 n1 : Nat) (k : Option α) : Option α := if 0 ≤ sp.toInt ∧ 0 ≤ dp.toInt ∧ 0 ≤ n.toInt ∧ sp.toInt + n.toInt ≤ (n0 : Int) ∧ dp.toInt + n.toInt ≤ (n1 : Int) then k else none
def nm {α β : Type} (x : α) (k : α → Option β) : Option β := k x
theorem nm_1 {α β : Type} {x y : α} {k : α → Option β} {r : β} (h : nm x k = some r) (e : y = x) : k y = some r := by subst e; exact h
def ob {α β : Type} (x : Option α) (k : α → Option β) : Option β := match x with
  | none => none
  | some u => k u
theorem ob_1 {α β : Type} {x : Option α} {k : α → Option β} {r : β} (h : ob x k = some r) : ∃ u, x = some u ∧ k u = some r := by
  cases x with
  | none => cases h
  | some u => exact ⟨u, rfl, h⟩
theorem ob_some {α β : Type} {u : α} {k : α → Option β} : ob (some u) k = k u := rfl
def fx {α : Type} (F : α → α) (z : α) : Nat → α
  | 0 => z
  | n + 1 => F (fx F z n)
theorem fx_s {α : Type} (F : α → α) (z : α) (n : Nat) : fx F z (n + 1) = F (fx F z n) := rfl
def FU : Nat := 100000
theorem it_1 {α : Type} {q : Prop} [Decidable q] {x y : Option α} {r : α} (h : (if q then x else y) = some r) (hq : q) : x = some r := by rw [if_pos hq] at h; exact h
theorem it_0 {α : Type} {q : Prop} [Decidable q] {x y : Option α} {r : α} (h : (if q then x else y) = some r) (hq : ¬ q) : y = some r := by rw [if_neg hq] at h; exact h
theorem it_d {α : Type} {q : Prop} [Decidable q] {x y : Option α} {r : α} (h : (if ¬ q then x else y) = some r) (hq : q) : y = some r := by rw [if_neg (fun z => z hq)] at h; exact h
theorem no_s {α β : Type} {r : α} (h : (none : Option α) = some r) : β → False := fun _ => by cases h
theorem lcmp_lt {x y : Int64} : lg_cmp x y < 0 ↔ x < y := by unfold lg_cmp; split <;> (try split) <;> simp_all <;> (first | decide | grind)
theorem lcmp_ge {x y : Int64} : 0 ≤ lg_cmp x y ↔ ¬ x < y := by unfold lg_cmp; split <;> (try split) <;> simp_all <;> (first | decide | grind)
theorem lcmp_eq {x y : Int64} : lg_cmp x y = 0 ↔ x = y := by unfold lg_cmp; split <;> (try split) <;> simp_all <;> (first | decide | grind)
theorem lcmp_gt {x y : Int64} : 0 < lg_cmp x y ↔ y < x := by unfold lg_cmp; split <;> (try split) <;> simp_all <;> (first | decide | grind)
theorem lcmp_le {x y : Int64} : lg_cmp x y ≤ 0 ↔ ¬ y < x := by unfold lg_cmp; split <;> (try split) <;> simp_all <;> (first | decide | grind)
theorem fm_map {α : Type} {f : Nat → Option α} : ∀ {l : List Nat} {w : List α}, l.map f = w.map some → l.filterMap f = w
  | [], [], _ => rfl
  | [], _ :: _, h => by cases h
  | _ :: _, [], h => by cases h
  | i :: l, x :: w, h => by
    rw [List.map_cons, List.map_cons] at h
    injection h with h1 h2
    rw [List.filterMap_cons_some h1, fm_map h2]
/-! contracts' words: six array classes, one world before and one behind -/
abbrev TY (cy : Nat → ClassId) : List (ClassId × FieldType) := [(cy 0, .int), (cy 1, .long), (cy 2, .byte), (cy 3, .boolean), (cy 4, .array .int), (cy 5, .array .long)]
def Pw (D : va_G) (cy : Nat → ClassId) (sz : Nat) (ws : va_W) (U : State) : Prop := U.heap.size = sz ∧ va_P D vwCl ws U.heap ∧ va_K D vwCl (TY cy) U ∧ va_D (fun _ => True) ws
def Bw (D : va_G) (cy : Nat → ClassId) (A : Nat → Prop) (ws : va_W) (_ : Unit) (t : State) : Prop := va_P D vwCl ws t.heap ∧ va_K D vwCl (TY cy) t ∧ va_D A ws
def QI (D : va_G) (cy : Nat → ClassId) (A : Nat → Prop) (r0 : Int32) (ws' : va_W) : Array Value → State → Outcome → State → Prop := va_Qi (fun r (_ : Unit) => r = r0) (Bw D cy A ws') A
def QL (D : va_G) (cy : Nat → ClassId) (A : Nat → Prop) (r0 : Int64) (ws' : va_W) : Array Value → State → Outcome → State → Prop := va_Ql (fun r (_ : Unit) => r = r0) (Bw D cy A ws') A
def QV (D : va_G) (cy : Nat → ClassId) (A : Nat → Prop) (ws' : va_W) : Array Value → State → Outcome → State → Prop := va_Qv (fun (_ : Unit) => True) (Bw D cy A ws') A
def MI (l : Launch) (y : MethodName) (w : List Cond) (rm : Room) (D : va_G) (cy : Nat → ClassId) (av : List Value) (sz : Nat) (ws : va_W) (r0 : Int32) (ws' : va_W) : Prop := Met l y w rm (va_Pc av (Pw D cy sz ws)) (QI D cy (va_A ws sz) r0 ws') rm.cells rm.slots (va_A ws sz)
def ML (l : Launch) (y : MethodName) (w : List Cond) (rm : Room) (D : va_G) (cy : Nat → ClassId) (av : List Value) (sz : Nat) (ws : va_W) (r0 : Int64) (ws' : va_W) : Prop := Met l y w rm (va_Pc av (Pw D cy sz ws)) (QL D cy (va_A ws sz) r0 ws') rm.cells rm.slots (va_A ws sz)
def MV (l : Launch) (y : MethodName) (w : List Cond) (rm : Room) (D : va_G) (cy : Nat → ClassId) (av : List Value) (sz : Nat) (ws : va_W) (ws' : va_W) : Prop := Met l y w rm (va_Pc av (Pw D cy sz ws)) (QV D cy (va_A ws sz) ws') rm.cells rm.slots (va_A ws sz)
theorem ret1 {α : Type} {a b : α} (h : some a = some b) : a = b := Option.some.inj h
theorem ret2 {α0 α1 : Type} {a0 b0 : α0} {a1 b1 : α1} (h : some (a0, a1) = some (b0, b1)) : a0 = b0 ∧ a1 = b1 := by
  injection h with h
  injection h with e0 h
  exact ⟨e0, h⟩
def ob2 {α0 α1 β : Type} (x : Option (α0 × α1)) (k : α0 → α1 → Option β) : Option β := match x with
  | none => none
  | some (a0, a1) => k a0 a1
theorem ob2_1 {α0 α1 β : Type} {x : Option (α0 × α1)} {k : α0 → α1 → Option β} {r : β} (h : ob2 x k = some r) : ∃ a0 a1, x = some (a0, a1) ∧ k a0 a1 = some r := by
  cases x with
  | none => cases h
  | some u => obtain ⟨a0, a1⟩ := u; exact ⟨a0, a1, rfl, h⟩
theorem ret3 {α0 α1 α2 : Type} {a0 b0 : α0} {a1 b1 : α1} {a2 b2 : α2} (h : some (a0, a1, a2) = some (b0, b1, b2)) : a0 = b0 ∧ a1 = b1 ∧ a2 = b2 := by
  injection h with h
  injection h with e0 h
  injection h with e1 h
  exact ⟨e0, e1, h⟩
def ob3 {α0 α1 α2 β : Type} (x : Option (α0 × α1 × α2)) (k : α0 → α1 → α2 → Option β) : Option β := match x with
  | none => none
  | some (a0, a1, a2) => k a0 a1 a2
theorem ob3_1 {α0 α1 α2 β : Type} {x : Option (α0 × α1 × α2)} {k : α0 → α1 → α2 → Option β} {r : β} (h : ob3 x k = some r) : ∃ a0 a1 a2, x = some (a0, a1, a2) ∧ k a0 a1 a2 = some r := by
  cases x with
  | none => cases h
  | some u => obtain ⟨a0, a1, a2⟩ := u; exact ⟨a0, a1, a2, rfl, h⟩
theorem ret4 {α0 α1 α2 α3 : Type} {a0 b0 : α0} {a1 b1 : α1} {a2 b2 : α2} {a3 b3 : α3} (h : some (a0, a1, a2, a3) = some (b0, b1, b2, b3)) : a0 = b0 ∧ a1 = b1 ∧ a2 = b2 ∧ a3 = b3 := by
  injection h with h
  injection h with e0 h
  injection h with e1 h
  injection h with e2 h
  exact ⟨e0, e1, e2, h⟩
def ob4 {α0 α1 α2 α3 β : Type} (x : Option (α0 × α1 × α2 × α3)) (k : α0 → α1 → α2 → α3 → Option β) : Option β := match x with
  | none => none
  | some (a0, a1, a2, a3) => k a0 a1 a2 a3
theorem ob4_1 {α0 α1 α2 α3 β : Type} {x : Option (α0 × α1 × α2 × α3)} {k : α0 → α1 → α2 → α3 → Option β} {r : β} (h : ob4 x k = some r) : ∃ a0 a1 a2 a3, x = some (a0, a1, a2, a3) ∧ k a0 a1 a2 a3 = some r := by
  cases x with
  | none => cases h
  | some u => obtain ⟨a0, a1, a2, a3⟩ := u; exact ⟨a0, a1, a2, a3, rfl, h⟩
theorem ret5 {α0 α1 α2 α3 α4 : Type} {a0 b0 : α0} {a1 b1 : α1} {a2 b2 : α2} {a3 b3 : α3} {a4 b4 : α4} (h : some (a0, a1, a2, a3, a4) = some (b0, b1, b2, b3, b4)) : a0 = b0 ∧ a1 = b1 ∧ a2 = b2 ∧ a3 = b3 ∧ a4 = b4 := by
  injection h with h
  injection h with e0 h
  injection h with e1 h
  injection h with e2 h
  injection h with e3 h
  exact ⟨e0, e1, e2, e3, h⟩
def ob5 {α0 α1 α2 α3 α4 β : Type} (x : Option (α0 × α1 × α2 × α3 × α4)) (k : α0 → α1 → α2 → α3 → α4 → Option β) : Option β := match x with
  | none => none
  | some (a0, a1, a2, a3, a4) => k a0 a1 a2 a3 a4
theorem ob5_1 {α0 α1 α2 α3 α4 β : Type} {x : Option (α0 × α1 × α2 × α3 × α4)} {k : α0 → α1 → α2 → α3 → α4 → Option β} {r : β} (h : ob5 x k = some r) : ∃ a0 a1 a2 a3 a4, x = some (a0, a1, a2, a3, a4) ∧ k a0 a1 a2 a3 a4 = some r := by
  cases x with
  | none => cases h
  | some u => obtain ⟨a0, a1, a2, a3, a4⟩ := u; exact ⟨a0, a1, a2, a3, a4, rfl, h⟩
theorem ret6 {α0 α1 α2 α3 α4 α5 : Type} {a0 b0 : α0} {a1 b1 : α1} {a2 b2 : α2} {a3 b3 : α3} {a4 b4 : α4} {a5 b5 : α5} (h : some (a0, a1, a2, a3, a4, a5) = some (b0, b1, b2, b3, b4, b5)) : a0 = b0 ∧ a1 = b1 ∧ a2 = b2 ∧ a3 = b3 ∧ a4 = b4 ∧ a5 = b5 := by
  injection h with h
  injection h with e0 h
  injection h with e1 h
  injection h with e2 h
  injection h with e3 h
  injection h with e4 h
  exact ⟨e0, e1, e2, e3, e4, h⟩
def ob6 {α0 α1 α2 α3 α4 α5 β : Type} (x : Option (α0 × α1 × α2 × α3 × α4 × α5)) (k : α0 → α1 → α2 → α3 → α4 → α5 → Option β) : Option β := match x with
  | none => none
  | some (a0, a1, a2, a3, a4, a5) => k a0 a1 a2 a3 a4 a5
theorem ob6_1 {α0 α1 α2 α3 α4 α5 β : Type} {x : Option (α0 × α1 × α2 × α3 × α4 × α5)} {k : α0 → α1 → α2 → α3 → α4 → α5 → Option β} {r : β} (h : ob6 x k = some r) : ∃ a0 a1 a2 a3 a4 a5, x = some (a0, a1, a2, a3, a4, a5) ∧ k a0 a1 a2 a3 a4 a5 = some r := by
  cases x with
  | none => cases h
  | some u => obtain ⟨a0, a1, a2, a3, a4, a5⟩ := u; exact ⟨a0, a1, a2, a3, a4, a5, rfl, h⟩
theorem ret7 {α0 α1 α2 α3 α4 α5 α6 : Type} {a0 b0 : α0} {a1 b1 : α1} {a2 b2 : α2} {a3 b3 : α3} {a4 b4 : α4} {a5 b5 : α5} {a6 b6 : α6} (h : some (a0, a1, a2, a3, a4, a5, a6) = some (b0, b1, b2, b3, b4, b5, b6)) : a0 = b0 ∧ a1 = b1 ∧ a2 = b2 ∧ a3 = b3 ∧ a4 = b4 ∧ a5 = b5 ∧ a6 = b6 := by
  injection h with h
  injection h with e0 h
  injection h with e1 h
  injection h with e2 h
  injection h with e3 h
  injection h with e4 h
  injection h with e5 h
  exact ⟨e0, e1, e2, e3, e4, e5, h⟩
def ob7 {α0 α1 α2 α3 α4 α5 α6 β : Type} (x : Option (α0 × α1 × α2 × α3 × α4 × α5 × α6)) (k : α0 → α1 → α2 → α3 → α4 → α5 → α6 → Option β) : Option β := match x with
  | none => none
  | some (a0, a1, a2, a3, a4, a5, a6) => k a0 a1 a2 a3 a4 a5 a6
theorem ob7_1 {α0 α1 α2 α3 α4 α5 α6 β : Type} {x : Option (α0 × α1 × α2 × α3 × α4 × α5 × α6)} {k : α0 → α1 → α2 → α3 → α4 → α5 → α6 → Option β} {r : β} (h : ob7 x k = some r) : ∃ a0 a1 a2 a3 a4 a5 a6, x = some (a0, a1, a2, a3, a4, a5, a6) ∧ k a0 a1 a2 a3 a4 a5 a6 = some r := by
  cases x with
  | none => cases h
  | some u => obtain ⟨a0, a1, a2, a3, a4, a5, a6⟩ := u; exact ⟨a0, a1, a2, a3, a4, a5, a6, rfl, h⟩
theorem ret8 {α0 α1 α2 α3 α4 α5 α6 α7 : Type} {a0 b0 : α0} {a1 b1 : α1} {a2 b2 : α2} {a3 b3 : α3} {a4 b4 : α4} {a5 b5 : α5} {a6 b6 : α6} {a7 b7 : α7} (h : some (a0, a1, a2, a3, a4, a5, a6, a7) = some (b0, b1, b2, b3, b4, b5, b6, b7)) : a0 = b0 ∧ a1 = b1 ∧ a2 = b2 ∧ a3 = b3 ∧ a4 = b4 ∧ a5 = b5 ∧ a6 = b6 ∧ a7 = b7 := by
  injection h with h
  injection h with e0 h
  injection h with e1 h
  injection h with e2 h
  injection h with e3 h
  injection h with e4 h
  injection h with e5 h
  injection h with e6 h
  exact ⟨e0, e1, e2, e3, e4, e5, e6, h⟩
def ob8 {α0 α1 α2 α3 α4 α5 α6 α7 β : Type} (x : Option (α0 × α1 × α2 × α3 × α4 × α5 × α6 × α7)) (k : α0 → α1 → α2 → α3 → α4 → α5 → α6 → α7 → Option β) : Option β := match x with
  | none => none
  | some (a0, a1, a2, a3, a4, a5, a6, a7) => k a0 a1 a2 a3 a4 a5 a6 a7
theorem ob8_1 {α0 α1 α2 α3 α4 α5 α6 α7 β : Type} {x : Option (α0 × α1 × α2 × α3 × α4 × α5 × α6 × α7)} {k : α0 → α1 → α2 → α3 → α4 → α5 → α6 → α7 → Option β} {r : β} (h : ob8 x k = some r) : ∃ a0 a1 a2 a3 a4 a5 a6 a7, x = some (a0, a1, a2, a3, a4, a5, a6, a7) ∧ k a0 a1 a2 a3 a4 a5 a6 a7 = some r := by
  cases x with
  | none => cases h
  | some u => obtain ⟨a0, a1, a2, a3, a4, a5, a6, a7⟩ := u; exact ⟨a0, a1, a2, a3, a4, a5, a6, a7, rfl, h⟩
theorem ret9 {α0 α1 α2 α3 α4 α5 α6 α7 α8 : Type} {a0 b0 : α0} {a1 b1 : α1} {a2 b2 : α2} {a3 b3 : α3} {a4 b4 : α4} {a5 b5 : α5} {a6 b6 : α6} {a7 b7 : α7} {a8 b8 : α8} (h : some (a0, a1, a2, a3, a4, a5, a6, a7, a8) = some (b0, b1, b2, b3, b4, b5, b6, b7, b8)) : a0 = b0 ∧ a1 = b1 ∧ a2 = b2 ∧ a3 = b3 ∧ a4 = b4 ∧ a5 = b5 ∧ a6 = b6 ∧ a7 = b7 ∧ a8 = b8 := by
  injection h with h
  injection h with e0 h
  injection h with e1 h
  injection h with e2 h
  injection h with e3 h
  injection h with e4 h
  injection h with e5 h
  injection h with e6 h
  injection h with e7 h
  exact ⟨e0, e1, e2, e3, e4, e5, e6, e7, h⟩
def ob9 {α0 α1 α2 α3 α4 α5 α6 α7 α8 β : Type} (x : Option (α0 × α1 × α2 × α3 × α4 × α5 × α6 × α7 × α8)) (k : α0 → α1 → α2 → α3 → α4 → α5 → α6 → α7 → α8 → Option β) : Option β := match x with
  | none => none
  | some (a0, a1, a2, a3, a4, a5, a6, a7, a8) => k a0 a1 a2 a3 a4 a5 a6 a7 a8
theorem ob9_1 {α0 α1 α2 α3 α4 α5 α6 α7 α8 β : Type} {x : Option (α0 × α1 × α2 × α3 × α4 × α5 × α6 × α7 × α8)} {k : α0 → α1 → α2 → α3 → α4 → α5 → α6 → α7 → α8 → Option β} {r : β} (h : ob9 x k = some r) : ∃ a0 a1 a2 a3 a4 a5 a6 a7 a8, x = some (a0, a1, a2, a3, a4, a5, a6, a7, a8) ∧ k a0 a1 a2 a3 a4 a5 a6 a7 a8 = some r := by
  cases x with
  | none => cases h
  | some u => obtain ⟨a0, a1, a2, a3, a4, a5, a6, a7, a8⟩ := u; exact ⟨a0, a1, a2, a3, a4, a5, a6, a7, a8, rfl, h⟩
theorem ret10 {α0 α1 α2 α3 α4 α5 α6 α7 α8 α9 : Type} {a0 b0 : α0} {a1 b1 : α1} {a2 b2 : α2} {a3 b3 : α3} {a4 b4 : α4} {a5 b5 : α5} {a6 b6 : α6} {a7 b7 : α7} {a8 b8 : α8} {a9 b9 : α9} (h : some (a0, a1, a2, a3, a4, a5, a6, a7, a8, a9) = some (b0, b1, b2, b3, b4, b5, b6, b7, b8, b9)) : a0 = b0 ∧ a1 = b1 ∧ a2 = b2 ∧ a3 = b3 ∧ a4 = b4 ∧ a5 = b5 ∧ a6 = b6 ∧ a7 = b7 ∧ a8 = b8 ∧ a9 = b9 := by
  injection h with h
  injection h with e0 h
  injection h with e1 h
  injection h with e2 h
  injection h with e3 h
  injection h with e4 h
  injection h with e5 h
  injection h with e6 h
  injection h with e7 h
  injection h with e8 h
  exact ⟨e0, e1, e2, e3, e4, e5, e6, e7, e8, h⟩
def ob10 {α0 α1 α2 α3 α4 α5 α6 α7 α8 α9 β : Type} (x : Option (α0 × α1 × α2 × α3 × α4 × α5 × α6 × α7 × α8 × α9)) (k : α0 → α1 → α2 → α3 → α4 → α5 → α6 → α7 → α8 → α9 → Option β) : Option β := match x with
  | none => none
  | some (a0, a1, a2, a3, a4, a5, a6, a7, a8, a9) => k a0 a1 a2 a3 a4 a5 a6 a7 a8 a9
theorem ob10_1 {α0 α1 α2 α3 α4 α5 α6 α7 α8 α9 β : Type} {x : Option (α0 × α1 × α2 × α3 × α4 × α5 × α6 × α7 × α8 × α9)} {k : α0 → α1 → α2 → α3 → α4 → α5 → α6 → α7 → α8 → α9 → Option β} {r : β} (h : ob10 x k = some r) : ∃ a0 a1 a2 a3 a4 a5 a6 a7 a8 a9, x = some (a0, a1, a2, a3, a4, a5, a6, a7, a8, a9) ∧ k a0 a1 a2 a3 a4 a5 a6 a7 a8 a9 = some r := by
  cases x with
  | none => cases h
  | some u => obtain ⟨a0, a1, a2, a3, a4, a5, a6, a7, a8, a9⟩ := u; exact ⟨a0, a1, a2, a3, a4, a5, a6, a7, a8, a9, rfl, h⟩
theorem ret11 {α0 α1 α2 α3 α4 α5 α6 α7 α8 α9 α10 : Type} {a0 b0 : α0} {a1 b1 : α1} {a2 b2 : α2} {a3 b3 : α3} {a4 b4 : α4} {a5 b5 : α5} {a6 b6 : α6} {a7 b7 : α7} {a8 b8 : α8} {a9 b9 : α9} {a10 b10 : α10} (h : some (a0, a1, a2, a3, a4, a5, a6, a7, a8, a9, a10) = some (b0, b1, b2, b3, b4, b5, b6, b7, b8, b9, b10)) : a0 = b0 ∧ a1 = b1 ∧ a2 = b2 ∧ a3 = b3 ∧ a4 = b4 ∧ a5 = b5 ∧ a6 = b6 ∧ a7 = b7 ∧ a8 = b8 ∧ a9 = b9 ∧ a10 = b10 := by
  injection h with h
  injection h with e0 h
  injection h with e1 h
  injection h with e2 h
  injection h with e3 h
  injection h with e4 h
  injection h with e5 h
  injection h with e6 h
  injection h with e7 h
  injection h with e8 h
  injection h with e9 h
  exact ⟨e0, e1, e2, e3, e4, e5, e6, e7, e8, e9, h⟩
def ob11 {α0 α1 α2 α3 α4 α5 α6 α7 α8 α9 α10 β : Type} (x : Option (α0 × α1 × α2 × α3 × α4 × α5 × α6 × α7 × α8 × α9 × α10)) (k : α0 → α1 → α2 → α3 → α4 → α5 → α6 → α7 → α8 → α9 → α10 → Option β) : Option β := match x with
  | none => none
  | some (a0, a1, a2, a3, a4, a5, a6, a7, a8, a9, a10) => k a0 a1 a2 a3 a4 a5 a6 a7 a8 a9 a10
theorem ob11_1 {α0 α1 α2 α3 α4 α5 α6 α7 α8 α9 α10 β : Type} {x : Option (α0 × α1 × α2 × α3 × α4 × α5 × α6 × α7 × α8 × α9 × α10)} {k : α0 → α1 → α2 → α3 → α4 → α5 → α6 → α7 → α8 → α9 → α10 → Option β} {r : β} (h : ob11 x k = some r) : ∃ a0 a1 a2 a3 a4 a5 a6 a7 a8 a9 a10, x = some (a0, a1, a2, a3, a4, a5, a6, a7, a8, a9, a10) ∧ k a0 a1 a2 a3 a4 a5 a6 a7 a8 a9 a10 = some r := by
  cases x with
  | none => cases h
  | some u => obtain ⟨a0, a1, a2, a3, a4, a5, a6, a7, a8, a9, a10⟩ := u; exact ⟨a0, a1, a2, a3, a4, a5, a6, a7, a8, a9, a10, rfl, h⟩
theorem ret12 {α0 α1 α2 α3 α4 α5 α6 α7 α8 α9 α10 α11 : Type} {a0 b0 : α0} {a1 b1 : α1} {a2 b2 : α2} {a3 b3 : α3} {a4 b4 : α4} {a5 b5 : α5} {a6 b6 : α6} {a7 b7 : α7} {a8 b8 : α8} {a9 b9 : α9} {a10 b10 : α10} {a11 b11 : α11} (h : some (a0, a1, a2, a3, a4, a5, a6, a7, a8, a9, a10, a11) = some (b0, b1, b2, b3, b4, b5, b6, b7, b8, b9, b10, b11)) : a0 = b0 ∧ a1 = b1 ∧ a2 = b2 ∧ a3 = b3 ∧ a4 = b4 ∧ a5 = b5 ∧ a6 = b6 ∧ a7 = b7 ∧ a8 = b8 ∧ a9 = b9 ∧ a10 = b10 ∧ a11 = b11 := by
  injection h with h
  injection h with e0 h
  injection h with e1 h
  injection h with e2 h
  injection h with e3 h
  injection h with e4 h
  injection h with e5 h
  injection h with e6 h
  injection h with e7 h
  injection h with e8 h
  injection h with e9 h
  injection h with e10 h
  exact ⟨e0, e1, e2, e3, e4, e5, e6, e7, e8, e9, e10, h⟩
def ob12 {α0 α1 α2 α3 α4 α5 α6 α7 α8 α9 α10 α11 β : Type} (x : Option (α0 × α1 × α2 × α3 × α4 × α5 × α6 × α7 × α8 × α9 × α10 × α11)) (k : α0 → α1 → α2 → α3 → α4 → α5 → α6 → α7 → α8 → α9 → α10 → α11 → Option β) : Option β := match x with
  | none => none
  | some (a0, a1, a2, a3, a4, a5, a6, a7, a8, a9, a10, a11) => k a0 a1 a2 a3 a4 a5 a6 a7 a8 a9 a10 a11
theorem ob12_1 {α0 α1 α2 α3 α4 α5 α6 α7 α8 α9 α10 α11 β : Type} {x : Option (α0 × α1 × α2 × α3 × α4 × α5 × α6 × α7 × α8 × α9 × α10 × α11)} {k : α0 → α1 → α2 → α3 → α4 → α5 → α6 → α7 → α8 → α9 → α10 → α11 → Option β} {r : β} (h : ob12 x k = some r) : ∃ a0 a1 a2 a3 a4 a5 a6 a7 a8 a9 a10 a11, x = some (a0, a1, a2, a3, a4, a5, a6, a7, a8, a9, a10, a11) ∧ k a0 a1 a2 a3 a4 a5 a6 a7 a8 a9 a10 a11 = some r := by
  cases x with
  | none => cases h
  | some u => obtain ⟨a0, a1, a2, a3, a4, a5, a6, a7, a8, a9, a10, a11⟩ := u; exact ⟨a0, a1, a2, a3, a4, a5, a6, a7, a8, a9, a10, a11, rfl, h⟩
theorem ret13 {α0 α1 α2 α3 α4 α5 α6 α7 α8 α9 α10 α11 α12 : Type} {a0 b0 : α0} {a1 b1 : α1} {a2 b2 : α2} {a3 b3 : α3} {a4 b4 : α4} {a5 b5 : α5} {a6 b6 : α6} {a7 b7 : α7} {a8 b8 : α8} {a9 b9 : α9} {a10 b10 : α10} {a11 b11 : α11} {a12 b12 : α12} (h : some (a0, a1, a2, a3, a4, a5, a6, a7, a8, a9, a10, a11, a12) = some (b0, b1, b2, b3, b4, b5, b6, b7, b8, b9, b10, b11, b12)) : a0 = b0 ∧ a1 = b1 ∧ a2 = b2 ∧ a3 = b3 ∧ a4 = b4 ∧ a5 = b5 ∧ a6 = b6 ∧ a7 = b7 ∧ a8 = b8 ∧ a9 = b9 ∧ a10 = b10 ∧ a11 = b11 ∧ a12 = b12 := by
  injection h with h
  injection h with e0 h
  injection h with e1 h
  injection h with e2 h
  injection h with e3 h
  injection h with e4 h
  injection h with e5 h
  injection h with e6 h
  injection h with e7 h
  injection h with e8 h
  injection h with e9 h
  injection h with e10 h
  injection h with e11 h
  exact ⟨e0, e1, e2, e3, e4, e5, e6, e7, e8, e9, e10, e11, h⟩
def ob13 {α0 α1 α2 α3 α4 α5 α6 α7 α8 α9 α10 α11 α12 β : Type} (x : Option (α0 × α1 × α2 × α3 × α4 × α5 × α6 × α7 × α8 × α9 × α10 × α11 × α12)) (k : α0 → α1 → α2 → α3 → α4 → α5 → α6 → α7 → α8 → α9 → α10 → α11 → α12 → Option β) : Option β := match x with
  | none => none
  | some (a0, a1, a2, a3, a4, a5, a6, a7, a8, a9, a10, a11, a12) => k a0 a1 a2 a3 a4 a5 a6 a7 a8 a9 a10 a11 a12
theorem ob13_1 {α0 α1 α2 α3 α4 α5 α6 α7 α8 α9 α10 α11 α12 β : Type} {x : Option (α0 × α1 × α2 × α3 × α4 × α5 × α6 × α7 × α8 × α9 × α10 × α11 × α12)} {k : α0 → α1 → α2 → α3 → α4 → α5 → α6 → α7 → α8 → α9 → α10 → α11 → α12 → Option β} {r : β} (h : ob13 x k = some r) : ∃ a0 a1 a2 a3 a4 a5 a6 a7 a8 a9 a10 a11 a12, x = some (a0, a1, a2, a3, a4, a5, a6, a7, a8, a9, a10, a11, a12) ∧ k a0 a1 a2 a3 a4 a5 a6 a7 a8 a9 a10 a11 a12 = some r := by
  cases x with
  | none => cases h
  | some u => obtain ⟨a0, a1, a2, a3, a4, a5, a6, a7, a8, a9, a10, a11, a12⟩ := u; exact ⟨a0, a1, a2, a3, a4, a5, a6, a7, a8, a9, a10, a11, a12, rfl, h⟩
theorem ret14 {α0 α1 α2 α3 α4 α5 α6 α7 α8 α9 α10 α11 α12 α13 : Type} {a0 b0 : α0} {a1 b1 : α1} {a2 b2 : α2} {a3 b3 : α3} {a4 b4 : α4} {a5 b5 : α5} {a6 b6 : α6} {a7 b7 : α7} {a8 b8 : α8} {a9 b9 : α9} {a10 b10 : α10} {a11 b11 : α11} {a12 b12 : α12} {a13 b13 : α13} (h : some (a0, a1, a2, a3, a4, a5, a6, a7, a8, a9, a10, a11, a12, a13) = some (b0, b1, b2, b3, b4, b5, b6, b7, b8, b9, b10, b11, b12, b13)) : a0 = b0 ∧ a1 = b1 ∧ a2 = b2 ∧ a3 = b3 ∧ a4 = b4 ∧ a5 = b5 ∧ a6 = b6 ∧ a7 = b7 ∧ a8 = b8 ∧ a9 = b9 ∧ a10 = b10 ∧ a11 = b11 ∧ a12 = b12 ∧ a13 = b13 := by
  injection h with h
  injection h with e0 h
  injection h with e1 h
  injection h with e2 h
  injection h with e3 h
  injection h with e4 h
  injection h with e5 h
  injection h with e6 h
  injection h with e7 h
  injection h with e8 h
  injection h with e9 h
  injection h with e10 h
  injection h with e11 h
  injection h with e12 h
  exact ⟨e0, e1, e2, e3, e4, e5, e6, e7, e8, e9, e10, e11, e12, h⟩
def ob14 {α0 α1 α2 α3 α4 α5 α6 α7 α8 α9 α10 α11 α12 α13 β : Type} (x : Option (α0 × α1 × α2 × α3 × α4 × α5 × α6 × α7 × α8 × α9 × α10 × α11 × α12 × α13)) (k : α0 → α1 → α2 → α3 → α4 → α5 → α6 → α7 → α8 → α9 → α10 → α11 → α12 → α13 → Option β) : Option β := match x with
  | none => none
  | some (a0, a1, a2, a3, a4, a5, a6, a7, a8, a9, a10, a11, a12, a13) => k a0 a1 a2 a3 a4 a5 a6 a7 a8 a9 a10 a11 a12 a13
theorem ob14_1 {α0 α1 α2 α3 α4 α5 α6 α7 α8 α9 α10 α11 α12 α13 β : Type} {x : Option (α0 × α1 × α2 × α3 × α4 × α5 × α6 × α7 × α8 × α9 × α10 × α11 × α12 × α13)} {k : α0 → α1 → α2 → α3 → α4 → α5 → α6 → α7 → α8 → α9 → α10 → α11 → α12 → α13 → Option β} {r : β} (h : ob14 x k = some r) : ∃ a0 a1 a2 a3 a4 a5 a6 a7 a8 a9 a10 a11 a12 a13, x = some (a0, a1, a2, a3, a4, a5, a6, a7, a8, a9, a10, a11, a12, a13) ∧ k a0 a1 a2 a3 a4 a5 a6 a7 a8 a9 a10 a11 a12 a13 = some r := by
  cases x with
  | none => cases h
  | some u => obtain ⟨a0, a1, a2, a3, a4, a5, a6, a7, a8, a9, a10, a11, a12, a13⟩ := u; exact ⟨a0, a1, a2, a3, a4, a5, a6, a7, a8, a9, a10, a11, a12, a13, rfl, h⟩
theorem ret15 {α0 α1 α2 α3 α4 α5 α6 α7 α8 α9 α10 α11 α12 α13 α14 : Type} {a0 b0 : α0} {a1 b1 : α1} {a2 b2 : α2} {a3 b3 : α3} {a4 b4 : α4} {a5 b5 : α5} {a6 b6 : α6} {a7 b7 : α7} {a8 b8 : α8} {a9 b9 : α9} {a10 b10 : α10} {a11 b11 : α11} {a12 b12 : α12} {a13 b13 : α13} {a14 b14 : α14} (h : some (a0, a1, a2, a3, a4, a5, a6, a7, a8, a9, a10, a11, a12, a13, a14) = some (b0, b1, b2, b3, b4, b5, b6, b7, b8, b9, b10, b11, b12, b13, b14)) : a0 = b0 ∧ a1 = b1 ∧ a2 = b2 ∧ a3 = b3 ∧ a4 = b4 ∧ a5 = b5 ∧ a6 = b6 ∧ a7 = b7 ∧ a8 = b8 ∧ a9 = b9 ∧ a10 = b10 ∧ a11 = b11 ∧ a12 = b12 ∧ a13 = b13 ∧ a14 = b14 := by
  injection h with h
  injection h with e0 h
  injection h with e1 h
  injection h with e2 h
  injection h with e3 h
  injection h with e4 h
  injection h with e5 h
  injection h with e6 h
  injection h with e7 h
  injection h with e8 h
  injection h with e9 h
  injection h with e10 h
  injection h with e11 h
  injection h with e12 h
  injection h with e13 h
  exact ⟨e0, e1, e2, e3, e4, e5, e6, e7, e8, e9, e10, e11, e12, e13, h⟩
def ob15 {α0 α1 α2 α3 α4 α5 α6 α7 α8 α9 α10 α11 α12 α13 α14 β : Type} (x : Option (α0 × α1 × α2 × α3 × α4 × α5 × α6 × α7 × α8 × α9 × α10 × α11 × α12 × α13 × α14)) (k : α0 → α1 → α2 → α3 → α4 → α5 → α6 → α7 → α8 → α9 → α10 → α11 → α12 → α13 → α14 → Option β) : Option β := match x with
  | none => none
  | some (a0, a1, a2, a3, a4, a5, a6, a7, a8, a9, a10, a11, a12, a13, a14) => k a0 a1 a2 a3 a4 a5 a6 a7 a8 a9 a10 a11 a12 a13 a14
theorem ob15_1 {α0 α1 α2 α3 α4 α5 α6 α7 α8 α9 α10 α11 α12 α13 α14 β : Type} {x : Option (α0 × α1 × α2 × α3 × α4 × α5 × α6 × α7 × α8 × α9 × α10 × α11 × α12 × α13 × α14)} {k : α0 → α1 → α2 → α3 → α4 → α5 → α6 → α7 → α8 → α9 → α10 → α11 → α12 → α13 → α14 → Option β} {r : β} (h : ob15 x k = some r) : ∃ a0 a1 a2 a3 a4 a5 a6 a7 a8 a9 a10 a11 a12 a13 a14, x = some (a0, a1, a2, a3, a4, a5, a6, a7, a8, a9, a10, a11, a12, a13, a14) ∧ k a0 a1 a2 a3 a4 a5 a6 a7 a8 a9 a10 a11 a12 a13 a14 = some r := by
  cases x with
  | none => cases h
  | some u => obtain ⟨a0, a1, a2, a3, a4, a5, a6, a7, a8, a9, a10, a11, a12, a13, a14⟩ := u; exact ⟨a0, a1, a2, a3, a4, a5, a6, a7, a8, a9, a10, a11, a12, a13, a14, rfl, h⟩
theorem ret16 {α0 α1 α2 α3 α4 α5 α6 α7 α8 α9 α10 α11 α12 α13 α14 α15 : Type} {a0 b0 : α0} {a1 b1 : α1} {a2 b2 : α2} {a3 b3 : α3} {a4 b4 : α4} {a5 b5 : α5} {a6 b6 : α6} {a7 b7 : α7} {a8 b8 : α8} {a9 b9 : α9} {a10 b10 : α10} {a11 b11 : α11} {a12 b12 : α12} {a13 b13 : α13} {a14 b14 : α14} {a15 b15 : α15} (h : some (a0, a1, a2, a3, a4, a5, a6, a7, a8, a9, a10, a11, a12, a13, a14, a15) = some (b0, b1, b2, b3, b4, b5, b6, b7, b8, b9, b10, b11, b12, b13, b14, b15)) : a0 = b0 ∧ a1 = b1 ∧ a2 = b2 ∧ a3 = b3 ∧ a4 = b4 ∧ a5 = b5 ∧ a6 = b6 ∧ a7 = b7 ∧ a8 = b8 ∧ a9 = b9 ∧ a10 = b10 ∧ a11 = b11 ∧ a12 = b12 ∧ a13 = b13 ∧ a14 = b14 ∧ a15 = b15 := by
  injection h with h
  injection h with e0 h
  injection h with e1 h
  injection h with e2 h
  injection h with e3 h
  injection h with e4 h
  injection h with e5 h
  injection h with e6 h
  injection h with e7 h
  injection h with e8 h
  injection h with e9 h
  injection h with e10 h
  injection h with e11 h
  injection h with e12 h
  injection h with e13 h
  injection h with e14 h
  exact ⟨e0, e1, e2, e3, e4, e5, e6, e7, e8, e9, e10, e11, e12, e13, e14, h⟩
def ob16 {α0 α1 α2 α3 α4 α5 α6 α7 α8 α9 α10 α11 α12 α13 α14 α15 β : Type} (x : Option (α0 × α1 × α2 × α3 × α4 × α5 × α6 × α7 × α8 × α9 × α10 × α11 × α12 × α13 × α14 × α15)) (k : α0 → α1 → α2 → α3 → α4 → α5 → α6 → α7 → α8 → α9 → α10 → α11 → α12 → α13 → α14 → α15 → Option β) : Option β := match x with
  | none => none
  | some (a0, a1, a2, a3, a4, a5, a6, a7, a8, a9, a10, a11, a12, a13, a14, a15) => k a0 a1 a2 a3 a4 a5 a6 a7 a8 a9 a10 a11 a12 a13 a14 a15
theorem ob16_1 {α0 α1 α2 α3 α4 α5 α6 α7 α8 α9 α10 α11 α12 α13 α14 α15 β : Type} {x : Option (α0 × α1 × α2 × α3 × α4 × α5 × α6 × α7 × α8 × α9 × α10 × α11 × α12 × α13 × α14 × α15)} {k : α0 → α1 → α2 → α3 → α4 → α5 → α6 → α7 → α8 → α9 → α10 → α11 → α12 → α13 → α14 → α15 → Option β} {r : β} (h : ob16 x k = some r) : ∃ a0 a1 a2 a3 a4 a5 a6 a7 a8 a9 a10 a11 a12 a13 a14 a15, x = some (a0, a1, a2, a3, a4, a5, a6, a7, a8, a9, a10, a11, a12, a13, a14, a15) ∧ k a0 a1 a2 a3 a4 a5 a6 a7 a8 a9 a10 a11 a12 a13 a14 a15 = some r := by
  cases x with
  | none => cases h
  | some u => obtain ⟨a0, a1, a2, a3, a4, a5, a6, a7, a8, a9, a10, a11, a12, a13, a14, a15⟩ := u; exact ⟨a0, a1, a2, a3, a4, a5, a6, a7, a8, a9, a10, a11, a12, a13, a14, a15, rfl, h⟩
theorem lt_in {i : Int32} {n : Nat} (h : vp_in i n) : i.toNatClampNeg < n := Nat.not_le.mp fun q => h (Or.inr q)
theorem vup_0 {α : Type} {g : Nat → α} {j : Nat} {y : α} : va_up g j y j = y := by simp [va_up]
theorem p4i_get0 {r : Nat → Nat} {c : ClassId} {n : Nat} {g : Nat → Nat → Int32} : ∀ (j : Nat) (hj : j < 4), (([(r 0, .inl (c, n, .inl (g 0))), (r 1, .inl (c, n, .inl (g 1))), (r 2, .inl (c, n, .inl (g 2))), (r 3, .inl (c, n, .inl (g 3)))] : va_W) : va_W)[j]? = some (r j, .inl (c, n, .inl (g j)))
  | 0, _ => rfl
  | 1, _ => rfl
  | 2, _ => rfl
  | 3, _ => rfl
  | j + 4, h => absurd h (by omega)
theorem p4i_get {X : va_W} {r : Nat → Nat} {c : ClassId} {n : Nat} {g : Nat → Nat → Int32} {k j : Nat} (hk : X.length = k) (hj : j < 4) : (X ++ ([(r 0, .inl (c, n, .inl (g 0))), (r 1, .inl (c, n, .inl (g 1))), (r 2, .inl (c, n, .inl (g 2))), (r 3, .inl (c, n, .inl (g 3)))] : va_W))[k + j]? = some (r j, .inl (c, n, .inl (g j))) := by
  subst hk
  rw [List.getElem?_append_right (Nat.le_add_right _ _), Nat.add_sub_cancel_left]
  exact p4i_get0 j hj
theorem p4i_set0 {r : Nat → Nat} {c : ClassId} {n : Nat} {g : Nat → Nat → Int32} {y : Nat → Int32} : ∀ (j : Nat) (hj : j < 4), (([(r 0, .inl (c, n, .inl (g 0))), (r 1, .inl (c, n, .inl (g 1))), (r 2, .inl (c, n, .inl (g 2))), (r 3, .inl (c, n, .inl (g 3)))] : va_W) : va_W).set j (r j, .inl (c, n, .inl (y))) = ([(r 0, .inl (c, n, .inl (va_up g j y 0))), (r 1, .inl (c, n, .inl (va_up g j y 1))), (r 2, .inl (c, n, .inl (va_up g j y 2))), (r 3, .inl (c, n, .inl (va_up g j y 3)))] : va_W)
  | 0, _ => rfl
  | 1, _ => rfl
  | 2, _ => rfl
  | 3, _ => rfl
  | j + 4, h => absurd h (by omega)
theorem p4i_set {X : va_W} {r : Nat → Nat} {c : ClassId} {n : Nat} {g : Nat → Nat → Int32} {k j : Nat} (hk : X.length = k) (hj : j < 4) {y : Nat → Int32} : (X ++ ([(r 0, .inl (c, n, .inl (g 0))), (r 1, .inl (c, n, .inl (g 1))), (r 2, .inl (c, n, .inl (g 2))), (r 3, .inl (c, n, .inl (g 3)))] : va_W)).set (k + j) (r j, .inl (c, n, .inl (y))) = X ++ ([(r 0, .inl (c, n, .inl (va_up g j y 0))), (r 1, .inl (c, n, .inl (va_up g j y 1))), (r 2, .inl (c, n, .inl (va_up g j y 2))), (r 3, .inl (c, n, .inl (va_up g j y 3)))] : va_W) := by
  subst hk
  rw [List.set_append_right _ _ (Nat.le_add_right _ _), Nat.add_sub_cancel_left, p4i_set0 j hj]
theorem p9l_get0 {r : Nat → Nat} {c : ClassId} {n : Nat} {g : Nat → Nat → Int64} : ∀ (j : Nat) (hj : j < 9), (([(r 0, .inl (c, n, .inr (.inl (g 0)))), (r 1, .inl (c, n, .inr (.inl (g 1)))), (r 2, .inl (c, n, .inr (.inl (g 2)))), (r 3, .inl (c, n, .inr (.inl (g 3)))), (r 4, .inl (c, n, .inr (.inl (g 4)))), (r 5, .inl (c, n, .inr (.inl (g 5)))), (r 6, .inl (c, n, .inr (.inl (g 6)))), (r 7, .inl (c, n, .inr (.inl (g 7)))), (r 8, .inl (c, n, .inr (.inl (g 8))))] : va_W) : va_W)[j]? = some (r j, .inl (c, n, .inr (.inl (g j))))
  | 0, _ => rfl
  | 1, _ => rfl
  | 2, _ => rfl
  | 3, _ => rfl
  | 4, _ => rfl
  | 5, _ => rfl
  | 6, _ => rfl
  | 7, _ => rfl
  | 8, _ => rfl
  | j + 9, h => absurd h (by omega)
theorem p9l_get {X : va_W} {r : Nat → Nat} {c : ClassId} {n : Nat} {g : Nat → Nat → Int64} {k j : Nat} (hk : X.length = k) (hj : j < 9) : (X ++ ([(r 0, .inl (c, n, .inr (.inl (g 0)))), (r 1, .inl (c, n, .inr (.inl (g 1)))), (r 2, .inl (c, n, .inr (.inl (g 2)))), (r 3, .inl (c, n, .inr (.inl (g 3)))), (r 4, .inl (c, n, .inr (.inl (g 4)))), (r 5, .inl (c, n, .inr (.inl (g 5)))), (r 6, .inl (c, n, .inr (.inl (g 6)))), (r 7, .inl (c, n, .inr (.inl (g 7)))), (r 8, .inl (c, n, .inr (.inl (g 8))))] : va_W))[k + j]? = some (r j, .inl (c, n, .inr (.inl (g j)))) := by
  subst hk
  rw [List.getElem?_append_right (Nat.le_add_right _ _), Nat.add_sub_cancel_left]
  exact p9l_get0 j hj
theorem p9l_set0 {r : Nat → Nat} {c : ClassId} {n : Nat} {g : Nat → Nat → Int64} {y : Nat → Int64} : ∀ (j : Nat) (hj : j < 9), (([(r 0, .inl (c, n, .inr (.inl (g 0)))), (r 1, .inl (c, n, .inr (.inl (g 1)))), (r 2, .inl (c, n, .inr (.inl (g 2)))), (r 3, .inl (c, n, .inr (.inl (g 3)))), (r 4, .inl (c, n, .inr (.inl (g 4)))), (r 5, .inl (c, n, .inr (.inl (g 5)))), (r 6, .inl (c, n, .inr (.inl (g 6)))), (r 7, .inl (c, n, .inr (.inl (g 7)))), (r 8, .inl (c, n, .inr (.inl (g 8))))] : va_W) : va_W).set j (r j, .inl (c, n, .inr (.inl (y)))) = ([(r 0, .inl (c, n, .inr (.inl (va_up g j y 0)))), (r 1, .inl (c, n, .inr (.inl (va_up g j y 1)))), (r 2, .inl (c, n, .inr (.inl (va_up g j y 2)))), (r 3, .inl (c, n, .inr (.inl (va_up g j y 3)))), (r 4, .inl (c, n, .inr (.inl (va_up g j y 4)))), (r 5, .inl (c, n, .inr (.inl (va_up g j y 5)))), (r 6, .inl (c, n, .inr (.inl (va_up g j y 6)))), (r 7, .inl (c, n, .inr (.inl (va_up g j y 7)))), (r 8, .inl (c, n, .inr (.inl (va_up g j y 8))))] : va_W)
  | 0, _ => rfl
  | 1, _ => rfl
  | 2, _ => rfl
  | 3, _ => rfl
  | 4, _ => rfl
  | 5, _ => rfl
  | 6, _ => rfl
  | 7, _ => rfl
  | 8, _ => rfl
  | j + 9, h => absurd h (by omega)
theorem p9l_set {X : va_W} {r : Nat → Nat} {c : ClassId} {n : Nat} {g : Nat → Nat → Int64} {k j : Nat} (hk : X.length = k) (hj : j < 9) {y : Nat → Int64} : (X ++ ([(r 0, .inl (c, n, .inr (.inl (g 0)))), (r 1, .inl (c, n, .inr (.inl (g 1)))), (r 2, .inl (c, n, .inr (.inl (g 2)))), (r 3, .inl (c, n, .inr (.inl (g 3)))), (r 4, .inl (c, n, .inr (.inl (g 4)))), (r 5, .inl (c, n, .inr (.inl (g 5)))), (r 6, .inl (c, n, .inr (.inl (g 6)))), (r 7, .inl (c, n, .inr (.inl (g 7)))), (r 8, .inl (c, n, .inr (.inl (g 8))))] : va_W)).set (k + j) (r j, .inl (c, n, .inr (.inl (y)))) = X ++ ([(r 0, .inl (c, n, .inr (.inl (va_up g j y 0)))), (r 1, .inl (c, n, .inr (.inl (va_up g j y 1)))), (r 2, .inl (c, n, .inr (.inl (va_up g j y 2)))), (r 3, .inl (c, n, .inr (.inl (va_up g j y 3)))), (r 4, .inl (c, n, .inr (.inl (va_up g j y 4)))), (r 5, .inl (c, n, .inr (.inl (va_up g j y 5)))), (r 6, .inl (c, n, .inr (.inl (va_up g j y 6)))), (r 7, .inl (c, n, .inr (.inl (va_up g j y 7)))), (r 8, .inl (c, n, .inr (.inl (va_up g j y 8))))] : va_W) := by
  subst hk
  rw [List.set_append_right _ _ (Nat.le_add_right _ _), Nat.add_sub_cancel_left, p9l_set0 j hj]
theorem sw_out {x : Int32} (h0 : ¬ x = 0) (h1 : ¬ x = 1) (h2 : ¬ x = 2) (h3 : ¬ x = 3) : x.toInt < 0 ∨ 3 < x.toInt := by
  have a0 := lv_neT (a := 0) h0 rfl
  have a1 := lv_neT (a := 1) h1 rfl
  have a2 := lv_neT (a := 2) h2 rfl
  have a3 := lv_neT (a := 3) h3 rfl
  omega

theorem MI.of {l : Launch} {y : MethodName} {w w' : List Cond} {rm : Room} {D : va_G} {cy : Nat → ClassId} {av : List Value} {sz : Nat} {ws : va_W} {r0 : Int32} {ws' : va_W} {cc : ByteArray} {maxL : Nat} {ret : Option FieldType} (hy : Jvm.plainName y.cls = true) (hw : w = Cond.code y cc maxL ret :: w') (hlen : (lg_sl av).length ≤ maxL)
    (body : ∀ (p : Program) (e : Env) (s : State) (m : MethodId) (below : List Frame) (meth : Method) (c : Code) (A : Nat → Prop) (ls : Array Slot), p.tables.exec = Jvm.exec → c.code = cc → c.maxLocals = maxL → s.vm.findClass y.cls = some m.cls → (∀ x ∈ w, x.before av.toArray s = true) → meth.locks = false → meth.sig.returnType = ret → va_K D vwCl (TY cy) s → (∀ q, s.heap.size ≤ q → A q) → va_P D vwCl ws s.heap → va_D A ws → va_S A s.heap s.heap [] → lv_has ls maxL (lv_args 0 av) →
      W p l e rm s m av.toArray below meth c s.heap [] 0 0 (MQ below (QI D cy A r0 ws') av.toArray s rm.cells rm.slots A) (F0 m 0 ls [])) : MI l y w rm D cy av sz ws r0 ws' := by
  refine Met.ofW (cc := cc) (maxL := maxL) (ret := ret) hy hw ?_
  intro p e s m args below meth c s₁ B hml hv
  obtain ⟨rfl, hsz, hP, hK, hD0⟩ := hv
  subst hsz
  have hl := lv_entry av (n := maxL) hlen
  rw [lg_entry_eq]
  exact body p e s m below meth c (va_A ws s.heap.size) _ B.exec B.bytes hml (findClass_of_methodNamed B.named) (atoms_spec (ws := w) B.pre) B.notSynchronized B.returns hK (fun q h => Or.inr h) hP (hD0.self (sz := s.heap.size)) va_S.rf hl

theorem ML.of {l : Launch} {y : MethodName} {w w' : List Cond} {rm : Room} {D : va_G} {cy : Nat → ClassId} {av : List Value} {sz : Nat} {ws : va_W} {r0 : Int64} {ws' : va_W} {cc : ByteArray} {maxL : Nat} {ret : Option FieldType} (hy : Jvm.plainName y.cls = true) (hw : w = Cond.code y cc maxL ret :: w') (hlen : (lg_sl av).length ≤ maxL)
    (body : ∀ (p : Program) (e : Env) (s : State) (m : MethodId) (below : List Frame) (meth : Method) (c : Code) (A : Nat → Prop) (ls : Array Slot), p.tables.exec = Jvm.exec → c.code = cc → c.maxLocals = maxL → s.vm.findClass y.cls = some m.cls → (∀ x ∈ w, x.before av.toArray s = true) → meth.locks = false → meth.sig.returnType = ret → va_K D vwCl (TY cy) s → (∀ q, s.heap.size ≤ q → A q) → va_P D vwCl ws s.heap → va_D A ws → va_S A s.heap s.heap [] → lv_has ls maxL (lv_args 0 av) →
      W p l e rm s m av.toArray below meth c s.heap [] 0 0 (MQ below (QL D cy A r0 ws') av.toArray s rm.cells rm.slots A) (F0 m 0 ls [])) : ML l y w rm D cy av sz ws r0 ws' := by
  refine Met.ofW (cc := cc) (maxL := maxL) (ret := ret) hy hw ?_
  intro p e s m args below meth c s₁ B hml hv
  obtain ⟨rfl, hsz, hP, hK, hD0⟩ := hv
  subst hsz
  have hl := lv_entry av (n := maxL) hlen
  rw [lg_entry_eq]
  exact body p e s m below meth c (va_A ws s.heap.size) _ B.exec B.bytes hml (findClass_of_methodNamed B.named) (atoms_spec (ws := w) B.pre) B.notSynchronized B.returns hK (fun q h => Or.inr h) hP (hD0.self (sz := s.heap.size)) va_S.rf hl

theorem MV.of {l : Launch} {y : MethodName} {w w' : List Cond} {rm : Room} {D : va_G} {cy : Nat → ClassId} {av : List Value} {sz : Nat} {ws : va_W} {ws' : va_W} {cc : ByteArray} {maxL : Nat} {ret : Option FieldType} (hy : Jvm.plainName y.cls = true) (hw : w = Cond.code y cc maxL ret :: w') (hlen : (lg_sl av).length ≤ maxL)
    (body : ∀ (p : Program) (e : Env) (s : State) (m : MethodId) (below : List Frame) (meth : Method) (c : Code) (A : Nat → Prop) (ls : Array Slot), p.tables.exec = Jvm.exec → c.code = cc → c.maxLocals = maxL → s.vm.findClass y.cls = some m.cls → (∀ x ∈ w, x.before av.toArray s = true) → meth.locks = false → meth.sig.returnType = ret → va_K D vwCl (TY cy) s → (∀ q, s.heap.size ≤ q → A q) → va_P D vwCl ws s.heap → va_D A ws → va_S A s.heap s.heap [] → lv_has ls maxL (lv_args 0 av) →
      W p l e rm s m av.toArray below meth c s.heap [] 0 0 (MQ below (QV D cy A ws') av.toArray s rm.cells rm.slots A) (F0 m 0 ls [])) : MV l y w rm D cy av sz ws ws' := by
  refine Met.ofW (cc := cc) (maxL := maxL) (ret := ret) hy hw ?_
  intro p e s m args below meth c s₁ B hml hv
  obtain ⟨rfl, hsz, hP, hK, hD0⟩ := hv
  subst hsz
  have hl := lv_entry av (n := maxL) hlen
  rw [lg_entry_eq]
  exact body p e s m below meth c (va_A ws s.heap.size) _ B.exec B.bytes hml (findClass_of_methodNamed B.named) (atoms_spec (ws := w) B.pre) B.notSynchronized B.returns hK (fun q h => Or.inr h) hP (hD0.self (sz := s.heap.size)) va_S.rf hl
section LB2
variable {p : Program} {l : Launch} {e : Env} {R : Room} {s : State} {m : MethodId} {args : Array Value} {below : List Frame} {meth : Method} {c : Code} {H : Heap} {locs : List Loc} {cells slots : Nat} {Q : State → Prop}
variable {cc : ByteArray} {pc : Nat} {ls : Array Slot} {rest : List Value} {D : va_G} {cl : List vw_C} {A : Nat → Prop} {a : Nat} {tys : List (ClassId × FieldType)} {ws ws' : va_W} {H0 : Heap} {cy : Nat → ClassId}
theorem rt_i {ty : FieldType} {v : Int32} (hx : p.tables.exec = Jvm.exec) (hb : c.code = cc) (hr : meth.sig.returnType = some ty) (hlk : meth.locks = false) (hn : narrow ty (.int v) = .int v) (hK : va_K D vwCl (TY cy) s) (hP : va_P D vwCl ws' H) (hD : va_D A ws') (hS : va_S A s.heap H locs) (hdg : decode cc pc = .ok (.ireturn, 1)) : W p l e R s m args below meth c H locs cells slots (MQ below (QI D cy A v ws') args s cells slots A) (F0 m pc ls [.int v]) :=
  W.zret hx hb hr hn (fun t ht hW => ⟨⟨v, (), rfl, rfl, by rw [ht]; exact hP, va_K.moved hW.alike hK, hD⟩, hS.F ht⟩) hS.2.2 hdg hlk
theorem rt_l {v : Int64} (hx : p.tables.exec = Jvm.exec) (hb : c.code = cc) (hr : meth.sig.returnType = some .long) (hlk : meth.locks = false) (hK : va_K D vwCl (TY cy) s) (hP : va_P D vwCl ws' H) (hD : va_D A ws') (hS : va_S A s.heap H locs) (hdg : decode cc pc = .ok (.lreturn, 1)) : W p l e R s m args below meth c H locs cells slots (MQ below (QL D cy A v ws') args s cells slots A) (F0 m pc ls [.long v]) :=
  W.lret hx hb hr (fun t ht hW => ⟨⟨v, (), rfl, rfl, by rw [ht]; exact hP, va_K.moved hW.alike hK, hD⟩, hS.F ht⟩) hS.2.2 hdg hlk
theorem rt_v (hx : p.tables.exec = Jvm.exec) (hb : c.code = cc) (hr : meth.sig.returnType = none) (hlk : meth.locks = false) (hK : va_K D vwCl (TY cy) s) (hP : va_P D vwCl ws' H) (hD : va_D A ws') (hS : va_S A s.heap H locs) (hdg : decode cc pc = .ok (.return_, 1)) : W p l e R s m args below meth c H locs cells slots (MQ below (QV D cy A ws') args s cells slots A) (F0 m pc ls []) :=
  W.vret hx hb hr (fun t ht hW => ⟨⟨(), rfl, trivial, by rw [ht]; exact hP, va_K.moved hW.alike hK, hD⟩, hS.F ht⟩) hS.2.2 hdg hlk
/-- aaload of an array of arrays -/
theorem va_aldA (hexec : p.tables.exec = Jvm.exec) (hb : c.code = cc) (hK : va_K D cl tys s) (hP : va_P D cl ws H) (q0 t0 : Nat) {cA : ClassId} {ty : FieldType} {n : Nat} {f : Nat → Option Nat} (ha : ws[q0]? = some (a, .inl (cA, n, .inr (.inr (.inr (.inr f)))))) (ht : tys[t0]? = some (cA, .array ty)) {i : Int32} (hin : vp_in i n) (hdg : decode cc pc = .ok (.aaload, 1))
    (kk : W p l e R s m args below meth c H locs cells slots Q (F0 m (pc + 1) ls (va_rf (f i.toNatClampNeg) :: rest))) : W p l e R s m args below meth c H locs cells slots Q (F0 m pc ls (.int i :: .ref a :: rest)) := by
  have hlt : i.toNatClampNeg < n := Nat.not_le.mp fun q => hin (Or.inr q)
  exact W.aald (v := va_rf (f i.toNatClampNeg)) (ty := .array ty) hexec hb (hP q0 _ ha) ((hK.2 t0 _ ht).1 n (fun j => va_rf (f j))) rfl (fun q => by cases q) (by show ¬ (i < 0 ∨ (arrV _ _ _).slots.size ≤ _); rw [arrV_size]; exact hin) (by show (arrV _ _ _).slots[_]? = _; rw [arrV_read _ _ hlt]) rfl rfl hdg kk
theorem rte_i {ty : FieldType} {v r0 : Int32} {ws0 : va_W} (hv : v = r0) (hw : ws0 = ws') (hx : p.tables.exec = Jvm.exec) (hb : c.code = cc) (hr : meth.sig.returnType = some ty) (hlk : meth.locks = false) (hn : narrow ty (.int v) = .int v) (hK : va_K D vwCl (TY cy) s) (hP : va_P D vwCl ws0 H) (hD : va_D A ws0) (hS : va_S A s.heap H locs) (hdg : decode cc pc = .ok (.ireturn, 1)) : W p l e R s m args below meth c H locs cells slots (MQ below (QI D cy A r0 ws') args s cells slots A) (F0 m pc ls [.int v]) := by
  subst hv
  subst hw
  exact rt_i hx hb hr hlk hn hK hP hD hS hdg
theorem rte_l {v r0 : Int64} {ws0 : va_W} (hv : v = r0) (hw : ws0 = ws') (hx : p.tables.exec = Jvm.exec) (hb : c.code = cc) (hr : meth.sig.returnType = some .long) (hlk : meth.locks = false) (hK : va_K D vwCl (TY cy) s) (hP : va_P D vwCl ws0 H) (hD : va_D A ws0) (hS : va_S A s.heap H locs) (hdg : decode cc pc = .ok (.lreturn, 1)) : W p l e R s m args below meth c H locs cells slots (MQ below (QL D cy A r0 ws') args s cells slots A) (F0 m pc ls [.long v]) := by
  subst hv
  subst hw
  exact rt_l hx hb hr hlk hK hP hD hS hdg
theorem rte_v {ws0 : va_W} (hw : ws0 = ws') (hx : p.tables.exec = Jvm.exec) (hb : c.code = cc) (hr : meth.sig.returnType = none) (hlk : meth.locks = false) (hK : va_K D vwCl (TY cy) s) (hP : va_P D vwCl ws0 H) (hD : va_D A ws0) (hS : va_S A s.heap H locs) (hdg : decode cc pc = .ok (.return_, 1)) : W p l e R s m args below meth c H locs cells slots (MQ below (QV D cy A ws') args s cells slots A) (F0 m pc ls []) := by
  subst hw
  exact rt_v hx hb hr hlk hK hP hD hS hdg
theorem va_aldP (hexec : p.tables.exec = Jvm.exec) (hb : c.code = cc) (hK : va_K D cl tys s) (hP : va_P D cl ws H) (q0 t0 : Nat) {cA : ClassId} {ty : FieldType} {n : Nat} {r : Nat → Nat} (ha : ws[q0]? = some (a, .inl (cA, n, .inr (.inr (.inr (.inr (fun i => if i < n then some (r i) else none))))))) (ht : tys[t0]? = some (cA, .array ty)) {i : Int32} (hin : vp_in i n) (hdg : decode cc pc = .ok (.aaload, 1))
    (kk : W p l e R s m args below meth c H locs cells slots Q (F0 m (pc + 1) ls (.ref (r i.toNatClampNeg) :: rest))) : W p l e R s m args below meth c H locs cells slots Q (F0 m pc ls (.int i :: .ref a :: rest)) := by
  refine va_aldA hexec hb hK hP q0 t0 ha ht hin hdg ?_
  rw [show va_rf ((fun i => if i < n then some (r i) else none) i.toNatClampNeg) = .ref (r i.toNatClampNeg) by simp [va_rf, lt_in hin]]
  exact kk
theorem cl_Vi {y : MethodName} {bytes : ByteArray} {maxL nL index n : Nat} {ret : Option FieldType} {wy Ts : List Cond} {rm : Room} {own : String} {b : Nat} {As st : List Value} {wc wc' : va_W} {r0 : Int32} (isC isR isO : List Nat) (wr w1 : va_W) (ci : Nat) {q : vw_C} {fs : List Value}
    (S : CallFix p m c cc nL s args Ts own) (hM : MI l y wy rm D cy (.ref b :: As) H.size wc r0 wc') (cw : CallW R s args own y.cls index y bytes maxL ret wy rm rm.cells rm.slots n)
    (hK : va_K D vwCl (TY cy) s) (hP : va_P D vwCl ws H) (hD : va_D A ws) (hS : va_S A H0 H locs) (hA : ∀ q, H0.size ≤ q → A q)
    (hC : isC.map (fun i => ws[i]?) = wc.map some) (hnC : va_nd isC = true) (hR : isR.map (fun i => ws[i]?) = wr.map some) (hnR : va_nd isR = true) (hdis : ∀ i ∈ isR, i ∉ isC) (hO : isO.map (fun i => (wr ++ wc')[i]?) = w1.map some) (hnO : va_nd isO = true) (hq : vwCl[ci]? = some q) (hqc : q.1 = y.cls) (he : wc[0]? = some (b, .inr (ci, fs)))
    (hc0 : rm.cells = 0) (hs0 : rm.slots = 0) (hn : As.length = n) (hsize : ls.size = nL) (hst : st = As.reverse ++ .ref b :: rest) (hw8 : (rest.map fun v => v.category).sum ≤ 8) (hdg : decode cc pc = .ok (.invokevirtual index, 3)) (hf : cells ≤ R.cells ∧ slots ≤ R.slots)
    (kk : ∀ (H1 : Heap) (locs1 : List Loc), va_P D vwCl w1 H1 → va_D A w1 → va_S A H0 H1 locs1 → W p l e R s m args below meth c H1 locs1 cells slots Q (F0 m (pc + 3) ls (.int r0 :: rest))) : W p l e R s m args below meth c H locs cells slots Q (F0 m pc ls st) := by
  subst hst
  have hPc : va_P D vwCl wc H := hP.sub isC (fm_map hC)
  have hDc := hD.sub isC hnC hC
  have hFc := va_free hD hS hA isC hC
  refine va_calli (va_runV S hM cw ⟨fun a U g mk q => by obtain ⟨q0, q1, qP, qK, qD⟩ := q; exact ⟨q0, q1, qP, va_K.moved (u := U) (U := U.calling g mk a) (Vm.Alike.refl U.vm) qK, qD⟩, hqc ▸ va_recv hK hPc hq he, fun U hU hW => ⟨rfl, by rw [hU], by rw [hU]; exact hPc, va_K.moved hW.alike hK, hDc.weaken (fun _ _ _ _ => trivial)⟩⟩ rfl hn hsize rfl (lv_room hw8) hdg ⟨by rw [hc0]; exact hf.1, by rw [hs0]; exact hf.2⟩) hS (fun q _ h => hFc q h) hFc (fun r u t H1 locs1 ht hvm hw hB hz1 hk1 hS1 => ?_)
  obtain ⟨hP1, hK1, hD1⟩ := hB
  rw [ht] at hP1
  obtain ⟨hP2, hD2⟩ := va_join hP hD isC isR hC hR hnR hdis hk1 hFc hP1 hD1
  have hw : r = r0 := hw
  subst hw
  have hkk := kk H1 locs1 (hP2.sub isO (fm_map hO)) (hD2.sub isO hnO hO) hS1
  rw [hc0, hs0]
  exact hkk
theorem cl_Vl {y : MethodName} {bytes : ByteArray} {maxL nL index n : Nat} {ret : Option FieldType} {wy Ts : List Cond} {rm : Room} {own : String} {b : Nat} {As st : List Value} {wc wc' : va_W} {r0 : Int64} (isC isR isO : List Nat) (wr w1 : va_W) (ci : Nat) {q : vw_C} {fs : List Value}
    (S : CallFix p m c cc nL s args Ts own) (hM : ML l y wy rm D cy (.ref b :: As) H.size wc r0 wc') (cw : CallW R s args own y.cls index y bytes maxL ret wy rm rm.cells rm.slots n)
    (hK : va_K D vwCl (TY cy) s) (hP : va_P D vwCl ws H) (hD : va_D A ws) (hS : va_S A H0 H locs) (hA : ∀ q, H0.size ≤ q → A q)
    (hC : isC.map (fun i => ws[i]?) = wc.map some) (hnC : va_nd isC = true) (hR : isR.map (fun i => ws[i]?) = wr.map some) (hnR : va_nd isR = true) (hdis : ∀ i ∈ isR, i ∉ isC) (hO : isO.map (fun i => (wr ++ wc')[i]?) = w1.map some) (hnO : va_nd isO = true) (hq : vwCl[ci]? = some q) (hqc : q.1 = y.cls) (he : wc[0]? = some (b, .inr (ci, fs)))
    (hc0 : rm.cells = 0) (hs0 : rm.slots = 0) (hn : As.length = n) (hsize : ls.size = nL) (hst : st = As.reverse ++ .ref b :: rest) (hw8 : (rest.map fun v => v.category).sum ≤ 8) (hdg : decode cc pc = .ok (.invokevirtual index, 3)) (hf : cells ≤ R.cells ∧ slots ≤ R.slots)
    (kk : ∀ (H1 : Heap) (locs1 : List Loc), va_P D vwCl w1 H1 → va_D A w1 → va_S A H0 H1 locs1 → W p l e R s m args below meth c H1 locs1 cells slots Q (F0 m (pc + 3) ls (.long r0 :: rest))) : W p l e R s m args below meth c H locs cells slots Q (F0 m pc ls st) := by
  subst hst
  have hPc : va_P D vwCl wc H := hP.sub isC (fm_map hC)
  have hDc := hD.sub isC hnC hC
  have hFc := va_free hD hS hA isC hC
  refine va_calll (va_runV S hM cw ⟨fun a U g mk q => by obtain ⟨q0, q1, qP, qK, qD⟩ := q; exact ⟨q0, q1, qP, va_K.moved (u := U) (U := U.calling g mk a) (Vm.Alike.refl U.vm) qK, qD⟩, hqc ▸ va_recv hK hPc hq he, fun U hU hW => ⟨rfl, by rw [hU], by rw [hU]; exact hPc, va_K.moved hW.alike hK, hDc.weaken (fun _ _ _ _ => trivial)⟩⟩ rfl hn hsize rfl (lv_room hw8) hdg ⟨by rw [hc0]; exact hf.1, by rw [hs0]; exact hf.2⟩) hS (fun q _ h => hFc q h) hFc (fun r u t H1 locs1 ht hvm hw hB hz1 hk1 hS1 => ?_)
  obtain ⟨hP1, hK1, hD1⟩ := hB
  rw [ht] at hP1
  obtain ⟨hP2, hD2⟩ := va_join hP hD isC isR hC hR hnR hdis hk1 hFc hP1 hD1
  have hw : r = r0 := hw
  subst hw
  have hkk := kk H1 locs1 (hP2.sub isO (fm_map hO)) (hD2.sub isO hnO hO) hS1
  rw [hc0, hs0]
  exact hkk
theorem cl_Vv {y : MethodName} {bytes : ByteArray} {maxL nL index n : Nat} {ret : Option FieldType} {wy Ts : List Cond} {rm : Room} {own : String} {b : Nat} {As st : List Value} {wc wc' : va_W} (isC isR isO : List Nat) (wr w1 : va_W) (ci : Nat) {q : vw_C} {fs : List Value}
    (S : CallFix p m c cc nL s args Ts own) (hM : MV l y wy rm D cy (.ref b :: As) H.size wc wc') (cw : CallW R s args own y.cls index y bytes maxL ret wy rm rm.cells rm.slots n)
    (hK : va_K D vwCl (TY cy) s) (hP : va_P D vwCl ws H) (hD : va_D A ws) (hS : va_S A H0 H locs) (hA : ∀ q, H0.size ≤ q → A q)
    (hC : isC.map (fun i => ws[i]?) = wc.map some) (hnC : va_nd isC = true) (hR : isR.map (fun i => ws[i]?) = wr.map some) (hnR : va_nd isR = true) (hdis : ∀ i ∈ isR, i ∉ isC) (hO : isO.map (fun i => (wr ++ wc')[i]?) = w1.map some) (hnO : va_nd isO = true) (hq : vwCl[ci]? = some q) (hqc : q.1 = y.cls) (he : wc[0]? = some (b, .inr (ci, fs)))
    (hc0 : rm.cells = 0) (hs0 : rm.slots = 0) (hn : As.length = n) (hsize : ls.size = nL) (hst : st = As.reverse ++ .ref b :: rest) (hw8 : (rest.map fun v => v.category).sum ≤ 8) (hdg : decode cc pc = .ok (.invokevirtual index, 3)) (hf : cells ≤ R.cells ∧ slots ≤ R.slots)
    (kk : ∀ (H1 : Heap) (locs1 : List Loc), va_P D vwCl w1 H1 → va_D A w1 → va_S A H0 H1 locs1 → W p l e R s m args below meth c H1 locs1 cells slots Q (F0 m (pc + 3) ls (rest))) : W p l e R s m args below meth c H locs cells slots Q (F0 m pc ls st) := by
  subst hst
  have hPc : va_P D vwCl wc H := hP.sub isC (fm_map hC)
  have hDc := hD.sub isC hnC hC
  have hFc := va_free hD hS hA isC hC
  refine va_callv (va_runV S hM cw ⟨fun a U g mk q => by obtain ⟨q0, q1, qP, qK, qD⟩ := q; exact ⟨q0, q1, qP, va_K.moved (u := U) (U := U.calling g mk a) (Vm.Alike.refl U.vm) qK, qD⟩, hqc ▸ va_recv hK hPc hq he, fun U hU hW => ⟨rfl, by rw [hU], by rw [hU]; exact hPc, va_K.moved hW.alike hK, hDc.weaken (fun _ _ _ _ => trivial)⟩⟩ rfl hn hsize rfl (lv_room hw8) hdg ⟨by rw [hc0]; exact hf.1, by rw [hs0]; exact hf.2⟩) hS (fun q _ h => hFc q h) hFc (fun u t H1 locs1 ht hvm hw hB hz1 hk1 hS1 => ?_)
  obtain ⟨hP1, hK1, hD1⟩ := hB
  rw [ht] at hP1
  obtain ⟨hP2, hD2⟩ := va_join hP hD isC isR hC hR hnR hdis hk1 hFc hP1 hD1
  have hkk := kk H1 locs1 (hP2.sub isO (fm_map hO)) (hD2.sub isO hnO hO) hS1
  rw [hc0, hs0]
  exact hkk
theorem cl_Si {y : MethodName} {bytes : ByteArray} {maxL nL index n : Nat} {ret : Option FieldType} {wy Ts : List Cond} {rm : Room} {own : String} {As st : List Value} {wc wc' : va_W} {r0 : Int32} (isC isR isO : List Nat) (wr w1 : va_W) 
    (S : CallFix p m c cc nL s args Ts own) (hM : MI l y wy rm D cy (As) H.size wc r0 wc') (cw : CallB R s args own index y bytes maxL ret wy rm rm.cells rm.slots n ∧ (Cond.static y).before args s = true)
    (hK : va_K D vwCl (TY cy) s) (hP : va_P D vwCl ws H) (hD : va_D A ws) (hS : va_S A H0 H locs) (hA : ∀ q, H0.size ≤ q → A q)
    (hC : isC.map (fun i => ws[i]?) = wc.map some) (hnC : va_nd isC = true) (hR : isR.map (fun i => ws[i]?) = wr.map some) (hnR : va_nd isR = true) (hdis : ∀ i ∈ isR, i ∉ isC) (hO : isO.map (fun i => (wr ++ wc')[i]?) = w1.map some) (hnO : va_nd isO = true) 
    (hc0 : rm.cells = 0) (hs0 : rm.slots = 0) (hn : As.length = n) (hsize : ls.size = nL) (hst : st = As.reverse ++ rest) (hw8 : (rest.map fun v => v.category).sum ≤ 8) (hdg : decode cc pc = .ok (.invokestatic index, 3)) (hf : cells ≤ R.cells ∧ slots ≤ R.slots)
    (kk : ∀ (H1 : Heap) (locs1 : List Loc), va_P D vwCl w1 H1 → va_D A w1 → va_S A H0 H1 locs1 → W p l e R s m args below meth c H1 locs1 cells slots Q (F0 m (pc + 3) ls (.int r0 :: rest))) : W p l e R s m args below meth c H locs cells slots Q (F0 m pc ls st) := by
  subst hst
  have hPc : va_P D vwCl wc H := hP.sub isC (fm_map hC)
  have hDc := hD.sub isC hnC hC
  have hFc := va_free hD hS hA isC hC
  refine va_calli (va_runS S hM cw ⟨fun a U g mk q => by obtain ⟨q0, q1, qP, qK, qD⟩ := q; exact ⟨q0, q1, qP, va_K.moved (u := U) (U := U.calling g mk a) (Vm.Alike.refl U.vm) qK, qD⟩, fun U hU hW => ⟨rfl, by rw [hU], by rw [hU]; exact hPc, va_K.moved hW.alike hK, hDc.weaken (fun _ _ _ _ => trivial)⟩⟩ rfl hn hsize rfl (lv_room hw8) hdg ⟨by rw [hc0]; exact hf.1, by rw [hs0]; exact hf.2⟩) hS (fun q _ h => hFc q h) hFc (fun r u t H1 locs1 ht hvm hw hB hz1 hk1 hS1 => ?_)
  obtain ⟨hP1, hK1, hD1⟩ := hB
  rw [ht] at hP1
  obtain ⟨hP2, hD2⟩ := va_join hP hD isC isR hC hR hnR hdis hk1 hFc hP1 hD1
  have hw : r = r0 := hw
  subst hw
  have hkk := kk H1 locs1 (hP2.sub isO (fm_map hO)) (hD2.sub isO hnO hO) hS1
  rw [hc0, hs0]
  exact hkk
theorem cl_Sl {y : MethodName} {bytes : ByteArray} {maxL nL index n : Nat} {ret : Option FieldType} {wy Ts : List Cond} {rm : Room} {own : String} {As st : List Value} {wc wc' : va_W} {r0 : Int64} (isC isR isO : List Nat) (wr w1 : va_W) 
    (S : CallFix p m c cc nL s args Ts own) (hM : ML l y wy rm D cy (As) H.size wc r0 wc') (cw : CallB R s args own index y bytes maxL ret wy rm rm.cells rm.slots n ∧ (Cond.static y).before args s = true)
    (hK : va_K D vwCl (TY cy) s) (hP : va_P D vwCl ws H) (hD : va_D A ws) (hS : va_S A H0 H locs) (hA : ∀ q, H0.size ≤ q → A q)
    (hC : isC.map (fun i => ws[i]?) = wc.map some) (hnC : va_nd isC = true) (hR : isR.map (fun i => ws[i]?) = wr.map some) (hnR : va_nd isR = true) (hdis : ∀ i ∈ isR, i ∉ isC) (hO : isO.map (fun i => (wr ++ wc')[i]?) = w1.map some) (hnO : va_nd isO = true) 
    (hc0 : rm.cells = 0) (hs0 : rm.slots = 0) (hn : As.length = n) (hsize : ls.size = nL) (hst : st = As.reverse ++ rest) (hw8 : (rest.map fun v => v.category).sum ≤ 8) (hdg : decode cc pc = .ok (.invokestatic index, 3)) (hf : cells ≤ R.cells ∧ slots ≤ R.slots)
    (kk : ∀ (H1 : Heap) (locs1 : List Loc), va_P D vwCl w1 H1 → va_D A w1 → va_S A H0 H1 locs1 → W p l e R s m args below meth c H1 locs1 cells slots Q (F0 m (pc + 3) ls (.long r0 :: rest))) : W p l e R s m args below meth c H locs cells slots Q (F0 m pc ls st) := by
  subst hst
  have hPc : va_P D vwCl wc H := hP.sub isC (fm_map hC)
  have hDc := hD.sub isC hnC hC
  have hFc := va_free hD hS hA isC hC
  refine va_calll (va_runS S hM cw ⟨fun a U g mk q => by obtain ⟨q0, q1, qP, qK, qD⟩ := q; exact ⟨q0, q1, qP, va_K.moved (u := U) (U := U.calling g mk a) (Vm.Alike.refl U.vm) qK, qD⟩, fun U hU hW => ⟨rfl, by rw [hU], by rw [hU]; exact hPc, va_K.moved hW.alike hK, hDc.weaken (fun _ _ _ _ => trivial)⟩⟩ rfl hn hsize rfl (lv_room hw8) hdg ⟨by rw [hc0]; exact hf.1, by rw [hs0]; exact hf.2⟩) hS (fun q _ h => hFc q h) hFc (fun r u t H1 locs1 ht hvm hw hB hz1 hk1 hS1 => ?_)
  obtain ⟨hP1, hK1, hD1⟩ := hB
  rw [ht] at hP1
  obtain ⟨hP2, hD2⟩ := va_join hP hD isC isR hC hR hnR hdis hk1 hFc hP1 hD1
  have hw : r = r0 := hw
  subst hw
  have hkk := kk H1 locs1 (hP2.sub isO (fm_map hO)) (hD2.sub isO hnO hO) hS1
  rw [hc0, hs0]
  exact hkk
theorem cl_Sv {y : MethodName} {bytes : ByteArray} {maxL nL index n : Nat} {ret : Option FieldType} {wy Ts : List Cond} {rm : Room} {own : String} {As st : List Value} {wc wc' : va_W} (isC isR isO : List Nat) (wr w1 : va_W) 
    (S : CallFix p m c cc nL s args Ts own) (hM : MV l y wy rm D cy (As) H.size wc wc') (cw : CallB R s args own index y bytes maxL ret wy rm rm.cells rm.slots n ∧ (Cond.static y).before args s = true)
    (hK : va_K D vwCl (TY cy) s) (hP : va_P D vwCl ws H) (hD : va_D A ws) (hS : va_S A H0 H locs) (hA : ∀ q, H0.size ≤ q → A q)
    (hC : isC.map (fun i => ws[i]?) = wc.map some) (hnC : va_nd isC = true) (hR : isR.map (fun i => ws[i]?) = wr.map some) (hnR : va_nd isR = true) (hdis : ∀ i ∈ isR, i ∉ isC) (hO : isO.map (fun i => (wr ++ wc')[i]?) = w1.map some) (hnO : va_nd isO = true) 
    (hc0 : rm.cells = 0) (hs0 : rm.slots = 0) (hn : As.length = n) (hsize : ls.size = nL) (hst : st = As.reverse ++ rest) (hw8 : (rest.map fun v => v.category).sum ≤ 8) (hdg : decode cc pc = .ok (.invokestatic index, 3)) (hf : cells ≤ R.cells ∧ slots ≤ R.slots)
    (kk : ∀ (H1 : Heap) (locs1 : List Loc), va_P D vwCl w1 H1 → va_D A w1 → va_S A H0 H1 locs1 → W p l e R s m args below meth c H1 locs1 cells slots Q (F0 m (pc + 3) ls (rest))) : W p l e R s m args below meth c H locs cells slots Q (F0 m pc ls st) := by
  subst hst
  have hPc : va_P D vwCl wc H := hP.sub isC (fm_map hC)
  have hDc := hD.sub isC hnC hC
  have hFc := va_free hD hS hA isC hC
  refine va_callv (va_runS S hM cw ⟨fun a U g mk q => by obtain ⟨q0, q1, qP, qK, qD⟩ := q; exact ⟨q0, q1, qP, va_K.moved (u := U) (U := U.calling g mk a) (Vm.Alike.refl U.vm) qK, qD⟩, fun U hU hW => ⟨rfl, by rw [hU], by rw [hU]; exact hPc, va_K.moved hW.alike hK, hDc.weaken (fun _ _ _ _ => trivial)⟩⟩ rfl hn hsize rfl (lv_room hw8) hdg ⟨by rw [hc0]; exact hf.1, by rw [hs0]; exact hf.2⟩) hS (fun q _ h => hFc q h) hFc (fun u t H1 locs1 ht hvm hw hB hz1 hk1 hS1 => ?_)
  obtain ⟨hP1, hK1, hD1⟩ := hB
  rw [ht] at hP1
  obtain ⟨hP2, hD2⟩ := va_join hP hD isC isR hC hR hnR hdis hk1 hFc hP1 hD1
  have hkk := kk H1 locs1 (hP2.sub isO (fm_map hO)) (hD2.sub isO hnO hO) hS1
  rw [hc0, hs0]
  exact hkk
end LB2
