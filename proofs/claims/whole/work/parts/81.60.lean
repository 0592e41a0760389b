/-! tell: the readers, whole -/
def JT (n : Nat) (tp tp8 : Nat → Int32) (ub : Nat → Nat) (C B : Nat) (se : Nat → Int32) (fp : Int32) (m : Nat) : Prop := ∀ (k D s Ls : Nat) (op cn ab pa hm ph : Nat → Nat) (it : Nat → Nat → Sum Nat Nat) (S : Nat → Bool) (og sg sz av pv im hh pp ni nm hs o8 : Nat → Int32) (f f8 : Nat), PA C D s Ls op cn ab pa hm ph it S → (∀ l, l < Ls → cn l ≤ B) → PC C D Ls op cn ab pa hm ph it S og sg sz av pv im hh pp → P8 D Ls op cn it S ni nm hs o8 → k ≤ n → n ≤ k + m → n + 1 < f + k → n + 1 < f8 + k → fr ub n k → RS C (f_X2_readTree_L52 tp (nI C) se f 0 fp (nI D) (nI s) og sg (nI Ls) sz av pv im hh pp (nI n) (nI k)) (f_X8_reads_L60 (nI C) (nI B) (nI n) tp8 f8 (nI Ls) (nI k) 0 fp ni nm hs o8 (nI D))
theorem r262 {k60 : Int32 → Int32 → Int32 → Int32 → (Nat → Int32) → (Nat → Int32) → (Nat → Int32) → (Nat → Int32) → Int32 → Option (Int32 × Int32 × Int32 × Int32 × (Nat → Int32) × (Nat → Int32) × (Nat → Int32) × (Nat → Int32))} {nl a ft pl x1 : Int32} {ni nm hs o8 : Nat → Int32} : f_X8_reads_L262 k60 nl a ft pl ni nm hs o8 x1 = k60 nl a ft pl ni nm hs o8 x1 := rfl
theorem r253 {k60 : Int32 → Int32 → Int32 → Int32 → (Nat → Int32) → (Nat → Int32) → (Nat → Int32) → (Nat → Int32) → Int32 → Option (Int32 × Int32 × Int32 × Int32 × (Nat → Int32) × (Nat → Int32) × (Nat → Int32) × (Nat → Int32))} {nl a pl x1 : Int32} {ni nm hs o8 : Nat → Int32} : f_X8_reads_L253 k60 nl a 0 pl ni nm hs o8 x1 = k60 nl a (nI 1) a ni nm hs o8 x1 := by
  unfold f_X8_reads_L253
  rw [wrong0]
  rfl
theorem r237 {k60 : Int32 → Int32 → Int32 → Int32 → (Nat → Int32) → (Nat → Int32) → (Nat → Int32) → (Nat → Int32) → Int32 → Option (Int32 × Int32 × Int32 × Int32 × (Nat → Int32) × (Nat → Int32) × (Nat → Int32) × (Nat → Int32))} {nl ft pl : Int32} {a D : Nat} {ni nm hs o8 : Nat → Int32} (hD : 1 ≤ D) : f_X8_reads_L237 k60 nl (nI a) ft pl ni nm hs o8 (nI D) = k60 nl (nI (a + 1)) ft pl ni nm hs o8 (nI (D - 1)) := by
  unfold f_X8_reads_L237
  rw [r262, nI_1]
  obtain ⟨j, rfl⟩ : ∃ j, D = j + 1 := ⟨D - 1, by omega⟩
  rw [pk_m1]
  rfl
theorem ob2_s {α0 α1 β : Type} {a : α0} {b : α1} {k : α0 → α1 → Option β} : ob2 (some (a, b)) k = k a b := rfl
