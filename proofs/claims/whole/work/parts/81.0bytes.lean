/-! tell: bytes, blanks, numbers -/
def dg (u : Nat) : Bool := decide (48 ≤ u) && decide (u ≤ 57)
theorem dg_t {u : Nat} : dg u = true ↔ 48 ≤ u ∧ u ≤ 57 := by
  unfold dg
  rw [Bool.and_eq_true, decide_eq_true_eq, decide_eq_true_eq]
/-- what the first n bytes of both tapes are -/
def BT (n : Nat) (tp tp8 : Nat → Int32) (ub : Nat → Nat) : Prop := n ≤ 400 ∧ ∀ j, j < n → ub j < 256 ∧ (tp8 j &&& 255 = nI (ub j)) ∧ ((tp j = nI (ub j) ∧ ub j < 128) ∨ (tp j < 0 ∧ 128 ≤ ub j))
theorem byte_c : ∀ n, n < 256 → (((Int8.ofNat n).toInt32 = nI n ∧ n < 128) ∨ ((Int8.ofNat n).toInt32 < 0 ∧ 128 ≤ n)) ∧ (Int8.ofNat n).toInt32 &&& 255 = nI n := by decide +kernel
theorem bt_of {T n : Nat} {tp tp8 : Nat → Int32} (h : RT T tp tp8) (hn : n ≤ T) : ∃ ub, BT n tp tp8 ub := by
  have key : ∀ j, ∃ u : Nat, j < n → u < 256 ∧ (tp8 j &&& 255 = nI u) ∧ ((tp j = nI u ∧ u < 128) ∨ (tp j < 0 ∧ 128 ≤ u)) := by
    intro j
    by_cases q : j < n
    · obtain ⟨e1, x, e2⟩ := h.2 j (by omega)
      refine ⟨x.toInt8.toBitVec.toNat, fun _ => ?_⟩
      have hlt : x.toInt8.toBitVec.toNat < 256 := x.toInt8.toBitVec.isLt
      have ee : x.toInt8 = Int8.ofNat x.toInt8.toBitVec.toNat := by
        apply Int8.toBitVec_inj.mp
        show _ = BitVec.ofNat 8 x.toInt8.toBitVec.toNat
        rw [BitVec.ofNat_toNat, BitVec.setWidth_eq]
      obtain ⟨c1, c2⟩ := byte_c _ hlt
      rw [← ee] at c1 c2
      rw [e1, e2]
      exact ⟨hlt, c2, c1⟩
    · exact ⟨0, fun z => absurd z q⟩
  refine ⟨fun j => Classical.choose (key j), Nat.le_trans hn h.1, fun j hj => Classical.choose_spec (key j) hj⟩
theorem d8 {u : Nat} (hu : u < 2 ^ 31) : f_X8_isDigit (nI u) = some (if dg u = true then 1 else 0) := by
  unfold f_X8_isDigit
  by_cases q : dg u = true
  · have := dg_t.mp q
    rw [if_pos q, if_neg (show ¬ nI u < 48 from nI_nlt (b := 48) this.1 hu), if_neg (show ¬ (57 : Int32) < nI u from nI_nlt (a := 57) this.2 (by decide))]
  · rw [if_neg q]
    by_cases z : u < 48
    · rw [if_pos (show nI u < 48 from nI_lt (b := 48) z (by decide))]
    · rw [if_neg (show ¬ nI u < 48 from nI_nlt (b := 48) (by omega) hu), if_pos (show (57 : Int32) < nI u from nI_lt (a := 57) (by
        rcases Nat.lt_or_ge 57 u with w | w
        · exact w
        · exact absurd (dg_t.mpr ⟨by omega, w⟩) q) hu)]
theorem d7 {n : Nat} {tp tp8 : Nat → Int32} {ub : Nat → Nat} (h : BT n tp tp8 ub) {j : Nat} (hj : j < n) : f_X2_isDigit (tp j) = some (if dg (ub j) = true then 1 else 0) := by
  obtain ⟨h1, h2, h3⟩ := h.2 j hj
  rcases h3 with ⟨h3, h4⟩ | ⟨h3, h4⟩
  · rw [h3]
    exact d8 (by omega)
  · unfold f_X2_isDigit
    rw [if_pos (Int32.lt_trans h3 (by decide)), if_neg (fun z => by have := dg_t.mp z; omega)]
theorem e7 {n : Nat} {tp tp8 : Nat → Int32} {ub : Nat → Nat} (h : BT n tp tp8 ub) {j c : Nat} (hj : j < n) (hc : c < 128) : tp j = nI c ↔ ub j = c := by
  obtain ⟨h1, h2, h3⟩ := h.2 j hj
  rcases h3 with ⟨h3, h4⟩ | ⟨h3, h4⟩
  · rw [h3]; exact nI_eq (by omega) (by omega)
  · constructor
    · intro z; rw [z] at h3; exact absurd h3 (nI_pos (by omega))
    · intro z; omega
theorem a8 {n : Nat} {tp tp8 : Nat → Int32} {ub : Nat → Nat} (h : BT n tp tp8 ub) {j : Nat} (hj : j < n) : f_X8_byteAt (nI n) tp8 (nI j) = some (nI (ub j)) := by
  have := h.1
  unfold f_X8_byteAt
  rw [if_neg (nI_ge hj (by omega)), gi_nI (by omega) (by decide), nI_clamp (by omega), (h.2 j hj).2.1]
theorem a8e {n j : Nat} {tp8 : Nat → Int32} (hn : n ≤ j) (hj : j < 2 ^ 31) : f_X8_byteAt (nI n) tp8 (nI j) = some 0 := by
  unfold f_X8_byteAt
  rw [if_pos (nI_le hn hj)]
theorem bl_s {z : Int32} {tp8 : Nat → Int32} (n : Nat) : f_X8_blanks_L0 z tp8 (n + 1) = f_X8_blanks_L0_F z tp8 (f_X8_blanks_L0 z tp8 n) := rfl
theorem blanks8 {n : Nat} {tp tp8 : Nat → Int32} {ub : Nat → Nat} (h : BT n tp tp8 ub) {k : Nat} (hk : k ≤ n) : ∃ e, k ≤ e ∧ e ≤ n ∧ (∀ j, k ≤ j → j < e → ub j = 32) ∧ (e < n → ub e ≠ 32) ∧ f_X8_blanks (nI n) tp8 (nI k) = some (nI e) := by
  have h4 := h.1
  have key : ∀ (f k : Nat), k ≤ n → n < f + k → ∃ e, k ≤ e ∧ e ≤ n ∧ (∀ j, k ≤ j → j < e → ub j = 32) ∧ (e < n → ub e ≠ 32) ∧ f_X8_blanks_L0 (nI n) tp8 f (nI k) = some (nI e) := by
    intro f
    induction f with
    | zero => intro k h1 h2; omega
    | succ f ih =>
      intro k h1 h2
      rw [bl_s]
      unfold f_X8_blanks_L0_F
      by_cases q : k = n
      · subst q
        rw [if_pos (nI_le (Nat.le_refl _) (by omega))]
        exact ⟨k, Nat.le_refl _, Nat.le_refl _, fun j a b => by omega, fun a => by omega, rfl⟩
      · have hk : k < n := by omega
        rw [if_neg (nI_ge hk (by omega)), a8 h hk]
        dsimp only [ob]
        by_cases z : ub k = 32
        · rw [if_pos (show nI (ub k) = 32 by rw [z]; rfl), nI_1]
          obtain ⟨e, u1, u2, u3, u4, u5⟩ := ih (k + 1) (by omega) (by omega)
          refine ⟨e, by omega, u2, fun j a b => ?_, u4, u5⟩
          by_cases w : j = k
          · rw [w]; exact z
          · exact u3 j (by omega) b
        · have := (h.2 k hk).1
          rw [if_neg (show ¬ nI (ub k) = 32 from fun w => z ((nI_eq (b := 32) (by omega) (by decide)).mp w))]
          exact ⟨k, Nat.le_refl _, h1, fun j a b => by omega, fun _ => z, rfl⟩
  exact key FU k hk (show n < 100000 + k by omega)
/-- a run of digits as either reader reckons it -/
def V7 (ub : Nat → Nat) : Nat → Nat → Nat → Nat
  | _, 0, x => x
  | k, r + 1, x => V7 ub (k + 1) r (if x < 40 then x * 10 + (ub k - 48) else x)
def V8 (ub : Nat → Nat) : Nat → Nat → Nat → Nat
  | _, 0, x => x
  | k, r + 1, x => V8 ub (k + 1) r (if x ≤ 1000 then 10 * x + (ub k - 48) else x)
theorem V_rel {ub : Nat → Nat} : ∀ (r k x y : Nat), (∀ j, k ≤ j → j < k + r → dg (ub j) = true) → ((x = y ∧ x < 40) ∨ (40 ≤ x ∧ 40 ≤ y)) → x < 20000 → y < 20000 → ((V7 ub k r x = V8 ub k r y ∧ V7 ub k r x < 40) ∨ (40 ≤ V7 ub k r x ∧ 40 ≤ V8 ub k r y)) ∧ V7 ub k r x < 20000 ∧ V8 ub k r y < 20000
  | 0, k, x, y, _, h, a, b => ⟨h, a, b⟩
  | r + 1, k, x, y, hd, h, a, b => by
    have h1 := dg_t.mp (hd k (Nat.le_refl _) (by omega))
    refine V_rel r (k + 1) _ _ (fun j q1 q2 => hd j (by omega) (by omega)) ?_ ?_ ?_
    · rcases h with ⟨rfl, h⟩ | ⟨h, h2⟩
      · rw [if_pos h, if_pos (by omega), Nat.mul_comm]
        omega
      · right
        rw [if_neg (by omega)]
        refine ⟨h, ?_⟩
        split <;> omega
    · split <;> omega
    · split <;> omega
theorem na_s {tp : Nat → Int32} (n : Nat) : f_X2_numberAt_L5 tp (n + 1) = f_X2_numberAt_L5_F tp (f_X2_numberAt_L5 tp n) := rfl
theorem num7 {n : Nat} {tp tp8 : Nat → Int32} {ub : Nat → Nat} (h : BT n tp tp8 ub) : ∀ (r k x f : Nat), r < f → k + r ≤ n → (∀ j, k ≤ j → j < k + r → dg (ub j) = true) → (k + r < n → dg (ub (k + r)) = false) → x < 20000 → f_X2_numberAt_L5 tp f (nI n) (nI x) (nI k) = some (nI (V7 ub k r x)) := by
  have h4 := h.1
  intro r
  induction r with
  | zero =>
    intro k x f h1 h2 h3 h5 h6
    obtain ⟨f, rfl⟩ : ∃ k, f = k + 1 := ⟨f - 1, by omega⟩
    rw [na_s]
    unfold f_X2_numberAt_L5_F
    by_cases q : k = n
    · subst q
      rw [if_pos (nI_le (Nat.le_refl _) (by omega))]
      rfl
    · rw [if_neg (nI_ge (by omega) (by omega)), gi_nI (by omega) (by decide), nI_clamp (by omega), d7 h (by omega)]
      dsimp only [ob]
      have := h5 (by omega)
      rw [Nat.add_zero] at this
      rw [this, if_neg (show ¬ (false = true) by decide), if_pos rfl]
      rfl
  | succ r ih =>
    intro k x f h1 h2 h3 h5 h6
    obtain ⟨f, rfl⟩ : ∃ k, f = k + 1 := ⟨f - 1, by omega⟩
    have hd := h3 k (Nat.le_refl _) (by omega)
    have hd2 := dg_t.mp hd
    have hkn : k < n := by omega
    rw [na_s]
    unfold f_X2_numberAt_L5_F f_X2_numberAt_L40
    rw [if_neg (nI_ge hkn (by omega)), gi_nI (by omega) (by decide), nI_clamp (by omega), d7 h hkn]
    dsimp only [ob]
    rw [hd, if_pos rfl, if_neg (show ¬ (1 : Int32) = 0 by decide), nI_1]
    have ht : tp k = nI (ub k) := (e7 h hkn (by omega)).mpr rfl
    have ihh := fun y hy => ih (k + 1) y f (by omega) (by omega) (fun j a b => h3 j (by omega) (by omega)) (by rw [show k + 1 + r = k + (r + 1) by omega]; exact h5) hy
    show _ = some (nI (V7 ub (k + 1) r (if x < 40 then x * 10 + (ub k - 48) else x)))
    by_cases q : x < 40
    · rw [if_neg (show ¬ (40 : Int32) ≤ _ from nI_ge (b := 40) q (by decide)), gi_nI (by omega) (by decide), if_pos q, ht, show (48 : Int32) = nI 48 from rfl, pk_sub hd2.1, show (10 : Int32) = nI 10 from rfl, pk_mul, nI_add]
      exact ihh _ (by omega)
    · rw [if_pos (show (40 : Int32) ≤ nI x from nI_le (a := 40) (by omega) (by omega)), if_neg q]
      exact ihh _ h6
theorem nu_s {cm br z : Int32} {tp8 : Nat → Int32} (n : Nat) : f_X8_number_L7 cm br z tp8 (n + 1) = f_X8_number_L7_F cm br z tp8 (f_X8_number_L7 cm br z tp8 n) := rfl
theorem num8 {n : Nat} {tp tp8 : Nat → Int32} {ub : Nat → Nat} (h : BT n tp tp8 ub) {cm br ft pl x1 x2 : Int32} {ni nm hs : Nat → Int32} : ∀ (r k x f : Nat), k + r ≤ n → (∀ j, k ≤ j → j < k + r → dg (ub j) = true) → x < 20000 → f_X8_number_L7 cm br (nI n) tp8 (f + r) (nI k) ft pl ni nm hs x1 x2 (nI x) = f_X8_number_L7 cm br (nI n) tp8 f (nI (k + r)) ft pl ni nm hs x1 x2 (nI (V8 ub k r x)) := by
  have h4 := h.1
  intro r
  induction r with
  | zero => intro k x f _ _ _; rfl
  | succ r ih =>
    intro k x f h2 h3 h6
    have hd := h3 k (Nat.le_refl _) (by omega)
    have hd2 := dg_t.mp hd
    have hkn : k < n := by omega
    rw [show f + (r + 1) = (f + r) + 1 by omega, nu_s]
    unfold f_X8_number_L7_F f_X8_number_L48
    rw [a8 h hkn]
    dsimp only [ob]
    rw [d8 (by omega), hd, if_pos rfl]
    dsimp only
    rw [if_neg (show ¬ (1 : Int32) = 0 by decide), nI_1]
    have ihh := fun y hy => ih (k + 1) y f (by omega) (fun j a b => h3 j (by omega) (by omega)) hy
    rw [show k + (r + 1) = k + 1 + r by omega]
    show _ = f_X8_number_L7 cm br (nI n) tp8 f (nI (k + 1 + r)) ft pl ni nm hs x1 x2 (nI (V8 ub (k + 1) r (if x ≤ 1000 then 10 * x + (ub k - 48) else x)))
    by_cases q : x ≤ 1000
    · rw [if_pos (show nI x ≤ 1000 from nI_le (b := 1000) q (by decide)), if_pos q, show (10 : Int32) = nI 10 from rfl, pk_mul, nI_add, show (48 : Int32) = nI 48 from rfl, pk_sub (by omega), show 10 * x + ub k - 48 = 10 * x + (ub k - 48) by omega]
      exact ihh _ (by omega)
    · rw [if_neg (show ¬ nI x ≤ 1000 from nI_ge (a := 1000) (by omega) (by omega)), if_neg q]
      exact ihh _ h6
theorem run_ex {ub : Nat → Nat} {n : Nat} : ∀ (m k : Nat), n = k + m → ∃ r, k + r ≤ n ∧ (∀ j, k ≤ j → j < k + r → dg (ub j) = true) ∧ (k + r < n → dg (ub (k + r)) = false)
  | 0, k, h => ⟨0, by omega, fun j a b => by omega, fun a => by omega⟩
  | m + 1, k, h => by
    cases q : dg (ub k) with
    | false => exact ⟨0, by omega, fun j a b => by omega, fun _ => by rw [Nat.add_zero]; exact q⟩
    | true =>
      obtain ⟨r, u1, u2, u3⟩ := run_ex (ub := ub) (n := n) m (k + 1) (by omega)
      refine ⟨r + 1, by omega, fun j a b => ?_, fun a => ?_⟩
      · by_cases w : j = k
        · rw [w]; exact q
        · exact u2 j (by omega) (by omega)
      · rw [show k + (r + 1) = k + 1 + r by omega]
        exact u3 (by omega)
