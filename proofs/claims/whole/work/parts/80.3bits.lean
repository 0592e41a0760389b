/-! the ones of a number of 24 bits: both counts -/
theorem su_n : ∀ n, n < 32 → (((nI n).toUInt32 &&& Int32.toUInt32 31).toBitVec % 32).toNat = n := by decide
theorem ss_n : ∀ n, n < 32 → ((nI n &&& 31).toBitVec.smod 32).toNat = n := by decide
theorem ushN {u w : Nat} (hu : u < 2 ^ 31) (hw : w < 32) : ((nI u).toUInt32 >>> ((nI w).toUInt32 &&& Int32.toUInt32 31)).toInt32 = nI (u / 2 ^ w) := pk_ushrN (by omega) (nI w) w (su_n w hw)
theorem sshN {u w : Nat} (hu : u < 2 ^ 31) (hw : w < 32) : nI u >>> (nI w &&& 31) = nI (u / 2 ^ w) := pk_shrN hu (nI w &&& 31) w (ss_n w hw)
theorem andN (a b : Nat) : nI a &&& nI b = nI (a &&& b) := by
  apply Int32.toBitVec_inj.mp
  show BitVec.ofNat 32 a &&& BitVec.ofNat 32 b = BitVec.ofNat 32 (a &&& b)
  rw [BitVec.ofNat_and]
theorem and1N (a : Nat) : nI a &&& 1 = nI (a % 2) := by
  rw [show (1 : Int32) = nI 1 from rfl, andN, Nat.and_one_is_mod]
def bsum (u : Nat) : Nat → Nat
  | 0 => 0
  | n + 1 => bsum u n + u / 2 ^ n % 2
theorem on4_s (n : Nat) : f_X8_ones_L4 (n + 1) = f_X8_ones_L4_F (f_X8_ones_L4 n) := rfl
theorem ones_eq {u : Nat} (hu : u < 2 ^ 31) : f_X8_ones (nI u) = some (nI (bsum u 24)) := by
  have key : ∀ (n i : Nat), i ≤ 24 → 24 < n + i → f_X8_ones_L4 n (nI u) (nI (bsum u i)) (nI i) = some (nI (bsum u 24)) := by
    intro n
    induction n with
    | zero => intro i h1 h2; omega
    | succ n ih =>
      intro i h1 h2
      rw [on4_s]
      unfold f_X8_ones_L4_F
      by_cases e : i = 24
      · subst e; rw [if_pos (by decide)]
      · rw [if_neg (show ¬ (24 : Int32) ≤ _ from nI_ge (b := 24) (show i < 24 by omega) (by decide)), sshN hu (by omega), and1N, nI_add, nI_1]
        exact ih (i + 1) (by omega) (by omega)
  unfold f_X8_ones
  exact key FU 0 (by decide) (show 24 < 100000 + 0 by decide)
theorem land_split (a x m y : Nat) (ha : a < 256) (hm : m < 256) : (a + 256 * x) &&& (m + 256 * y) = (a &&& m) + 256 * (x &&& y) := by
  have h1 : ((a + 256 * x) &&& (m + 256 * y)) % 2 ^ 8 = ((a + 256 * x) % 2 ^ 8) &&& ((m + 256 * y) % 2 ^ 8) := Nat.and_mod_two_pow
  have h2 : ((a + 256 * x) &&& (m + 256 * y)) / 2 ^ 8 = ((a + 256 * x) / 2 ^ 8) &&& ((m + 256 * y) / 2 ^ 8) := Nat.and_div_two_pow
  rw [show (a + 256 * x) % 2 ^ 8 = a by omega, show (m + 256 * y) % 2 ^ 8 = m by omega] at h1
  rw [show (a + 256 * x) / 2 ^ 8 = x by omega, show (m + 256 * y) / 2 ^ 8 = y by omega] at h2
  have h3 := Nat.div_add_mod ((a + 256 * x) &&& (m + 256 * y)) (2 ^ 8)
  rw [h1, h2] at h3
  omega
def bs1 (a : Nat) : Nat := a - ((a / 2) &&& 85)
def bs2 (a : Nat) : Nat := (a &&& 51) + ((a / 4) &&& 51)
def bs3 (a : Nat) : Nat := (a + a / 16) &&& 15
theorem b_a1 : ∀ a, a < 256 → ∀ t, t < 2 → (a / 2 + 128 * t) &&& 85 = (a / 2) &&& 85 := by decide +kernel
theorem b_a2 : ∀ a, a < 256 → (a / 2) &&& 85 ≤ a ∧ bs1 a ≤ 170 := by decide +kernel
theorem b_a3 : ∀ a, a < 256 → (a / 2) &&& 21845 = (a / 2) &&& 85 := by decide +kernel
theorem b_c1 : ∀ a, a < 256 → ∀ t, t < 4 → (a / 4 + 64 * t) &&& 51 = (a / 4) &&& 51 := by decide +kernel
theorem b_c2 : ∀ a, a < 256 → bs2 (bs1 a) ≤ 68 ∧ bs2 (bs1 a) % 16 ≤ 4 := by decide +kernel
theorem b_c3 : ∀ a, a < 256 → a &&& 13107 = a &&& 51 ∧ (a / 4) &&& 13107 = (a / 4) &&& 51 := by decide +kernel
theorem b_e1 : ∀ a, a < 256 → bs3 (bs2 (bs1 a)) = a % 2 + a / 2 % 2 + a / 4 % 2 + a / 8 % 2 + a / 16 % 2 + a / 32 % 2 + a / 64 % 2 + a / 128 % 2 := by decide +kernel
theorem b_and15 (x : Nat) : x &&& 15 = x % 16 := Nat.and_two_pow_sub_one_eq_mod x 4
theorem b_and63 (x : Nat) : x &&& 63 = x % 64 := Nat.and_two_pow_sub_one_eq_mod x 6
theorem b_n1 {a b c : Nat} (ha : a < 256) (hb : b < 256) (hc : c < 256) : (a + 256 * (b + 256 * c)) - ((a + 256 * (b + 256 * c)) / 2 &&& 1431655765) = bs1 a + 256 * (bs1 b + 256 * bs1 c) ∧ ((a + 256 * (b + 256 * c)) / 2 &&& 1431655765) ≤ a + 256 * (b + 256 * c) := by
  have e : (a + 256 * (b + 256 * c)) / 2 = (a / 2 + 128 * (b % 2)) + 256 * ((b / 2 + 128 * (c % 2)) + 256 * (c / 2)) := by omega
  rw [e, show 1431655765 = 85 + 256 * (85 + 256 * 21845) from rfl, land_split _ _ _ _ (by omega) (by decide), land_split _ _ _ _ (by omega) (by decide), b_a1 a ha _ (Nat.mod_lt _ (by decide)), b_a1 b hb _ (Nat.mod_lt _ (by decide)), b_a3 c hc]
  have p1 := (b_a2 a ha).1
  have p2 := (b_a2 b hb).1
  have p3 := (b_a2 c hc).1
  unfold bs1
  omega
theorem b_n2 {p q r : Nat} (hp : p < 256) (hq : q < 256) (hr : r < 256) : ((p + 256 * (q + 256 * r)) &&& 858993459) + ((p + 256 * (q + 256 * r)) / 4 &&& 858993459) = bs2 p + 256 * (bs2 q + 256 * bs2 r) := by
  have e : (p + 256 * (q + 256 * r)) / 4 = (p / 4 + 64 * (q % 4)) + 256 * ((q / 4 + 64 * (r % 4)) + 256 * (r / 4)) := by omega
  rw [e, show 858993459 = 51 + 256 * (51 + 256 * 13107) from rfl, land_split _ _ _ _ (by omega) (by decide), land_split _ _ _ _ (by omega) (by decide), land_split _ _ _ _ (by omega) (by decide), land_split _ _ _ _ (by omega) (by decide), b_c1 p hp _ (Nat.mod_lt _ (by decide)), b_c1 q hq _ (Nat.mod_lt _ (by decide)), (b_c3 r hr).1, (b_c3 r hr).2]
  unfold bs2
  omega
theorem b_n3 {p q r : Nat} (hp : p ≤ 68) (hq : q ≤ 68) (hr : r ≤ 68) (hq2 : q % 16 ≤ 4) (hr2 : r % 16 ≤ 4) : ((p + 256 * (q + 256 * r)) + (p + 256 * (q + 256 * r)) / 16) &&& 252645135 = bs3 p + 256 * (bs3 q + 256 * bs3 r) := by
  have e : (p + 256 * (q + 256 * r)) + (p + 256 * (q + 256 * r)) / 16 = (p + p / 16 + 16 * (q % 16)) + 256 * ((q + q / 16 + 16 * (r % 16)) + 256 * (r + r / 16)) := by omega
  rw [e, show 252645135 = 15 + 256 * (15 + 256 * (15 + 256 * 15)) from rfl, land_split _ _ _ _ (by omega) (by decide), land_split _ _ _ _ (by omega) (by decide), show r + r / 16 = (r + r / 16) + 256 * 0 by omega, land_split _ _ _ _ (by omega) (by decide)]
  unfold bs3
  simp only [b_and15, Nat.zero_and]
  omega
theorem bc_fin {x y z : Nat} (x8 : x ≤ 8) (y8 : y ≤ 8) (z8 : z ≤ 8) : (x + 256 * (y + 256 * z) + (x + 256 * (y + 256 * z)) / 256 + (x + 256 * (y + 256 * z) + (x + 256 * (y + 256 * z)) / 256) / 65536) % 64 = x + y + z := by
  have e1 : (x + 256 * (y + 256 * z)) / 256 = y + 256 * z := by omega
  rw [e1]
  have e2 : (x + 256 * (y + 256 * z) + (y + 256 * z)) / 65536 = z := by omega
  rw [e2]
  omega
theorem b_le8 {a : Nat} (ha : a < 256) : bs3 (bs2 (bs1 a)) ≤ 8 := by
  have : ∀ a, a < 256 → bs3 (bs2 (bs1 a)) ≤ 8 := by decide +kernel
  exact this a ha
theorem bc_1 {a b c : Nat} (ha : a < 256) (hb : b < 256) (hc : c < 256) : nI (a + 256 * (b + 256 * c)) - (((nI (a + 256 * (b + 256 * c))).toUInt32 >>> (Int32.toUInt32 1 &&& Int32.toUInt32 31)).toInt32 &&& 1431655765) = nI (bs1 a + 256 * (bs1 b + 256 * bs1 c)) := by
  obtain ⟨n1, n1'⟩ := b_n1 ha hb hc
  have e := ushN (u := a + 256 * (b + 256 * c)) (w := 1) (by omega) (by decide)
  rw [Nat.pow_one] at e
  rw [show (1 : Int32) = nI 1 from rfl, e, show (1431655765 : Int32) = nI 1431655765 from rfl, andN, pk_sub n1', n1]
theorem bc_2 {p q r : Nat} (hp : p < 256) (hq : q < 256) (hr : r < 256) : (nI (p + 256 * (q + 256 * r)) &&& 858993459) + (((nI (p + 256 * (q + 256 * r))).toUInt32 >>> (Int32.toUInt32 2 &&& Int32.toUInt32 31)).toInt32 &&& 858993459) = nI (bs2 p + 256 * (bs2 q + 256 * bs2 r)) := by
  have e := ushN (u := p + 256 * (q + 256 * r)) (w := 2) (by omega) (by decide)
  rw [show 2 ^ 2 = 4 from rfl] at e
  rw [show (2 : Int32) = nI 2 from rfl, e, show (858993459 : Int32) = nI 858993459 from rfl, andN, andN, nI_add, b_n2 hp hq hr]
theorem bc_3 {p q r : Nat} (hp : p ≤ 68) (hq : q ≤ 68) (hr : r ≤ 68) (hq2 : q % 16 ≤ 4) (hr2 : r % 16 ≤ 4) : (nI (p + 256 * (q + 256 * r)) + ((nI (p + 256 * (q + 256 * r))).toUInt32 >>> (Int32.toUInt32 4 &&& Int32.toUInt32 31)).toInt32) &&& 252645135 = nI (bs3 p + 256 * (bs3 q + 256 * bs3 r)) := by
  have e := ushN (u := p + 256 * (q + 256 * r)) (w := 4) (by omega) (by decide)
  rw [show 2 ^ 4 = 16 from rfl] at e
  rw [show (4 : Int32) = nI 4 from rfl, e, nI_add, show (252645135 : Int32) = nI 252645135 from rfl, andN, b_n3 hp hq hr hq2 hr2]
theorem bc_4 {u : Nat} (hu : u < 16777216) : nI u + ((nI u).toUInt32 >>> (Int32.toUInt32 8 &&& Int32.toUInt32 31)).toInt32 = nI (u + u / 256) := by
  have e := ushN (u := u) (w := 8) (by omega) (by decide)
  rw [show 2 ^ 8 = 256 from rfl] at e
  rw [show (8 : Int32) = nI 8 from rfl, e, nI_add]
theorem bc_5 {u : Nat} (hu : u < 33554432) : nI u + ((nI u).toUInt32 >>> (Int32.toUInt32 16 &&& Int32.toUInt32 31)).toInt32 = nI (u + u / 65536) := by
  have e := ushN (u := u) (w := 16) (by omega) (by decide)
  rw [show 2 ^ 16 = 65536 from rfl] at e
  rw [show (16 : Int32) = nI 16 from rfl, e, nI_add]
theorem bc_nat {a b c : Nat} (ha : a < 256) (hb : b < 256) (hc : c < 256) : f_J6_bitCount_0f7a4 (nI (a + 256 * (b + 256 * c))) = some (nI (bs3 (bs2 (bs1 a)) + bs3 (bs2 (bs1 b)) + bs3 (bs2 (bs1 c)))) := by
  have q1 := (b_a2 a ha).2
  have q2 := (b_a2 b hb).2
  have q3 := (b_a2 c hc).2
  have r1 := b_c2 a ha
  have r2 := b_c2 b hb
  have r3 := b_c2 c hc
  have s1 := b_le8 ha
  have s2 := b_le8 hb
  have s3 := b_le8 hc
  unfold f_J6_bitCount_0f7a4
  dsimp only [nm]
  rw [bc_1 ha hb hc, bc_2 (by omega) (by omega) (by omega), bc_3 r1.1 r2.1 r3.1 r2.2 r3.2, bc_4 (by omega), bc_5 (by omega), show (63 : Int32) = nI 63 from rfl, andN, b_and63, bc_fin s1 s2 s3]
theorem bsum_lo {a x : Nat} (ha : a < 256) : bsum (a + 256 * x) 8 = bsum a 8 := by
  have e : ∀ w, w < 8 → (a + 256 * x) / 2 ^ w % 2 = a / 2 ^ w % 2 := by
    intro w hw
    match w, hw with
    | 0, _ => rw [show 2 ^ 0 = 1 from rfl]; omega
    | 1, _ => rw [show 2 ^ 1 = 2 from rfl]; omega
    | 2, _ => rw [show 2 ^ 2 = 4 from rfl]; omega
    | 3, _ => rw [show 2 ^ 3 = 8 from rfl]; omega
    | 4, _ => rw [show 2 ^ 4 = 16 from rfl]; omega
    | 5, _ => rw [show 2 ^ 5 = 32 from rfl]; omega
    | 6, _ => rw [show 2 ^ 6 = 64 from rfl]; omega
    | 7, _ => rw [show 2 ^ 7 = 128 from rfl]; omega
  have k : ∀ n, n ≤ 8 → bsum (a + 256 * x) n = bsum a n := by
    intro n
    induction n with
    | zero => intro _; rfl
    | succ n ih =>
      intro hn
      show bsum (a + 256 * x) n + (a + 256 * x) / 2 ^ n % 2 = bsum a n + a / 2 ^ n % 2
      rw [ih (by omega), e n (by omega)]
  exact k 8 (Nat.le_refl _)
theorem bsum_hi {a x : Nat} (ha : a < 256) : ∀ n, bsum (a + 256 * x) (8 + n) = bsum a 8 + bsum x n
  | 0 => by
    show bsum (a + 256 * x) 8 = bsum a 8 + 0
    rw [bsum_lo ha, Nat.add_zero]
  | n + 1 => by
    show bsum (a + 256 * x) (8 + n) + (a + 256 * x) / 2 ^ (8 + n) % 2 = bsum a 8 + (bsum x n + x / 2 ^ n % 2)
    rw [bsum_hi ha n, Nat.pow_add, ← Nat.div_div_eq_div_mul, show (a + 256 * x) / 2 ^ 8 = x by omega]
    omega
theorem bsum_8 {a : Nat} (ha : a < 256) : bsum a 8 = bs3 (bs2 (bs1 a)) := by
  rw [b_e1 a ha]
  show 0 + a / 1 % 2 + a / 2 % 2 + a / 4 % 2 + a / 8 % 2 + a / 16 % 2 + a / 32 % 2 + a / 64 % 2 + a / 128 % 2 = _
  rw [Nat.zero_add, Nat.div_one]
theorem bs24 {a b c : Nat} (ha : a < 256) (hb : b < 256) (hc : c < 256) : bsum (a + 256 * (b + 256 * c)) 24 = bs3 (bs2 (bs1 a)) + bs3 (bs2 (bs1 b)) + bs3 (bs2 (bs1 c)) := by
  rw [show 24 = 8 + (8 + 8) from rfl, bsum_hi ha, bsum_hi hb, bsum_8 ha, bsum_8 hb, bsum_8 hc, Nat.add_assoc]
theorem bitCount_eq {u : Nat} (hu : u < 16777216) : f_J6_bitCount_0f7a4 (nI u) = some (nI (bsum u 24)) := by
  have e : u = u % 256 + 256 * (u / 256 % 256 + 256 * (u / 65536)) := by omega
  rw [e, bs24 (Nat.mod_lt _ (by decide)) (Nat.mod_lt _ (by decide)) (by omega)]
  exact bc_nat (Nat.mod_lt _ (by decide)) (Nat.mod_lt _ (by decide)) (by omega)
