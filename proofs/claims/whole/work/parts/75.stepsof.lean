/-! pure: steps by the reference are steps by the class -/
def fsum (g : Nat → Int32) : Nat → Int32
  | 0 => 0
  | n + 1 => fsum g n + g n
def psum (lk : Int32) : List (Nat × Nat) → Int32
  | [] => 0
  | q :: r => lk * nI q.2 + psum lk r
theorem fsum_psum {lk : Int32} : ∀ (P : List (Nat × Nat)) (g : Nat → Int32), (∀ k q, P[k]? = some q → g (P.length - 1 - k) = nI q.2) → fsum (fun k => lk * g k) P.length = psum lk P
  | [], _, _ => rfl
  | q :: r, g, h => by
    have h0 := h 0 q rfl
    have h1 : g r.length = nI q.2 := by
      rw [← h0]
      congr 1
    have ih := fsum_psum (lk := lk) r g (fun k p hk => by
      have h2 := h (k + 1) p (by simpa using hk)
      rw [← h2]
      congr 1
      simp only [List.length_cons]
      omega)
    show fsum (fun k => lk * g k) r.length + lk * g r.length = lk * nI q.2 + psum lk r
    rw [ih, h1, Int32.add_comm]
theorem usum_psum {lk dn : Int32} : ∀ (P : List (Nat × Nat)), usum lk dn P = psum lk P + dn * nI P.length
  | [] => by
    show (0 : Int32) = 0 + dn * nI 0
    rw [nI_0, Int32.mul_zero, Int32.add_zero]
  | q :: r => by
    show (lk * nI q.2 + dn) + usum lk dn r = (lk * nI q.2 + psum lk r) + dn * nI (r.length + 1)
    rw [usum_psum r, ← nI_1, Int32.mul_add, Int32.mul_one]
    ac_rfl
theorem so19_s {lk : Int32} (n : Nat) : f_X8_stepsOf_L19 lk (n + 1) = f_X8_stepsOf_L19_F lk (f_X8_stepsOf_L19 lk n) := rfl
theorem so_L19 {lk base : Int32} {m : Nat} (hm : m ≤ 84) {wl wp : Nat → Int32} : ∀ (n i : Nat), i ≤ m → m < n + i → f_X8_stepsOf_L19 lk n (nI m) wl wp (base + fsum (fun k => lk * wp k) i) (nI i) = some (base + fsum (fun k => lk * wp k) m, nI m, wl, wp) := by
  intro n
  induction n with
  | zero => intro i h1 h2; omega
  | succ n ih =>
    intro i h1 h2
    rw [so19_s]
    unfold f_X8_stepsOf_L19_F
    by_cases e : i = m
    · subst e
      rw [if_pos (nI_le (Nat.le_refl _) (by omega))]
    · rw [if_neg (nI_ge (by omega) (by omega)), gi_nI (by omega) (by decide), nI_clamp (by omega), nI_1]
      have h3 := ih (i + 1) (by omega) (by omega)
      rw [← h3]
      congr 1
      show base + fsum (fun k => lk * wp k) i + lk * wp i = base + (fsum (fun k => lk * wp k) i + lk * wp i)
      rw [Int32.add_assoc]
