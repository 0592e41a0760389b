/-! pure: a byte of a number by either shift -/
theorem bv_byte (b : BitVec 32) (k : Nat) (hk : k ≤ 24) : (b >>> k).setWidth 8 = (b.sshiftRight k).setWidth 8 := by
  apply BitVec.eq_of_getLsbD_eq
  intro i hi
  simp only [BitVec.getLsbD_setWidth, BitVec.getLsbD_ushiftRight, BitVec.getLsbD_sshiftRight]
  have h1 : k + i < 32 := by omega
  have h2 : ¬ (32 ≤ i) := by omega
  simp [h1, h2, hi]
