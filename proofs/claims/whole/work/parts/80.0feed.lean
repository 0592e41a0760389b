/-! the tapes -/
def RT (T : Nat) (tp tp8 : Nat → Int32) : Prop := T ≤ 400 ∧ ∀ k, k < T → tp8 k = tp k ∧ ∃ x : Int32, tp k = x.toInt8.toInt32
def byt (v s : Int32) : Int32 := (Int32.toInt8 (v >>> (s &&& 31))).toInt32
theorem byt_g (v s : Int32) (k : Nat) (hk : k ≤ 24) (e1 : (s &&& 31).toBitVec.smod 32 = BitVec.ofNat 32 k) (e2 : (Int32.toUInt32 s &&& Int32.toUInt32 31).toBitVec % 32 = BitVec.ofNat 32 k) : Int32.toInt8 ((Int32.toUInt32 v >>> (Int32.toUInt32 s &&& Int32.toUInt32 31)).toInt32) = Int32.toInt8 (v >>> (s &&& 31)) := by
  have en : (BitVec.ofNat 32 k).toNat = k := by rw [BitVec.toNat_ofNat]; exact Nat.mod_eq_of_lt (by omega)
  have h1 : (v >>> (s &&& 31)).toBitVec = v.toBitVec.sshiftRight k := by
    show v.toBitVec.sshiftRight ((s &&& 31).toBitVec.smod 32).toNat = _
    rw [e1, en]
  have h2 : ((Int32.toUInt32 v >>> (Int32.toUInt32 s &&& Int32.toUInt32 31)).toInt32).toBitVec = v.toBitVec >>> k := by
    show v.toBitVec >>> ((Int32.toUInt32 s &&& Int32.toUInt32 31).toBitVec % 32).toNat = _
    rw [e2, en]
  apply Int8.toBitVec_inj.mp
  show BitVec.signExtend 8 ((Int32.toUInt32 v >>> (Int32.toUInt32 s &&& Int32.toUInt32 31)).toInt32).toBitVec = BitVec.signExtend 8 (v >>> (s &&& 31)).toBitVec
  rw [h1, h2, BitVec.signExtend_eq_setWidth_of_le _ (by decide), BitVec.signExtend_eq_setWidth_of_le _ (by decide)]
  exact bv_byte v.toBitVec k hk
theorem byt_7 (v s : Int32) (hs : s = 24 ∨ s = 16 ∨ s = 8 ∨ s = 0) : vp_nar .byte (Int8.toInt32 (Int32.toInt8 ((Int32.toUInt32 v >>> (Int32.toUInt32 s &&& Int32.toUInt32 31)).toInt32))) = byt v s := by
  rw [pk_vb]
  unfold byt
  congr 1
  rcases hs with rfl | rfl | rfl | rfl
  · exact byt_g v 24 24 (by decide) (by decide) (by decide)
  · exact byt_g v 16 16 (by decide) (by decide) (by decide)
  · exact byt_g v 8 8 (by decide) (by decide) (by decide)
  · exact byt_g v 0 0 (by decide) (by decide) (by decide)
def tp4 (g : Nat → Int32) (T : Nat) (v : Int32) : Nat → Int32 := upd (upd (upd (upd g T (byt v 24)) (T + 1) (byt v 16)) (T + 2) (byt v 8)) (T + 3) (byt v 0)
theorem pt3_s (n : Nat) : f_X7_putOnTape_L3 (n + 1) = f_X7_putOnTape_L3_F (f_X7_putOnTape_L3 n) := rfl
theorem pt3_1 {n T : Nat} {g : Nat → Int32} {v s : Int32} (hT : T < 400) (hs : ¬ s < 0) : f_X7_putOnTape_L3 (n + 1) (nI T) g v s = f_X7_putOnTape_L3 n (nI (T + 1)) (upd g T (vp_nar .byte (Int8.toInt32 (Int32.toInt8 ((Int32.toUInt32 v >>> (Int32.toUInt32 s &&& Int32.toUInt32 31)).toInt32))))) v (s + (-8)) := by
  rw [pt3_s]
  unfold f_X7_putOnTape_L3_F
  rw [if_neg hs, if_neg (show ¬ (400 : Int32) ≤ _ from nI_ge (b := 400) hT (by decide)), gi_nI hT (by decide), nI_clamp (by omega), nI_1]
theorem pt3_e {n T : Nat} {g : Nat → Int32} {v s : Int32} (hs : s < 0) : f_X7_putOnTape_L3 (n + 1) (nI T) g v s = some (nI T, g) := by
  rw [pt3_s]
  unfold f_X7_putOnTape_L3_F
  rw [if_pos hs]
theorem pt3 {n T : Nat} {g : Nat → Int32} {v : Int32} (hT : T + 4 ≤ 400) : f_X7_putOnTape_L3 (n + 1 + 1 + 1 + 1 + 1) (nI T) g v 24 = some (nI (T + 4), tp4 g T v) := by
  rw [pt3_1 (by omega) (by decide), pt3_1 (by omega) (by decide), pt3_1 (by omega) (by decide), pt3_1 (by omega) (by decide), pt3_e (by decide), byt_7 v 24 (by simp), show (24 : Int32) + (-8) = 16 by decide, byt_7 v 16 (by simp), show (16 : Int32) + (-8) = 8 by decide, byt_7 v 8 (by simp), show (8 : Int32) + (-8) = 0 by decide, byt_7 v 0 (by simp)]
  rfl
theorem put4 {T : Nat} {g : Nat → Int32} {v : Int32} (hT : T + 4 ≤ 400) : f_X7_putOnTape (nI T) g v = some (nI (T + 4), tp4 g T v) := by
  unfold f_X7_putOnTape
  have h : ∀ n : Nat, 5 ≤ n → f_X7_putOnTape_L3 n (nI T) g v 24 = some (nI (T + 4), tp4 g T v) := fun n hn => by
    obtain ⟨k, rfl⟩ : ∃ k, n = k + 1 + 1 + 1 + 1 + 1 := ⟨n - 5, by omega⟩
    exact pt3 hT
  exact h FU (show 5 ≤ 100000 by decide)
theorem fd77_s {k23 : Int32 → Int32 → (Nat → Int32) → Int32 → Int32 → Int32 → Int32 → Int32 → Int32 → Option (Int32 × Int32 × Int32 × (Nat → Int32))} (n : Nat) : f_X8_feed_L77 k23 (n + 1) = f_X8_feed_L77_F k23 (f_X8_feed_L77 k23 n) := rfl
theorem fd77_1 {k23 : Int32 → Int32 → (Nat → Int32) → Int32 → Int32 → Int32 → Int32 → Int32 → Int32 → Option (Int32 × Int32 × Int32 × (Nat → Int32))} {n T : Nat} {g : Nat → Int32} {th a b c d e w v s : Int32} (hT : T < 400) (hs : ¬ s < 0) : f_X8_feed_L77 k23 (n + 1) th (nI T) g a b c d e w v s = f_X8_feed_L77 k23 n th (nI (T + 1)) (upd g T (byt v s)) a b c d e w v (s + (-8)) := by
  rw [fd77_s]
  unfold f_X8_feed_L77_F
  rw [if_neg hs, gi_nI hT (by decide), nI_clamp (by omega), nI_1, pk_vb]
  rfl
theorem fd77 {k23 : Int32 → Int32 → (Nat → Int32) → Int32 → Int32 → Int32 → Int32 → Int32 → Int32 → Option (Int32 × Int32 × Int32 × (Nat → Int32))} {T : Nat} {g : Nat → Int32} {th a b c d e w v : Int32} (hT : T + 4 ≤ 400) : f_X8_feed_L71 k23 th (nI T) g a b c d e w v = k23 th (nI (T + 4)) (tp4 g T v) a b c d e (w + 1) := by
  unfold f_X8_feed_L71
  have h : ∀ n : Nat, 5 ≤ n → f_X8_feed_L77 k23 n th (nI T) g a b c d e w v 24 = k23 th (nI (T + 4)) (tp4 g T v) a b c d e (w + 1) := fun n hn => by
    obtain ⟨k, rfl⟩ : ∃ k, n = k + 1 + 1 + 1 + 1 + 1 := ⟨n - 5, by omega⟩
    rw [fd77_1 (by omega) (by decide), fd77_1 (by omega) (by decide), fd77_1 (by omega) (by decide), fd77_1 (by omega) (by decide), fd77_s]
    unfold f_X8_feed_L77_F
    rw [if_pos (by decide), show (24 : Int32) + (-8) = 16 by decide, show (16 : Int32) + (-8) = 8 by decide, show (8 : Int32) + (-8) = 0 by decide]
    rfl
  exact h FU (show 5 ≤ 100000 by decide)
def tp20 (g : Nat → Int32) (T : Nat) (a b c d e : Int32) : Nat → Int32 := tp4 (tp4 (tp4 (tp4 (tp4 g T a) (T + 4) b) (T + 8) c) (T + 12) d) (T + 16) e
theorem fd23_s (n : Nat) : f_X8_feed_L23 (n + 1) = f_X8_feed_L23_F (f_X8_feed_L23 n) := rfl
theorem fd23 {n T : Nat} {g : Nat → Int32} {th a b c d e : Int32} (hT : T + 20 ≤ 400) : f_X8_feed_L23 (n + 1 + 1 + 1 + 1 + 1 + 1) th (nI T) g a b c d e 0 = some (nI (T + 20), th, nI (T + 20), tp20 g T a b c d e) := by
  rw [fd23_s]; unfold f_X8_feed_L23_F
  rw [if_neg (by decide), if_pos rfl, fd77 (by omega), show (0 : Int32) + 1 = 1 by decide, fd23_s]; unfold f_X8_feed_L23_F
  rw [if_neg (by decide), if_neg (by decide), if_pos rfl, fd77 (by omega), show (1 : Int32) + 1 = 2 by decide, fd23_s]; unfold f_X8_feed_L23_F
  rw [if_neg (by decide), if_neg (by decide), if_neg (by decide), if_pos rfl, fd77 (by omega), show (2 : Int32) + 1 = 3 by decide, fd23_s]; unfold f_X8_feed_L23_F
  rw [if_neg (by decide), if_neg (by decide), if_neg (by decide), if_neg (by decide), if_pos rfl, fd77 (by omega), show (3 : Int32) + 1 = 4 by decide, fd23_s]; unfold f_X8_feed_L23_F
  rw [if_neg (by decide), if_neg (by decide), if_neg (by decide), if_neg (by decide), if_neg (by decide), fd77 (by omega), show (4 : Int32) + 1 = 5 by decide, fd23_s]; unfold f_X8_feed_L23_F
  rw [if_pos (by decide)]
  rfl
theorem rt_tp4 {T : Nat} {g g8 : Nat → Int32} {v : Int32} (hT : T + 4 ≤ 400) (h : RT T g g8) : RT (T + 4) (tp4 g T v) (tp4 g8 T v) := by
  refine ⟨hT, fun k hk => ?_⟩
  unfold tp4
  by_cases e3 : k = T + 3
  · subst e3; rw [pk_us, pk_us]; exact ⟨rfl, _, rfl⟩
  rw [pk_un e3, pk_un e3]
  by_cases e2 : k = T + 2
  · subst e2; rw [pk_us, pk_us]; exact ⟨rfl, _, rfl⟩
  rw [pk_un e2, pk_un e2]
  by_cases e1 : k = T + 1
  · subst e1; rw [pk_us, pk_us]; exact ⟨rfl, _, rfl⟩
  rw [pk_un e1, pk_un e1]
  by_cases e0 : k = T
  · subst e0; rw [pk_us, pk_us]; exact ⟨rfl, _, rfl⟩
  rw [pk_un e0, pk_un e0]
  exact h.2 k (by omega)
theorem s_feed {T : Nat} {tp tp8 : Nat → Int32} (h : RT T tp tp8) (th a b c d e : Int32) : ∃ r T' tp' tp8', f_X7_feed (nI T) tp a b c d e = some (r, nI T', tp') ∧ f_X8_feed th (nI T) tp8 a b c d e = some (r, 0, nI T', tp8') ∧ RT T' tp' tp8' := by
  have hT := h.1
  unfold f_X7_feed f_X8_feed
  rw [show nI T + 20 = nI (T + 20) from nI_add T 20]
  by_cases q : T + 20 ≤ 400
  · rw [if_pos (show nI T ≤ 380 from nI_le (b := 380) (by omega) (by decide)), if_pos (show nI (T + 20) ≤ 400 from nI_le (b := 400) q (by decide)), put4 (by omega)]
    dsimp only [ob2]
    rw [put4 (by omega)]
    dsimp only [ob2]
    rw [put4 (by omega)]
    dsimp only [ob2]
    rw [put4 (by omega)]
    dsimp only [ob2]
    rw [put4 (by omega)]
    dsimp only [ob2]
    have h8 : ∀ n : Nat, 6 ≤ n → f_X8_feed_L23 n 0 (nI T) tp8 a b c d e 0 = some (nI (T + 20), 0, nI (T + 20), tp20 tp8 T a b c d e) := fun n hn => by
      obtain ⟨k, rfl⟩ : ∃ k, n = k + 1 + 1 + 1 + 1 + 1 + 1 := ⟨n - 6, by omega⟩
      exact fd23 q
    refine ⟨_, T + 20, tp20 tp T a b c d e, tp20 tp8 T a b c d e, rfl, h8 FU (show 6 ≤ 100000 by decide), ?_⟩
    unfold tp20
    exact rt_tp4 (T := T + 16) (by omega) (rt_tp4 (T := T + 12) (by omega) (rt_tp4 (T := T + 8) (by omega) (rt_tp4 (T := T + 4) (by omega) (rt_tp4 (by omega) h))))
  · rw [if_neg (show ¬ nI T ≤ 380 from fun z => q (by have := (nI_leI (a := T) (b := 380) (by omega) (by decide)).mp z; omega)), if_neg (show ¬ nI (T + 20) ≤ 400 from fun z => q ((nI_leI (a := T + 20) (b := 400) (by omega) (by decide)).mp z))]
    exact ⟨-1, T, tp, tp8, rfl, rfl, h⟩
