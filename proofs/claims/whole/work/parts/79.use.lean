/-! the relation of the two uses, and the calls on it -/
def RU (N : Nat) (ct wd se ct8 wd8 : Nat → Int32) (lk dn br un : Int32) : Prop :=
  N ≤ 40 ∧ (∀ c, c < N → ct8 c = ct c ∧ wd8 c = wd c) ∧ (∀ c, c < N → ∃ v : Nat, v ≤ 10000 ∧ ct c = nI v) ∧ (∀ c, c < N → ∃ v : Nat, v ≤ 16777215 ∧ wd c = nI v) ∧ (lk = se 0 ∧ dn = se 1 ∧ br = se 2 ∧ un = se 3) ∧ (∃ v : Nat, 1 ≤ v ∧ v ≤ 100 ∧ se 0 = nI v) ∧ (∃ v : Nat, v ≤ 100 ∧ se 1 = nI v) ∧ (∃ v : Nat, 2 ≤ v ∧ v ≤ 9 ∧ se 2 = nI v) ∧ (∃ v : Nat, v ≤ 100 ∧ se 3 = nI v)
theorem icm {N : Nat} {th a : Int32} (hN : N ≤ 40) : (∃ c, c < N ∧ a = nI c ∧ f_X7_requireCommand (nI N) a = some (.inr ()) ∧ f_X8_isCommand (nI N) th a = some (1, 0)) ∨ (f_X7_requireCommand (nI N) a = some (.inl "java/lang/IndexOutOfBoundsException") ∧ f_X8_isCommand (nI N) th a = some (0, 1)) := by
  unfold f_X7_requireCommand f_X8_isCommand f_X8_isCommand_L13 f_X8_isCommand_L18
  by_cases h0 : a < 0
  · right; rw [if_pos h0, if_pos h0, if_neg (by decide)]; exact ⟨rfl, rfl⟩
  · rw [if_neg h0, if_neg h0]
    obtain ⟨j, hj, rfl⟩ := nI_of h0
    by_cases h1 : j < N
    · left
      rw [if_pos (nI_lt h1 (by omega)), if_pos (nI_lt h1 (by omega)), if_pos rfl]
      exact ⟨j, h1, rfl, rfl, rfl⟩
    · right
      rw [if_neg (nI_nlt (by omega) hj), if_neg (nI_nlt (by omega) hj), if_neg (by decide)]
      exact ⟨rfl, rfl⟩
theorem ict {a : Int32} : (∃ v : Nat, v ≤ 10000 ∧ a = nI v ∧ f_X7_requireCount a = some (.inr ()) ∧ f_X8_isCount a = some 1) ∨ (f_X7_requireCount a = some (.inl "java/lang/IllegalArgumentException") ∧ f_X8_isCount a = some 0) := by
  unfold f_X7_requireCount f_X8_isCount
  by_cases h0 : a < 0
  · right; rw [if_pos h0, if_pos h0]; exact ⟨rfl, rfl⟩
  · rw [if_neg h0, if_neg h0]
    by_cases h1 : a ≤ 10000
    · left
      rw [if_pos h1, if_neg (Int32.not_lt.mpr h1)]
      obtain ⟨j, hj, e⟩ := nI_of2 (n := 10000) (by decide) h0 h1
      exact ⟨j, hj, e, rfl, rfl⟩
    · right; rw [if_neg h1, if_pos (Int32.not_le.mp h1)]; exact ⟨rfl, rfl⟩
theorem iwd {a : Int32} : (∃ v : Nat, v ≤ 16777215 ∧ a = nI v ∧ f_X7_requireWords a = some (.inr ()) ∧ f_X8_isWords a = some 1) ∨ (f_X7_requireWords a = some (.inl "java/lang/IllegalArgumentException") ∧ f_X8_isWords a = some 0) := by
  unfold f_X7_requireWords f_X8_isWords
  by_cases h0 : a < 0
  · right; rw [if_pos h0, if_pos h0]; exact ⟨rfl, rfl⟩
  · rw [if_neg h0, if_neg h0]
    by_cases h1 : a ≤ 16777215
    · left
      rw [if_pos h1, if_neg (Int32.not_lt.mpr h1)]
      obtain ⟨j, hj, e⟩ := nI_of2 (n := 16777215) (by decide) h0 h1
      exact ⟨j, hj, e, rfl, rfl⟩
    · right; rw [if_neg h1, if_pos (Int32.not_le.mp h1)]; exact ⟨rfl, rfl⟩
theorem bad0 {th k : Int32} : f_X8_bad th 0 k = some (0, th) := rfl
theorem bad1 {th k : Int32} : f_X8_bad th 1 k = some (1, k) := rfl
theorem upd_ru {f g : Nat → Int32} {j N : Nat} {x : Int32} {P : Int32 → Prop} (hx : P x) (h : ∀ c, c < N → P (f c)) : ∀ c, c < N → P (upd f j x c) := by
  intro c hc
  by_cases e : c = j
  · subst e; rw [pk_us]; exact hx
  · rw [pk_un e]; exact h c hc
theorem s_count {N : Nat} {ct wd se ct8 wd8 : Nat → Int32} {lk dn br un : Int32} (h : RU N ct wd se ct8 wd8 lk dn br un) (sk fk rk th a b : Int32) :
    (f_X7_count (nI N) sk fk ct rk a b = some (.inl "java/lang/IndexOutOfBoundsException") ∧ f_X8_count (nI N) th ct8 a b = some (0, 1, ct8)) ∨ (f_X7_count (nI N) sk fk ct rk a b = some (.inl "java/lang/IllegalArgumentException") ∧ f_X8_count (nI N) th ct8 a b = some (0, 2, ct8)) ∨ ∃ r ct' ct8', f_X7_count (nI N) sk fk ct rk a b = some (.inr (r, 0, 0, ct', -1)) ∧ f_X8_count (nI N) th ct8 a b = some (r, 0, ct8') ∧ RU N ct' wd se ct8' wd8 lk dn br un := by
  obtain ⟨hN, h1, h2, h3, hs⟩ := h
  unfold f_X7_count f_X8_count
  rcases icm (th := th) (a := a) hN with ⟨c, hc, rfl, e1, e2⟩ | ⟨e1, e2⟩
  · rw [e1, e2]
    dsimp only [obx, ob2]
    rw [if_neg (by decide)]
    rcases ict (a := b) with ⟨v, hv, rfl, e3, e4⟩ | ⟨e3, e4⟩
    · right; right
      rw [e3, e4]
      dsimp only [obx, ob]
      rw [if_neg (by decide)]
      unfold f_X8_count_L21
      rw [bad0]
      dsimp only [ob2]
      rw [if_pos rfl, gi_nI (by omega) (by decide), gi_nI (by omega) (by decide), gi_nI (by omega) (by decide), gi_nI (by omega) (by decide), nI_clamp (by omega)]
      refine ⟨ct c, upd ct c (nI v), upd ct8 c (nI v), rfl, by rw [(h1 c hc).1], hN, fun d hd => ⟨?_, (h1 d hd).2⟩, upd_ru (f := ct) (g := ct) (P := fun x => ∃ v : Nat, v ≤ 10000 ∧ x = nI v) ⟨v, hv, rfl⟩ h2, h3, hs⟩
      by_cases e : d = c
      · subst e; rw [pk_us, pk_us]
      · rw [pk_un e, pk_un e]; exact (h1 d hd).1
    · right; left
      rw [e3, e4]
      dsimp only [obx, ob]
      rw [if_pos rfl]
      unfold f_X8_count_L21
      rw [bad1]
      dsimp only [ob2]
      rw [if_neg (by decide)]
      exact ⟨rfl, rfl⟩
  · left
    rw [e1, e2]
    dsimp only [obx, ob2]
    rw [if_pos rfl]
    exact ⟨rfl, rfl⟩
theorem s_words {N : Nat} {ct wd se ct8 wd8 : Nat → Int32} {lk dn br un : Int32} (h : RU N ct wd se ct8 wd8 lk dn br un) (th a b : Int32) :
    (f_X7_words (nI N) wd a b = some (.inl "java/lang/IndexOutOfBoundsException") ∧ f_X8_words (nI N) th wd8 a b = some (0, 1, wd8)) ∨ (f_X7_words (nI N) wd a b = some (.inl "java/lang/IllegalArgumentException") ∧ f_X8_words (nI N) th wd8 a b = some (0, 2, wd8)) ∨ ∃ r wd' wd8', f_X7_words (nI N) wd a b = some (.inr (r, wd')) ∧ f_X8_words (nI N) th wd8 a b = some (r, 0, wd8') ∧ RU N ct wd' se ct8 wd8' lk dn br un := by
  obtain ⟨hN, h1, h2, h3, hs⟩ := h
  unfold f_X7_words f_X8_words
  rcases icm (th := th) (a := a) hN with ⟨c, hc, rfl, e1, e2⟩ | ⟨e1, e2⟩
  · rw [e1, e2]
    dsimp only [obx, ob2]
    rw [if_neg (by decide)]
    rcases iwd (a := b) with ⟨v, hv, rfl, e3, e4⟩ | ⟨e3, e4⟩
    · right; right
      rw [e3, e4]
      dsimp only [obx, ob]
      rw [if_neg (by decide)]
      unfold f_X8_words_L21
      rw [bad0]
      dsimp only [ob2]
      rw [if_pos rfl, gi_nI (by omega) (by decide), gi_nI (by omega) (by decide), gi_nI (by omega) (by decide), gi_nI (by omega) (by decide), nI_clamp (by omega)]
      refine ⟨wd c, upd wd c (nI v), upd wd8 c (nI v), rfl, by rw [(h1 c hc).2], hN, fun d hd => ⟨(h1 d hd).1, ?_⟩, h2, upd_ru (f := wd) (g := wd) (P := fun x => ∃ v : Nat, v ≤ 16777215 ∧ x = nI v) ⟨v, hv, rfl⟩ h3, hs⟩
      by_cases e : d = c
      · subst e; rw [pk_us, pk_us]
      · rw [pk_un e, pk_un e]; exact (h1 d hd).2
    · right; left
      rw [e3, e4]
      dsimp only [obx, ob]
      rw [if_pos rfl]
      unfold f_X8_words_L21
      rw [bad1]
      dsimp only [ob2]
      rw [if_neg (by decide)]
      exact ⟨rfl, rfl⟩
  · left
    rw [e1, e2]
    dsimp only [obx, ob2]
    rw [if_pos rfl]
    exact ⟨rfl, rfl⟩
theorem s_command {N : Nat} {ct wd se ct8 wd8 : Nat → Int32} {lk dn br un : Int32} (h : RU N ct wd se ct8 wd8 lk dn br un) (sk fk rk th ls ls8 a b : Int32) :
    (f_X7_command sk fk (nI N) ct wd ls rk a b = some (.inl "java/lang/IllegalArgumentException") ∧ f_X8_command th (nI N) ls8 ct8 wd8 a b = some (0, 1, nI N, ls8, ct8, wd8)) ∨ (f_X7_command sk fk (nI N) ct wd ls rk a b = some (.inl "java/lang/IllegalStateException") ∧ f_X8_command th (nI N) ls8 ct8 wd8 a b = some (0, 2, nI N, ls8, ct8, wd8)) ∨ ∃ r ct' wd' ct8' wd8', f_X7_command sk fk (nI N) ct wd ls rk a b = some (.inr (r, 0, 0, nI (N + 1), ct', wd', 0, -1)) ∧ f_X8_command th (nI N) ls8 ct8 wd8 a b = some (r, 0, nI (N + 1), 0, ct8', wd8') ∧ RU (N + 1) ct' wd' se ct8' wd8' lk dn br un := by
  obtain ⟨hN, h1, h2, h3, hs⟩ := h
  unfold f_X7_command f_X8_command
  rcases ict (a := a) with ⟨v, hv, rfl, e1, e2⟩ | ⟨e1, e2⟩
  · rw [e1, e2]
    dsimp only [obx, ob]
    rw [if_neg (show ¬ (1 : Int32) = 0 by decide)]
    rcases iwd (a := b) with ⟨w, hw, rfl, e3, e4⟩ | ⟨e3, e4⟩
    · rw [e3, e4]
      dsimp only [obx, ob]
      rw [if_neg (show ¬ (1 : Int32) = 0 by decide)]
      unfold f_X8_command_L25
      rw [bad0]
      dsimp only [ob2]
      rw [if_pos (show (0 : Int32) = 0 from rfl)]
      unfold f_X8_command_L47
      by_cases e : N = 40
      · subst e
        right; left
        rw [if_neg (show ¬ nI 40 < 40 by decide), if_pos (show nI 40 = 40 by decide), bad1]
        dsimp only [ob2]
        rw [if_neg (show ¬ (1 : Int32) = 0 by decide)]
        exact ⟨rfl, rfl⟩
      · right; right
        rw [if_pos (show nI N < 40 from nI_lt (b := 40) (by omega) (by decide)), if_neg (show ¬ nI N = 40 from fun q => e ((nI_eq (b := 40) (by omega) (by decide)).mp q)), bad0]
        dsimp only [ob2]
        rw [if_pos (show (0 : Int32) = 0 from rfl), gi_nI (by omega) (by decide), gi_nI (by omega) (by decide), gi_nI (by omega) (by decide), gi_nI (by omega) (by decide), nI_clamp (by omega), nI_1, nI_pred]
        refine ⟨nI N, upd ct N (nI v), upd wd N (nI w), upd ct8 N (nI v), upd wd8 N (nI w), rfl, rfl, by omega, fun d hd => ?_, fun d hd => ?_, fun d hd => ?_, hs⟩
        · by_cases e : d = N
          · subst e; rw [pk_us, pk_us, pk_us, pk_us]; exact ⟨rfl, rfl⟩
          · rw [pk_un e, pk_un e, pk_un e, pk_un e]; exact h1 d (by omega)
        · by_cases e : d = N
          · subst e; rw [pk_us]; exact ⟨v, hv, rfl⟩
          · rw [pk_un e]; exact h2 d (by omega)
        · by_cases e : d = N
          · subst e; rw [pk_us]; exact ⟨w, hw, rfl⟩
          · rw [pk_un e]; exact h3 d (by omega)
    · left
      rw [e3, e4]
      dsimp only [obx, ob]
      rw [if_pos rfl]
      unfold f_X8_command_L20 f_X8_command_L25
      rw [bad1]
      dsimp only [ob2]
      rw [if_neg (show ¬ (1 : Int32) = 0 by decide)]
      exact ⟨rfl, rfl⟩
  · left
    rw [e1, e2]
    dsimp only [obx, ob]
    rw [if_pos rfl]
    unfold f_X8_command_L20 f_X8_command_L25
    rw [bad1]
    dsimp only [ob2]
    rw [if_neg (show ¬ (1 : Int32) = 0 by decide)]
    exact ⟨rfl, rfl⟩
theorem set7 {se : Nat → Int32} {sk fk rk b : Int32} {j : Nat} (hj : j < 4) : f_X7_set sk fk se rk (nI j) b = if b < stL j then some (.inl "java/lang/IllegalArgumentException") else if b ≤ stH j then some (.inr (se j, 0, 0, upd se j b, -1)) else some (.inl "java/lang/IllegalArgumentException") := by
  unfold f_X7_set
  rw [if_neg (nI_pos (by omega)), if_pos (show nI j ≤ 3 from nI_le (b := 3) (by omega) (by decide)), gi_nI hj (by decide), nI_clamp (by omega), gi_nI hj (by decide), gi_nI hj (by decide), gi_nI hj (by decide)]
  rfl
theorem set55 {th lk dn br un a b : Int32} : f_X8_set_L55 th lk dn br un a b = some (0, 1, lk, dn, br, un) := by
  unfold f_X8_set_L55 f_X8_set_L60
  rw [bad1]
  dsimp only [ob2]
  rw [if_neg (by decide)]
theorem set8_0 {th lk dn br un b : Int32} : f_X8_set th lk dn br un 0 b = if b < stL 0 then some (0, 1, lk, dn, br, un) else if b ≤ stH 0 then some (lk, 0, b, dn, br, un) else some (0, 1, lk, dn, br, un) := by
  unfold f_X8_set f_X8_set_L23 f_X8_set_L52
  rw [if_pos (show (0 : Int32) = 0 from rfl), if_neg (show ¬ (0 : Int32) < 0 by decide), if_neg (show ¬ (3 : Int32) < 0 by decide), if_neg (show ¬ (0 : Int32) = 2 by decide), set55]
  unfold f_X8_set_L60
  rw [bad0]
  dsimp only [ob2]
  rw [if_pos (show (0 : Int32) = 0 from rfl), if_pos (show (0 : Int32) = 0 from rfl)]
  unfold f_X8_set_L108
  rw [if_pos (show (0 : Int32) = 0 from rfl)]
  rfl
theorem set8_1 {th lk dn br un b : Int32} : f_X8_set th lk dn br un 1 b = if b < stL 1 then some (0, 1, lk, dn, br, un) else if b ≤ stH 1 then some (dn, 0, lk, b, br, un) else some (0, 1, lk, dn, br, un) := by
  unfold f_X8_set f_X8_set_L23 f_X8_set_L52
  rw [if_neg (show ¬ (1 : Int32) = 0 by decide), if_neg (show ¬ (1 : Int32) = 2 by decide), if_neg (show ¬ (1 : Int32) < 0 by decide), if_neg (show ¬ (3 : Int32) < 1 by decide), if_neg (show ¬ (1 : Int32) = 2 by decide), set55]
  unfold f_X8_set_L60
  rw [bad0]
  dsimp only [ob2]
  rw [if_pos (show (0 : Int32) = 0 from rfl), if_neg (show ¬ (1 : Int32) = 0 by decide), if_pos (show (1 : Int32) = 1 from rfl)]
  unfold f_X8_set_L108
  rw [if_neg (show ¬ (1 : Int32) = 0 by decide), if_pos (show (1 : Int32) = 1 from rfl)]
  rfl
theorem set8_2 {th lk dn br un b : Int32} : f_X8_set th lk dn br un 2 b = if b < stL 2 then some (0, 1, lk, dn, br, un) else if b ≤ stH 2 then some (br, 0, lk, dn, b, un) else some (0, 1, lk, dn, br, un) := by
  unfold f_X8_set f_X8_set_L23 f_X8_set_L52
  rw [if_neg (show ¬ (2 : Int32) = 0 by decide), if_pos (show (2 : Int32) = 2 from rfl), if_neg (show ¬ (2 : Int32) < 0 by decide), if_neg (show ¬ (3 : Int32) < 2 by decide), if_pos (show (2 : Int32) = 2 from rfl), set55]
  unfold f_X8_set_L60
  rw [bad0]
  dsimp only [ob2]
  rw [if_pos (show (0 : Int32) = 0 from rfl), if_neg (show ¬ (2 : Int32) = 0 by decide), if_neg (show ¬ (2 : Int32) = 1 by decide), if_pos (show (2 : Int32) = 2 from rfl)]
  unfold f_X8_set_L108
  rw [if_neg (show ¬ (2 : Int32) = 0 by decide), if_neg (show ¬ (2 : Int32) = 1 by decide), if_pos (show (2 : Int32) = 2 from rfl)]
  rfl
theorem set8_3 {th lk dn br un b : Int32} : f_X8_set th lk dn br un 3 b = if b < stL 3 then some (0, 1, lk, dn, br, un) else if b ≤ stH 3 then some (un, 0, lk, dn, br, b) else some (0, 1, lk, dn, br, un) := by
  unfold f_X8_set f_X8_set_L23 f_X8_set_L52
  rw [if_neg (show ¬ (3 : Int32) = 0 by decide), if_neg (show ¬ (3 : Int32) = 2 by decide), if_neg (show ¬ (3 : Int32) < 0 by decide), if_neg (show ¬ (3 : Int32) < 3 by decide), if_neg (show ¬ (3 : Int32) = 2 by decide), set55]
  unfold f_X8_set_L60
  rw [bad0]
  dsimp only [ob2]
  rw [if_pos (show (0 : Int32) = 0 from rfl), if_neg (show ¬ (3 : Int32) = 0 by decide), if_neg (show ¬ (3 : Int32) = 1 by decide), if_neg (show ¬ (3 : Int32) = 2 by decide)]
  unfold f_X8_set_L108
  rw [if_neg (show ¬ (3 : Int32) = 0 by decide), if_neg (show ¬ (3 : Int32) = 1 by decide), if_neg (show ¬ (3 : Int32) = 2 by decide)]
  rfl
theorem s_set {N : Nat} {ct wd se ct8 wd8 : Nat → Int32} {lk dn br un : Int32} (h : RU N ct wd se ct8 wd8 lk dn br un) (sk fk rk th a b : Int32) :
    (f_X7_set sk fk se rk a b = some (.inl "java/lang/IllegalArgumentException") ∧ f_X8_set th lk dn br un a b = some (0, 1, lk, dn, br, un)) ∨ ∃ r se' lk' dn' br' un', f_X7_set sk fk se rk a b = some (.inr (r, 0, 0, se', -1)) ∧ f_X8_set th lk dn br un a b = some (r, 0, lk', dn', br', un') ∧ RU N ct wd se' ct8 wd8 lk' dn' br' un' := by
  obtain ⟨hN, h1, h2, h3, ⟨rfl, rfl, rfl, rfl⟩, g0, g1, g2, g3⟩ := h
  by_cases q0 : a < 0
  · left
    unfold f_X7_set f_X8_set f_X8_set_L23
    rw [if_pos q0, if_pos q0, if_pos q0, set55]
    refine ⟨rfl, ?_⟩
    split <;> (try split) <;> rfl
  by_cases q1 : a ≤ 3
  · obtain ⟨j, hj, rfl⟩ := nI_of2 (n := 3) (by decide) q0 q1
    rw [set7 (by omega)]
    by_cases u0 : b < stL j
    · left
      rw [if_pos u0]
      refine ⟨rfl, ?_⟩
      match j, hj, u0 with
      | 0, _, u0 => rw [show nI 0 = 0 from rfl, set8_0, if_pos u0]
      | 1, _, u0 => rw [show nI 1 = 1 from rfl, set8_1, if_pos u0]
      | 2, _, u0 => rw [show nI 2 = 2 from rfl, set8_2, if_pos u0]
      | 3, _, u0 => rw [show nI 3 = 3 from rfl, set8_3, if_pos u0]
    rw [if_neg u0]
    by_cases u1 : b ≤ stH j
    · right
      rw [if_pos u1]
      refine ⟨se j, upd se j b, upd se j b 0, upd se j b 1, upd se j b 2, upd se j b 3, rfl, ?_, hN, h1, h2, h3, ⟨rfl, rfl, rfl, rfl⟩, ?_⟩
      · match j, hj, u0, u1 with
        | 0, _, u0, u1 => rw [show nI 0 = 0 from rfl, set8_0, if_neg u0, if_pos u1]; rfl
        | 1, _, u0, u1 => rw [show nI 1 = 1 from rfl, set8_1, if_neg u0, if_pos u1]; rfl
        | 2, _, u0, u1 => rw [show nI 2 = 2 from rfl, set8_2, if_neg u0, if_pos u1]; rfl
        | 3, _, u0, u1 => rw [show nI 3 = 3 from rfl, set8_3, if_neg u0, if_pos u1]; rfl
      · match j, hj, u0, u1 with
        | 0, _, u0, u1 =>
          obtain ⟨v, hv, e⟩ := nI_of2 (n := 100) (x := b) (M := 100) (by decide) (fun q => u0 (Int32.lt_trans q (by decide))) u1
          subst e
          refine ⟨⟨v, ?_, hv, rfl⟩, g1, g2, g3⟩
          rcases Nat.eq_zero_or_pos v with e | e
          · subst e; exact absurd (show nI 0 < stL 0 by decide) u0
          · exact e
        | 1, _, u0, u1 =>
          obtain ⟨v, hv, e⟩ := nI_of2 (n := 100) (x := b) (M := 100) (by decide) u0 u1
          subst e
          exact ⟨g0, ⟨v, hv, rfl⟩, g2, g3⟩
        | 2, _, u0, u1 =>
          obtain ⟨v, hv, e⟩ := nI_of2 (n := 9) (x := b) (M := 9) (by decide) (fun q => u0 (Int32.lt_trans q (by decide))) u1
          subst e
          refine ⟨g0, g1, ⟨v, ?_, hv, rfl⟩, g3⟩
          rcases Nat.lt_or_ge v 2 with e | e
          · exact absurd (show nI v < stL 2 from nI_lt (b := 2) e (by decide)) u0
          · exact e
        | 3, _, u0, u1 =>
          obtain ⟨v, hv, e⟩ := nI_of2 (n := 100) (x := b) (M := 100) (by decide) u0 u1
          subst e
          exact ⟨g0, g1, g2, ⟨v, hv, rfl⟩⟩
    · left
      rw [if_neg u1]
      refine ⟨rfl, ?_⟩
      match j, hj, u0, u1 with
      | 0, _, u0, u1 => rw [show nI 0 = 0 from rfl, set8_0, if_neg u0, if_neg u1]
      | 1, _, u0, u1 => rw [show nI 1 = 1 from rfl, set8_1, if_neg u0, if_neg u1]
      | 2, _, u0, u1 => rw [show nI 2 = 2 from rfl, set8_2, if_neg u0, if_neg u1]
      | 3, _, u0, u1 => rw [show nI 3 = 3 from rfl, set8_3, if_neg u0, if_neg u1]
  · left
    unfold f_X7_set f_X8_set f_X8_set_L23
    rw [if_neg q0, if_neg q1, set55]
    refine ⟨rfl, ?_⟩
    have q2 := Int32.not_le.mp q1
    simp only [if_neg q0, if_pos q2, ite_self]
