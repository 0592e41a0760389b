/-! print -/
def nb (x : Int32) : Int32 := vp_nar .byte (Int8.toInt32 (Int32.toInt8 x))
def emt : (Nat → Int32) → Nat → List Int32 → (Nat → Int32)
  | g, _, [] => g
  | g, n, b :: B => emt (upd g n (nb b)) (n + 1) B
theorem emt_app : ∀ (A B : List Int32) (g : Nat → Int32) (n : Nat), emt g n (A ++ B) = emt (emt g n A) (n + A.length) B
  | [], B, g, n => rfl
  | a :: A, B, g, n => by
    show emt (upd g n (nb a)) (n + 1) (A ++ B) = emt (emt (upd g n (nb a)) (n + 1) A) (n + (A.length + 1)) B
    rw [emt_app A B _ (n + 1), show n + 1 + A.length = n + (A.length + 1) by omega]
theorem emt_agree : ∀ (B : List Int32) (g g' : Nat → Int32) (n : Nat), (∀ k, k < n → g k = g' k) → ∀ k, k < n + B.length → emt g n B k = emt g' n B k
  | [], g, g', n, h, k, hk => h k (by simpa using hk)
  | b :: B, g, g', n, h, k, hk => by
    refine emt_agree B _ _ (n + 1) (fun j hj => ?_) k (by rw [List.length_cons] at hk; omega)
    by_cases e : j = n
    · subst e; rw [pk_us, pk_us]
    · rw [pk_un e, pk_un e]; exact h j (by omega)
def nt (c : Nat) : List Int32 := if c < 10 then [48 + (nI c - nI c / 10 * 10)] else [48 + (nI c / 10), 48 + (nI c - nI c / 10 * 10)]
def n1 (_ : Nat) : List Int32 := [0]
theorem put7 {n : Nat} {g : Nat → Int32} {b : Int32} (h : n < 189) : f_X1_put (nI n) g b = some (nI (n + 1), upd g n (nb b)) := by
  unfold f_X1_put
  rw [if_neg (show ¬ (189 : Int32) ≤ _ from nI_ge (b := 189) h (by decide)), gi_nI h (by decide), nI_clamp (by omega), nI_1]
  rfl
theorem puts8 {n : Nat} {g : Nat → Int32} {b : Int32} (h : n < 600) : f_X8_puts (nI n) g b = some (nI (n + 1), upd g n (nb b)) := by
  unfold f_X8_puts
  rw [gi_nI h (by decide), nI_clamp (by omega), nI_1]
  rfl
theorem nt_len (c : Nat) : (nt c).length = if c < 10 then 1 else 2 := by
  unfold nt
  split <;> rfl
theorem putN7 {n c : Nat} {g : Nat → Int32} (hc : c < 40) (h : n + (nt c).length ≤ 189) : f_X1_putNumber (nI n) g (nI c) = some (nI (n + (nt c).length), emt g n (nt c)) := by
  unfold f_X1_putNumber f_X1_putNumber_L17
  unfold nt at h ⊢
  by_cases q : c < 10
  · rw [if_pos q] at h ⊢
    rw [if_pos (show nI c < 10 from nI_lt (b := 10) q (by decide)), put7 (by simp at h; omega)]
    rfl
  · rw [if_neg q] at h ⊢
    rw [if_neg (show ¬ nI c < 10 from nI_nlt (b := 10) (by omega) (by omega)), put7 (by simp at h; omega)]
    dsimp only [ob2]
    rw [put7 (by simp at h; omega)]
    rfl
theorem wr18_s {sz av pv im : Nat → Int32} (n : Nat) : f_X1_write_L18 sz av pv im (n + 1) = f_X1_write_L18_F sz av pv im (f_X1_write_L18 sz av pv im n) := rfl
theorem wr7 {L C : Nat} {ab pa hm ph cn : Nat → Nat} {it : Nat → Nat → Sum Nat Nat} {sz av pv im hh pp : Nat → Int32} (h : AT L C ab pa hm ph cn it) (ht : TC L C ab pa hm ph cn it sz av pv im hh pp) : ∀ (d l : Nat), l < L → L ≤ d + l → ∀ (r k : Nat), k + r = cn l → ∀ (n t f : Nat) (g : Nat → Int32), n + (tlr nt [32] (TX nt [32] it cn L) it l r k).length ≤ 189 → t + (tlr n1 [] (TX n1 [] it cn L) it l r k).length ≤ 160 → f_X1_write_L18 sz av pv im (f + (tlr n1 [] (TX n1 [] it cn L) it l r k).length) (nI n) g (nI l) (nI (k + 1)) (nI t) = f_X1_write_L18 sz av pv im f (nI (n + (tlr nt [32] (TX nt [32] it cn L) it l r k).length)) (emt g n (tlr nt [32] (TX nt [32] it cn L) it l r k)) (av l) (pv l + 1) (nI (t + (tlr n1 [] (TX n1 [] it cn L) it l r k).length)) := by
  have h0 := h
  obtain ⟨h1, h2, h3, h4, h5, h6, h7, h8⟩ := h
  obtain ⟨t1, t2, t3, t4, t5⟩ := ht
  intro d
  induction d with
  | zero => intro l q1 q2; omega
  | succ d ihd =>
    intro l hl hd r
    have hcl := h4 l hl
    induction r with
    | zero =>
      intro k hk n t f g hn htt
      have e1 : (tlr nt [32] (TX nt [32] it cn L) it l 0 k) = [41] := rfl
      have e2 : (tlr n1 [] (TX n1 [] it cn L) it l 0 k) = [41] := rfl
      rw [e1] at hn ⊢
      rw [e2] at htt ⊢
      simp only [List.length_cons, List.length_nil, Nat.zero_add] at hn htt ⊢
      rw [wr18_s]
      unfold f_X1_write_L18_F f_X1_write_L115
      rw [if_neg (show ¬ (160 : Int32) ≤ _ from nI_ge (b := 160) (show t < 160 by omega) (by decide)), if_neg (show ¬ nI l = -1 from fun q => nI_pos (n := l) (by omega) (by rw [q]; decide)), gi_nI (by omega) (by decide), nI_clamp (by omega), t1 l hl, if_neg (nI_ge (by omega) (by omega)), put7 (by omega)]
      dsimp only [ob2]
      rw [gi_nI (by omega) (by decide), gi_nI (by omega) (by decide), nI_1]
      rfl
    | succ r ih =>
      intro k hk n t f g hn htt
      have hkc : k < cn l := by omega
      have e1 : tlr nt [32] (TX nt [32] it cn L) it l (r + 1) k = (if k = 0 then [] else [32]) ++ (itx nt (TX nt [32] it cn L) (it l k) ++ tlr nt [32] (TX nt [32] it cn L) it l r (k + 1)) := rfl
      have e2 : tlr n1 [] (TX n1 [] it cn L) it l (r + 1) k = (if k = 0 then [] else []) ++ (itx n1 (TX n1 [] it cn L) (it l k) ++ tlr n1 [] (TX n1 [] it cn L) it l r (k + 1)) := rfl
      rw [ite_self, List.nil_append] at e2
      rw [e1] at hn ⊢
      rw [e2] at htt ⊢
      have htl : 1 ≤ (itx n1 (TX n1 [] it cn L) (it l k)).length := by
        cases it l k with
        | inl c => exact Nat.le_refl _
        | inr m => simp [itx]
      -- the blank
      have key : ∀ (n : Nat) (g : Nat → Int32), n + ((itx nt (TX nt [32] it cn L) (it l k)).length + (tlr nt [32] (TX nt [32] it cn L) it l r (k + 1)).length) ≤ 189 → ∀ F, F + 1 = f + ((itx n1 (TX n1 [] it cn L) (it l k)).length + (tlr n1 [] (TX n1 [] it cn L) it l r (k + 1)).length) → f_X1_write_L77 im (f_X1_write_L18 sz av pv im F) (nI n) g (nI l) (nI (k + 1)) (nI t) = f_X1_write_L18 sz av pv im f (nI (n + ((itx nt (TX nt [32] it cn L) (it l k)).length + (tlr nt [32] (TX nt [32] it cn L) it l r (k + 1)).length))) (emt g n (itx nt (TX nt [32] it cn L) (it l k) ++ tlr nt [32] (TX nt [32] it cn L) it l r (k + 1))) (av l) (pv l + 1) (nI (t + ((itx n1 (TX n1 [] it cn L) (it l k)).length + (tlr n1 [] (TX n1 [] it cn L) it l r (k + 1)).length))) := by
        intro n g hn F hF
        unfold f_X1_write_L77
        rw [itemAt7 (by omega) (by omega), t2 l k hl hkc]
        dsimp only [ob]
        rw [List.length_append] at htt
        cases hi : it l k with
        | inl c =>
          have hc := (h5 l k c hl hkc hi).1
          rw [hi] at hn hF htt
          change n + ((nt c).length + _) ≤ 189 at hn
          change F + 1 = f + (1 + _) at hF
          change t + (1 + _) ≤ 160 at htt
          rw [if_neg (show ¬ enc7 (.inl c) < 0 from nI_pos (n := c) (by omega)), show enc7 (.inl c) = nI c from rfl, putN7 (by omega) (by omega)]
          dsimp only [ob2]
          unfold f_X1_write_L115
          rw [nI_1, nI_1, show F = f + (tlr n1 [] (TX n1 [] it cn L) it l r (k + 1)).length by omega, ih (k + 1) (by omega) (n + (nt c).length) (t + 1) f _ (by omega) (by omega), ← emt_app]
          show f_X1_write_L18 sz av pv im f (nI (n + (nt c).length + _)) (emt g n (nt c ++ _)) (av l) (pv l + 1) (nI (t + 1 + _)) = f_X1_write_L18 sz av pv im f (nI (n + ((nt c).length + _))) (emt g n (nt c ++ _)) (av l) (pv l + 1) (nI (t + (1 + _)))
          rw [Nat.add_assoc, Nat.add_assoc]
        | inr m =>
          obtain ⟨y1, y2, y3, y4⟩ := h6 l k m hl hkc hi
          have hmm := (h8 m y1 y2).1
          rw [hi] at hn hF htt
          change n + (((TX nt [32] it cn L m).length + 1) + _) ≤ 189 at hn
          change F + 1 = f + (((TX n1 [] it cn L m).length + 1) + _) at hF
          change t + (((TX n1 [] it cn L m).length + 1) + _) ≤ 160 at htt
          have d1 := TX_eq h0 (nu := nt) (sp := [32]) y2
          have d2 := TX_eq h0 (nu := n1) (sp := []) y2
          rw [if_pos (show enc7 (.inr m) < 0 from m1_lt (m := m) (by omega)), show enc7 (.inr m) = nI m ^^^ (-1) from rfl, m1_back, put7 (by omega)]
          dsimp only [ob2]
          unfold f_X1_write_L115
          have im2 := ihd m y2 (by omega) (cn m) 0 (by omega) (n + 1) (t + 1) (f + (tlr n1 [] (TX n1 [] it cn L) it l r (k + 1)).length) (upd g n (nb 40)) (by rw [← d1]; omega) (by rw [← d2]; omega)
          rw [← d1, ← d2, (t3 m y1 y2).1, (t3 m y1 y2).2, y3, y4, nI_1] at im2
          rw [nI_1, show (1 : Int32) = nI (0 + 1) from rfl, show F = f + (tlr n1 [] (TX n1 [] it cn L) it l r (k + 1)).length + (TX n1 [] it cn L m).length by omega, im2, ih (k + 1) (by omega) _ _ f _ (by omega) (by omega)]
          rw [show itx nt (TX nt [32] it cn L) (.inr m) = 40 :: TX nt [32] it cn L m from rfl, show itx n1 (TX n1 [] it cn L) (.inr m) = 40 :: TX n1 [] it cn L m from rfl]
          rw [show emt (upd g n (nb 40)) (n + 1) (TX nt [32] it cn L m) = emt g n (40 :: TX nt [32] it cn L m) from rfl, show n + 1 + (TX nt [32] it cn L m).length = n + (40 :: TX nt [32] it cn L m).length by rw [List.length_cons]; omega, ← emt_app]
          rw [Nat.add_assoc n, show t + 1 + (TX n1 [] it cn L m).length + (tlr n1 [] (TX n1 [] it cn L) it l r (k + 1)).length = t + ((40 :: TX n1 [] it cn L m).length + (tlr n1 [] (TX n1 [] it cn L) it l r (k + 1)).length) by rw [List.length_cons]; omega]
          rfl
      rw [List.length_append, List.length_append] at hn
      rw [List.length_append] at htt
      obtain ⟨F, hF⟩ : ∃ F, F + 1 = f + ((itx n1 (TX n1 [] it cn L) (it l k)).length + (tlr n1 [] (TX n1 [] it cn L) it l r (k + 1)).length) := ⟨f + ((itx n1 (TX n1 [] it cn L) (it l k)).length + (tlr n1 [] (TX n1 [] it cn L) it l r (k + 1)).length) - 1, by omega⟩
      rw [List.length_append, ← hF, wr18_s]
      unfold f_X1_write_L18_F
      rw [if_neg (show ¬ (160 : Int32) ≤ _ from nI_ge (b := 160) (show t < 160 by omega) (by decide)), if_neg (show ¬ nI l = -1 from fun q => nI_pos (n := l) (by omega) (by rw [q]; decide)), gi_nI (by omega) (by decide), nI_clamp (by omega), t1 l hl, if_pos (nI_le (by omega) (by omega))]
      by_cases q : k = 0
      · rw [if_pos (show nI (k + 1) ≤ 1 from nI_le (b := 1) (by omega) (by decide)), if_pos q, List.nil_append]
        rw [if_pos q] at hn
        rw [key n g (by simpa using hn) F hF, List.length_append]
      · rw [if_neg (show ¬ nI (k + 1) ≤ 1 from nI_ge (a := 1) (by omega) (by omega)), if_neg q]
        rw [if_neg q] at hn
        simp only [List.length_cons, List.length_nil] at hn
        rw [put7 (by omega)]
        dsimp only [ob2]
        rw [key (n + 1) _ (by omega) F hF, List.length_append, List.length_append]
        rw [show emt (upd g n (nb 32)) (n + 1) (itx nt (TX nt [32] it cn L) (it l k) ++ tlr nt [32] (TX nt [32] it cn L) it l r (k + 1)) = emt g n ([32] ++ (itx nt (TX nt [32] it cn L) (it l k) ++ tlr nt [32] (TX nt [32] it cn L) it l r (k + 1))) from rfl, Nat.add_assoc n]
        rfl
theorem li8_s {self : Int32 → (Nat → Int32) → Int32 → Option (Int32 × (Nat → Int32))} {im mn : Nat → Int32} (n : Nat) : f_X8_list_L8 self im mn (n + 1) = f_X8_list_L8_F self im mn (f_X8_list_L8 self im mn n) := fx_s _ _ _
theorem li_s {im mn : Nat → Int32} (d : Nat) : f_X8_list im mn (d + 1) = f_X8_list_B im mn (f_X8_list im mn d) := fx_s _ _ _
theorem wr8 {L C : Nat} {ab pa hm ph cn : Nat → Nat} {it : Nat → Nat → Sum Nat Nat} {pi qi : Nat → Nat} {im8 mn8 : Nat → Int32} (h : AT L C ab pa hm ph cn it) (ht : T8 L cn it pi qi im8 mn8) : ∀ (d l : Nat), l < L → L < d + l → ∀ (n : Nat) (g : Nat → Int32), n + 1 + (TX nt [32] it cn L l).length ≤ 600 → f_X8_list im8 mn8 d (nI n) g (nI (pi l)) = some (nI (n + 1 + (TX nt [32] it cn L l).length), emt g n (40 :: TX nt [32] it cn L l)) := by
  have h0 := h
  obtain ⟨h1, h2, h3, h4, h5, h6, h7, h8⟩ := h
  obtain ⟨t1, t2, t3, t4, t5⟩ := ht
  intro d
  induction d with
  | zero => intro l q1 q2; omega
  | succ d ihd =>
    intro l hl hd n g hn
    have hcl := h4 l hl
    have hpl := (t2 l hl).1
    have key : ∀ (r k f n : Nat) (g : Nat → Int32), k + r = cn l → r < f → n + (tlr nt [32] (TX nt [32] it cn L) it l r k).length ≤ 600 → f_X8_list_L8 (f_X8_list im8 mn8 d) im8 mn8 f (nI n) g (nI (pi l)) (nI k) = some (nI (n + (tlr nt [32] (TX nt [32] it cn L) it l r k).length), emt g n (tlr nt [32] (TX nt [32] it cn L) it l r k)) := by
      intro r
      induction r with
      | zero =>
        intro k f n g q1 q2 q3
        obtain ⟨f, rfl⟩ : ∃ k, f = k + 1 := ⟨f - 1, by omega⟩
        have e1 : (tlr nt [32] (TX nt [32] it cn L) it l 0 k) = [41] := rfl
        rw [e1] at q3 ⊢
        simp only [List.length_cons, List.length_nil, Nat.zero_add] at q3 ⊢
        rw [li8_s]
        unfold f_X8_list_L8_F
        rw [gi_nI (by omega) (by decide), nI_clamp (by omega), t4 l hl, if_pos (nI_le (by omega) (by omega)), puts8 (by omega)]
        rfl
      | succ r ih =>
        intro k f n g q1 q2 q3
        obtain ⟨f, rfl⟩ : ∃ k, f = k + 1 := ⟨f - 1, by omega⟩
        have hkc : k < cn l := by omega
        have e1 : tlr nt [32] (TX nt [32] it cn L) it l (r + 1) k = (if k = 0 then [] else [32]) ++ (itx nt (TX nt [32] it cn L) (it l k) ++ tlr nt [32] (TX nt [32] it cn L) it l r (k + 1)) := rfl
        rw [e1] at q3 ⊢
        rw [List.length_append, List.length_append] at q3
        have k28 : ∀ (n : Nat) (g : Nat → Int32), n + ((itx nt (TX nt [32] it cn L) (it l k)).length + (tlr nt [32] (TX nt [32] it cn L) it l r (k + 1)).length) ≤ 600 → f_X8_list_L28 (f_X8_list im8 mn8 d) im8 (f_X8_list_L8 (f_X8_list im8 mn8 d) im8 mn8 f) (nI n) g (nI (pi l)) (nI k) = some (nI (n + ((itx nt (TX nt [32] it cn L) (it l k)).length + (tlr nt [32] (TX nt [32] it cn L) it l r (k + 1)).length)), emt g n (itx nt (TX nt [32] it cn L) (it l k) ++ tlr nt [32] (TX nt [32] it cn L) it l r (k + 1))) := by
          intro n g hn
          unfold f_X8_list_L28
          rw [ix9, gi_nI (by omega) (by decide), nI_clamp (by omega), t5 l k hl hkc]
          cases hi : it l k with
          | inl c =>
            have hc := (h5 l k c hl hkc hi).1
            rw [hi] at hn
            change n + ((nt c).length + _) ≤ 600 at hn
            rw [show enc8 pi (.inl c) = nI c from rfl, if_pos (nI_pos' (by omega))]
            rw [nt_len] at hn
            unfold f_X8_list_L72 f_X8_list_L83
            show _ = some (nI (n + ((nt c).length + (tlr nt [32] (TX nt [32] it cn L) it l r (k + 1)).length)), emt g n (nt c ++ tlr nt [32] (TX nt [32] it cn L) it l r (k + 1)))
            rw [emt_app, ← Nat.add_assoc n]
            by_cases z : c < 10
            · rw [if_pos z] at hn
              rw [if_pos (show nI c ≤ 9 from nI_le (b := 9) (by omega) (by decide)), puts8 (by omega)]
              dsimp only [ob2]
              rw [nI_1, ih (k + 1) f (n + 1) _ (by omega) (by omega) (by omega)]
              rw [show nt c = [48 + (nI c - nI c / 10 * 10)] from if_pos z]
              rfl
            · rw [if_neg z] at hn
              rw [if_neg (show ¬ nI c ≤ 9 from nI_ge (a := 9) (by omega) (by omega)), puts8 (by omega)]
              dsimp only [ob2]
              rw [puts8 (by omega)]
              dsimp only
              rw [nI_1, ih (k + 1) f (n + 1 + 1) _ (by omega) (by omega) (by omega)]
              rw [show nt c = [48 + (nI c / 10), 48 + (nI c - nI c / 10 * 10)] from if_neg z]
              rfl
          | inr m =>
            obtain ⟨y1, y2, y3, y4⟩ := h6 l k m hl hkc hi
            have hmm := (h8 m y1 y2).1
            have hpm := (t2 m y2).1
            rw [hi] at hn
            change n + (((TX nt [32] it cn L m).length + 1) + _) ≤ 600 at hn
            rw [show enc8 pi (.inr m) = (-2) - nI (pi m) from rfl, if_neg (Int32.not_le.mpr (m2_lt (by omega))), m2_back, ihd m y2 (by omega) n g (by omega)]
            dsimp only [ob2]
            unfold f_X8_list_L83
            rw [nI_1, ih (k + 1) f _ _ (by omega) (by omega) (by omega)]
            show _ = some (nI (n + ((40 :: TX nt [32] it cn L m).length + (tlr nt [32] (TX nt [32] it cn L) it l r (k + 1)).length)), emt g n ((40 :: TX nt [32] it cn L m) ++ tlr nt [32] (TX nt [32] it cn L) it l r (k + 1)))
            rw [emt_app, ← Nat.add_assoc n, List.length_cons, show n + 1 + (TX nt [32] it cn L m).length = n + ((TX nt [32] it cn L m).length + 1) by omega]
        rw [li8_s]
        unfold f_X8_list_L8_F
        rw [gi_nI (by omega) (by decide), nI_clamp (by omega), t4 l hl, if_neg (nI_ge (by omega) (by omega))]
        by_cases q : k = 0
        · rw [if_pos (show nI k ≤ 0 by rw [q]; decide), if_pos q, List.nil_append]
          rw [if_pos q] at q3
          rw [k28 n g (by simpa using q3), List.length_append]
        · rw [if_neg (nI_nle (by omega) (by omega)), if_neg q]
          rw [if_neg q] at q3
          simp only [List.length_cons, List.length_nil] at q3
          rw [puts8 (by omega)]
          dsimp only [ob2]
          rw [k28 (n + 1) _ (by omega), List.length_append, List.length_append]
          rw [show emt (upd g n (nb 32)) (n + 1) (itx nt (TX nt [32] it cn L) (it l k) ++ tlr nt [32] (TX nt [32] it cn L) it l r (k + 1)) = emt g n ([32] ++ (itx nt (TX nt [32] it cn L) (it l k) ++ tlr nt [32] (TX nt [32] it cn L) it l r (k + 1))) from rfl, Nat.add_assoc n]
          rfl
    have d1 := TX_eq h0 (nu := nt) (sp := [32]) hl
    rw [li_s]
    unfold f_X8_list_B
    rw [puts8 (by omega)]
    dsimp only [ob2]
    have := key (cn l) 0 FU (n + 1) (upd g n (nb 40)) (by omega) (show cn l < 100000 by omega) (by rw [← d1]; omega)
    rw [← d1, nI_0] at this
    exact this
def RP (P : Nat) (pb pb8 : Nat → Int32) : Prop := P ≤ 189 ∧ ∀ k, k < P → pb k = pb8 k
theorem nt_sum {C : Nat} (h : C ≤ 40) : nsum (fun c => (nt c).length) C ≤ 70 := by
  refine Nat.le_trans (nsum_mono 40 h) ?_
  rw [nsum_eq (g' := fun c => if c < 10 then 1 else 2) 40 (fun c _ => nt_len c)]
  decide
theorem s_print {N L P : Nat} {sz av pv im hh pp im8 mn8 pb pb8 : Nat → Int32} (ht : RTr L N sz av pv im hh pp im8 mn8) (hp : RP P pb pb8) (th : Int32) : ∃ r P' pb' pb8', f_X7_print (nI L) sz av pv im (nI P) pb = some (r, nI P', pb') ∧ f_X8_print (nI L) im8 mn8 th (nI P) pb8 = some (r, 0, nI P', pb8') ∧ RP P' pb' pb8' := by
  unfold f_X7_print f_X8_print
  rcases ht with rfl | ⟨ab, pa, hm, ph, cn, it, pi, qi, at1, tc, t8⟩
  · rw [ex0, if_pos nI_0]
    dsimp only [ob]
    rw [if_pos rfl]
    exact ⟨_, P, pb, pb8, rfl, rfl, hp⟩
  · have ha := at1.1
    have hb := at1.2.1
    have hc := at1.2.2.1
    rw [ex1 (by omega) (by omega), if_neg (nI_ne0 (by omega) (by omega))]
    dsimp only [ob]
    rw [if_neg (show ¬ (1 : Int32) = 0 by decide)]
    have c1 := TX_total at1 (nu := nt) (sp := [32])
    have c2 := TX_total at1 (nu := n1) (sp := [])
    have c3 := nt_sum hc
    have c4 : nsum (fun c => (n1 c).length) N = N := by
      rw [show (fun c => (n1 c).length) = fun _ => 1 from rfl, nsum_const, Nat.mul_one]
    simp only [List.length_cons, List.length_nil] at c1 c2
    have d1 := TX_eq at1 (nu := nt) (sp := [32]) (show 0 < L by omega)
    have d2 := TX_eq at1 (nu := n1) (sp := []) (show 0 < L by omega)
    have g8 := wr8 at1 t8 50 0 (by omega) (by omega) 0 pb8 (by omega)
    rw [t8.1, nI_0] at g8
    rw [g8]
    unfold f_X1_write
    have p1 := put7 (n := 0) (g := pb) (b := 40) (by decide)
    rw [nI_0] at p1
    rw [p1]
    dsimp only [ob2]
    have hfu : ∀ F : Nat, 161 ≤ F → f_X1_write_L18 sz av pv im F (nI (0 + 1)) (upd pb 0 (nb 40)) 0 1 0 = some (nI (0 + 1 + (TX nt [32] it cn L 0).length), emt pb 0 (40 :: TX nt [32] it cn L 0)) := by
      intro F hF
      obtain ⟨f, hf⟩ : ∃ f, F = (f + 1) + (TX n1 [] it cn L 0).length := ⟨F - (TX n1 [] it cn L 0).length - 1, by omega⟩
      have g7 := wr7 at1 tc L 0 (by omega) (by omega) (cn 0) 0 (by omega) 1 0 (f + 1) (upd pb 0 (nb 40)) (by rw [← d1]; omega) (by rw [← d2]; omega)
      rw [← d1, ← d2, ← hf, nI_0] at g7
      rw [show (1 : Int32) = nI (0 + 1) from rfl, g7, tc.2.2.2.1.1, wr18_s]
      unfold f_X1_write_L18_F
      rw [if_pos (show (-1 : Int32) = -1 from rfl), ite_self]
      rfl
    rw [hfu FU (show 161 ≤ 100000 by decide)]
    dsimp only
    refine ⟨_, 0 + 1 + (TX nt [32] it cn L 0).length, _, _, rfl, rfl, by omega, ?_⟩
    intro k hk
    exact emt_agree (40 :: TX nt [32] it cn L 0) pb pb8 0 (fun j hj => by omega) k (by rw [List.length_cons]; omega)
