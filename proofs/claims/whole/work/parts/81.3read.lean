/-! tell: the two readers side by side -/
def RS (C : Nat) (x : Option (Int32 × Int32 × Int32 × Int32 × (Nat → Int32) × (Nat → Int32) × Int32 × (Nat → Int32) × (Nat → Int32) × (Nat → Int32) × (Nat → Int32) × (Nat → Int32) × (Nat → Int32))) (y : Option (Int32 × Int32 × Int32 × Int32 × (Nat → Int32) × (Nat → Int32) × (Nat → Int32) × (Nat → Int32))) : Prop :=
  ∃ (fn fp dp sc : Int32) (og sg : Nat → Int32) (ls : Int32) (sz av pv im hh pp : Nat → Int32) (nl a0 : Int32) (ni nm hs o8 : Nat → Int32), x = some (fn, fp, dp, sc, og, sg, ls, sz, av, pv, im, hh, pp) ∧ y = some (nl, a0, fn, fp, ni, nm, hs, o8) ∧ ((fn = 0 ∧ fp = -1 ∧ ∃ L, 0 < L ∧ ls = nI L ∧ nl = nI L ∧ RTr L C sz av pv im hh pp ni nm) ∨ ∃ f : Nat, 1 ≤ f ∧ f ≤ 6 ∧ fn = nI f)
theorem rt52_s {tp se : Nat → Int32} {z : Int32} (n : Nat) : f_X2_readTree_L52 tp z se (n + 1) = f_X2_readTree_L52_F tp z se (f_X2_readTree_L52 tp z se n) := rfl
theorem c_flt {C n k e f : Nat} {tp se : Nat → Int32} {fp : Int32} {dp sc ls : Int32} {og sg sz av pv im hh pp : Nat → Int32} (he : 1 ≤ e) (he2 : e ≤ 6) : f_X2_readTree_L52 tp (nI C) se (f + 1) (nI e) fp dp sc og sg ls sz av pv im hh pp (nI n) (nI k) = some (nI e, fp, dp, sc, og, sg, ls, sz, av, pv, im, hh, pp) := by
  rw [rt52_s]
  unfold f_X2_readTree_L52_F f_X2_readTree_L82
  rw [if_neg (nI_ne0 (n := e) (by omega) (by omega)), if_neg (nI_ne0 (n := e) (by omega) (by omega)), ite_self]
theorem c_byte {C n k f : Nat} {tp se : Nat → Int32} {fp : Int32} {dp sc ls : Int32} {og sg sz av pv im hh pp : Nat → Int32} (hk : k < n) (hn : n ≤ 400) : f_X2_readTree_L52 tp (nI C) se (f + 1) 0 fp dp sc og sg ls sz av pv im hh pp (nI n) (nI k) = ob13 (f_X2_readByte tp (nI C) se 0 fp dp sc og sg ls sz av pv im hh pp (nI k) (nI n)) fun f_faultNumber_3 f_faultPlace_4 f_depth_5 f_seenCount_6 g_open_7 g_seen_8 f_p4_lists_9 g_p4_sizes_10 g_p4_above_11 g_p4_placeAbove_12 g_p4_items_13 g_p4_home_14 g_p4_placeHome_15 => f_X2_readTree_L52 tp (nI C) se f f_faultNumber_3 f_faultPlace_4 f_depth_5 f_seenCount_6 g_open_7 g_seen_8 f_p4_lists_9 g_p4_sizes_10 g_p4_above_11 g_p4_placeAbove_12 g_p4_items_13 g_p4_home_14 g_p4_placeHome_15 (nI n) (nI (k + 1)) := by
  rw [rt52_s]
  unfold f_X2_readTree_L52_F
  rw [if_neg (nI_ge hk (by omega)), if_pos rfl, nI_1]
theorem rb_blank {n : Nat} {tp tp8 : Nat → Int32} {ub : Nat → Nat} (hb : BT n tp tp8 ub) {C k : Nat} {se : Nat → Int32} {fp : Int32} {dp sc ls : Int32} {og sg sz av pv im hh pp : Nat → Int32} (hk : k < n) (hu : ub k = 32) : f_X2_readByte tp (nI C) se 0 fp dp sc og sg ls sz av pv im hh pp (nI k) (nI n) = some (0, fp, dp, sc, og, sg, ls, sz, av, pv, im, hh, pp) := by
  have hn := hb.1
  unfold f_X2_readByte
  rw [gi_nI (by omega) (by decide), nI_clamp (by omega), d7 hb hk, hu]
  dsimp only [ob]
  rw [if_neg (show ¬ (dg 32 = true) by decide), if_pos rfl, if_neg (show ¬ tp k = 40 from fun z => by have := (e7 hb hk (c := 40) (by decide)).mp z; omega), if_neg (show ¬ tp k = 41 from fun z => by have := (e7 hb hk (c := 41) (by decide)).mp z; omega), if_pos (show tp k = 32 from (e7 hb hk (c := 32) (by decide)).mpr hu)]
theorem rb_other {n : Nat} {tp tp8 : Nat → Int32} {ub : Nat → Nat} (hb : BT n tp tp8 ub) {C k : Nat} {se : Nat → Int32} {fp : Int32} {dp sc ls : Int32} {og sg sz av pv im hh pp : Nat → Int32} (hk : k < n) (h0 : dg (ub k) = false) (h1 : ub k ≠ 32) (h2 : ub k ≠ 40) (h3 : ub k ≠ 41) : f_X2_readByte tp (nI C) se 0 fp dp sc og sg ls sz av pv im hh pp (nI k) (nI n) = some (nI 1, nI k, dp, sc, og, sg, ls, sz, av, pv, im, hh, pp) := by
  have hn := hb.1
  unfold f_X2_readByte
  rw [gi_nI (by omega) (by decide), nI_clamp (by omega), d7 hb hk, h0]
  dsimp only [ob]
  rw [if_neg (show ¬ (false = true) by decide), if_pos rfl, if_neg (show ¬ tp k = 40 from fun z => h2 ((e7 hb hk (c := 40) (by decide)).mp z)), if_neg (show ¬ tp k = 41 from fun z => h3 ((e7 hb hk (c := 41) (by decide)).mp z)), if_neg (show ¬ tp k = 32 from fun z => h1 ((e7 hb hk (c := 32) (by decide)).mp z))]
  rfl
theorem rb_open {n : Nat} {tp tp8 : Nat → Int32} {ub : Nat → Nat} (hb : BT n tp tp8 ub) {C k : Nat} {se : Nat → Int32} {fp : Int32} {dp sc ls : Int32} {og sg sz av pv im hh pp : Nat → Int32} (hk : k < n) (hu : ub k = 40) : f_X2_readByte tp (nI C) se 0 fp dp sc og sg ls sz av pv im hh pp (nI k) (nI n) = ob9 (f_X2_openList se 0 fp dp og ls sz av pv im (nI k)) fun a b c d e f g h i => some (a, b, c, sc, d, sg, e, f, g, h, i, hh, pp) := by
  have hn := hb.1
  unfold f_X2_readByte
  rw [gi_nI (by omega) (by decide), nI_clamp (by omega), d7 hb hk, hu]
  dsimp only [ob]
  rw [if_neg (show ¬ (dg 40 = true) by decide), if_pos rfl, if_pos (show tp k = 40 from (e7 hb hk (c := 40) (by decide)).mpr hu)]
theorem rb_close {n : Nat} {tp tp8 : Nat → Int32} {ub : Nat → Nat} (hb : BT n tp tp8 ub) {C k : Nat} {se : Nat → Int32} {fp : Int32} {dp sc ls : Int32} {og sg sz av pv im hh pp : Nat → Int32} (hk : k < n) (hu : ub k = 41) : f_X2_readByte tp (nI C) se 0 fp dp sc og sg ls sz av pv im hh pp (nI k) (nI n) = ob3 (f_X2_closeList og sz 0 fp dp (nI k)) fun a b c => some (a, b, c, sc, og, sg, ls, sz, av, pv, im, hh, pp) := by
  have hn := hb.1
  unfold f_X2_readByte
  rw [gi_nI (by omega) (by decide), nI_clamp (by omega), d7 hb hk, hu]
  dsimp only [ob]
  rw [if_neg (show ¬ (dg 41 = true) by decide), if_pos rfl, if_neg (show ¬ tp k = 40 from fun z => by have := (e7 hb hk (c := 40) (by decide)).mp z; omega), if_pos (show tp k = 41 from (e7 hb hk (c := 41) (by decide)).mpr hu)]
theorem rb_skip {n : Nat} {tp tp8 : Nat → Int32} {ub : Nat → Nat} (hb : BT n tp tp8 ub) {C k : Nat} {se : Nat → Int32} {fp : Int32} {dp sc ls : Int32} {og sg sz av pv im hh pp : Nat → Int32} (hk : k < n) (hk0 : 0 < k) (hu : dg (ub k) = true) (hv : dg (ub (k - 1)) = true) : f_X2_readByte tp (nI C) se 0 fp dp sc og sg ls sz av pv im hh pp (nI k) (nI n) = some (0, fp, dp, sc, og, sg, ls, sz, av, pv, im, hh, pp) := by
  have hn := hb.1
  unfold f_X2_readByte
  rw [gi_nI (by omega) (by decide), nI_clamp (by omega), d7 hb hk, hu]
  dsimp only [ob]
  rw [if_pos rfl, if_neg (show ¬ (1 : Int32) = 0 by decide), if_neg (nI_ne0 hk0 (by omega)), show nI k - 1 = nI (k - 1) by
    obtain ⟨j, rfl⟩ : ∃ j, k = j + 1 := ⟨k - 1, by omega⟩
    rw [nI_pred]; rfl, gi_nI (by omega) (by decide), nI_clamp (by omega), d7 hb (show k - 1 < n by omega), hv]
  dsimp only
  rw [if_pos rfl, if_neg (show ¬ (1 : Int32) = 0 by decide)]
theorem rb_dig {n : Nat} {tp tp8 : Nat → Int32} {ub : Nat → Nat} (hb : BT n tp tp8 ub) {C k : Nat} {se : Nat → Int32} {fp : Int32} {dp sc ls : Int32} {og sg sz av pv im hh pp : Nat → Int32} (hk : k < n) (hu : dg (ub k) = true) (hv : k = 0 ∨ dg (ub (k - 1)) = false) : f_X2_readByte tp (nI C) se 0 fp dp sc og sg ls sz av pv im hh pp (nI k) (nI n) = f_X2_readByte_L28 tp (nI C) se 0 fp dp sc og sg ls sz av pv im hh pp (nI k) (nI n) := by
  have hn := hb.1
  unfold f_X2_readByte
  rw [gi_nI (by omega) (by decide), nI_clamp (by omega), d7 hb hk, hu]
  dsimp only [ob]
  rw [if_pos rfl, if_neg (show ¬ (1 : Int32) = 0 by decide)]
  by_cases q : k = 0
  · rw [if_pos (show nI k = 0 by rw [q]; rfl)]
  · have hv2 : dg (ub (k - 1)) = false := by
      rcases hv with z | z
      · exact absurd z q
      · exact z
    rw [if_neg (nI_ne0 (by omega) (by omega)), show nI k - 1 = nI (k - 1) by
      obtain ⟨j, rfl⟩ : ∃ j, k = j + 1 := ⟨k - 1, by omega⟩
      rw [nI_pred]; rfl, gi_nI (by omega) (by decide), nI_clamp (by omega), d7 hb (show k - 1 < n by omega), hv2]
    dsimp only
    rw [if_neg (show ¬ (false = true) by decide), if_pos rfl]
theorem c_skip {n : Nat} {tp tp8 : Nat → Int32} {ub : Nat → Nat} (hb : BT n tp tp8 ub) {C : Nat} {se : Nat → Int32} {fp : Int32} {dp sc ls : Int32} {og sg sz av pv im hh pp : Nat → Int32} : ∀ (r k f : Nat), k + r ≤ n → (∀ j, k ≤ j → j < k + r → ub j = 32 ∨ (0 < j ∧ dg (ub j) = true ∧ dg (ub (j - 1)) = true)) → f_X2_readTree_L52 tp (nI C) se (f + r) 0 fp dp sc og sg ls sz av pv im hh pp (nI n) (nI k) = f_X2_readTree_L52 tp (nI C) se f 0 fp dp sc og sg ls sz av pv im hh pp (nI n) (nI (k + r)) := by
  have hn := hb.1
  intro r
  induction r with
  | zero => intro k f _ _; rfl
  | succ r ih =>
    intro k f h1 h2
    rw [show f + (r + 1) = (f + r) + 1 by omega, c_byte (by omega) hn]
    rcases h2 k (Nat.le_refl _) (by omega) with z | ⟨z1, z2, z3⟩
    · rw [rb_blank hb (by omega) z]
      dsimp only [ob13]
      rw [ih (k + 1) f (by omega) (fun j a b => h2 j (by omega) (by omega)), show k + 1 + r = k + (r + 1) by omega]
    · rw [rb_skip hb (by omega) z1 z2 z3]
      dsimp only [ob13]
      rw [ih (k + 1) f (by omega) (fun j a b => h2 j (by omega) (by omega)), show k + 1 + r = k + (r + 1) by omega]
theorem wrong1 {e : Nat} {pl x y : Int32} (he : 1 ≤ e) (he2 : e ≤ 6) : f_X8_wrong (nI e) pl x y = some (nI e, pl) := by
  unfold f_X8_wrong
  rw [if_neg (nI_nle (by omega) (by omega))]
theorem wrong0 {pl x y : Int32} : f_X8_wrong 0 pl x y = some (x, y) := by
  unfold f_X8_wrong
  rw [if_pos (show (0 : Int32) ≤ 0 by decide)]
theorem r291_s {cm z : Int32} (n : Nat) : f_X8_reads_L291 cm z (n + 1) = f_X8_reads_L291_F cm z (f_X8_reads_L291 cm z n) := rfl
theorem r291_f {C e : Nat} {z nl a0 pl : Int32} {ni nm hs o8 : Nat → Int32} (hC : C ≤ 40) (he : 1 ≤ e) (he2 : e ≤ 6) : ∀ (f c : Nat), c ≤ C → C < f + c → f_X8_reads_L291 (nI C) z f nl a0 (nI e) pl ni nm hs o8 (nI c) = some (nl, a0, nI e, pl, ni, nm, hs, o8) := by
  intro f
  induction f with
  | zero => intro c h1 h2; omega
  | succ f ih =>
    intro c h1 h2
    rw [r291_s]
    unfold f_X8_reads_L291_F f_X8_reads_L318
    by_cases q : c = C
    · subst q
      rw [if_pos (nI_le (Nat.le_refl _) (by omega))]
    · rw [if_neg (nI_ge (by omega) (by omega)), gi_nI (by omega) (by decide), wrong1 he he2]
      dsimp only [ob2]
      rw [nI_1, ih (c + 1) (by omega) (by omega), ite_self]
theorem r291_0 {C n : Nat} {S : Nat → Bool} {nl a0 pl : Int32} {ni nm hs o8 : Nat → Int32} (hC : C ≤ 40) (hh : ∀ c, c < 40 → hs c = if S c = true then 1 else 0) : ∀ (f c : Nat), c ≤ C → C < f + c → (∀ j, j < c → S j = true) → f_X8_reads_L291 (nI C) (nI n) f nl a0 0 pl ni nm hs o8 (nI c) = if nsum (fun c => if S c = true then 1 else 0) C = C then some (nl, a0, 0, pl, ni, nm, hs, o8) else some (nl, a0, nI 6, nI n, ni, nm, hs, o8) := by
  intro f
  induction f with
  | zero => intro c h1 h2; omega
  | succ f ih =>
    intro c h1 h2 h3
    rw [r291_s]
    unfold f_X8_reads_L291_F f_X8_reads_L318
    by_cases q : c = C
    · subst q
      rw [if_pos (nI_le (Nat.le_refl _) (by omega)), if_pos]
      rw [nsum_eq c (g' := fun _ => 1) (fun k hk => if_pos (h3 k hk)), nsum_const, Nat.mul_one]
    · rw [if_neg (nI_ge (by omega) (by omega)), gi_nI (by omega) (by decide), nI_clamp (by omega), hh c (by omega), wrong0]
      dsimp only [ob2]
      by_cases z : S c = true
      · rw [if_pos z, if_neg (show ¬ (1 : Int32) = 0 by decide), nI_1]
        exact ih (c + 1) (by omega) (by omega) (fun j hj => by
          by_cases w : j = c
          · rw [w]; exact z
          · exact h3 j (by omega))
      · rw [if_neg z, if_pos rfl, nI_1, if_neg (fun w => z (nsum_all C w c (by omega)))]
        exact r291_f hC (by decide) (by decide) f (c + 1) (by omega) (by omega)
theorem r265_f {n : Nat} {tp tp8 : Nat → Int32} {ub : Nat → Nat} (hb : BT n tp tp8 ub) {C e k : Nat} {nl pl : Int32} {ni nm hs o8 : Nat → Int32} (hC : C ≤ 40) (he : 1 ≤ e) (he2 : e ≤ 6) (hk : k ≤ n) : ∃ a0, f_X8_reads_L265 (nI C) (nI n) tp8 nl (nI k) (nI e) pl ni nm hs o8 = some (nl, a0, nI e, pl, ni, nm, hs, o8) := by
  obtain ⟨b, u1, u2, u3, u4, u5⟩ := blanks8 hb hk
  unfold f_X8_reads_L265 f_X8_reads_L289
  rw [u5]
  dsimp only [ob]
  rw [wrong1 he he2]
  dsimp only [ob2]
  have := r291_f (z := nI n) (nl := nl) (a0 := nI b) (pl := pl) (ni := ni) (nm := nm) (hs := hs) (o8 := o8) hC he he2 FU 0 (Nat.zero_le _) (show C < 100000 + 0 by omega)
  rw [nI_0] at this
  rw [this, ite_self]
  exact ⟨_, rfl⟩
theorem r60_s {cm br z : Int32} {tp8 : Nat → Int32} (n : Nat) : f_X8_reads_L60 cm br z tp8 (n + 1) = f_X8_reads_L60_F cm br z tp8 (f_X8_reads_L60 cm br z tp8 n) := rfl
theorem r60_f {n : Nat} {tp tp8 : Nat → Int32} {ub : Nat → Nat} (hb : BT n tp tp8 ub) {C e k f : Nat} {br nl pl x1 : Int32} {ni nm hs o8 : Nat → Int32} (hC : C ≤ 40) (he : 1 ≤ e) (he2 : e ≤ 6) (hk : k ≤ n) : ∃ a0, f_X8_reads_L60 (nI C) br (nI n) tp8 (f + 1) nl (nI k) (nI e) pl ni nm hs o8 x1 = some (nl, a0, nI e, pl, ni, nm, hs, o8) := by
  obtain ⟨a0, h⟩ := r265_f (ni := ni) (nm := nm) (hs := hs) (o8 := o8) (nl := nl) (pl := pl) hb hC he he2 hk
  refine ⟨a0, ?_⟩
  rw [r60_s]
  unfold f_X8_reads_L60_F
  rw [if_neg (nI_ne0 (n := e) (by omega) (by omega)), h, ite_self]
