/-! tell: in a list -/
theorem nI_m1 {D : Nat} (h : 1 ≤ D) : nI D - 1 = nI (D - 1) := by
  obtain ⟨j, rfl⟩ : ∃ j, D = j + 1 := ⟨D - 1, by omega⟩
  rw [nI_pred]; rfl
theorem full7 {C D s Ls : Nat} {op cn ab pa hm ph : Nat → Nat} {it : Nat → Nat → Sum Nat Nat} {S : Nat → Bool} (h : PA C D s Ls op cn ab pa hm ph it S) {og sg sz av pv im hh pp : Nat → Int32} (hp : PC C D Ls op cn ab pa hm ph it S og sg sz av pv im hh pp) {t : Nat} (ht : op (D - 1) = t) {se : Nat → Int32} {B : Nat} (hB : B ≤ 9) (hse : se 2 = nI B) : f_X2_isFull (nI D) og se sz = some (if cn t < B then 0 else 1) := by
  obtain ⟨u1, u2, u3, u4⟩ := pa_top h
  have h9 := h.2.2.1.1 _ u1
  have hD := h.1
  rw [ht] at u1 h9
  unfold f_X2_isFull
  rw [nI_m1 hD.1, gi_nI (by omega) (by decide), nI_clamp (by omega), hp.1 _ (by omega), ht, gi_nI (by omega) (by decide), nI_clamp (by omega), hp.2.2.1 t u1, show Int32.toNatClampNeg 2 = 2 from rfl, hse]
  by_cases q : cn t < B
  · rw [if_pos q, if_pos (nI_lt q (by omega))]
  · rw [if_neg q, if_neg (nI_nlt (by omega) (by omega))]
theorem c_num2 {C D s Ls : Nat} {op cn ab pa hm ph : Nat → Nat} {it : Nat → Nat → Sum Nat Nat} {S : Nat → Bool} (h : PA C D s Ls op cn ab pa hm ph it S) {og sg sz av pv im hh pp : Nat → Int32} (hp : PC C D Ls op cn ab pa hm ph it S og sg sz av pv im hh pp) {t : Nat} (ht : op (D - 1) = t) {se : Nat → Int32} {B e v : Nat} {fp : Int32} (hB : B ≤ 9) (hse : se 2 = nI B) (hv : C ≤ v) (hv2 : v < 20000) : f_X2_readNumber (nI D) og (nI C) se 0 fp (nI s) sg sz im hh pp (nI v) (nI e) = some (nI 2, nI e, nI s, sg, sz, im, hh, pp) := by
  have hD := h.1
  unfold f_X2_readNumber f_X2_refuse
  rw [if_neg (nI_ne0 (by omega) (by omega)), if_neg (nI_nlt hv (by omega))]
  rfl
theorem c_num3 {C D s Ls : Nat} {op cn ab pa hm ph : Nat → Nat} {it : Nat → Nat → Sum Nat Nat} {S : Nat → Bool} (h : PA C D s Ls op cn ab pa hm ph it S) {og sg sz av pv im hh pp : Nat → Int32} (hp : PC C D Ls op cn ab pa hm ph it S og sg sz av pv im hh pp) {t : Nat} (ht : op (D - 1) = t) {se : Nat → Int32} {B e v : Nat} {fp : Int32} (hB : B ≤ 9) (hse : se 2 = nI B) (hv : v < C) (hS : S v = true) : f_X2_readNumber (nI D) og (nI C) se 0 fp (nI s) sg sz im hh pp (nI v) (nI e) = some (nI 3, nI e, nI s, sg, sz, im, hh, pp) := by
  have hD := h.1
  unfold f_X2_readNumber f_X2_refuse
  rw [if_neg (nI_ne0 (by omega) (by omega)), if_pos (nI_lt hv (by omega)), gi_nI (by omega) (by decide), nI_clamp (by omega), hp.2.1 v (by omega), if_pos hS, if_neg (show ¬ (1 : Int32) = 0 by decide)]
  rfl
theorem c_num4 {C D s Ls : Nat} {op cn ab pa hm ph : Nat → Nat} {it : Nat → Nat → Sum Nat Nat} {S : Nat → Bool} (h : PA C D s Ls op cn ab pa hm ph it S) {og sg sz av pv im hh pp : Nat → Int32} (hp : PC C D Ls op cn ab pa hm ph it S og sg sz av pv im hh pp) {t : Nat} (ht : op (D - 1) = t) {se : Nat → Int32} {B e v : Nat} {fp : Int32} (hB : B ≤ 9) (hse : se 2 = nI B) (hv : v < C) (hS : S v = false) (hc : ¬ cn t < B) : f_X2_readNumber (nI D) og (nI C) se 0 fp (nI s) sg sz im hh pp (nI v) (nI e) = some (nI 4, nI e, nI s, sg, sz, im, hh, pp) := by
  have hD := h.1
  have hfull := full7 h hp ht hB hse
  unfold f_X2_readNumber f_X2_readNumber_L81 f_X2_refuse
  rw [if_neg (nI_ne0 (by omega) (by omega)), if_pos (nI_lt hv (by omega)), gi_nI (by omega) (by decide), nI_clamp (by omega), hp.2.1 v (by omega), hS, if_neg (show ¬ (false = true) by decide), if_pos rfl, hfull, if_neg hc]
  dsimp only [ob]
  rw [if_neg (show ¬ (1 : Int32) = 0 by decide)]
  rfl
theorem c_num0 {C D s Ls : Nat} {op cn ab pa hm ph : Nat → Nat} {it : Nat → Nat → Sum Nat Nat} {S : Nat → Bool} (h : PA C D s Ls op cn ab pa hm ph it S) {og sg sz av pv im hh pp : Nat → Int32} (hp : PC C D Ls op cn ab pa hm ph it S og sg sz av pv im hh pp) {t : Nat} (ht : op (D - 1) = t) {se : Nat → Int32} {B e v : Nat} {fp : Int32} (hB : B ≤ 9) (hse : se 2 = nI B) (hv : v < C) (hS : S v = false) (hc : cn t < B) : f_X2_readNumber (nI D) og (nI C) se 0 fp (nI s) sg sz im hh pp (nI v) (nI e) = some (0, fp, nI (s + 1), upd sg v 1, upd sz t (nI (cn t + 1)), upd im (9 * t + cn t) (nI v), upd hh v (nI t), upd pp v (nI (cn t + 1))) := by
  have hD := h.1
  have hfull := full7 h hp ht hB hse
  obtain ⟨u1, u2, u3, u4⟩ := pa_top h
  rw [ht] at u1
  unfold f_X2_readNumber
  rw [if_neg (nI_ne0 (by omega) (by omega)), if_pos (nI_lt hv (by omega)), gi_nI (by omega) (by decide), nI_clamp (by omega), hp.2.1 v (by omega), hS, if_neg (show ¬ (false = true) by decide), if_pos rfl, hfull, if_pos hc]
  dsimp only [ob]
  rw [if_pos rfl, nI_m1 hD.1, gi_nI (by omega) (by decide), nI_clamp (by omega), hp.1 _ (by omega), ht, addCommand7 (by omega) (by omega) (by omega) (hp.2.2.1 t u1)]
  dsimp only [ob5]
  rw [if_neg (show ¬ (1 : Int32) = 0 by decide), gi_nI (by omega) (by decide), nI_1, show vp_nar .boolean 1 = 1 from rfl]
theorem nd8 {n : Nat} {tp tp8 : Nat → Int32} {ub : Nat → Nat} (hb : BT n tp tp8 ub) {p : Nat} (hpn : p ≤ n) (hpd : p < n → dg (ub p) = false) {α : Type} (k : Int32 → Option α) : (ob (f_X8_byteAt (nI n) tp8 (nI p)) fun r_3 => ob (f_X8_isDigit r_3) k) = k 0 := by
  have hn := hb.1
  by_cases q : p < n
  · rw [a8 hb q]
    dsimp only [ob]
    have := (hb.2 p q).1
    rw [d8 (by omega), hpd q, if_neg (show ¬ (false = true) by decide)]
  · rw [a8e (by omega) (by omega)]
    dsimp only [ob]
    rw [show f_X8_isDigit 0 = some 0 by decide]
theorem r_num2 {n : Nat} {tp tp8 : Nat → Int32} {ub : Nat → Nat} (hb : BT n tp tp8 ub) {C D s Ls : Nat} {op cn ab pa hm ph : Nat → Nat} {it : Nat → Nat → Sum Nat Nat} {S : Nat → Bool} (h : PA C D s Ls op cn ab pa hm ph it S) {ni nm hs o8 : Nat → Int32} (h8 : P8 D Ls op cn it S ni nm hs o8) {t : Nat} (ht : op (D - 1) = t) {B e v p f : Nat} {fp : Int32} (hB : B ≤ 9) (hcB : cn t ≤ B) (hpn : p ≤ n) (hpd : p < n → dg (ub p) = false) (hv : C ≤ v) (hv2 : v < 20000) : f_X8_number_L7 (nI C) (nI B) (nI n) tp8 (f + 1) (nI p) 0 fp ni nm hs (nI t) (nI e) (nI v) = some (nI p, nI 2, nI e, ni, nm, hs) := by
  rw [nu_s]
  unfold f_X8_number_L7_F f_X8_number_L116
  rw [nd8 hb hpn hpd, if_pos rfl, if_neg (nI_nlt hv (by omega)), wrong0]
  dsimp only [ob2]
  rw [if_neg (show ¬ (2 : Int32) ≤ 0 by decide)]
  rfl
theorem r_num3 {n : Nat} {tp tp8 : Nat → Int32} {ub : Nat → Nat} (hb : BT n tp tp8 ub) {C D s Ls : Nat} {op cn ab pa hm ph : Nat → Nat} {it : Nat → Nat → Sum Nat Nat} {S : Nat → Bool} (h : PA C D s Ls op cn ab pa hm ph it S) {ni nm hs o8 : Nat → Int32} (h8 : P8 D Ls op cn it S ni nm hs o8) {t : Nat} (ht : op (D - 1) = t) {B e v p f : Nat} {fp : Int32} (hB : B ≤ 9) (hcB : cn t ≤ B) (hpn : p ≤ n) (hpd : p < n → dg (ub p) = false) (hv : v < C) (hS : S v = true) : f_X8_number_L7 (nI C) (nI B) (nI n) tp8 (f + 1) (nI p) 0 fp ni nm hs (nI t) (nI e) (nI v) = some (nI p, nI 3, nI e, ni, nm, hs) := by
  have hD := h.1
  rw [nu_s]
  unfold f_X8_number_L7_F f_X8_number_L116
  rw [nd8 hb hpn hpd, if_pos rfl, if_pos (nI_lt hv (by omega)), gi_nI (by omega) (by decide), nI_clamp (by omega), h8.2.1 v (by omega), if_pos hS, if_neg (show ¬ (1 : Int32) = 0 by decide), wrong0]
  dsimp only [ob2]
  rw [if_neg (show ¬ (3 : Int32) ≤ 0 by decide)]
  rfl
theorem r_num4 {n : Nat} {tp tp8 : Nat → Int32} {ub : Nat → Nat} (hb : BT n tp tp8 ub) {C D s Ls : Nat} {op cn ab pa hm ph : Nat → Nat} {it : Nat → Nat → Sum Nat Nat} {S : Nat → Bool} (h : PA C D s Ls op cn ab pa hm ph it S) {ni nm hs o8 : Nat → Int32} (h8 : P8 D Ls op cn it S ni nm hs o8) {t : Nat} (ht : op (D - 1) = t) {B e v p f : Nat} {fp : Int32} (hB : B ≤ 9) (hcB : cn t ≤ B) (hpn : p ≤ n) (hpd : p < n → dg (ub p) = false) (hv : v < C) (hS : S v = false) (hc : ¬ cn t < B) : f_X8_number_L7 (nI C) (nI B) (nI n) tp8 (f + 1) (nI p) 0 fp ni nm hs (nI t) (nI e) (nI v) = some (nI p, nI 4, nI e, ni, nm, hs) := by
  have hD := h.1
  obtain ⟨u1, u2, u3, u4⟩ := pa_top h
  rw [ht] at u1
  rw [nu_s]
  unfold f_X8_number_L7_F f_X8_number_L116
  rw [nd8 hb hpn hpd, if_pos rfl, if_pos (nI_lt hv (by omega)), gi_nI (by omega) (by decide), nI_clamp (by omega), h8.2.1 v (by omega), hS, if_neg (show ¬ (false = true) by decide), if_pos rfl, gi_nI (by omega) (by decide), nI_clamp (by omega), h8.2.2.1 t u1, if_pos (show nI (cn t) = nI B by rw [show cn t = B by omega]), wrong0]
  dsimp only [ob2]
  rw [if_neg (show ¬ (4 : Int32) ≤ 0 by decide)]
  rfl
theorem r_num0 {n : Nat} {tp tp8 : Nat → Int32} {ub : Nat → Nat} (hb : BT n tp tp8 ub) {C D s Ls : Nat} {op cn ab pa hm ph : Nat → Nat} {it : Nat → Nat → Sum Nat Nat} {S : Nat → Bool} (h : PA C D s Ls op cn ab pa hm ph it S) {ni nm hs o8 : Nat → Int32} (h8 : P8 D Ls op cn it S ni nm hs o8) {t : Nat} (ht : op (D - 1) = t) {B e v p f : Nat} {fp : Int32} (hB : B ≤ 9) (hcB : cn t ≤ B) (hpn : p ≤ n) (hpd : p < n → dg (ub p) = false) (hv : v < C) (hS : S v = false) (hc : cn t < B) : f_X8_number_L7 (nI C) (nI B) (nI n) tp8 (f + 1) (nI p) 0 fp ni nm hs (nI t) (nI e) (nI v) = some (nI p, 0, fp, upd ni (9 * t + cn t) (nI v), upd nm t (nI (cn t + 1)), upd hs v 1) := by
  have hD := h.1
  obtain ⟨u1, u2, u3, u4⟩ := pa_top h
  rw [ht] at u1
  rw [nu_s]
  unfold f_X8_number_L7_F f_X8_number_L116
  rw [nd8 hb hpn hpd, if_pos rfl, if_pos (nI_lt hv (by omega)), gi_nI (by omega) (by decide), nI_clamp (by omega), h8.2.1 v (by omega), hS, if_neg (show ¬ (false = true) by decide), if_pos rfl, gi_nI (by omega) (by decide), nI_clamp (by omega), h8.2.2.1 t u1, if_neg (show ¬ nI (cn t) = nI B from fun z => by have := (nI_eq (by omega) (by omega)).mp z; omega), if_pos (show (0 : Int32) ≤ 0 by decide), gi_nI (by omega) (by decide), adds8 (by omega) (by omega) (h8.2.2.1 t u1)]
  rfl
theorem r60_c {n : Nat} {tp tp8 : Nat → Int32} {ub : Nat → Nat} (hb : BT n tp tp8 ub) {C D k e f8 : Nat} {br nl fp : Int32} {ni nm hs o8 : Nat → Int32} (hD : 1 ≤ D) (hD2 : D ≤ 40) (u2 : e < n) (u5 : f_X8_blanks (nI n) tp8 (nI k) = some (nI e)) : f_X8_reads_L60 (nI C) br (nI n) tp8 (f8 + 1) nl (nI k) 0 fp ni nm hs o8 (nI D) = f_X8_reads_L98 (nI C) br (nI n) tp8 (f_X8_reads_L60 (nI C) br (nI n) tp8 f8) nl (nI e) 0 fp ni nm hs o8 (nI D) (nI (ub e)) := by
  have hn := hb.1
  rw [r60_s]
  unfold f_X8_reads_L60_F
  rw [if_neg (nI_nle (by omega) (by omega)), if_pos rfl, u5]
  dsimp only [ob]
  rw [if_neg (nI_ge u2 (by omega)), a8 hb u2]
theorem jend {n : Nat} {tp tp8 : Nat → Int32} {ub : Nat → Nat} (hb : BT n tp tp8 ub) {C D s Ls : Nat} {op cn ab pa hm ph : Nat → Nat} {it : Nat → Nat → Sum Nat Nat} {S : Nat → Bool} (h : PA C D s Ls op cn ab pa hm ph it S) {og sg sz av pv im hh pp : Nat → Int32} (hp : PC C D Ls op cn ab pa hm ph it S og sg sz av pv im hh pp) {ni nm hs o8 : Nat → Int32} (h8 : P8 D Ls op cn it S ni nm hs o8) {se : Nat → Int32} {br fp : Int32} {k f f8 : Nat} (hk : k ≤ n) (hf : n + 1 < f + k) (hf8 : n + 1 < f8 + k) (hsp : ∀ j, k ≤ j → j < n → ub j = 32) (u5 : f_X8_blanks (nI n) tp8 (nI k) = some (nI n)) : RS C (f_X2_readTree_L52 tp (nI C) se f 0 fp (nI D) (nI s) og sg (nI Ls) sz av pv im hh pp (nI n) (nI k)) (f_X8_reads_L60 (nI C) br (nI n) tp8 f8 (nI Ls) (nI k) 0 fp ni nm hs o8 (nI D)) := by
  have hn := hb.1
  have hD := h.1
  obtain ⟨F, hF⟩ : ∃ F, f = (F + 1) + (n - k) := ⟨f - (n - k) - 1, by omega⟩
  obtain ⟨F8, hF8⟩ : ∃ F8, f8 = F8 + 1 + 1 := ⟨f8 - 2, by omega⟩
  rw [hF, c_skip hb (n - k) k (F + 1) (by omega) (fun j a b => .inl (hsp j a (by omega))), show k + (n - k) = n by omega, rt52_s]
  unfold f_X2_readTree_L52_F f_X2_readTree_L82 f_X2_readEnd f_X2_readEnd_L14 f_X2_refuse
  rw [if_pos (nI_le (Nat.le_refl _) (by omega)), if_pos rfl, if_pos (show (0 : Int32) < nI D from nI_lt (a := 0) (by omega) (by omega))]
  rw [hF8, r60_s]
  unfold f_X8_reads_L60_F f_X8_reads_L98 f_X8_reads_L253 f_X8_reads_L262
  rw [if_neg (nI_nle (by omega) (by omega)), if_pos rfl, u5]
  dsimp only [ob]
  rw [if_pos (nI_le (Nat.le_refl _) (by omega)), nI_m1 hD.1, gi_nI (by omega) (by decide), show f_X8_isDigit 0 = some 0 by decide]
  dsimp only
  rw [if_pos rfl, if_neg (show ¬ (0 : Int32) = 40 by decide), if_neg (show ¬ (0 : Int32) = 41 by decide), wrong0]
  dsimp only [ob2]
  obtain ⟨a0, hr⟩ := r60_f (br := br) (f := F8) (x1 := nI D) (ni := ni) (nm := nm) (hs := hs) (o8 := o8) (nl := nI Ls) (pl := nI n) (e := 1) hb hD.2.2.1 (by decide) (by decide) (Nat.le_refl _)
  rw [show nI 1 = (1 : Int32) from rfl] at hr
  rw [hr]
  exact ⟨_, _, _, _, _, _, _, _, _, _, _, _, _, _, _, _, _, _, _, rfl, rfl, .inr ⟨1, by decide, by decide, rfl⟩⟩
