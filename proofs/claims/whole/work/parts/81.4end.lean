/-! tell: behind the tree, in a list, ahead of the tree -/
def fr (ub : Nat → Nat) (n k : Nat) : Prop := k = 0 ∨ dg (ub (k - 1)) = false ∨ (k < n → dg (ub k) = false)
theorem fr_b {n k e : Nat} {ub : Nat → Nat} (h : fr ub n k) (he : k ≤ e) (hen : e < n) (hs : ∀ j, k ≤ j → j < e → ub j = 32) (hd : dg (ub e) = true) : e = 0 ∨ dg (ub (e - 1)) = false := by
  by_cases q : e = k
  · subst q
    rcases h with z | z | z
    · exact .inl z
    · exact .inr z
    · rw [z hen] at hd; cases hd
  · right
    rw [hs (e - 1) (by omega) (by omega)]
    decide
theorem dg_na {n k : Nat} {tp tp8 : Nat → Int32} {ub : Nat → Nat} (hb : BT n tp tp8 ub) (hk : k < n) : ∃ v : Nat, f_X2_numberAt tp (nI k) (nI n) = some (nI v) := by
  obtain ⟨r, u1, u2, u3⟩ := run_ex (ub := ub) (n := n) (n - k) k (by omega)
  have hn := hb.1
  exact ⟨V7 ub k r 0, num7 hb r k 0 FU (show r < 100000 by omega) u1 u2 u3 (by decide)⟩
theorem rn_0 {z fn fp sc : Int32} {og se sg sz im hh pp : Nat → Int32} {x y : Int32} : f_X2_readNumber 0 og z se fn fp sc sg sz im hh pp x y = some (1, y, sc, sg, sz, im, hh, pp) := by
  unfold f_X2_readNumber f_X2_refuse
  rw [if_pos rfl]
  rfl
theorem jz {n : Nat} {tp tp8 : Nat → Int32} {ub : Nat → Nat} (hb : BT n tp tp8 ub) {C s Ls : Nat} {op cn ab pa hm ph : Nat → Nat} {it : Nat → Nat → Sum Nat Nat} {S : Nat → Bool} {se : Nat → Int32} {br fp : Int32} (hfp : fp = -1) {og sg sz av pv im hh pp ni nm hs o8 : Nat → Int32} (h : PA C 1 s Ls op cn ab pa hm ph it S) (hcn : 1 ≤ cn 0) (hp : PC C 1 Ls op cn ab pa hm ph it S og sg sz av pv im hh pp) (h8 : P8 1 Ls op cn it S ni nm hs o8) {k f f8 : Nat} (hk : k ≤ n) (hf : n + 1 < f + k) (hfr : fr ub n k) : RS C (f_X2_readTree_L52 tp (nI C) se f 0 fp 0 (nI s) og sg (nI Ls) sz av pv im hh pp (nI n) (nI k)) (f_X8_reads_L60 (nI C) br (nI n) tp8 (f8 + 1) (nI Ls) (nI k) 0 fp ni nm hs o8 0) := by
  have hn := hb.1
  have hC : C ≤ 40 := h.1.2.2.1
  have htop := pa_top h
  obtain ⟨e, u1, u2, u3, u4, u5⟩ := blanks8 hb hk
  obtain ⟨F, hF⟩ : ∃ F, f = (F + 1 + 1) + (e - k) := ⟨f - (e - k) - 2, by omega⟩
  rw [hF, c_skip hb (e - k) k (F + 1 + 1) (by omega) (fun j a b => .inl (u3 j a (by omega))), show k + (e - k) = e by omega]
  rw [r60_s]
  unfold f_X8_reads_L60_F f_X8_reads_L265 f_X8_reads_L289
  rw [if_pos (show (0 : Int32) ≤ 0 by decide), u5]
  dsimp only [ob]
  by_cases q : e = n
  · subst q
    rw [if_pos (nI_le (Nat.le_refl _) (by omega))]
    have h291 := r291_0 (n := e) (nl := nI Ls) (a0 := nI e) (pl := fp) (ni := ni) (nm := nm) (hs := hs) (o8 := o8) hC h8.2.1 FU 0 (Nat.zero_le _) (show C < 100000 + 0 by omega) (fun j hj => by omega)
    rw [nI_0] at h291
    rw [h291, rt52_s]
    unfold f_X2_readTree_L52_F f_X2_readTree_L82 f_X2_readEnd f_X2_readEnd_L14
    rw [if_pos (nI_le (Nat.le_refl _) (by omega)), if_pos rfl, if_neg (show ¬ (0 : Int32) < 0 by decide), ex1 (by omega) (by omega)]
    dsimp only [ob]
    rw [if_neg (show ¬ (1 : Int32) = 0 by decide)]
    have hs2 : s = nsum (fun c => if S c = true then 1 else 0) C := h.2.2.2.2.2.2.2.1
    have hle := nsum_ind (S := S) C
    by_cases z : s = C
    · rw [if_pos (nI_le (by omega) (by omega)), if_pos (by omega)]
      refine ⟨_, _, _, _, _, _, _, _, _, _, _, _, _, _, _, _, _, _, _, rfl, rfl, .inl ⟨rfl, hfp, Ls, by omega, rfl, rfl, .inr ⟨ab, pa, hm, ph, cn, it, id, id, pa_end h hcn (by omega), ?_, ?_⟩⟩⟩
      · have hall : ∀ c, c < C → S c = true := nsum_all C (by omega)
        exact ⟨hp.2.2.1, hp.2.2.2.1, hp.2.2.2.2.1, hp.2.2.2.2.2.1, fun c hc => hp.2.2.2.2.2.2 c hc (hall c hc)⟩
      · exact ⟨rfl, fun l hl => ⟨hl, rfl⟩, fun r hr => ⟨hr, rfl⟩, fun l hl => h8.2.2.1 l hl, fun l k hl hk => h8.2.2.2 l k hl hk⟩
    · rw [if_neg (nI_ge (by omega) (by omega)), if_neg (by omega)]
      exact ⟨_, _, _, _, _, _, _, _, _, _, _, _, _, _, _, _, _, _, _, rfl, rfl, .inr ⟨6, by decide, by decide, rfl⟩⟩
  · have hen : e < n := by omega
    rw [if_neg (nI_ge hen (by omega)), wrong0]
    dsimp only [ob2]
    have h291 := r291_f (z := nI n) (nl := nI Ls) (a0 := nI e) (pl := nI e) (ni := ni) (nm := nm) (hs := hs) (o8 := o8) (e := 1) hC (by decide) (by decide) FU 0 (Nat.zero_le _) (show C < 100000 + 0 by omega)
    rw [nI_0] at h291
    rw [show (1 : Int32) = nI 1 from rfl, h291, c_byte hen hn]
    have fin : f_X2_readByte tp (nI C) se 0 fp 0 (nI s) og sg (nI Ls) sz av pv im hh pp (nI e) (nI n) = some (nI 1, nI e, 0, nI s, og, sg, nI Ls, sz, av, pv, im, hh, pp) := by
      cases hd : dg (ub e) with
      | true =>
        rw [rb_dig hb hen hd (fr_b hfr u1 hen u3 hd)]
        unfold f_X2_readByte_L28
        obtain ⟨v, hv⟩ := dg_na hb hen
        rw [hv]
        dsimp only [ob]
        rw [rn_0]
        rfl
      | false =>
        by_cases c40 : ub e = 40
        · rw [rb_open hb hen c40]
          unfold f_X2_openList f_X2_refuse
          rw [if_pos (show (0 : Int32) ≤ 0 by decide), ex1 (by omega) (by omega)]
          dsimp only [ob]
          rw [if_neg (show ¬ (1 : Int32) = 0 by decide)]
          rfl
        · by_cases c41 : ub e = 41
          · rw [rb_close hb hen c41]
            unfold f_X2_closeList f_X2_closeList_L27 f_X2_refuse
            rw [if_pos rfl, if_pos rfl]
            rfl
          · exact rb_other hb hen hd (u4 hen) c40 c41
    rw [fin]
    dsimp only [ob13]
    rw [c_flt (by decide) (by decide)]
    exact ⟨_, _, _, _, _, _, _, _, _, _, _, _, _, _, _, _, _, _, _, rfl, rfl, .inr ⟨1, by decide, by decide, rfl⟩⟩
