/-! tell, whole -/
theorem pa_begin {C : Nat} (hC : C ≤ 40) : PA C 1 0 1 (fun _ => 0) (fun _ => 0) (fun _ => 0) (fun _ => 0) (fun _ => 0) (fun _ => 0) (fun _ _ => .inl 0) (fun _ => false) := by
  refine ⟨⟨by decide, by decide, hC, rfl⟩, ⟨fun i _ => Nat.zero_lt_one, fun i j h1 h2 => absurd h2 (by omega)⟩, ⟨fun l _ => Nat.zero_le 9, fun l h1 h2 => absurd (Nat.lt_one_iff.mp h1) h2⟩, fun l k c h1 h2 _ => absurd h2 (Nat.not_lt_zero k), fun l k m h1 h2 _ => absurd h2 (Nat.not_lt_zero k), fun c hc h => absurd h (show ¬ (false = true) by decide), fun m h1 h2 => absurd h2 (by omega), ?_, ?_⟩
  · exact (nsum_zero C (fun k _ => if_neg (show ¬ (false = true) by decide))).symm
  · show 1 + (0 + 0) + 1 ≤ 0 + 2 * 1
    decide
theorem js {n : Nat} {tp tp8 : Nat → Int32} {ub : Nat → Nat} (hb : BT n tp tp8 ub) {C B : Nat} {se : Nat → Int32} {fp : Int32} (hfp : fp = -1) (hC : C ≤ 40) (hB2 : 2 ≤ B) (hB : B ≤ 9) (hse : se 2 = nI B) {og sg sz av pv im hh pp ni nm hs o8 : Nat → Int32} (hsg : ∀ c, c < 40 → sg c = 0) (hhs : ∀ c, c < 40 → hs c = 0) {f : Nat} (hf : n + 2 < f) : RS C (f_X2_readTree_L52 tp (nI C) se f 0 fp 0 0 og sg 0 sz av pv im hh pp (nI n) (nI 0)) (f_X8_reads (nI C) (nI B) (nI n) tp8 0 0 0 fp ni nm hs o8) := by
  have hn := hb.1
  obtain ⟨e, u1, u2, u3, u4, u5⟩ := blanks8 hb (k := 0) (Nat.zero_le _)
  rw [nI_0] at u5
  obtain ⟨F, hF⟩ : ∃ F, f = (F + 1 + 1) + e := ⟨f - e - 2, by omega⟩
  unfold f_X8_reads f_X8_reads_L28
  rw [hF, c_skip hb e 0 (F + 1 + 1) (by omega) (fun j a b => .inl (u3 j a (by omega))), show 0 + e = e by omega, u5]
  dsimp only [ob]
  by_cases q : e = n
  · subst q
    rw [if_pos (nI_le (Nat.le_refl _) (by omega)), wrong0, rt52_s]
    unfold f_X2_readTree_L52_F f_X2_readTree_L82 f_X2_readEnd f_X2_readEnd_L14 f_X2_refuse
    rw [if_pos (nI_le (Nat.le_refl _) (by omega)), if_pos rfl, if_neg (show ¬ (0 : Int32) < 0 by decide), show f_X5_exists 0 = some 0 by decide]
    dsimp only [ob]
    rw [if_pos rfl]
    exact ⟨_, _, _, _, _, _, _, _, _, _, _, _, _, _, _, _, _, _, _, rfl, rfl, .inr ⟨1, by decide, by decide, rfl⟩⟩
  have hen : e < n := by omega
  have hub := (hb.2 e hen).1
  have hpv : e = 0 ∨ dg (ub (e - 1)) = false := by
    by_cases z : e = 0
    · exact .inl z
    · right
      rw [u3 (e - 1) (by omega) (by omega)]
      decide
  rw [if_neg (nI_ge hen (by omega)), a8 hb hen]
  dsimp only
  rw [c_byte hen hn]
  by_cases c40 : ub e = 40
  · rw [if_pos (show nI (ub e) = 40 by rw [c40]; rfl), rb_open hb hen c40]
    unfold f_X2_openList f_X5_begin
    have hnl := newList8 (nm := nm) (L := 0) (by decide)
    rw [nI_0] at hnl
    rw [if_pos (show (0 : Int32) ≤ 0 by decide), show f_X5_exists 0 = some 0 by decide, hnl]
    dsimp only [ob, ob3]
    rw [if_pos rfl]
    dsimp only [ob4, ob9, ob13]
    have hj := jt hb hfp hB2 hB hse n (e + 1) 1 0 1 (fun _ => 0) (fun _ => 0) (fun _ => 0) (fun _ => 0) (fun _ => 0) (fun _ => 0) (fun _ _ => .inl 0) (fun _ => false) (upd og 0 0) sg (upd sz 0 0) (upd av 0 (-1)) (upd pv 0 0) im hh pp ni (upd nm 0 0) hs (upd o8 0 0) (F + 1) FU (pa_begin hC) (fun l _ => Nat.zero_le B)
      ⟨fun i hi => by rw [Nat.lt_one_iff.mp hi, pk_us]; rfl, fun c hc => by rw [hsg c hc]; rfl, fun l hl => by rw [Nat.lt_one_iff.mp hl, pk_us]; rfl, fun l k h1 h2 => absurd h2 (Nat.not_lt_zero k), fun m h1 h2 => absurd h2 (by omega), ⟨pk_us, pk_us⟩, fun c hc h => absurd h (show ¬ (false = true) by decide)⟩
      ⟨fun i hi => by rw [Nat.lt_one_iff.mp hi, pk_us]; rfl, fun c hc => by rw [hhs c hc]; rfl, fun l hl => by rw [Nat.lt_one_iff.mp hl, pk_us]; rfl, fun l k h1 h2 => absurd h2 (Nat.not_lt_zero k)⟩
      (by omega) (by omega) (by omega) (show n + 1 < 100000 + (e + 1) by omega) (.inr (.inl (by rw [show e + 1 - 1 = e by omega, c40]; decide)))
    rw [nI_1]
    exact hj
  · rw [if_neg (show ¬ nI (ub e) = 40 from fun z => c40 ((nI_eq (b := 40) (by omega) (by decide)).mp z)), wrong0]
    have fin : f_X2_readByte tp (nI C) se 0 fp 0 0 og sg 0 sz av pv im hh pp (nI e) (nI n) = some (nI 1, nI e, 0, 0, og, sg, 0, sz, av, pv, im, hh, pp) := by
      cases hd : dg (ub e) with
      | true =>
        rw [rb_dig hb hen hd hpv]
        unfold f_X2_readByte_L28
        obtain ⟨v, hv⟩ := dg_na hb hen
        rw [hv]
        dsimp only [ob]
        rw [rn_0]
        rfl
      | false =>
        by_cases c41 : ub e = 41
        · rw [rb_close hb hen c41]
          unfold f_X2_closeList f_X2_closeList_L27 f_X2_refuse
          rw [if_pos rfl, if_pos rfl]
          rfl
        · exact rb_other hb hen hd (u4 hen) c40 c41
    rw [fin]
    dsimp only [ob13]
    rw [c_flt (by decide) (by decide)]
    exact ⟨_, _, _, _, _, _, _, _, _, _, _, _, _, _, _, _, _, _, _, rfl, rfl, .inr ⟨1, by decide, by decide, rfl⟩⟩
theorem rt23_s {tp se : Nat → Int32} {z : Int32} (n : Nat) : f_X2_readTree_L23 tp z se (n + 1) = f_X2_readTree_L23_F tp z se (f_X2_readTree_L23 tp z se n) := fx_s _ _ _
theorem rt_clear {tp se : Nat → Int32} {z fn fp dp sc ls a2 : Int32} {og sz av pv im hh pp : Nat → Int32} : ∀ (f c : Nat) (sg : Nat → Int32), c ≤ 40 → 40 < f + c → (∀ j, j < c → sg j = 0) → ∃ sg', (∀ j, j < 40 → sg' j = 0) ∧ f_X2_readTree_L23 tp z se f fn fp dp sc og sg ls sz av pv im hh pp a2 (nI c) = f_X2_readTree_L52 tp z se FU fn fp dp sc og sg' 0 sz av pv im hh pp a2 0 := by
  intro f
  induction f with
  | zero => intro c sg h1 h2; omega
  | succ f ih =>
    intro c sg h1 h2 h3
    rw [rt23_s]
    unfold f_X2_readTree_L23_F
    by_cases q : c = 40
    · subst q
      rw [if_pos (show (40 : Int32) ≤ nI 40 by decide)]
      exact ⟨sg, h3, rfl⟩
    · rw [if_neg (show ¬ (40 : Int32) ≤ _ from nI_ge (b := 40) (show c < 40 by omega) (by decide)), gi_nI (by omega) (by decide), nI_clamp (by omega), nI_1]
      refine ih (c + 1) _ (by omega) (by omega) (fun j hj => ?_)
      by_cases z : j = c
      · subst z; rw [pk_us]; rfl
      · rw [pk_un z]; exact h3 j (by omega)
theorem be29_s {nl : Int32} {nm : Nat → Int32} (n : Nat) : f_X8_becomes_L29 nl nm (n + 1) = f_X8_becomes_L29_F nl nm (f_X8_becomes_L29 nl nm n) := rfl
theorem be29 {nl ls : Int32} {nm im : Nat → Int32} : ∀ (f k : Nat) (mn : Nat → Int32), k ≤ 84 → 84 < f + k → (∀ j, j < k → mn j = nm j) → ∃ mn', (∀ j, j < 84 → mn' j = nm j) ∧ f_X8_becomes_L29 nl nm f ls im mn (nI k) = some (nl, im, mn') := by
  intro f
  induction f with
  | zero => intro k mn h1 h2; omega
  | succ f ih =>
    intro k mn h1 h2 h3
    rw [be29_s]
    unfold f_X8_becomes_L29_F
    by_cases q : k = 84
    · subst q
      rw [if_pos (show (84 : Int32) ≤ nI 84 by decide)]
      exact ⟨mn, h3, rfl⟩
    · rw [if_neg (show ¬ (84 : Int32) ≤ _ from nI_ge (b := 84) (show k < 84 by omega) (by decide)), gi_nI (by omega) (by decide), gi_nI (by omega) (by decide), nI_clamp (by omega), nI_1]
      refine ih (k + 1) _ (by omega) (by omega) (fun j hj => ?_)
      by_cases z : j = k
      · subst z; rw [pk_us]
      · rw [pk_un z]; exact h3 j (by omega)
theorem be2_s {nl : Int32} {ni nm : Nat → Int32} (n : Nat) : f_X8_becomes_L2 nl ni nm (n + 1) = f_X8_becomes_L2_F nl ni nm (f_X8_becomes_L2 nl ni nm n) := fx_s _ _ _
theorem becomes8 {nl ls : Int32} {ni nm im mn : Nat → Int32} : ∃ im' mn', (∀ j, j < 756 → im' j = ni j) ∧ (∀ j, j < 84 → mn' j = nm j) ∧ f_X8_becomes nl ni nm ls im mn = some (nl, im', mn') := by
  have key : ∀ (f k : Nat) (im : Nat → Int32), k ≤ 756 → 756 < f + k → (∀ j, j < k → im j = ni j) → ∃ im' mn', (∀ j, j < 756 → im' j = ni j) ∧ (∀ j, j < 84 → mn' j = nm j) ∧ f_X8_becomes_L2 nl ni nm f ls im mn (nI k) = some (nl, im', mn') := by
    intro f
    induction f with
    | zero => intro k im h1 h2; omega
    | succ f ih =>
      intro k im h1 h2 h3
      rw [be2_s]
      unfold f_X8_becomes_L2_F
      by_cases q : k = 756
      · subst q
        rw [if_pos (show (756 : Int32) ≤ nI 756 by decide)]
        obtain ⟨mn', g1, g2⟩ := be29 (nl := nl) (ls := ls) (nm := nm) (im := im) FU 0 mn (by decide) (show 84 < 100000 + 0 by decide) (fun j hj => by omega)
        rw [nI_0] at g2
        exact ⟨im, mn', h3, g1, g2⟩
      · rw [if_neg (show ¬ (756 : Int32) ≤ _ from nI_ge (b := 756) (show k < 756 by omega) (by decide)), gi_nI (by omega) (by decide), gi_nI (by omega) (by decide), nI_clamp (by omega), nI_1]
        refine ih (k + 1) _ (by omega) (by omega) (fun j hj => ?_)
        by_cases z : j = k
        · subst z; rw [pk_us]
        · rw [pk_un z]; exact h3 j (by omega)
  unfold f_X8_becomes
  have := key FU 0 im (by decide) (show 756 < 100000 + 0 by decide) (fun j hj => by omega)
  rw [nI_0] at this
  exact this
theorem rtr_becomes {L C : Nat} {sz av pv im hh pp ni nm im' mn' : Nat → Int32} (h : RTr L C sz av pv im hh pp ni nm) (h1 : ∀ j, j < 756 → im' j = ni j) (h2 : ∀ j, j < 84 → mn' j = nm j) : RTr L C sz av pv im hh pp im' mn' := by
  rcases h with h | ⟨ab, pa, hm, ph, cn, it, pi, qi, a, b, c⟩
  · exact .inl h
  · right
    refine ⟨ab, pa, hm, ph, cn, it, pi, qi, a, b, c.1, c.2.1, c.2.2.1, fun l hl => ?_, fun l k hl hk => ?_⟩
    · have := (c.2.1 l hl).1
      have := a.2.1
      rw [h2 _ (by omega)]; exact c.2.2.2.1 l hl
    · have := (c.2.1 l hl).1
      have := a.2.1
      have := (a.2.2.2.1 l hl).2
      rw [h1 _ (by omega)]; exact c.2.2.2.2 l k hl hk
theorem te64_s {cm br : Int32} {tp8 : Nat → Int32} (n : Nat) : f_X8_tell_L64 cm br tp8 (n + 1) = f_X8_tell_L64_F cm br tp8 (f_X8_tell_L64 cm br tp8 n) := fx_s _ _ _
theorem te_clear {cm br th tpd z ls nl a0 ft pl : Int32} {tp8 im mn ni nm o8 : Nat → Int32} : ∀ (f c : Nat) (hs : Nat → Int32), c ≤ 40 → 40 < f + c → (∀ j, j < c → hs j = 0) → ∃ hs', (∀ j, j < 40 → hs' j = 0) ∧ f_X8_tell_L64 cm br tp8 f th tpd z ls nl a0 ft pl im mn ni nm hs o8 (nI c) = (ob8 (f_X8_reads cm br z tp8 nl a0 ft pl ni nm hs' o8) fun f_newLists_1 f_at_2 f_fault_3 f_place_4 g_newItems_5 g_newMany_6 g_has_7 g_open_8 => (if f_fault_3 ≤ 0 then (ob3 (f_X8_becomes f_newLists_1 g_newItems_5 g_newMany_6 ls im mn) fun f_lists_9 g_items_10 g_many_11 => some (0, th, tpd, z, f_lists_9, f_newLists_1, f_at_2, f_fault_3, f_place_4, g_items_10, g_many_11, g_newItems_5, g_newMany_6, g_has_7, g_open_8)) else some ((f_fault_3 - 10), th, tpd, z, ls, f_newLists_1, f_at_2, f_fault_3, f_place_4, im, mn, g_newItems_5, g_newMany_6, g_has_7, g_open_8))) := by
  intro f
  induction f with
  | zero => intro c hs h1 h2; omega
  | succ f ih =>
    intro c hs h1 h2 h3
    rw [te64_s]
    unfold f_X8_tell_L64_F
    by_cases q : c = 40
    · subst q
      rw [if_pos (show (40 : Int32) ≤ nI 40 by decide)]
      exact ⟨hs, h3, rfl⟩
    · rw [if_neg (show ¬ (40 : Int32) ≤ _ from nI_ge (b := 40) (show c < 40 by omega) (by decide)), gi_nI (by omega) (by decide), nI_clamp (by omega), nI_1]
      refine ih (c + 1) _ (by omega) (by omega) (fun j hj => ?_)
      by_cases z : j = c
      · subst z; rw [pk_us]; rfl
      · rw [pk_un z]; exact h3 j (by omega)
theorem s_tell {N T : Nat} {ct wd se ct8 wd8 tp tp8 : Nat → Int32} {lk dn br un : Int32} (hu : RU N ct wd se ct8 wd8 lk dn br un) (ht : RT T tp tp8) (fp0 rfn rfp rdp rsc dls rk th z8 ls8 nl8 at8 ft8 pl8 a : Int32) (og sg sz av pv im hh pp im8 mn8 ni nm hs o8 : Nat → Int32) :
    (f_X7_tell (nI N) se tp (nI T) fp0 rfn rfp rdp rsc og sg dls sz av pv im hh pp rk a = some (.inl "java/lang/IllegalArgumentException") ∧ f_X8_tell (nI N) br tp8 th (nI T) z8 ls8 nl8 at8 ft8 pl8 im8 mn8 ni nm hs o8 a = some (0, 1, nI T, z8, ls8, nl8, at8, ft8, pl8, im8, mn8, ni, nm, hs, o8))
    ∨ (∃ (r fp fn' dp' sc' : Int32) (og' sg' : Nat → Int32) (ls' : Int32) (sz' av' pv' im' hh' pp' : Nat → Int32) (z8' nl8' at8' : Int32) (ni' nm' hs' o8' : Nat → Int32), f_X7_tell (nI N) se tp (nI T) fp0 rfn rfp rdp rsc og sg dls sz av pv im hh pp rk a = some (.inr (r, 0, fp, fn', fp, dp', sc', og', sg', ls', sz', av', pv', im', hh', pp', rk, 0)) ∧ f_X8_tell (nI N) br tp8 th (nI T) z8 ls8 nl8 at8 ft8 pl8 im8 mn8 ni nm hs o8 a = some (r, 0, 0, z8', ls8, nl8', at8', fn', fp, im8, mn8, ni', nm', hs', o8'))
    ∨ (∃ (L : Nat) (fn' dp' sc' : Int32) (og' sg' sz' av' pv' im' hh' pp' : Nat → Int32) (z8' nl8' at8' : Int32) (im8' mn8' ni' nm' hs' o8' : Nat → Int32), f_X7_tell (nI N) se tp (nI T) fp0 rfn rfp rdp rsc og sg dls sz av pv im hh pp rk a = some (.inr (0, 0, -1, fn', -1, dp', sc', og', sg', nI L, sz', av', pv', im', hh', pp', -1, 1)) ∧ f_X8_tell (nI N) br tp8 th (nI T) z8 ls8 nl8 at8 ft8 pl8 im8 mn8 ni nm hs o8 a = some (0, 0, 0, z8', nI L, nl8', at8', fn', -1, im8', mn8', ni', nm', hs', o8') ∧ 0 < L ∧ RTr L N sz' av' pv' im' hh' pp' im8' mn8') := by
  obtain ⟨hN, h1, h2, h3, ⟨rfl, rfl, rfl, rfl⟩, g0, g1, ⟨B, hB2, hB9, hB⟩, g3⟩ := hu
  have hT := ht.1
  unfold f_X7_tell f_X8_tell f_X8_tell_L18 f_X8_tell_L23
  rw [bad0, bad1]
  dsimp only [ob2]
  rw [if_neg (show ¬ (1 : Int32) = 0 by decide), if_pos (show (0 : Int32) = 0 from rfl)]
  by_cases q0 : a < 0
  · left
    rw [if_pos q0, if_pos q0]
    exact ⟨rfl, rfl⟩
  · rw [if_neg q0, if_neg q0]
    obtain ⟨n, hn, rfl⟩ := nI_of q0
    by_cases q1 : n ≤ T
    · rw [if_pos (nI_le q1 (by omega)), if_pos (nI_le q1 (by omega))]
      obtain ⟨ub, hb⟩ := bt_of ht q1
      obtain ⟨sg1, s1, s2⟩ := rt_clear (tp := tp) (se := se) (z := nI N) (fn := 0) (fp := -1) (dp := 0) (sc := 0) (ls := dls) (a2 := nI n) (og := og) (sz := sz) (av := av) (pv := pv) (im := im) (hh := hh) (pp := pp) FU 0 sg (by decide) (show 40 < 100000 + 0 by decide) (fun j hj => by omega)
      obtain ⟨hs1, t1, t2⟩ := te_clear (cm := nI N) (br := se 2) (th := 0) (tpd := 0) (z := nI n) (ls := ls8) (nl := 0) (a0 := 0) (ft := 0) (pl := -1) (tp8 := tp8) (im := im8) (mn := mn8) (ni := ni) (nm := nm) (o8 := o8) FU 0 hs (by decide) (show 40 < 100000 + 0 by decide) (fun j hj => by omega)
      have hj := js hb (C := N) (B := B) (se := se) (fp := -1) (og := og) (sz := sz) (av := av) (pv := pv) (im := im) (hh := hh) (pp := pp) (ni := ni) (nm := nm) (o8 := o8) rfl hN hB2 hB9 hB s1 t1 (f := FU) (show n + 2 < 100000 by omega)
      rw [nI_0] at s2 t2 hj
      unfold f_X2_readTree
      rw [s2, t2, hB]
      obtain ⟨fn, fp, dp, sc, og2, sg2, ls2, sz2, av2, pv2, im2, hh2, pp2, nl2, a2, ni2, nm2, hs2, o82, e1, e2, e3⟩ := hj
      rw [e1, e2]
      dsimp only [ob13, ob8]
      rcases e3 with ⟨rfl, rfl, L, l1, rfl, rfl, l4⟩ | ⟨f, f1, f2, rfl⟩
      · right; right
        obtain ⟨im8', mn8', b1, b2, b3⟩ := becomes8 (nl := nI L) (ls := ls8) (ni := ni2) (nm := nm2) (im := im8) (mn := mn8)
        rw [if_pos rfl, if_pos (show (0 : Int32) ≤ 0 by decide), b3]
        exact ⟨L, _, _, _, _, _, _, _, _, _, _, _, _, _, _, _, _, _, _, _, _, rfl, rfl, l1, rtr_becomes l4 b1 b2⟩
      · right; left
        rw [if_neg (nI_ne0 (by omega) (by omega)), if_neg (nI_nle (by omega) (by omega))]
        exact ⟨_, _, _, _, _, _, _, _, _, _, _, _, _, _, _, _, _, _, _, _, _, rfl, rfl⟩
    · left
      rw [if_neg (nI_ge (by omega) hn), if_neg (nI_ge (by omega) hn)]
      exact ⟨rfl, rfl⟩
