/-! plan, whole -/
def cvv (N : Nat) (ct : Nat → Int32) (c : Nat) : Nat := if c < N then (ct c).toNatClampNeg else 0
theorem cvv_ok {N : Nat} {ct : Nat → Int32} (h : ∀ c, c < N → ∃ v : Nat, v ≤ 10000 ∧ ct c = nI v) : (∀ c, c < N → ct c = nI (cvv N ct c)) ∧ (∀ c, cvv N ct c ≤ 10000) := by
  have key : ∀ c, c < N → ct c = nI (cvv N ct c) ∧ cvv N ct c ≤ 10000 := fun c hc => by
    obtain ⟨v, hv, e⟩ := h c hc
    unfold cvv
    rw [if_pos hc, e, nI_clamp (by omega)]
    exact ⟨rfl, hv⟩
  refine ⟨fun c hc => (key c hc).1, fun c => ?_⟩
  by_cases q : c < N
  · exact (key c q).2
  · unfold cvv; rw [if_neg q]; exact Nat.zero_le _
theorem pfx_bd {cv : Nat → Nat} {N : Nat} (h1 : ∀ c, cv c ≤ 10000) (h2 : ∀ c, N ≤ c → cv c = 0) (hN : N ≤ 40) : ∀ x, pfx cv x ≤ 10000 * (if x ≤ N then x else N)
  | 0 => by show 0 ≤ _; exact Nat.zero_le _
  | x + 1 => by
    have ih := pfx_bd h1 h2 hN x
    show pfx cv x + cv x ≤ _
    by_cases q : x + 1 ≤ N
    · rw [if_pos q]; rw [if_pos (by omega)] at ih
      have := h1 x
      omega
    · rw [if_neg q, h2 x (by omega)]
      by_cases z : x ≤ N
      · rw [if_pos z] at ih; omega
      · rw [if_neg z] at ih; omega
theorem ww_bd {N : Nat} {ct : Nat → Int32} (h : ∀ c, c < N → ∃ v : Nat, v ≤ 10000 ∧ ct c = nI v) (hN : N ≤ 40) (n i : Nat) : ww (cvv N ct) n i ≤ 400000 := by
  have := pfx_bd (cv := cvv N ct) (N := N) (cvv_ok h).2 (fun c hc => by unfold cvv; rw [if_neg (by omega)]) hN (i + n)
  unfold ww
  have h3 : (if i + n ≤ N then i + n else N) ≤ 40 := by split <;> omega
  omega
def RSp (N : Nat) (ct se : Nat → Int32) (sk : Int32) (be ai : Nat → Int64) (ar : Nat → Nat → Int64) : Prop :=
  be 0 = 0 ∧ (sk = 0 ∨ (sk = 1 ∧ ∀ lk dn B : Nat, se 0 = nI lk → se 1 = nI dn → se 2 = nI B → lk ≤ 100 → dn ≤ 100 → B ≤ 9 → KS (cvv N ct) lk dn B N be ai ar))
theorem br_st {F : Nat → Nat → Nat → Nat} {N : Nat} {sa sb ab pa cn : Nat → Nat} {it : Nat → Nat → Sum Nat Nat} {ni nm : Nat → Int32} {x : Option (Int32 × (Nat → Int32) × (Nat → Int32))} (h : BR F 1 0 0 N sa sb ab pa cn it ni nm x) (h0 : sa 0 = 0) (h1 : sb 0 = N) : ∃ (L : Nat) (ni' nm' : Nat → Int32) (sa' sb' ab' pa' cn' : Nat → Nat) (it' : Nat → Nat → Sum Nat Nat), x = some (nI L, ni', nm') ∧ L ≤ N + 1 ∧ ST F L N sa' sb' ab' pa' cn' it' ∧ (∀ r, r < L → nm' r = nI (cn' r) ∧ ∀ j, j < cn' r → ni' (9 * r + j) = enc8 id (it' r j)) := by
  obtain ⟨L, sa', sb', ab', pa', cn', it', ni', nm', e, g1, g2, g3, g4, g5, g6⟩ := h
  have hG : ∀ l, l < L → G8 F L sa' sb' ab' pa' cn' it' ni' nm' l := fun l hl => by
    by_cases z : l = 0
    · subst z; exact g5
    · exact (g6 l (by omega) hl).1
  have hz := (g4 0 (by decide)).1
  refine ⟨L, ni', nm', sa', sb', ab', pa', cn', it', e, by omega, ⟨⟨g1, by rw [hz.1, h0], by rw [hz.2.1, h1]⟩, fun l hl => ?_, fun l j c hl hj hi => ?_, fun l j m hl hj hi => ?_, fun m q1 q2 => ?_⟩, fun r hr => ⟨(hG r hr).1.1, fun j hj => ((hG r hr).1.2.1 j hj).2⟩⟩
  · obtain ⟨i1, i2, i3, i4⟩ := hG l hl
    exact ⟨i2, i3, i4, fun j hj => (i1.2.1 j hj).1⟩
  · exact (hG l hl).1.2.2.1 j c hj hi
  · obtain ⟨v1, v2, v3, v4, v5, v6, v7⟩ := (hG l hl).1.2.2.2 j m hj hi
    exact ⟨by omega, v2, v3, v4, v5, v6, v7⟩
  · exact (g6 m (by omega) q2).2.1
theorem s_plan {N : Nat} {ct wd se ct8 wd8 : Nat → Int32} {lk dn br un : Int32} (hu : RU N ct wd se ct8 wd8 lk dn br un) (hN1 : 1 ≤ N) {sk : Int32} {be ai : Nat → Int64} {ar : Nat → Nat → Int64} (hs : RSp N ct se sk be ai ar) {wt le : Nat → Int64} (hwt : wt 0 = 0) (ls rk th ls8 nl8 : Int32) (sz av pv im hh pp lf lt im8 mn8 ni nm me fi : Nat → Int32) :
    ∃ (r : Int64) (L : Nat) (sz' av' pv' im' hh' pp' : Nat → Int32) (be' ai' : Nat → Int64) (ar' : Nat → Nat → Int64) (lf' lt' : Nat → Int32) (nl8' : Int32) (im8' mn8' ni' nm' : Nat → Int32) (le' : Nat → Int64) (me' fi' : Nat → Int32) (wt' : Nat → Int64),
      f_X7_plan (nI N) ct se sk ls sz av pv im hh pp rk be ai ar lf lt = some (r, 1, nI L, sz', av', pv', im', hh', pp', -1, be', ai', ar', lf', lt') ∧ f_X8_plan (nI N) lk dn br ct8 th ls8 nl8 im8 mn8 ni nm le me fi wt = some (r, 0, nI L, nl8', im8', mn8', ni', nm', le', me', fi', wt') ∧ 0 < L ∧ RTr L N sz' av' pv' im' hh' pp' im8' mn8' ∧ RSp N ct se 1 be' ai' ar' ∧ wt' 0 = 0 := by
  obtain ⟨hN, h1, h2, h3, ⟨rfl, rfl, rfl, rfl⟩, ⟨lkN, l1, l2, hlk⟩, ⟨dnN, d1, hdn⟩, ⟨B, B1, B2, hB⟩, g3⟩ := hu
  obtain ⟨cv1, cv2⟩ := cvv_ok h2
  have hw := ww_bd h2 hN
  have hks : ∃ be' ai' ar', be' 0 = 0 ∧ KS (cvv N ct) lkN dnN B N be' ai' ar' ∧ f_X7_plan (nI N) ct se sk ls sz av pv im hh pp rk be ai ar lf lt = (ob9 (f_X3_build be' ai' ar' (nI N) se lf lt ls sz av pv im hh pp) fun g_spans_listFrom_15 g_spans_listTo_16 f_tree_lists_17 g_tree_sizes_18 g_tree_above_19 g_tree_placeAbove_20 g_tree_items_21 g_tree_home_22 g_tree_placeHome_23 => (ob (f_X0_forget rk) fun f_exchanges_reckoned_24 => (ob (f_X5_totalCost g_tree_above_19 g_tree_placeAbove_20 g_tree_home_22 g_tree_placeHome_23 (nI N) ct se) fun r_25 => some (r_25, 1, f_tree_lists_17, g_tree_sizes_18, g_tree_above_19, g_tree_placeAbove_20, g_tree_items_21, g_tree_home_22, g_tree_placeHome_23, f_exchanges_reckoned_24, be', ai', ar', g_spans_listFrom_15, g_spans_listTo_16)))) := by
    unfold f_X7_plan
    rw [if_neg (nI_ne0 (by omega) (by omega))]
    rcases hs.2 with z | ⟨z, hk⟩
    · rw [if_pos z]
      obtain ⟨be', ai', ar', g1, g2, g3⟩ := reckon7 (cv := cvv N ct) hw l2 d1 B1 B2 hN (ct := ct) (se := se) (ai := ai) (ar := ar) (fun c hc => ⟨cv1 c hc, cv2 c⟩) hlk hdn hB hs.1
      rw [g1]
      exact ⟨be', ai', ar', g2, g3, rfl⟩
    · subst z
      rw [if_neg (show ¬ (1 : Int32) = 0 by decide)]
      exact ⟨be, ai, ar, hs.1, hk lkN dnN B hlk hdn hB l2 d1 B2, rfl⟩
  obtain ⟨be', ai', ar', b0, hK, e7⟩ := hks
  obtain ⟨L, sa, sb, ab, pa, hm, ph, cn, it, lf', lt', sz', av', pv', im', hh', pp', gb, hbf⟩ := build7 hw l2 d1 B1 B2 hN hN1 (se := se) hK hlk hB (lf := lf) (lt := lt) (sz := sz) (av := av) (pv := pv) (im := im) (hh := hh) (pp := pp) (ls := ls)
  obtain ⟨hat, htc⟩ := bf_at hbf
  obtain ⟨hst, hcm⟩ := bf_st hbf
  have hsp : ∀ l, l < L → sa l < sb l ∧ sb l ≤ N := by
    obtain ⟨ow, cur, k, _, _, q1, q2, qi, _, _⟩ := hbf
    exact qi.2.1.2.2.1
  obtain ⟨wt', le', me', fi', hv, w0, e8⟩ := plan8_tab (cv := cvv N ct) hw l2 d1 B1 B2 hN (th := th) (ls := ls8) (nl := nl8) (im := im8) (mn := mn8) (ni := ni) (nm := nm) (ct := ct8) (wt := wt) (le0 := le) (me0 := me) (fi0 := fi) (fun c hc => ⟨by rw [(h1 c hc).1]; exact cv1 c hc, cv2 c⟩) hN1 hwt
  have hbr := bd8 (FO_dF (cv := cvv N ct) (lk := lkN) (dn := dnN) B1) B2 (by omega) hN (fi := fi') (fun n i p q1 q2 q3 q4 => by
    obtain ⟨L0, M0, _, _, u3, _⟩ := hv n i p q1 (by omega) q2 q3 q4
    exact u3) 50 0 0 N 1 (fun _ => 0) (fun _ => N) (fun _ => 0) (fun _ => 0) (fun _ => 0) (fun _ _ => .inl 0) ni (upd nm 0 0) (by omega) (by omega) (Nat.le_refl _) (by decide) (by omega) rfl rfl (by rw [pk_us]; rfl) rfl
  obtain ⟨L2, ni', nm', sa2, sb2, ab2, pa2, cn2, it2, e9, k1, k2, k3⟩ := br_st hbr rfl rfl
  obtain ⟨hLL, pi, qi, ht8⟩ := st_same hst k2 k3
  subst hLL
  obtain ⟨im8', mn8', c1, c2, c3⟩ := becomes8 (nl := nI L) (ls := ls8) (ni := ni') (nm := nm') (im := im8) (mn := mn8)
  obtain ⟨L0, M0, u1, u2, u3, u4, u5, u6⟩ := hv N 0 1 hN1 (by omega) (by omega) (Nat.le_refl _) (by omega)
  have hL0 : Lq (cvv N ct) lkN dnN B N 0 1 = L0 := by unfold Lq; omega
  have hnl := newList8 (nm := nm) (L := 0) (by decide)
  rw [nI_0] at hnl
  have h88 : f_X8_plan (nI N) (se 0) (se 1) (se 2) ct8 th ls8 nl8 im8 mn8 ni nm le me fi wt = some (lN L0, 0, nI L, nI L, im8', mn8', ni', nm', le', me', fi', wt') := by
    rw [hlk, hdn, hB, e8, hnl]
    dsimp only [ob3]
    rw [nI_0] at e9
    rw [e9]
    dsimp only
    rw [c3]
    dsimp only [ob]
    unfold f_X8_span
    dsimp only
    have hix := ix11 0 N 1
    rw [nI_0, show nI 1 = (1 : Int32) from rfl] at hix
    rw [hix, gi_nI (by omega) (by decide), nI_clamp (by omega)]
    rw [show (41 * 0 + (0 + N)) * 11 + 1 = (41 * 0 + N) * 11 + 1 by omega] at u1
    rw [u1]
  have hpa9 : ∀ m, 0 < m → m < L → ab m < m ∧ pa m ≤ 9 := fun m q1 q2 => by
    obtain ⟨v1, v2, v3, v4⟩ := hat.2.2.2.2.2.2.2 m q1 q2
    have := (hat.2.2.2.1 (ab m) (by omega)).2
    exact ⟨v1, by omega⟩
  have hcost : csum ct (stp ab pa hm ph (se 0) (se 1)) N = lN L0 := by
    rw [hlk, hdn]
    rw [csum_nat (cv := cvv N ct) (sv := fun c => lkN * ph c + pre lkN dnN ab pa (hm c)) N (fun c hc => ⟨cv1 c hc, by have := cv2 c; omega, stp_nat c, by
      obtain ⟨v1, v2, v3, v4⟩ := hat.2.2.2.2.2.2.1 c hc
      have h9 := (hat.2.2.2.1 (hm c) v1).2
      have hb := pre_bd l2 d1 hpa9 (hm c) (hm c) (Nat.le_refl _) v1
      have hp : lkN * ph c ≤ 100 * 9 := Nat.mul_le_mul l2 (by omega)
      have := hat.2.1
      omega⟩)]
    refine congrArg lN ?_
    have hcs := cost_span (cv := cvv N ct) (lk := lkN) (dn := dnN) (B := B) (N := N) (hm := hm) (ph := ph) B1 B2 hN hv hst hcm hsp L 0 (by have := hat.1; omega) (by omega)
    rw [hst.1.2.1, hst.1.2.2, Nat.sub_zero] at hcs
    rw [← rsum_nsum, hcs, hL0]
    show 0 * _ + L0 = L0
    rw [Nat.zero_mul, Nat.zero_add]
  refine ⟨lN L0, L, sz', av', pv', im', hh', pp', be', ai', ar', lf', lt', nI L, im8', mn8', ni', nm', le', me', fi', wt', ?_, h88, by have := hat.1; omega, rtr_becomes (.inr ⟨ab, pa, hm, ph, cn, it, pi, qi, hat, htc, ht8⟩) c1 c2, ⟨b0, .inr ⟨rfl, fun lk2 dn2 BB q1 q2 q3 q4 q5 q6 => ?_⟩⟩, w0⟩
  · rw [e7, gb]
    dsimp only [ob9]
    rw [show f_X0_forget rk = some (-1) from rfl]
    dsimp only [ob]
    rw [r_cost7 hat htc ct se, hcost]
  · have z1 : lk2 = lkN := (nI_eq (by omega) (by omega)).mp (by rw [← q1, hlk])
    have z2 : dn2 = dnN := (nI_eq (by omega) (by omega)).mp (by rw [← q2, hdn])
    have z3 : BB = B := (nI_eq (by omega) (by omega)).mp (by rw [← q3, hB])
    rw [z1, z2, z3]
    exact hK
theorem s_plan0 {ct se : Nat → Int32} {lk dn br : Int32} (sk ls rk th ls8 nl8 : Int32) (sz av pv im hh pp lf lt im8 mn8 ni nm me fi ct8 : Nat → Int32) (be ai wt le : Nat → Int64) (ar : Nat → Nat → Int64) : f_X7_plan (nI 0) ct se sk ls sz av pv im hh pp rk be ai ar lf lt = some (-1, sk, ls, sz, av, pv, im, hh, pp, rk, be, ai, ar, lf, lt) ∧ f_X8_plan (nI 0) lk dn br ct8 th ls8 nl8 im8 mn8 ni nm le me fi wt = some (-1, 0, ls8, nl8, im8, mn8, ni, nm, le, me, fi, wt) := by
  unfold f_X7_plan f_X8_plan
  rw [if_pos nI_0, if_pos nI_0]
  exact ⟨rfl, rfl⟩
