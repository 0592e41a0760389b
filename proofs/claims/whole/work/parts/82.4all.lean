/-! plan: the reference's loops over all spans -/
def VP (cv : Nat → Nat) (lk dn B N n : Nat) (le : Nat → Int64) (me fi : Nat → Int32) : Prop := ∀ n' i' p', 1 ≤ n' → n' < n → i' + n' ≤ N → 1 ≤ p' → p' ≤ B → E8 cv lk dn B n' i' p' le me fi
theorem pl78_s {lk dn br : Int32} {k66} (n : Nat) : f_X8_plan_L78 lk dn br k66 (n + 1) = f_X8_plan_L78_F lk dn br k66 (f_X8_plan_L78 lk dn br k66 n) := fx_s _ _ _
theorem pl66_s {cm lk dn br : Int32} {k56} (n : Nat) : f_X8_plan_L66 cm lk dn br k56 (n + 1) = f_X8_plan_L66_F cm lk dn br k56 (f_X8_plan_L66 cm lk dn br k56 n) := fx_s _ _ _
theorem pl56_s {cm lk dn br : Int32} (n : Nat) : f_X8_plan_L56 cm lk dn br (n + 1) = f_X8_plan_L56_F cm lk dn br (f_X8_plan_L56 cm lk dn br n) := fx_s _ _ _
theorem pl18_s {cm lk dn br : Int32} {ct : Nat → Int32} (n : Nat) : f_X8_plan_L18 cm lk dn br ct (n + 1) = f_X8_plan_L18_F cm lk dn br ct (f_X8_plan_L18 cm lk dn br ct n) := fx_s _ _ _
theorem pl78 {cv : Nat → Nat} {lk dn B N : Nat} (hw : ∀ n i, ww cv n i ≤ 400000) (hl : lk ≤ 100) (hd : dn ≤ 100) (hB2 : 2 ≤ B) (hB : B ≤ 9) (hN : N ≤ 40) {th ls nl : Int32} {im mn ni nm : Nat → Int32} {wt : Nat → Int64} {k66} (hwt : ∀ j, j ≤ N → wt j = lN (pfx cv j)) {n i : Nat} (hn : 1 ≤ n) (hi : i + n ≤ N) : ∀ (f p : Nat) (le : Nat → Int64) (me fi : Nat → Int32), 1 ≤ p → p ≤ B + 1 → B + 1 < f + p → VP cv lk dn B N n le me fi → (∀ i' p', i' < i → i' + n ≤ N → 1 ≤ p' → p' ≤ B → E8 cv lk dn B n i' p' le me fi) → (∀ p', 1 ≤ p' → p' < p → E8 cv lk dn B n i p' le me fi) → ∃ (le' : Nat → Int64) (me' fi' : Nat → Int32), f_X8_plan_L78 (nI lk) (nI dn) (nI B) k66 f th ls nl im mn ni nm le me fi wt (nI n) (nI i) (nI p) = k66 th ls nl im mn ni nm le' me' fi' wt (nI n) (nI (i + 1)) ∧ VP cv lk dn B N n le' me' fi' ∧ (∀ i' p', i' < i + 1 → i' + n ≤ N → 1 ≤ p' → p' ≤ B → E8 cv lk dn B n i' p' le' me' fi') := by
  intro f
  induction f with
  | zero => intro p le me fi h1 h2 h3; omega
  | succ f ih =>
    intro p le me fi h1 h2 h3 hv hv2 hv3
    rw [pl78_s]
    unfold f_X8_plan_L78_F
    by_cases e : p = B + 1
    · subst e
      rw [if_pos (nI_lt (by omega) (by omega)), nI_1]
      refine ⟨le, me, fi, rfl, hv, fun i' p' a b c d => ?_⟩
      by_cases z : i' = i
      · subst z; exact hv3 p' c (by omega)
      · exact hv2 i' p' (by omega) b c d
    · rw [if_neg (nI_nlt (by omega) (by omega)), nI_add]
      obtain ⟨le1, me1, fi1, g1, g2, g3⟩ := spans8 hw hl hd hB2 hB hN hwt (le0 := le) (me0 := me) (fi0 := fi) hn hi h1 (show p ≤ B by omega) (fun s a b c => by
        by_cases z : s = n
        · subst z; exact hv3 1 (Nat.le_refl _) (by omega)
        · exact hv s i 1 (by omega) (by omega) (by omega) (Nat.le_refl _) (by omega)) (fun s a b c => hv (n - s) (i + s) (p + 1) (by omega) (by omega) (by omega) (by omega) (by omega))
      rw [g1]
      dsimp only [ob3]
      rw [nI_1]
      refine ih (p + 1) le1 me1 fi1 (by omega) (by omega) (by omega) (fun n' i' p' a b c d e' => E8_off (hv n' i' p' a b c d e') g3 (by omega)) (fun i' p' a b c d => E8_off (hv2 i' p' a b c d) g3 (by omega)) (fun p' a b => ?_)
      by_cases z : p' = p
      · subst z; exact g2
      · exact E8_off (hv3 p' a (by omega)) g3 (by omega)
theorem pl66 {cv : Nat → Nat} {lk dn B N : Nat} (hw : ∀ n i, ww cv n i ≤ 400000) (hl : lk ≤ 100) (hd : dn ≤ 100) (hB2 : 2 ≤ B) (hB : B ≤ 9) (hN : N ≤ 40) {th ls nl : Int32} {im mn ni nm : Nat → Int32} {wt : Nat → Int64} {k56} (hwt : ∀ j, j ≤ N → wt j = lN (pfx cv j)) {n : Nat} (hn : 1 ≤ n) (hnN : n ≤ N) : ∀ (f i : Nat) (le : Nat → Int64) (me fi : Nat → Int32), i + n ≤ N + 1 → N + 1 < f + i + n → VP cv lk dn B N n le me fi → (∀ i' p', i' < i → i' + n ≤ N → 1 ≤ p' → p' ≤ B → E8 cv lk dn B n i' p' le me fi) → ∃ (le' : Nat → Int64) (me' fi' : Nat → Int32), f_X8_plan_L66 (nI N) (nI lk) (nI dn) (nI B) k56 f th ls nl im mn ni nm le me fi wt (nI n) (nI i) = k56 th ls nl im mn ni nm le' me' fi' wt (nI (n + 1)) ∧ VP cv lk dn B N (n + 1) le' me' fi' := by
  intro f
  induction f with
  | zero => intro i le me fi h1 h2; omega
  | succ f ih =>
    intro i le me fi h1 h2 hv hv2
    rw [pl66_s]
    unfold f_X8_plan_L66_F
    rw [nI_add]
    by_cases e : N < i + n
    · rw [if_pos (nI_lt e (by omega)), nI_1]
      refine ⟨le, me, fi, rfl, fun n' i' p' a b c d e' => ?_⟩
      by_cases z : n' = n
      · subst z; exact hv2 i' p' (by omega) c d e'
      · exact hv n' i' p' a (by omega) c d e'
    · rw [if_neg (nI_nlt (by omega) (by omega))]
      obtain ⟨le1, me1, fi1, g1, g2, g3⟩ := pl78 hw hl hd hB2 hB hN (th := th) (ls := ls) (nl := nl) (im := im) (mn := mn) (ni := ni) (nm := nm) (k66 := f_X8_plan_L66 (nI N) (nI lk) (nI dn) (nI B) k56 f) hwt hn (show i + n ≤ N by omega) FU 1 le me fi (Nat.le_refl _) (by omega) (show B + 1 < 100000 + 1 by omega) hv hv2 (fun p' a b => by omega)
      rw [show nI 1 = (1 : Int32) from rfl] at g1
      rw [g1]
      exact ih (i + 1) le1 me1 fi1 (by omega) (by omega) g2 g3
theorem pl56 {cv : Nat → Nat} {lk dn B N : Nat} (hw : ∀ n i, ww cv n i ≤ 400000) (hl : lk ≤ 100) (hd : dn ≤ 100) (hB2 : 2 ≤ B) (hB : B ≤ 9) (hN : N ≤ 40) {th ls nl : Int32} {im mn ni nm : Nat → Int32} {wt : Nat → Int64} (hwt : ∀ j, j ≤ N → wt j = lN (pfx cv j)) : ∀ (f n : Nat) (le : Nat → Int64) (me fi : Nat → Int32), 1 ≤ n → n ≤ N + 1 → N + 1 < f + n → VP cv lk dn B N n le me fi → ∀ (LE0 : Nat → Int64) (ME0 FI0 : Nat → Int32), LE0 = le → ME0 = me → FI0 = fi → ∃ (le : Nat → Int64) (me fi : Nat → Int32), VP cv lk dn B N (N + 1) le me fi ∧ f_X8_plan_L56 (nI N) (nI lk) (nI dn) (nI B) f th ls nl im mn ni nm LE0 ME0 FI0 wt (nI n) = (ob3 (f_X8_newList 0 nm) fun r_6 f_newLists_4 g_newMany_5 => (ob3 (f_X8_builds fi 50 f_newLists_4 ni g_newMany_5 r_6 0 (nI N)) fun f_newLists_7 g_newItems_8 g_newMany_9 => (ob3 (f_X8_becomes f_newLists_7 g_newItems_8 g_newMany_9 ls im mn) fun f_lists_10 g_items_11 g_many_12 => (ob (f_X8_span 0 (nI N) 1) fun r_13 => (gi r_13 18491 <| some ((le (Int32.toNatClampNeg r_13)), th, f_lists_10, f_newLists_7, g_items_11, g_many_12, g_newItems_8, g_newMany_9, le, me, fi, wt)))))) := by
  intro f
  induction f with
  | zero => intro n le me fi h1 h2 h3; omega
  | succ f ih =>
    intro n le me fi h1 h2 h3 hv LE0 ME0 FI0 z1 z2 z3
    subst z1; subst z2; subst z3
    rw [pl56_s]
    unfold f_X8_plan_L56_F
    by_cases e : n = N + 1
    · subst e
      rw [if_pos (nI_lt (by omega) (by omega))]
      exact ⟨LE0, ME0, FI0, hv, rfl⟩
    · rw [if_neg (nI_nlt (by omega) (by omega))]
      obtain ⟨le1, me1, fi1, g1, g2⟩ := pl66 hw hl hd hB2 hB hN (th := th) (ls := ls) (nl := nl) (im := im) (mn := mn) (ni := ni) (nm := nm) (k56 := f_X8_plan_L56 (nI N) (nI lk) (nI dn) (nI B) f) hwt h1 (show n ≤ N by omega) FU 0 LE0 ME0 FI0 (by omega) (show N + 1 < 100000 + 0 + n by omega) hv (fun i' p' a => by omega)
      rw [nI_0] at g1
      rw [g1]
      exact ih (n + 1) le1 me1 fi1 (by omega) (by omega) (by omega) g2 le1 me1 fi1 rfl rfl rfl
theorem plan8_tab {cv : Nat → Nat} {lk dn B N : Nat} (hw : ∀ n i, ww cv n i ≤ 400000) (hl : lk ≤ 100) (hd : dn ≤ 100) (hB2 : 2 ≤ B) (hB : B ≤ 9) (hN : N ≤ 40) {th ls nl : Int32} {im mn ni nm ct : Nat → Int32} {wt le0 : Nat → Int64} {me0 fi0 : Nat → Int32} (hct : ∀ c, c < N → ct c = nI (cv c) ∧ cv c ≤ 10000) (hN1 : 1 ≤ N) (hwt0 : wt 0 = 0) : ∃ (wt' le : Nat → Int64) (me fi : Nat → Int32), VP cv lk dn B N (N + 1) le me fi ∧ wt' 0 = 0 ∧ f_X8_plan (nI N) (nI lk) (nI dn) (nI B) ct th ls nl im mn ni nm le0 me0 fi0 wt = (ob3 (f_X8_newList 0 nm) fun r_6 f_newLists_4 g_newMany_5 => (ob3 (f_X8_builds fi 50 f_newLists_4 ni g_newMany_5 r_6 0 (nI N)) fun f_newLists_7 g_newItems_8 g_newMany_9 => (ob3 (f_X8_becomes f_newLists_7 g_newItems_8 g_newMany_9 ls im mn) fun f_lists_10 g_items_11 g_many_12 => (ob (f_X8_span 0 (nI N) 1) fun r_13 => (gi r_13 18491 <| some ((le (Int32.toNatClampNeg r_13)), 0, f_lists_10, f_newLists_7, g_items_11, g_many_12, g_newItems_8, g_newMany_9, le, me, fi, wt')))))) := by
  have key : ∀ (f c : Nat) (wt : Nat → Int64), c ≤ N → N < f + c → (∀ j, j ≤ c → wt j = lN (pfx cv j)) → ∃ (wt' le : Nat → Int64) (me fi : Nat → Int32), VP cv lk dn B N (N + 1) le me fi ∧ wt' 0 = 0 ∧ f_X8_plan_L18 (nI N) (nI lk) (nI dn) (nI B) ct f 0 ls nl im mn ni nm le0 me0 fi0 wt (nI c) = (ob3 (f_X8_newList 0 nm) fun r_6 f_newLists_4 g_newMany_5 => (ob3 (f_X8_builds fi 50 f_newLists_4 ni g_newMany_5 r_6 0 (nI N)) fun f_newLists_7 g_newItems_8 g_newMany_9 => (ob3 (f_X8_becomes f_newLists_7 g_newItems_8 g_newMany_9 ls im mn) fun f_lists_10 g_items_11 g_many_12 => (ob (f_X8_span 0 (nI N) 1) fun r_13 => (gi r_13 18491 <| some ((le (Int32.toNatClampNeg r_13)), 0, f_lists_10, f_newLists_7, g_items_11, g_many_12, g_newItems_8, g_newMany_9, le, me, fi, wt')))))) := by
    intro f
    induction f with
    | zero => intro c wt h1 h2; omega
    | succ f ih =>
      intro c wt h1 h2 h3
      rw [pl18_s]
      unfold f_X8_plan_L18_F
      by_cases e : c = N
      · subst e
        rw [if_pos (nI_le (Nat.le_refl _) (by omega))]
        obtain ⟨le, me, fi, g1, g2⟩ := pl56 hw hl hd hB2 hB hN (th := 0) (ls := ls) (nl := nl) (im := im) (mn := mn) (ni := ni) (nm := nm) h3 FU 1 le0 me0 fi0 (Nat.le_refl _) (by omega) (show c + 1 < 100000 + 1 by omega) (fun n' i' p' a b => by omega) le0 me0 fi0 rfl rfl rfl
        rw [show nI 1 = (1 : Int32) from rfl] at g2
        exact ⟨wt, le, me, fi, g1, h3 0 (Nat.zero_le _), g2⟩
      · rw [if_neg (nI_ge (by omega) (by omega)), nI_1, gi_nI (by omega) (by decide), gi_nI (by omega) (by decide), gi_nI (by omega) (by decide), nI_clamp (by omega), nI_clamp (by omega), h3 c (Nat.le_refl _), (hct c (by omega)).1, nI_l (by have := (hct c (by omega)).2; omega), lN_add]
        refine ih (c + 1) _ (by omega) (by omega) (fun j hj => ?_)
        by_cases z : j = c + 1
        · subst z; rw [pk_uLs]; rfl
        · rw [pk_uLn z]; exact h3 j (by omega)
  unfold f_X8_plan
  rw [if_neg (nI_ne0 (by omega) (by omega))]
  exact key FU 0 wt (Nat.zero_le _) (show N < 100000 + 0 by omega) (fun j hj => by
    have e : j = 0 := by omega
    subst e; exact hwt0)
