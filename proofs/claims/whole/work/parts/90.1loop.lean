/-! the law's loop -/
def R_law : String := "MenuPlannerLaw"
def lw_P (b : Addr) (xs : List Int32) (args : Array Value) (s : State) : Prop := args = #[.ref b] ∧ s.IntsAt b xs ∧ xs.length ≤ 3072 ∧ (Jvm.Cond.and given_1 narrow_1).before args s = true
def lw_Q (_ : Array Value) (s : State) (o : Outcome) (t : State) : Prop := o = .returned (some (.int 1)) ∧ Framed s o t [] 601024 7293034
def lw_Z (below : List Frame) (a : Array Value) (s : State) : State → Prop := fun t => ∃ o, t.status = .running ∧ Ended t below o ∧ lw_Q a s o t
/-- the law's own end, with 1 on the stack, nothing written that was there before, its room as the claim has it -/
theorem lw_ret {p : Program} {l : Launch} {e : Env} {s : State} {m : MethodId} {below : List Frame} {meth : Method} {c : Code} {b : Nat} (hx : p.tables.exec = Jvm.exec) (hb : c.code = code) (hr : meth.sig.returnType = ret) (hlocks : meth.locks = false) {pc : Nat} {H : Heap} {ls : Array Slot} (hdg : decode code pc = .ok (.ireturn, 1)) : W p l e room_1 s m #[Value.ref b] below meth c H [] 601024 7293034 (lw_Z below #[Value.ref b] s) (F0 m pc ls [.int 1]) := by
  intro T hT X
  obtain ⟨fs, hret, hrun, hended, hW, hframe⟩ := X.leave (v := some (.int 1)) (hlocks := hlocks) (fun h => by rw [hr] at h; cases h)
  have hmeth' : T.vm.method? m = some meth := X.method'
  refine ⟨T.setFrames fs, ?_, .returned (some (.int 1)), hrun, hended, rfl, ⟨_, rfl⟩, hW, hframe⟩
  jvm_step X.here [X.here.top, hx, hb, hdg, hmeth', hr, ret, narrow_b1]
  (try refine ⟨rfl, ?_⟩); (try refine ⟨rfl, ?_⟩)
  first | (intro acts; rw [hret _ acts rfl rfl rfl]) | rw [hret _ _ rfl rfl rfl]
  exact Steps.refl _
/-- what holds at the law's entry: the machine, the code, the tables' words (any of lw_tbl by 'hts w (by decide +kernel)'), the script of L ints xs at the cell b, what the Statement gives of the start (any of its parts by flat_of_before) -/
def lw_At (p : Program) (s : State) (m : MethodId) (meth : Method) (c : Code) (b L : Nat) (xs : Nat → Int32) : Prop :=
  p.tables.exec = Jvm.exec ∧ c.code = code ∧ meth.sig.returnType = ret ∧ c.maxLocals = 8 ∧ s.vm.findClass R_law = some m.cls ∧ (∀ w ∈ lw_tbl, w.before #[Value.ref b] s = true) ∧ va_X b L xs s s.heap ∧ b < s.heap.size ∧ meth.locks = false ∧ (Jvm.Cond.and given_1 narrow_1).before #[Value.ref b] s = true
theorem lw_ix {L i : Nat} (hL : L ≤ 3072) (hi : i ≤ L) (h : ¬ (Int32.ofNat L - 6 : Int32) < nI i) : i + 6 ≤ L := by
  by_cases c : 6 ≤ L
  · have e : (Int32.ofNat L - 6 : Int32) = nI (L - 6) := by
      have h1 : nI (L - 6) + nI 6 = nI L := by rw [nI_add]; congr 1; omega
      show nI L - nI 6 = nI (L - 6)
      rw [← h1, Int32.add_sub_cancel]
    rw [e] at h
    have := mt (nI_ltI (a := L - 6) (b := i) (by omega) (by omega)).mpr h
    omega
  · have key : ∀ L : Nat, L < 6 → ∀ i : Nat, i < 6 → (Int32.ofNat L - 6 : Int32) < Int32.ofNat i := by decide
    exact absurd (key L (by omega) i (by omega)) h
theorem kC_up {sp : Option SP} {su : Option SU} {n : Nat} : kC sp su n ≤ kC sp su (n + 1) ∧ kS sp su n ≤ kS sp su (n + 1) := by
  unfold kC kS
  omega
section LP
variable {p : Program} {l : Launch} {e : Env} {s : State} {m : MethodId} {below : List Frame} {meth : Method} {c : Code} {b L : Nat} {xs : Nat → Int32} {D : va_G} {cy : Nat → ClassId} {sa : Nat → Nat} {tl th : Nat} {ra : RA} {o : Nat}
set_option maxHeartbeats 4000000 in
set_option maxRecDepth 100000 in
theorem law_loop (F : FX p l s m c b L xs D cy sa tl th) (hL : L ≤ 3072) (hr : meth.sig.returnType = ret) (hlocks : meth.locks = false) : ∀ (f n i : Nat), i = 6 * n → i ≤ L → L < i + f → ∀ (a : CA) (z : CZ) (y : RZ) (g : Nat → Int64) (sp : Option SP) (su : Option SU) (H : Heap) (locs : List Loc) (ls : Array Slot), WD D s (WB cy a z ra y o g (vS sp) (vU su) ++ (spP cy sp ++ suP cy su)) H locs → lv_has ls 8 (LV b a ra o i) → REL z y sp su → W p l e room_1 s m #[Value.ref b] below meth c H locs (kC sp su n) (kS sp su n) (lw_Z below #[Value.ref b] s) (F0 m 23 ls [])
  | 0, n, i, _, h1, h2, _, _, _, _, _, _, _, _, _, _, _, _ => absurd h2 (by omega)
  | f + 1, n, i, hin, h1, h2, a, z, y, g, sp, su, H, locs, ls, hw, hl, hR => by
    obtain ⟨hx, hb, hml, hown, hts, hX, hbl, htr, hXH, hK, hN⟩ := id F
    have hS := hw.2.2
    have hbA : ¬ AL s b := Nat.not_le.mpr hbl
    have hl0 := hl
    replace hl : lv_has ls 8 [(0, .ref b), (1, .ref a.h_this), (2, .ref ra.h_this), (3, .ref o), (4, .int (nI i))] := hl
    have hn : n ≤ 600 := by omega
    have hk := kC_le (sp := sp) (su := su) hn
    have hup := kC_up (sp := sp) (su := su) (n := n)
    refine lv_iload hx hb dL_law_23 (lv_at hl 4 rfl) ?_
    refine lv_aload_n hx hb dL_law_25 rfl (lv_at hl 0 rfl) ?_
    refine va_slen hx hb hX hbl hbA hS dL_law_26 ?_
    refine lv_bipush (v := 6) hx hb dL_law_27 (by decide) ?_
    refine lv_isub hx hb dL_law_29 ?_
    refine lv_icmp_gt (tgt := 1039) hx hb dL_law_30 (by decide) (fun hgt => ?_) (fun hgt => ?_)
    · refine lv_iconst (v := 1) hx hb dL_law_1039 (by decide) ?_
      refine W.widen (k := 601024) (n := 7293034) (by omega) (by omega) ?_
      refine va_forget (fun q hq => hS.2.2 q hq) ?_
      exact lw_ret hx hb hr hlocks dL_law_1040
    · have hi : i + 6 ≤ L := lw_ix hL h1 hgt
      have i0 := (in_k hi hL).1
      have kk : ∀ (a' : CA) (z' : CZ) (y' : RZ) (g' : Nat → Int64) (sp' : Option SP) (su' : Option SU) (H1 : Heap) (locs1 : List Loc) (ls1 : Array Slot), WD D s (WB cy a' z' ra y' o g' (vS sp') (vU su') ++ (spP cy sp' ++ suP cy su')) H1 locs1 → lv_has ls1 8 (LV b a' ra o i) → REL z' y' sp' su' → W p l e room_1 s m #[Value.ref b] below meth c H1 locs1 (kC sp' su' (n + 1)) (kS sp' su' (n + 1)) (lw_Z below #[Value.ref b] s) (F0 m 1033 ls1 []) := fun a' z' y' g' sp' su' H1 locs1 ls1 hw1 hl1 hR1 => by
        replace hl1 : lv_has ls1 8 [(0, .ref b), (1, .ref a'.h_this), (2, .ref ra.h_this), (3, .ref o), (4, .int (nI i))] := hl1
        refine lv_iinc (v := nI (i + 6)) (lv' := [(4, .int (nI (i + 6))), (0, .ref b), (1, .ref a'.h_this), (2, .ref ra.h_this), (3, .ref o)]) hx hb dL_law_1033 hl1 (k := 4) rfl (nI_add i 6) (by decide) rfl (fun ls2 hl2 => ?_)
        refine lv_goto (tgt := 23) hx hb dL_law_1036 (by decide) ?_
        exact law_loop F hL hr hlocks f (n + 1) (i + 6) (by omega) hi (by omega) a' z' y' g' sp' su' H1 locs1 ls2 hw1 (lv_sub hl2 [1, 2, 3, 4, 0] rfl) hR1
      refine lv_aload_n hx hb dL_law_33 rfl (lv_at hl 0 rfl) ?_
      refine lv_iload hx hb dL_law_34 (lv_at hl 4 rfl) ?_
      refine va_sld hx hb hX hbl hbA hS i0 dL_law_36 ?_
      refine lv_bipush (v := 31) hx hb dL_law_37 (by decide) ?_
      refine lv_iand hx hb dL_law_39 ?_
      generalize xs (Int32.toNatClampNeg (nI i)) &&& 31 = x
      by_cases ho : x.toInt < 0 ∨ 18 < x.toInt
      · refine lv_tableOut (tgt := 1033) hx hb dL_law_40 ho (by decide) ?_
        refine W.widen (k := kC sp su (n + 1)) (n := kS sp su (n + 1)) hup.1 hup.2 ?_
        exact kk a z y g sp su H locs ls hw hl0 hR
      · rcases (show x.toInt = 0 ∨ x.toInt = 1 ∨ x.toInt = 2 ∨ x.toInt = 3 ∨ x.toInt = 4 ∨ x.toInt = 5 ∨ x.toInt = 6 ∨ x.toInt = 7 ∨ x.toInt = 8 ∨ x.toInt = 9 ∨ x.toInt = 10 ∨ x.toInt = 11 ∨ x.toInt = 12 ∨ x.toInt = 13 ∨ x.toInt = 14 ∨ x.toInt = 15 ∨ x.toInt = 16 ∨ x.toInt = 17 ∨ x.toInt = 18 by omega) with hv | hv | hv | hv | hv | hv | hv | hv | hv | hv | hv | hv | hv | hv | hv | hv | hv | hv | hv
        · refine lv_tableIn (off := 92) (tgt := 132) hx hb dL_law_40 (by omega) (by omega) (by rw [hv]; rfl) (by decide) ?_
          exact op_command F hi hL hl0 hn hw hR kk
        · refine lv_tableIn (off := 160) (tgt := 200) hx hb dL_law_40 (by omega) (by omega) (by rw [hv]; rfl) (by decide) ?_
          exact op_count F hi hL hl0 hn hw hR kk
        · refine lv_tableIn (off := 228) (tgt := 268) hx hb dL_law_40 (by omega) (by omega) (by rw [hv]; rfl) (by decide) ?_
          exact op_words F hi hL hl0 hn hw hR kk
        · refine lv_tableIn (off := 296) (tgt := 336) hx hb dL_law_40 (by omega) (by omega) (by rw [hv]; rfl) (by decide) ?_
          exact op_set F hi hL hl0 hn hw hR kk
        · refine lv_tableIn (off := 364) (tgt := 404) hx hb dL_law_40 (by omega) (by omega) (by rw [hv]; rfl) (by decide) ?_
          exact op_feed F hi hL hl0 hn hw hR kk
        · refine lv_tableIn (off := 437) (tgt := 477) hx hb dL_law_40 (by omega) (by omega) (by rw [hv]; rfl) (by decide) ?_
          exact op_tell F hi hL hl0 hn hw hR kk
        · refine lv_tableIn (off := 493) (tgt := 533) hx hb dL_law_40 (by omega) (by omega) (by rw [hv]; rfl) (by decide) ?_
          exact op_fault F hi hL hl0 hn hw hR kk
        · refine lv_tableIn (off := 506) (tgt := 546) hx hb dL_law_40 (by omega) (by omega) (by rw [hv]; rfl) (by decide) ?_
          exact op_plan F hi hL hl0 hn hw hR kk
        · refine lv_tableIn (off := 520) (tgt := 560) hx hb dL_law_40 (by omega) (by omega) (by rw [hv]; rfl) (by decide) ?_
          exact op_cost F hi hL hl0 hn hw hR kk
        · refine lv_tableIn (off := 534) (tgt := 574) hx hb dL_law_40 (by omega) (by omega) (by rw [hv]; rfl) (by decide) ?_
          exact op_print F hi hL hl0 hn hw hR kk
        · refine lv_tableIn (off := 547) (tgt := 587) hx hb dL_law_40 (by omega) (by omega) (by rw [hv]; rfl) (by decide) ?_
          exact op_octet F hi hL hl0 hn hw hR kk
        · refine lv_tableIn (off := 572) (tgt := 612) hx hb dL_law_40 (by omega) (by omega) (by rw [hv]; rfl) (by decide) ?_
          exact op_steps F hi hL hl0 hn hw hR kk
        · refine lv_tableIn (off := 628) (tgt := 668) hx hb dL_law_40 (by omega) (by omega) (by rw [hv]; rfl) (by decide) ?_
          exact op_place F hi hL hl0 hn hw hR kk
        · refine lv_tableIn (off := 696) (tgt := 736) hx hb dL_law_40 (by omega) (by omega) (by rw [hv]; rfl) (by decide) ?_
          exact op_misled F hi hL hl0 hn hw hR kk
        · refine lv_tableIn (off := 752) (tgt := 792) hx hb dL_law_40 (by omega) (by omega) (by rw [hv]; rfl) (by decide) ?_
          exact op_free F hi hL hl0 hn hw hR kk
        · refine lv_tableIn (off := 766) (tgt := 806) hx hb dL_law_40 (by omega) (by omega) (by rw [hv]; rfl) (by decide) ?_
          exact op_best F hi hL hl0 hn hw hR kk
        · refine lv_tableIn (off := 821) (tgt := 861) hx hb dL_law_40 (by omega) (by omega) (by rw [hv]; rfl) (by decide) ?_
          exact op_exchange F hi hL hl0 hn hw hR kk
        · refine lv_tableIn (off := 901) (tgt := 941) hx hb dL_law_40 (by omega) (by omega) (by rw [hv]; rfl) (by decide) ?_
          exact op_swap F hi hL hl0 hn hw hR kk
        · refine lv_tableIn (off := 968) (tgt := 1008) hx hb dL_law_40 (by omega) (by omega) (by rw [hv]; rfl) (by decide) ?_
          exact op_told F hi hL hl0 hn hw hR kk
end LP
