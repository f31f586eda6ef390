section YSt
variable {p : Program} {l : Launch} {e : Env} {R : Room} {s : State} {m : MethodId} {args : Array Value} {below : List Frame} {meth : Method} {c : Code} {Q : State → Prop} {D : va_G} {A : Nat → Prop} {nL cells slots : Nat} {ws : va_W} {lv : List (Nat × Value)} {st : List Value} {pc : Nat}
variable {cc : ByteArray} {Ts : List Cond} {own : String} {tys : List (ClassId × FieldType)}
/-- the world's cells in another order -/
theorem y_pick {ws' : va_W} (is : List Nat) (hnd : va_nd is = true) (hC : is.map (fun i => ws[i]?) = ws'.map some) (k : Yy p l e R s m args below meth c Q D A nL cells slots ws' lv st pc) : Yy p l e R s m args below meth c Q D A nL cells slots ws lv st pc := fun H locs ls hP hD hS hl =>
  k H locs ls (y_part hP hC) (hD.sub is hnd hC) hS hl
theorem y_newaL {cL : ClassId} {n : Int32} {N' : Nat} (Z : Zz p m c cc nL s args wsL_law own D tys A) (ht1 : tys[1]? = some (cL, .long)) (hn : ¬ n < 0) (hN : n.toNatClampNeg = N') (hbytes : N' * componentBytes .long ≤ 536870912) (hcells : cells + 1 ≤ R.cells) (hslots : slots + N' ≤ R.slots) (hdg : decode cc pc = .ok (.newarray .long, 2))
    (k : ∀ q : Nat, Yy p l e R s m args below meth c Q D A nL (cells + 1) (slots + N') (ws ++ [(q, .inl (cL, N', .inr (.inl (fun _ => 0))))]) lv (.ref q :: st) (pc + 2)) : Yy p l e R s m args below meth c Q D A nL cells slots ws lv (.int n :: st) pc := fun H locs ls hP hD hS hl =>
  va_newa (atype := .long) (a0 := (N', .inr (.inl (fun _ => 0)))) Z.1.1 Z.1.2.1 (Z.1.2.2.2.2 _ ac_long) rfl Z.2.1 hP hD hS Z.2.2.1 (fun _ => rfl) hn hN hbytes hcells hslots hdg (fun q cA H1 hK1 hP1 hD1 hS1 => by
    have e1 : s.vm.findClass ("[" ++ FieldType.long.toString) = some cA := (hK1.2 tys.length (cA, .long) (by rw [List.getElem?_append_right (Nat.le_refl _), Nat.sub_self]; rfl)).2
    have e2 : s.vm.findClass ("[" ++ FieldType.long.toString) = some cL := (Z.2.1.2 1 (cL, .long) ht1).2
    have e3 : cA = cL := Option.some.inj (e1.symm.trans e2)
    subst e3
    exact k q H1 locs ls hP1 hD1 hS1 hl)
end YSt
theorem ll_test {L k : Nat} (hL : L ≤ 2560) (hk : 5 * k ≤ L) : nI L - 5 < nI (5 * k) ↔ L < 5 * k + 5 := by
  have e : (nI L - 5).toInt = (L : Int) - 5 := by
    rw [Int32.toInt_sub, nI_toInt (by omega), show ((5 : Int32)).toInt = 5 from by decide]
    exact Int.bmod_eq_of_le (by omega) (by omega)
  rw [Int32.lt_iff_toInt_lt, e, nI_toInt (by omega)]
  omega
theorem ll_31 (x : Int32) : ∃ j : Nat, j < 32 ∧ x &&& 31 = nI j := by
  have h : x &&& 31 = nI (x.toBitVec.toNat % 32) := by
    apply Int32.toBitVec_inj.mp
    show x.toBitVec &&& 31#32 = BitVec.ofNat 32 (x.toBitVec.toNat % 32)
    apply BitVec.eq_of_toNat_eq
    rw [BitVec.toNat_and]
    show x.toBitVec.toNat &&& (2 ^ 5 - 1) = _
    rw [Nat.and_two_pow_sub_one_eq_mod, BitVec.toNat_ofNat, Nat.mod_eq_of_lt (a := _ % 32) (by omega)]
  exact ⟨_, Nat.mod_lt _ (by decide), h⟩
/-! THE CLAIM OUT OF ONE WALK OF THE LAW'S BODY. Your part is whole_start (and what it stands on); all else here is the same for every law, but numbers. -/
def R_law : String := "VisionMixerLaw"
def lw_P (b : Addr) (xs : List Int32) (args : Array Value) (s : State) : Prop := args = #[.ref b] ∧ s.IntsAt b xs ∧ xs.length ≤ 2560 ∧ (Jvm.Cond.and given_1 narrow_1).before args s = true
/-- what a walk over the start with the record d0 says of its end, said of the start itself -/
theorem lw_closed {s t : State} {o : Outcome} {d0 : Drawn} {L : List Loc} {k n : Nat} (hd0 : s.drawn.sameBut d0 lw_cs) (hv : ∃ v, o = .returned v) (hW : (s.setDrawn d0).WarmedH t.vm) (hs : (s.setDrawn d0).sameButNew ({ t with vm := s.vm } : State) L k n) : State.butDraws s t lw_cs (fun t1 => Framed s o t1 L k n) := by
  have h2 : t.drawn = d0 := congrArg State.drawn hs.1
  refine ⟨⟨hv, hW, State.sameButNew.setDrawn hs s.drawn⟩, ?_, by decide⟩
  rw [h2]
  exact hd0
def lw_Q (_ : Array Value) (s : State) (o : Outcome) (t : State) : Prop := o = .returned (some (.int 1)) ∧ State.butDraws s t lw_cs (fun t1 => Framed s o t1 [] 1069 10084)
def lw_Z (below : List Frame) (a : Array Value) (s : State) : State → Prop := fun t => ∃ o, t.status = .running ∧ Ended t below o ∧ lw_Q a s o t
/-- the law's own end, with 1 on the stack, nothing written that was there before, its room as the claim has it; d0: the record of draws at this point (at the entry s.drawn: begin with 'refine W.base ?_' and 'have hd0 := Drawn.sameBut.refl s.drawn lw_cs') -/
theorem lw_ret {p : Program} {l : Launch} {e : Env} {s : State} {m : MethodId} {below : List Frame} {meth : Method} {c : Code} {b : Nat} {d0 : Drawn} (hd0 : s.drawn.sameBut d0 lw_cs) (hx : p.tables.exec = Jvm.exec) (hb : c.code = code) (hr : meth.sig.returnType = ret) (hlocks : meth.locks = false) {pc : Nat} {H : Heap} {ls : Array Slot} (hdg : decode code pc = .ok (.ireturn, 1)) : W p l e room_1 (s.setDrawn d0) m #[Value.ref b] below meth c H [] 1069 10084 (lw_Z below #[Value.ref b] s) (F0 m pc ls [.int 1]) := by
  intro T hT X
  obtain ⟨fs, hret, hrun, hended, hW, hframe⟩ := X.leave (v := some (.int 1)) (hlocks := hlocks) (fun h => by rw [hr] at h; cases h)
  have hmeth' : T.vm.method? m = some meth := X.method'
  refine ⟨T.setFrames fs, ?_, .returned (some (.int 1)), hrun, hended, rfl, lw_closed hd0 ⟨_, rfl⟩ hW hframe⟩
  jvm_step X.here [X.here.top, hx, hb, hdg, hmeth', hr, ret, narrow_b1]
  (try refine ⟨rfl, ?_⟩); (try refine ⟨rfl, ?_⟩)
  first | (intro acts; rw [hret _ acts rfl rfl rfl]) | rw [hret _ _ rfl rfl rfl]
  exact Steps.refl _
/-- what holds at the law's entry: the machine, the code, the tables' words (any of lw_tbl by 'hts w (by decide +kernel)'), the script of L ints xs at the cell b, what the Statement gives of the start (any of its parts by flat_of_before) -/
def lw_At (p : Program) (s : State) (m : MethodId) (meth : Method) (c : Code) (b L : Nat) (xs : Nat → Int32) : Prop :=
  p.tables.exec = Jvm.exec ∧ c.code = code ∧ meth.sig.returnType = ret ∧ c.maxLocals = 9 ∧ s.vm.findClass R_law = some m.cls ∧ (∀ w ∈ lw_tbl, w.before #[Value.ref b] s = true) ∧ va_X b L xs s s.heap ∧ b < s.heap.size ∧ meth.locks = false ∧ (Jvm.Cond.and given_1 narrow_1).before #[Value.ref b] s = true
set_option maxHeartbeats 4000000 in
set_option maxRecDepth 100000 in
theorem law_loop {p : Program} {l : Launch} {e : Env} {s : State} {m : MethodId} {below : List Frame} {meth : Method} {c : Code} {D : va_G} {tys : List (ClassId × FieldType)} {cI cL : ClassId} {b L : Nat} {xs : Nat → Int32} (Z : Zz p m c cL_law 9 s #[Value.ref b] wsL_law RL D tys (fun q : Nat => s.heap.size ≤ q)) (X : Xz s (fun q : Nat => s.heap.size ≤ q)) (htr : l.stackTraces = false) (ht0 : tys[0]? = some (cI, .int)) (ht1 : tys[1]? = some (cL, .long)) (hX : va_X b L xs s s.heap) (hbl : b < s.heap.size) (hr : meth.sig.returnType = ret) (hlk : meth.locks = false) (hL : L ≤ 2560) (aJ : Nat → Nat) (aO : Nat) (aS : Nat → Nat) : ∀ (n k : Nat) (J : Nat → Nat → Nat → Int32) (O : Nat → Int64) (S : Nat → Nat → Int32), L ≤ 5 * k + n → 5 * k ≤ L → Inv J S → Yy p l e room_1 s m #[Value.ref b] below meth c (lw_Z below #[Value.ref b] s) D (fun q : Nat => s.heap.size ≤ q) 9 (35 + k) (1832 + 6 * k) (wL cI cL aJ J aO O aS S) [(0, .ref b), (1, .ref (aJ 0)), (2, .ref (aS 0)), (3, .ref aO), (4, .int (nI (5 * k)))] [] 23 := by
  intro n
  induction n with
  | zero =>
    intro k J O S hn hk I
    refine y_iload Z dL_law_23 4 rfl ?_
    refine y_aload_n Z dL_law_25 0 rfl rfl ?_
    refine y_slen Z hX hbl (Nat.not_le.mpr hbl) dL_law_26 ?_
    refine y_iconst (v := 5) Z dL_law_27 (by decide) ?_
    refine y_isub Z dL_law_28 ?_
    refine y_icmp_gt (tgt := 1762) Z dL_law_29 (by decide) (fun _ => ?_) (fun h => absurd ((ll_test hL hk).mpr (by omega)) h)
    refine y_iconst (v := 1) Z dL_law_1762 (by decide) ?_
    intro H locs ls hP hD hS hl
    refine va_forget (fun q hq => hS.2.2 q hq) ?_
    refine W.widen (k := 1069) (n := 10084) (by omega) (by omega) ?_
    exact lw_ret (d0 := s.drawn) (Drawn.sameBut.refl s.drawn lw_cs) Z.1.1 Z.1.2.1 hr hlk dL_law_1763
  | succ n ih =>
    intro k J O S hn hk I
    refine y_iload Z dL_law_23 4 rfl ?_
    refine y_aload_n Z dL_law_25 0 rfl rfl ?_
    refine y_slen Z hX hbl (Nat.not_le.mpr hbl) dL_law_26 ?_
    refine y_iconst (v := 5) Z dL_law_27 (by decide) ?_
    refine y_isub Z dL_law_28 ?_
    refine y_icmp_gt (tgt := 1762) Z dL_law_29 (by decide) (fun _ => ?_) (fun h => ?_)
    · refine y_iconst (v := 1) Z dL_law_1762 (by decide) ?_
      intro H locs ls hP hD hS hl
      refine va_forget (fun q hq => hS.2.2 q hq) ?_
      refine W.widen (k := 1069) (n := 10084) (by omega) (by omega) ?_
      exact lw_ret (d0 := s.drawn) (Drawn.sameBut.refl s.drawn lw_cs) Z.1.1 Z.1.2.1 hr hlk dL_law_1763
    · have hi : 5 * k + 4 < L := by
        have := mt (ll_test hL hk).mpr h
        omega
      have K : ∀ (J2 : Nat → Nat → Nat → Int32) (O2 : Nat → Int64) (S2 : Nat → Nat → Int32), Inv J2 S2 → Yy p l e room_1 s m #[Value.ref b] below meth c (lw_Z below #[Value.ref b] s) D (fun q : Nat => s.heap.size ≤ q) 9 (35 + k + 1) (1832 + 6 * k + 6) (wL cI cL aJ J2 aO O2 aS S2) [(0, .ref b), (1, .ref (aJ 0)), (2, .ref (aS 0)), (3, .ref aO), (4, .int (nI (5 * k)))] [] 1756 := by
        intro J2 O2 S2 I2
        refine y_iinc Z [(4, .int (nI (5 * (k + 1)))), (0, .ref b), (1, .ref (aJ 0)), (2, .ref (aS 0)), (3, .ref aO)] dL_law_1756 4 rfl (show nI (5 * k) + nI 5 = _ by rw [nI_add]; rfl) (by decide) rfl ?_
        refine y_goto (tgt := 23) Z dL_law_1759 (by decide) ?_
        refine y_lv [1, 2, 3, 4, 0] (lv' := [(0, .ref b), (1, .ref (aJ 0)), (2, .ref (aS 0)), (3, .ref aO), (4, .int (nI (5 * (k + 1))))]) rfl ?_
        exact ih (k + 1) J2 O2 S2 (by omega) (by omega) I2
      refine y_aload_n Z dL_law_32 0 rfl rfl ?_
      refine y_iload Z dL_law_33 4 rfl ?_
      refine y_sld Z hX hbl (Nat.not_le.mpr hbl) (vp_in_nI (by omega) (by omega)) (5 * k) (nI_clamp (by omega)) dL_law_35 ?_
      refine y_bipush (v := 31) Z dL_law_36 (by decide) ?_
      refine y_iand Z dL_law_38 ?_
      obtain ⟨j, hj, ej⟩ := ll_31 (xs (5 * k))
      rw [ej]
      rcases (show j = 0 ∨ j = 1 ∨ j = 2 ∨ j = 3 ∨ j = 4 ∨ j = 5 ∨ j = 6 ∨ j = 7 ∨ j = 8 ∨ j = 9 ∨ j = 10 ∨ j = 11 ∨ j = 12 ∨ j = 13 ∨ j = 14 ∨ j = 15 ∨ j = 16 ∨ j = 17 ∨ j = 18 ∨ j = 19 ∨ j = 20 ∨ j = 21 ∨ j = 22 ∨ j = 23 ∨ j = 24 ∨ j = 25 ∨ j = 26 ∨ j = 27 ∨ j = 28 ∨ j = 29 ∨ j = 30 ∨ j = 31 by omega) with rfl | rfl | rfl | rfl | rfl | rfl | rfl | rfl | rfl | rfl | rfl | rfl | rfl | rfl | rfl | rfl | rfl | rfl | rfl | rfl | rfl | rfl | rfl | rfl | rfl | rfl | rfl | rfl | rfl | rfl | rfl | rfl
      · refine y_tableIn (tgt := 176) (off := 137) Z dL_law_39 (by decide) (by decide) rfl (by decide) ?_
        exact lc_program Z X htr ht0 ht1 hX hbl (Nat.not_le.mpr hbl) hi hL (by omega) (by omega) I K
      · refine y_tableIn (tgt := 232) (off := 193) Z dL_law_39 (by decide) (by decide) rfl (by decide) ?_
        exact lc_preview Z X htr ht0 ht1 hX hbl (Nat.not_le.mpr hbl) hi hL (by omega) (by omega) I K
      · refine y_tableIn (tgt := 288) (off := 249) Z dL_law_39 (by decide) (by decide) rfl (by decide) ?_
        exact lc_transition Z X htr ht0 ht1 hX hbl (Nat.not_le.mpr hbl) hi hL (by omega) (by omega) I K
      · refine y_tableIn (tgt := 356) (off := 317) Z dL_law_39 (by decide) (by decide) rfl (by decide) ?_
        exact lc_next Z X htr ht0 ht1 hX hbl (Nat.not_le.mpr hbl) hi hL (by omega) (by omega) I K
      · refine y_tableIn (tgt := 412) (off := 373) Z dL_law_39 (by decide) (by decide) rfl (by decide) ?_
        exact lc_key Z X htr ht0 ht1 hX hbl (Nat.not_le.mpr hbl) hi hL (by omega) (by omega) I K
      · refine y_tableIn (tgt := 504) (off := 465) Z dL_law_39 (by decide) (by decide) rfl (by decide) ?_
        exact lc_toggle Z X htr ht0 ht1 hX hbl (Nat.not_le.mpr hbl) hi hL (by omega) (by omega) I K
      · refine y_tableIn (tgt := 560) (off := 521) Z dL_law_39 (by decide) (by decide) rfl (by decide) ?_
        exact lc_cut Z X htr ht0 ht1 hX hbl (Nat.not_le.mpr hbl) hi hL (by omega) (by omega) I K
      · refine y_tableIn (tgt := 604) (off := 565) Z dL_law_39 (by decide) (by decide) rfl (by decide) ?_
        exact lc_auto Z X htr ht0 ht1 hX hbl (Nat.not_le.mpr hbl) hi hL (by omega) (by omega) I K
      · refine y_tableIn (tgt := 648) (off := 609) Z dL_law_39 (by decide) (by decide) rfl (by decide) ?_
        exact lc_bar Z X htr ht0 ht1 hX hbl (Nat.not_le.mpr hbl) hi hL (by omega) (by omega) I K
      · refine y_tableIn (tgt := 704) (off := 665) Z dL_law_39 (by decide) (by decide) rfl (by decide) ?_
        exact lc_fault Z X htr ht0 ht1 hX hbl (Nat.not_le.mpr hbl) hi hL (by omega) (by omega) I K
      · refine y_tableIn (tgt := 788) (off := 749) Z dL_law_39 (by decide) (by decide) rfl (by decide) ?_
        exact lc_pass Z X htr ht0 ht1 hX hbl (Nat.not_le.mpr hbl) hi hL (by omega) (by omega) I K
      · refine y_tableIn (tgt := 844) (off := 805) Z dL_law_39 (by decide) (by decide) rfl (by decide) ?_
        exact lc_setting Z X htr ht0 ht1 hX hbl (Nat.not_le.mpr hbl) hi hL (by omega) (by omega) I K
      · refine y_tableIn (tgt := 900) (off := 861) Z dL_law_39 (by decide) (by decide) rfl (by decide) ?_
        exact lc_keyer Z X htr ht0 ht1 hX hbl (Nat.not_le.mpr hbl) hi hL (by omega) (by omega) I K
      · refine y_tableIn (tgt := 968) (off := 929) Z dL_law_39 (by decide) (by decide) rfl (by decide) ?_
        exact lc_share Z X htr ht0 ht1 hX hbl (Nat.not_le.mpr hbl) hi hL (by omega) (by omega) I K
      · refine y_tableIn (tgt := 1052) (off := 1013) Z dL_law_39 (by decide) (by decide) rfl (by decide) ?_
        exact lc_tally Z X htr ht0 ht1 hX hbl (Nat.not_le.mpr hbl) hi hL (by omega) (by omega) I K
      · refine y_tableIn (tgt := 1108) (off := 1069) Z dL_law_39 (by decide) (by decide) rfl (by decide) ?_
        exact lc_faulty Z X htr ht0 ht1 hX hbl (Nat.not_le.mpr hbl) hi hL (by omega) (by omega) I K
      · refine y_tableIn (tgt := 1149) (off := 1110) Z dL_law_39 (by decide) (by decide) rfl (by decide) ?_
        exact lc_settingAt Z X htr ht0 ht1 hX hbl (Nat.not_le.mpr hbl) hi hL (by omega) (by omega) I K
      · refine y_tableIn (tgt := 1217) (off := 1178) Z dL_law_39 (by decide) (by decide) rfl (by decide) ?_
        exact lc_shareAt Z X htr ht0 ht1 hX hbl (Nat.not_le.mpr hbl) hi hL (by omega) (by omega) I K
      · refine y_tableIn (tgt := 1285) (off := 1246) Z dL_law_39 (by decide) (by decide) rfl (by decide) ?_
        exact lc_timesRed Z X htr ht0 ht1 hX hbl (Nat.not_le.mpr hbl) hi hL (by omega) (by omega) I K
      · refine y_tableIn (tgt := 1341) (off := 1302) Z dL_law_39 (by decide) (by decide) rfl (by decide) ?_
        exact lc_firstRed Z X htr ht0 ht1 hX hbl (Nat.not_le.mpr hbl) hi hL (by omega) (by omega) I K
      · refine y_tableIn (tgt := 1397) (off := 1358) Z dL_law_39 (by decide) (by decide) rfl (by decide) ?_
        exact lc_longestShot Z X htr ht0 ht1 hX hbl (Nat.not_le.mpr hbl) hi hL (by omega) (by omega) I K
      · refine y_tableIn (tgt := 1410) (off := 1371) Z dL_law_39 (by decide) (by decide) rfl (by decide) ?_
        exact lc_runs Z X htr ht0 ht1 hX hbl (Nat.not_le.mpr hbl) hi hL (by omega) (by omega) I K
      · refine y_tableIn (tgt := 1423) (off := 1384) Z dL_law_39 (by decide) (by decide) rfl (by decide) ?_
        exact lc_act Z X htr ht0 ht1 hX hbl (Nat.not_le.mpr hbl) hi hL (by omega) (by omega) I K
      · refine y_tableIn (tgt := 1491) (off := 1452) Z dL_law_39 (by decide) (by decide) rfl (by decide) ?_
        exact lc_takeOut Z X htr ht0 ht1 hX hbl (Nat.not_le.mpr hbl) hi hL (by omega) (by omega) I K
      · refine y_tableIn (tgt := 1547) (off := 1508) Z dL_law_39 (by decide) (by decide) rfl (by decide) ?_
        exact lc_undo Z X htr ht0 ht1 hX hbl (Nat.not_le.mpr hbl) hi hL (by omega) (by omega) I K
      · refine y_tableIn (tgt := 1591) (off := 1552) Z dL_law_39 (by decide) (by decide) rfl (by decide) ?_
        exact lc_redWithout Z X htr ht0 ht1 hX hbl (Nat.not_le.mpr hbl) hi hL (by omega) (by omega) I K
      · refine y_tableIn (tgt := 1647) (off := 1608) Z dL_law_39 (by decide) (by decide) rfl (by decide) ?_
        exact lc_idle Z X htr ht0 ht1 hX hbl (Nat.not_le.mpr hbl) hi hL (by omega) (by omega) I K
      · refine y_tableIn (tgt := 1660) (off := 1621) Z dL_law_39 (by decide) (by decide) rfl (by decide) ?_
        exact lc_append Z X htr ht0 ht1 hX hbl (Nat.not_le.mpr hbl) hi hL (by omega) (by omega) I K
      · refine y_tableIn (tgt := 1716) (off := 1677) Z dL_law_39 (by decide) (by decide) rfl (by decide) ?_
        exact lc_clearText Z X htr ht0 ht1 hX hbl (Nat.not_le.mpr hbl) hi hL (by omega) (by omega) I K
      · refine y_tableIn (tgt := 1729) (off := 1690) Z dL_law_39 (by decide) (by decide) rfl (by decide) ?_
        exact lc_carryOut Z X htr ht0 ht1 hX hbl (Nat.not_le.mpr hbl) hi hL (by omega) (by omega) I K
      · refine y_tableIn (tgt := 1742) (off := 1703) Z dL_law_39 (by decide) (by decide) rfl (by decide) ?_
        exact lc_digest Z X htr ht0 ht1 hX hbl (Nat.not_le.mpr hbl) hi hL (by omega) (by omega) I K
      · refine y_tableOut (tgt := 1756) Z dL_law_39 (Or.inr (by decide)) (by decide) ?_
        exact y_wide (k := 35 + k + 1) (n := 1832 + 6 * k + 6) (by omega) (by omega) (K J O S I)
set_option maxHeartbeats 4000000 in
set_option maxRecDepth 100000 in
/-- from the entry, for every script of at most 2560 ints, the law comes to its end with true -/
theorem whole_start {p : Program} {e : Env} {s : State} {m : MethodId} {below : List Frame} {meth : Method} {c : Code} (l : Launch) (hflags : l.flags = flags0) {b L : Nat} {xs : Nat → Int32} (hL : L ≤ 2560) (C0 : lw_At p s m meth c b L xs) : W p l e room_1 s m #[Value.ref b] below meth c s.heap [] 0 0 (lw_Z below #[Value.ref b] s) (entryFrame m ([Value.ref b] : List Value).toArray 9) := by
  obtain ⟨hx, hb, hr, hml, hown, hts, hX, hbl, hlocks, hgv⟩ := C0
  have htr : l.stackTraces = false := by unfold Launch.stackTraces; rw [hflags]; decide +kernel
  have hw : ∀ w ∈ wsL_law, w.before #[Value.ref b] s = true := fun w h => hts w (mt_law w h)
  have hq := flat_of_before _ hgv
  obtain ⟨c0, i0, hKn0⟩ := u_known (C := RX0) (T := TX0) (N := 2) (n := 2) hw inlX0 (hw _ ia_X0)
  obtain ⟨c1, i1, hKn1⟩ := u_known (C := RX1) (T := TX1) (N := 14) (n := 14) hw inlX1 (hw _ ia_X1)
  obtain ⟨c2, i2, hKn2⟩ := u_known (C := RX2) (T := TX2) (N := 1) (n := 1) hw inlX2 (hw _ ia_X2)
  obtain ⟨c3, i3, hKn3⟩ := u_known (C := RX3) (T := TX3) (N := 2) (n := 2) hw inlX3 (hw _ ia_X3)
  obtain ⟨c4, i4, hKn4⟩ := u_known (C := RX4) (T := TX4) (N := 6) (n := 6) hw inlX4 (hw _ ia_X4)
  obtain ⟨c5, i5, hKn5⟩ := u_known (C := RX5) (T := TX5) (N := 8) (n := 8) hw inlX5 (hw _ ia_X5)
  obtain ⟨c6, i6, hKn6⟩ := u_known (C := RX6) (T := TX6) (N := 19) (n := 19) hw inlX6 (hw _ ia_X6)
  obtain ⟨D, hKc⟩ : ∃ D : va_G, ∀ (k : Nat) (q : vw_C), vwCl[k]? = some q → u_Kn s q.1 q.2.1 q.2.2 (D.1 k) (D.2 k) := by
    refine ⟨(fun k => if k = 0 then c0 else if k = 1 then c1 else if k = 2 then c2 else if k = 3 then c3 else if k = 4 then c4 else if k = 5 then c5 else c6, fun k => if k = 0 then i0 else if k = 1 then i1 else if k = 2 then i2 else if k = 3 then i3 else if k = 4 then i4 else if k = 5 then i5 else i6), ?_⟩
    intro k q hq
    match k, hq with
    | 0, hq => cases hq; exact hKn0
    | 1, hq => cases hq; exact hKn1
    | 2, hq => cases hq; exact hKn2
    | 3, hq => cases hq; exact hKn3
    | 4, hq => cases hq; exact hKn4
    | 5, hq => cases hq; exact hKn5
    | 6, hq => cases hq; exact hKn6
    | k + 7, hq => simp [vwCl] at hq
  obtain ⟨cI, kI9, pI, f1, f2, f3⟩ := Cond.arrayClass_spec (hw _ ac_int)
  obtain ⟨cL, kL9, pL, g1, g2, g3⟩ := Cond.arrayClass_spec (hw _ ac_long)
  have hK : va_K D vwCl [(cI, .int), (cL, .long)] s := ⟨hKc, fun k q h => by
    match k, h with
    | 0, h => cases h; exact ⟨fun n z => ⟨fun k h => (by cases h), kI9, f2, pI, f3⟩, f1⟩
    | 1, h => cases h; exact ⟨fun n z => ⟨fun k h => (by cases h), kL9, g2, pL, g3⟩, g1⟩
    | k + 2, h => simp at h⟩
  have hN : yNst s := ⟨yNst.of (fun w h => hts w (mt_nest w h)), va_Nc.of (hq _ (by decide +kernel)), va_Nc.of (hq _ (by decide +kernel)), va_Nc.of (hq _ (by decide +kernel))⟩
  have Z : Zz p m c cL_law 9 s #[Value.ref b] wsL_law RL D [(cI, .int), (cL, .long)] (fun q : Nat => s.heap.size ≤ q) := ⟨⟨hx, hb, hml, hown, hw⟩, hK, fun _ h => h, hN⟩
  have X : Xz s (fun q : Nat => s.heap.size ≤ q) := ⟨vx_Zqof (hts _ (mt_t2 (List.mem_of_getElem? (i := 231) rfl))) (hts _ (mt_t1 (List.mem_of_getElem? (i := 8) rfl))) (hq _ (by decide +kernel)) (fun a h => Nat.not_le.mpr h), vx_Zqof (hts _ (mt_t2 (List.mem_of_getElem? (i := 233) rfl))) (hts _ (mt_t1 (List.mem_of_getElem? (i := 8) rfl))) (hq _ (by decide +kernel)) (fun a h => Nat.not_le.mpr h)⟩
  have hP : va_P D vwCl [] s.heap := fun k q h => by simp at h
  have hD : va_D (fun q : Nat => s.heap.size ≤ q) [] := ⟨fun i j p q h => by simp at h, fun k q h => by simp at h⟩
  refine y_entry (lv0 := [(0, .ref b)]) rfl (Nat.le_of_ble_eq_true rfl) hP hD ?_
  refine y_new 5 Z inlX5 tyX5 tyX5_ok cl_RL_8 ia_X5 in_X5 rfl [.null, .null, .null, .null, .null, .null, .null, .null] (fun j hj => by rcases (show j = 0 ∨ j = 1 ∨ j = 2 ∨ j = 3 ∨ j = 4 ∨ j = 5 ∨ j = 6 ∨ j = 7 by omega) with rfl | rfl | rfl | rfl | rfl | rfl | rfl | rfl <;> rfl) (Nat.le_of_ble_eq_true rfl) (Nat.le_of_ble_eq_true rfl) dL_law_0 (fun q1 => ?_)
  refine y_dup Z dL_law_3 rfl ?_
  refine y_INw (wl := []) (wc := [(q1, .inr (5, [.null, .null, .null, .null, .null, .null, .null, .null]))]) (rest := [.ref q1]) Z (k_X5_init l D rfl q1) (y_cwI Z ml_RL_92 im_X5_init in_X5 co_X5_init rfl rfl rfl hi_X5 ⟨Nat.le_of_ble_eq_true rfl, Nat.le_of_ble_eq_true rfl⟩) rfl rfl (Nat.le_of_ble_eq_true rfl) dL_law_4 ⟨Nat.le_of_ble_eq_true rfl, Nat.le_of_ble_eq_true rfl⟩ (fun aJ h1 => ?_)
  subst h1
  refine y_astore_n Z [(1, .ref (aJ 0)), (0, .ref b)] dL_law_7 rfl (by decide) rfl ?_
  refine y_new 6 Z inlX6 tyX6 tyX6_ok cl_RL_93 ia_X6 in_X6 rfl [.null, .null, .int 0, .null, .int 0, .int 0, .int 0, .null, .int 0, .int 0, .int 0, .int 0, .null, .null, .int 0, .int 0, .int 0, .int 0, .int 0] (fun j hj => by rcases (show j = 0 ∨ j = 1 ∨ j = 2 ∨ j = 3 ∨ j = 4 ∨ j = 5 ∨ j = 6 ∨ j = 7 ∨ j = 8 ∨ j = 9 ∨ j = 10 ∨ j = 11 ∨ j = 12 ∨ j = 13 ∨ j = 14 ∨ j = 15 ∨ j = 16 ∨ j = 17 ∨ j = 18 by omega) with rfl | rfl | rfl | rfl | rfl | rfl | rfl | rfl | rfl | rfl | rfl | rfl | rfl | rfl | rfl | rfl | rfl | rfl | rfl <;> rfl) (Nat.le_of_ble_eq_true rfl) (Nat.le_of_ble_eq_true rfl) dL_law_8 (fun q2 => ?_)
  refine y_dup Z dL_law_11 rfl ?_
  refine y_INw (wl := [] ++ wVM cI aJ vm0) (wc := [(q2, .inr (6, [.null, .null, .int 0, .null, .int 0, .int 0, .int 0, .null, .int 0, .int 0, .int 0, .int 0, .null, .null, .int 0, .int 0, .int 0, .int 0, .int 0]))]) (rest := [.ref q2]) Z (k_X6_init l D rfl q2) (y_cwI Z ml_RL_95 im_X6_init in_X6 co_X6_init rfl rfl rfl hi_X6 ⟨Nat.le_of_ble_eq_true rfl, Nat.le_of_ble_eq_true rfl⟩) rfl rfl (Nat.le_of_ble_eq_true rfl) dL_law_12 ⟨Nat.le_of_ble_eq_true rfl, Nat.le_of_ble_eq_true rfl⟩ (fun aS h2 => ?_)
  subst h2
  refine y_astore_n Z [(2, .ref (aS 0)), (1, .ref (aJ 0)), (0, .ref b)] dL_law_15 rfl (by decide) rfl ?_
  refine y_iconst (v := 1) Z dL_law_16 (by decide) ?_
  refine y_newaL (N' := 1) Z rfl (by decide) (by decide) (by decide) (Nat.le_of_ble_eq_true rfl) (Nat.le_of_ble_eq_true rfl) dL_law_17 (fun aO => ?_)
  refine y_astore_n Z [(3, .ref aO), (2, .ref (aS 0)), (1, .ref (aJ 0)), (0, .ref b)] dL_law_19 rfl (by decide) rfl ?_
  refine y_iconst (v := 0) Z dL_law_20 (by decide) ?_
  refine y_istore Z [(4, .int 0), (3, .ref aO), (2, .ref (aS 0)), (1, .ref (aJ 0)), (0, .ref b)] dL_law_21 (by decide) rfl ?_
  refine y_lv [4, 3, 2, 1, 0] (lv' := [(0, .ref b), (1, .ref (aJ 0)), (2, .ref (aS 0)), (3, .ref aO), (4, .int (nI (5 * 0)))]) rfl ?_
  refine y_pick (ws' := wL cI cL aJ vm0 aO (fun _ => 0) aS md0) [0, 1, 2, 3, 4, 5, 6, 7, 8, 9, 10, 11, 12, 13, 14, 15, 16, 17, 18, 19, 20, 21, 22, 23, 24, 25, 26, 34, 27, 28, 29, 30, 31, 32, 33] (by decide) rfl ?_
  exact law_loop Z X htr rfl rfl hX hbl hr hlocks hL aJ aO aS L 0 vm0 (fun _ => 0) md0 (by omega) (by omega) c2_init
set_option maxHeartbeats 4000000 in
theorem lw_walk (l : Launch) (hflags : l.flags = flags0) (b : Addr) (xs : List Int32) : MetFree l x (headSpec (Jvm.Cond.code x code maxLocals ret :: tables_1) room_1) (lw_P b xs) (fun _ _ _ _ _ => True) lw_Q := by
  refine MetFree.of_bodyS (code := code) (maxLocals := maxLocals) (ret := ret) (by decide) ?_ ?_
  · intro args s m h hn
    obtain ⟨meth, c, h1, h2, h3, h4, h5, h6, -, -⟩ := Cond.code_spec hn (atoms_spec (ws := Jvm.Cond.code x code maxLocals ret :: tables_1) h _ List.mem_cons_self)
    exact ⟨meth, c, h1, h2, h3, h4, h5, h6⟩
  · intro p e s m args below meth c s₁ B hml0 hP _
    obtain ⟨rfl, hx, hbd, hgv⟩ := hP
    obtain ⟨scr, harrAt, hlist, hof, hsmall⟩ := hx
    obtain ⟨hcb, hkn, -, -⟩ := State.arrayAt?_spec harrAt
    have hown : s.vm.findClass R_law = some m.cls := findClass_of_methodNamed B.named
    have hts0 : ∀ c ∈ (Jvm.Cond.code x code maxLocals ret :: tables_1), c.before #[Value.ref b] s = true := atoms_spec (ws := Jvm.Cond.code x code maxLocals ret :: tables_1) B.pre
    have hts : ∀ w ∈ lw_tbl, w.before #[Value.ref b] s = true := k2_hts_sels lw_privs (fun w hw => hts0 w (List.mem_cons_of_mem _ hw)) lw_privs_ok
    have hml : c.maxLocals = 9 := B.maxLocals_eq (hts0 _ List.mem_cons_self)
    have X₀ : Stand p l e room_1 s m #[Value.ref b] below meth c s₁ [] 0 0 := Stand.of_body B
    have hh0 : s₁.heap = s.heap := by rw [B.state]; rfl
    have hsz : scr.slots.size = xs.length := by rw [← Array.length_toList, hlist, List.length_map]
    have hval : ∀ j : Nat, j < xs.length → scr.slots[j]? = some (.int (xs.getD j 0)) := fun j hj => by
      rw [← Array.getElem?_toList, hlist]
      simp [hj]
    have hbl : b < s.heap.size := (Array.getElem?_eq_some_iff.mp hcb).1
    have hX : va_X b xs.length (fun j => xs.getD j 0) s s.heap := ⟨scr, hcb, hof, hkn, hsz, hval⟩
    have K : W p l e room_1 s m #[Value.ref b] below meth c s₁.heap [] 0 0 (lw_Z below #[Value.ref b] s) (entryFrame m ([Value.ref b] : List Value).toArray 9) := by
      rw [hh0]
      exact whole_start l hflags hbd ⟨B.exec, B.bytes, B.returns, hml, hown, hts, hX, hbl, B.notSynchronized, hgv⟩
    obtain ⟨t, a1, o, b1, b2, b3⟩ := K s₁ rfl X₀
    exact ⟨t, o, a1, b1, b2, b3⟩
theorem lw_pre_spec {args : Array Value} {s : State} (h : (Jvm.Cond.and given_1 narrow_1).before args s = true) (hr : rest_1_c.before args s = true) : ∃ (b : Addr) (xs : List Int32), lw_P b xs args s := by
  have hs := flat_of_before _ h
  have hq := flat_of_before _ hr
  have hc : (Cond.count 1).before args s = true := hs _ (by decide +kernel)
  have harr : (Cond.arrayOf (.arg 0) .int).before args s = true := hs _ (by decide +kernel)
  have hle : (Cond.le (.length (.arg 0)) (.int 2560)).before args s = true := hs _ (by decide +kernel)
  have hlen : (Cond.isInt (.length (.arg 0))).before args s = true := hq _ (by decide +kernel)
  have hall : (Cond.all (.arg 0) (.isInt (.elem (.arg 0) (.index 0)))).before args s = true := hq _ (by decide +kernel)
  obtain ⟨b, xs, hb, hx⟩ := State.ints_of_pre rfl harr hlen hall
  have hsm : xs.length < 2 ^ 31 := hx.choose_spec.2.2.2
  have hev : (Term.length (.arg 0)).eval args s none [] s = some (.int xs.length.toInt32) := hx.length_eval hb
  have hv := Cond.le_ints hev (show (Term.int 2560).eval args s none [] s = some (.int 2560) from rfl)
  have hd : xs.length.toInt32 ≤ 2560 := by
    simpa [Cond.before, Cond.holds, hv] using hle
  have hN : xs.length ≤ 2560 := (Int32.ofNat_le_ofNat hsm (by decide)).mp (show Int32.ofNat xs.length ≤ Int32.ofNat 2560 from hd)
  exact ⟨b, xs, Cond.one_arg hc (show args[0]? = some (.ref b) from hb), hx, hN, h⟩
theorem lw_comes (l : Launch) (hflags : l.flags = flags0) : Comes l x (Jvm.Cond.code x code maxLocals ret :: tables_1) room_1 (fun tb e args s => Calls_1 tb e args s ∧ rest_1 tb e args s ∧ Pre_1 tb e args s)
    (fun _ _ args s o t => lw_Q args s o t) := by
  intro p e ha hc hk s m args below hf hfit hheap happ hpre
  obtain ⟨b, xs, hP⟩ := lw_pre_spec hpre.2.2 hpre.2.1
  obtain ⟨k, o, h1, h2, h3, hQ⟩ := lw_walk l hflags b xs p e ha hc hk s m args below hf ((Spec.applies_iff_loose hf).mp happ).1 hP trivial
  exact ⟨k, o, h1, h2, h3, hQ⟩
theorem lw_frame {s t : State} {o : Outcome} {args : Array Value} (h : State.butDraws s t lw_cs (fun t1 => Framed s o t1 [] 1069 10084)) :
    State.butDraws s t [Jvm.Choice.named "NaN.bits"] (fun t1 => Framed s o t1 (fieldLocs frame_1_writes args s ++ arrayLocs frame_1_arrays args s ++ staticLocs frame_1_statics s) 1069 10084) := h
theorem lw_limb (L : Cond) (hL : ∀ (args : Array Value) (s t : State), L.after args s (.returned (some (.int 1))) t = true) :
    ArmFor flags0 classFile x code maxLocals ret World_1 tables_1 room_1 Calls_1 rest_1 Pre_1
      (fun tb e a s o t => postC L tb e a s o t ∧ State.butDraws s t [Jvm.Choice.named "NaN.bits"] (fun t1 => Framed s o t1 (fieldLocs frame_1_writes a s ++ arrayLocs frame_1_arrays a s ++ staticLocs frame_1_statics s) 1069 10084)) := by
  intro l hflags _ _ p e ha hc hk s m args below hf hfit hheap happ hpre
  obtain ⟨k, o, h1, h2, h3, rfl, hF⟩ := lw_comes l hflags p e ha hc hk s m args below hf hfit hheap happ hpre
  exact ⟨k, _, h1, h2, h3, hL args s _, lw_frame hF⟩
theorem i_vc : Claimed_1_1 ∧ Claimed_1_2 := ⟨lw_limb limb_1_1 (fun args s t => by simp [limb_1_1, Cond.after, Cond.holds, Cond.value]), lw_limb limb_1_2 (fun args s t => Cond.after_iff.mpr (by
  first | (rw [show limb_1_2 = Cond.eq .result (.int 1) from rfl, Cond.eq_ints (x := 1) (y := 1) rfl rfl]; simp; done) | (simp [limb_1_2, Cond.value, Term.eval]; done)))⟩
