section YLaw
variable {p : Program} {l : Launch} {e : Env} {R : Room} {s : State} {m : MethodId} {args : Array Value} {below : List Frame} {meth : Method} {c : Code} {Q : State → Prop} {D : va_G} {A : Nat → Prop} {nL cells slots : Nat} {ws : va_W} {lv : List (Nat × Value)} {st : List Value} {pc : Nat}
variable {cc : ByteArray} {Ts : List Cond} {own : String} {tys : List (ClassId × FieldType)}
theorem y_sld (Z : Zz p m c cc nL s args Ts own D tys A) {b L : Nat} {xs : Nat → Int32} (hX : va_X b L xs s s.heap) (hbl : b < s.heap.size) (hbA : ¬ A b) {i : Int32} (hin : vp_in i L) (k0 : Nat) (hk : i.toNatClampNeg = k0) (hdg : decode cc pc = .ok (.iaload, 1)) (k : Yy p l e R s m args below meth c Q D A nL cells slots ws lv (.int (xs k0) :: st) (pc + 1)) : Yy p l e R s m args below meth c Q D A nL cells slots ws lv (.int i :: .ref b :: st) pc := fun H locs ls hP hD hS hl =>
  va_sld Z.1.1 Z.1.2.1 hX hbl hbA hS hin hdg (by subst hk; exact k H locs ls hP hD hS hl)
theorem y_slen (Z : Zz p m c cc nL s args Ts own D tys A) {b L : Nat} {xs : Nat → Int32} (hX : va_X b L xs s s.heap) (hbl : b < s.heap.size) (hbA : ¬ A b) (hdg : decode cc pc = .ok (.arraylength, 1)) (k : Yy p l e R s m args below meth c Q D A nL cells slots ws lv (.int (nI L) :: st) (pc + 1)) : Yy p l e R s m args below meth c Q D A nL cells slots ws lv (.ref b :: st) pc := fun H locs ls hP hD hS hl =>
  va_slen Z.1.1 Z.1.2.1 hX hbl hbA hS hdg (k H locs ls hP hD hS hl)
theorem y_nz (Z : Zz p m c cc nL s args Ts own D tys A) {x : Int32} {o1 o2 : Int} {X Y : Nat} (d1 : decode cc pc = .ok (.ifCond .eq o1, 3)) (t1 : (pc : Int) + o1 = (X : Int)) (d2 : decode cc (pc + 3) = .ok (.iconst 1, 1)) (d3 : decode cc (pc + 4) = .ok (.goto o2, 3)) (t2 : ((pc + 4 : Nat) : Int) + o2 = (Y : Int)) (d4 : decode cc X = .ok (.iconst 0, 1)) (hXY : X + 1 = Y)
    (k : Yy p l e R s m args below meth c Q D A nL cells slots ws lv (.int (nzF x) :: st) Y) : Yy p l e R s m args below meth c Q D A nL cells slots ws lv (.int x :: st) pc := by
  refine y_if_eq (tgt := X) Z d1 t1 (fun h => ?_) (fun h => ?_)
  · refine y_iconst (v := 0) Z d4 (by decide) ?_
    have e : nzF x = 0 := if_pos h
    rw [e] at k
    rw [hXY]; exact k
  · refine y_iconst (v := 1) Z d2 (by decide) ?_
    refine y_goto (tgt := Y) Z d3 t2 ?_
    have e : nzF x = 1 := if_neg h
    rw [e] at k
    exact k
end YLaw
theorem sx_in {i L : Nat} (hi : i + 4 < L) (hL : L ≤ 2560) (j : Nat) (hj : j < 5) : vp_in (nI i + nI j) L ∧ (nI i + nI j).toNatClampNeg = i + j := by
  rw [nI_add, nI_clamp (by omega)]
  exact ⟨vp_in_nI (by omega) (by omega), rfl⟩
theorem lgc_self (x : Int64) : lg_cmp x x = 0 := by
  unfold lg_cmp
  rw [if_neg (Int64.lt_irrefl), if_pos rfl]
abbrev wL (cI cL : ClassId) (aJ : Nat → Nat) (J : Nat → Nat → Nat → Int32) (aO : Nat) (O : Nat → Int64) (aS : Nat → Nat) (S : Nat → Nat → Int32) : va_W := wVM cI aJ J ++ (wOut cL aO O ++ wMd cI aS S)
set_option maxHeartbeats 4000000 in
set_option maxRecDepth 100000 in
theorem lc_program {p : Program} {l : Launch} {e : Env} {s : State} {m : MethodId} {args : Array Value} {below : List Frame} {meth : Method} {c : Code} {Q : State → Prop} {D : va_G} {A : Nat → Prop} {tys : List (ClassId × FieldType)} {cI cL : ClassId} (Z : Zz p m c cL_law 9 s args wsL_law RL D tys A) (X : Xz s A) (htr : l.stackTraces = false) (ht0 : tys[0]? = some (cI, .int)) (ht1 : tys[1]? = some (cL, .long)) {b L : Nat} {xs : Nat → Int32} (hX : va_X b L xs s s.heap) (hbl : b < s.heap.size) (hbA : ¬ A b) {i : Nat} (hi : i + 4 < L) (hL : L ≤ 2560) {cells slots : Nat} (hc : cells + 1 ≤ 1069) (hs : slots + 6 ≤ 10084) {aJ : Nat → Nat} {aO : Nat} {aS : Nat → Nat} {J : Nat → Nat → Nat → Int32} {O : Nat → Int64} {S : Nat → Nat → Int32} (I : Inv J S) (K : ∀ (J2 : Nat → Nat → Nat → Int32) (O2 : Nat → Int64) (S2 : Nat → Nat → Int32), Inv J2 S2 → Yy p l e room_1 s m args below meth c Q D A 9 (cells + 1) (slots + 6) (wL cI cL aJ J2 aO O2 aS S2) [(0, .ref b), (1, .ref (aJ 0)), (2, .ref (aS 0)), (3, .ref aO), (4, .int (nI i))] [] 1756) : Yy p l e room_1 s m args below meth c Q D A 9 cells slots (wL cI cL aJ J aO O aS S) [(0, .ref b), (1, .ref (aJ 0)), (2, .ref (aS 0)), (3, .ref aO), (4, .int (nI i))] [] 176 := by
  obtain ⟨m_nn, hr⟩ := c2_program I (xs (i + 1))
  rcases hr with ⟨o_q, o_m, he, her, hI⟩ | ⟨hb, he, hI⟩ | ⟨o_q, hb, he, hI⟩
  · refine y_aload_n Z dL_law_176 1 rfl rfl ?_
    refine y_aload_n Z dL_law_177 0 rfl rfl ?_
    refine y_iload Z dL_law_178 4 rfl ?_
    refine y_iconst (v := 1) Z dL_law_180 (by decide) ?_
    refine y_iadd Z dL_law_181 ?_
    refine y_sld Z hX hbl hbA (sx_in hi hL 1 (by decide)).1 (i + 1) (sx_in hi hL 1 (by decide)).2 dL_law_182 ?_
    refine y_aload_n Z dL_law_183 3 rfl rfl ?_
    refine y_SWw (rest := []) Z X (k_L_program l htr D ht0 ht1 aJ J aO O (xs (i + 1)) o_q o_m) (y_cwSW 3 Z ml_RL_96 st_L_program in_L co_L_program rfl rfl hs_L_program ⟨Nat.le_of_ble_eq_true rfl, Nat.le_of_ble_eq_true rfl⟩) List.nil (wMd cI aS S) (by simp only [List.nil_append, List.append_assoc]) rfl rfl (Nat.le_of_ble_eq_true rfl) dL_law_184 ⟨by show _ ≤ 1069; omega, by show _ ≤ 10084; omega⟩ (wL cI cL aJ (vm_enact J 0 (xs (i + 1)) (-1) (-1) (-1)) aO (vp_updL O 0 (Int32.toInt64 (perfR (J 0) 0 (xs (i + 1)) (-1) (-1) (-1)))) aS S) (by simp only [wL, List.nil_append, List.append_assoc]) ?_
    refine y_istore Z [(5, .int 0), (0, .ref b), (1, .ref (aJ 0)), (2, .ref (aS 0)), (3, .ref aO), (4, .int (nI i))] dL_law_187 (by decide) rfl ?_
    refine y_aload_n Z dL_law_189 3 rfl rfl ?_
    refine y_aload_n Z dL_law_190 1 rfl rfl ?_
    refine y_iload Z dL_law_191 5 rfl ?_
    refine y_iconst (v := 1) Z dL_law_193 (by decide) ?_
    refine y_iadd Z dL_law_194 ?_
    refine y_sld Z hX hbl hbA (sx_in hi hL 1 (by decide)).1 (i + 1) (sx_in hi hL 1 (by decide)).2 dL_law_195 ?_
    refine y_VIw (rest := []) Z (k_X6_program l D ht0 aS S (xs (i + 1)) m_nn) (y_cwV 1 Z ml_RL_101 im_X6_program se_X6_program in_X6 co_X6_program rfl rfl hd_X6_program ⟨Nat.le_of_ble_eq_true rfl, Nat.le_of_ble_eq_true rfl⟩) (wVM cI aJ (vm_enact J 0 (xs (i + 1)) (-1) (-1) (-1)) ++ wOut cL aO (vp_updL O 0 (Int32.toInt64 (perfR (J 0) 0 (xs (i + 1)) (-1) (-1) (-1))))) List.nil (by simp only [List.append_assoc, List.append_nil]) 6 0 rfl rfl rfl rfl (Nat.le_of_ble_eq_true rfl) dL_law_196 ⟨by show _ ≤ 1069; omega, by show _ ≤ 10084; omega⟩ (wL cI cL aJ (vm_enact J 0 (xs (i + 1)) (-1) (-1) (-1)) aO (vp_updL O 0 (Int32.toInt64 (perfR (J 0) 0 (xs (i + 1)) (-1) (-1) (-1)))) aS (mc_program S (xs (i + 1)))) (by simp only [wL, mc_program, List.append_assoc, List.append_nil, wMix, wLog, wPic, wRep, wScr, wVM, wMd, sR_eq, sR_ne, sF_eq, sF_ne, upd_eq, upd_ne, gs_eq, gs_ne, gm_4, gm_ne, Nat.reduceBEq]) ?_
    refine y_istore Z [(6, .int (if mv_go (mv_is (xs (i + 1))) (mv_hr (S 0 1)) 1 = 0 then 0 else mv_ds (S 1) 0 (xs (i + 1)) (-1) (-1) (-1))), (5, .int 0), (0, .ref b), (1, .ref (aJ 0)), (2, .ref (aS 0)), (3, .ref aO), (4, .int (nI i))] dL_law_199 (by decide) rfl ?_
    refine y_aload_n Z dL_law_201 4 rfl rfl ?_
    refine y_VIw (rest := []) Z (k_X6_thrown l D ht0 aS (mc_program S (xs (i + 1)))) (y_cwV 0 Z ml_RL_102 im_X6_thrown se_X6_thrown in_X6 co_X6_thrown rfl rfl hd_X6_thrown ⟨Nat.le_of_ble_eq_true rfl, Nat.le_of_ble_eq_true rfl⟩) (wVM cI aJ (vm_enact J 0 (xs (i + 1)) (-1) (-1) (-1)) ++ wOut cL aO (vp_updL O 0 (Int32.toInt64 (perfR (J 0) 0 (xs (i + 1)) (-1) (-1) (-1))))) List.nil (by simp only [List.append_assoc, List.append_nil]) 6 0 rfl rfl rfl rfl (Nat.le_of_ble_eq_true rfl) dL_law_202 ⟨by show _ ≤ 1069; omega, by show _ ≤ 10084; omega⟩ (wL cI cL aJ (vm_enact J 0 (xs (i + 1)) (-1) (-1) (-1)) aO (vp_updL O 0 (Int32.toInt64 (perfR (J 0) 0 (xs (i + 1)) (-1) (-1) (-1)))) aS (mc_program S (xs (i + 1)))) (by simp only [wL, List.append_assoc, List.append_nil]) ?_
    refine y_eq rfl rfl (st' := [.int 0]) (by rw [he]) ?_
    refine y_iload Z dL_law_205 1 rfl ?_
    refine y_icmp_eq (tgt := 212) Z dL_law_207 (by decide) (fun _ => ?_) (fun h => absurd rfl h)
    refine y_iload Z dL_law_212 1 rfl ?_
    refine y_if_ne (tgt := 229) Z dL_law_214 (by decide) (fun h => absurd rfl h) (fun _ => ?_)
    refine y_aload_n Z dL_law_217 5 rfl rfl ?_
    refine y_iconst (v := 0) Z dL_law_218 (by decide) ?_
    refine y_lald Z 27 1 rfl ht1 (vpd (by decide) (by decide)) 0 (by decide) dL_law_219 ?_
    refine y_iload Z dL_law_220 0 rfl ?_
    refine y_i2l Z dL_law_222 ?_
    refine y_eq rfl rfl (st' := [.long (Int32.toInt64 (if mv_go (mv_is (xs (i + 1))) (mv_hr (S 0 1)) 1 = 0 then 0 else mv_ds (S 1) 0 (xs (i + 1)) (-1) (-1) (-1))), .long (Int32.toInt64 (if mv_go (mv_is (xs (i + 1))) (mv_hr (S 0 1)) 1 = 0 then 0 else mv_ds (S 1) 0 (xs (i + 1)) (-1) (-1) (-1)))]) (by rw [← her]; rfl) ?_
    refine y_lcmp Z dL_law_223 ?_
    refine y_if_eq (tgt := 229) Z dL_law_224 (by decide) (fun _ => ?_) (fun h => absurd (lgc_self _) h)
    refine y_goto (tgt := 1756) Z dL_law_229 (by decide) ?_
    refine y_lv [2, 3, 4, 5, 6] (lv' := [(0, .ref b), (1, .ref (aJ 0)), (2, .ref (aS 0)), (3, .ref aO), (4, .int (nI i))]) rfl ?_
    exact y_wide (k := cells + 1) (n := slots + 6) (by omega) (by omega) (K _ _ _ hI)
  · refine y_aload_n Z dL_law_176 1 rfl rfl ?_
    refine y_aload_n Z dL_law_177 0 rfl rfl ?_
    refine y_iload Z dL_law_178 4 rfl ?_
    refine y_iconst (v := 1) Z dL_law_180 (by decide) ?_
    refine y_iadd Z dL_law_181 ?_
    refine y_sld Z hX hbl hbA (sx_in hi hL 1 (by decide)).1 (i + 1) (sx_in hi hL 1 (by decide)).2 dL_law_182 ?_
    refine y_aload_n Z dL_law_183 3 rfl rfl ?_
    refine y_SWw (rest := []) Z X (k_L_program_b0 l htr D ht0 ht1 aJ J aO O (xs (i + 1)) hb) (y_cwSW 3 Z ml_RL_96 st_L_program in_L co_L_program rfl rfl hs_L_program ⟨Nat.le_of_ble_eq_true rfl, Nat.le_of_ble_eq_true rfl⟩) List.nil (wMd cI aS S) (by simp only [List.nil_append, List.append_assoc]) rfl rfl (Nat.le_of_ble_eq_true rfl) dL_law_184 ⟨by show _ ≤ 1069; omega, by show _ ≤ 10084; omega⟩ (wL cI cL aJ J aO O aS S) (by simp only [wL, List.nil_append, List.append_assoc]) ?_
    refine y_istore Z [(5, .int 1), (0, .ref b), (1, .ref (aJ 0)), (2, .ref (aS 0)), (3, .ref aO), (4, .int (nI i))] dL_law_187 (by decide) rfl ?_
    refine y_aload_n Z dL_law_189 3 rfl rfl ?_
    refine y_aload_n Z dL_law_190 1 rfl rfl ?_
    refine y_iload Z dL_law_191 5 rfl ?_
    refine y_iconst (v := 1) Z dL_law_193 (by decide) ?_
    refine y_iadd Z dL_law_194 ?_
    refine y_sld Z hX hbl hbA (sx_in hi hL 1 (by decide)).1 (i + 1) (sx_in hi hL 1 (by decide)).2 dL_law_195 ?_
    refine y_VIw (rest := []) Z (k_X6_program l D ht0 aS S (xs (i + 1)) m_nn) (y_cwV 1 Z ml_RL_101 im_X6_program se_X6_program in_X6 co_X6_program rfl rfl hd_X6_program ⟨Nat.le_of_ble_eq_true rfl, Nat.le_of_ble_eq_true rfl⟩) (wVM cI aJ J ++ wOut cL aO O) List.nil (by simp only [List.append_assoc, List.append_nil]) 6 0 rfl rfl rfl rfl (Nat.le_of_ble_eq_true rfl) dL_law_196 ⟨by show _ ≤ 1069; omega, by show _ ≤ 10084; omega⟩ (wL cI cL aJ J aO O aS (mc_program S (xs (i + 1)))) (by simp only [wL, mc_program, List.append_assoc, List.append_nil, wMix, wLog, wPic, wRep, wScr, wVM, wMd, sR_eq, sR_ne, sF_eq, sF_ne, upd_eq, upd_ne, gs_eq, gs_ne, gm_4, gm_ne, Nat.reduceBEq]) ?_
    refine y_istore Z [(6, .int (if mv_go (mv_is (xs (i + 1))) (mv_hr (S 0 1)) 1 = 0 then 0 else mv_ds (S 1) 0 (xs (i + 1)) (-1) (-1) (-1))), (5, .int 1), (0, .ref b), (1, .ref (aJ 0)), (2, .ref (aS 0)), (3, .ref aO), (4, .int (nI i))] dL_law_199 (by decide) rfl ?_
    refine y_aload_n Z dL_law_201 4 rfl rfl ?_
    refine y_VIw (rest := []) Z (k_X6_thrown l D ht0 aS (mc_program S (xs (i + 1)))) (y_cwV 0 Z ml_RL_102 im_X6_thrown se_X6_thrown in_X6 co_X6_thrown rfl rfl hd_X6_thrown ⟨Nat.le_of_ble_eq_true rfl, Nat.le_of_ble_eq_true rfl⟩) (wVM cI aJ J ++ wOut cL aO O) List.nil (by simp only [List.append_assoc, List.append_nil]) 6 0 rfl rfl rfl rfl (Nat.le_of_ble_eq_true rfl) dL_law_202 ⟨by show _ ≤ 1069; omega, by show _ ≤ 10084; omega⟩ (wL cI cL aJ J aO O aS (mc_program S (xs (i + 1)))) (by simp only [wL, List.append_assoc, List.append_nil]) ?_
    refine y_eq rfl rfl (st' := [.int 1]) (by rw [he]) ?_
    refine y_iload Z dL_law_205 1 rfl ?_
    refine y_icmp_eq (tgt := 212) Z dL_law_207 (by decide) (fun _ => ?_) (fun h => absurd rfl h)
    refine y_iload Z dL_law_212 1 rfl ?_
    refine y_if_ne (tgt := 229) Z dL_law_214 (by decide) (fun _ => ?_) (fun h => absurd h (by decide))
    refine y_goto (tgt := 1756) Z dL_law_229 (by decide) ?_
    refine y_lv [2, 3, 4, 5, 6] (lv' := [(0, .ref b), (1, .ref (aJ 0)), (2, .ref (aS 0)), (3, .ref aO), (4, .int (nI i))]) rfl ?_
    exact y_wide (k := cells + 1) (n := slots + 6) (by omega) (by omega) (K _ _ _ hI)
  · refine y_aload_n Z dL_law_176 1 rfl rfl ?_
    refine y_aload_n Z dL_law_177 0 rfl rfl ?_
    refine y_iload Z dL_law_178 4 rfl ?_
    refine y_iconst (v := 1) Z dL_law_180 (by decide) ?_
    refine y_iadd Z dL_law_181 ?_
    refine y_sld Z hX hbl hbA (sx_in hi hL 1 (by decide)).1 (i + 1) (sx_in hi hL 1 (by decide)).2 dL_law_182 ?_
    refine y_aload_n Z dL_law_183 3 rfl rfl ?_
    refine y_SWw (rest := []) Z X (k_L_program_b1 l htr D ht0 ht1 aJ J aO O (xs (i + 1)) o_q hb) (y_cwSW 3 Z ml_RL_96 st_L_program in_L co_L_program rfl rfl hs_L_program ⟨Nat.le_of_ble_eq_true rfl, Nat.le_of_ble_eq_true rfl⟩) List.nil (wMd cI aS S) (by simp only [List.nil_append, List.append_assoc]) rfl rfl (Nat.le_of_ble_eq_true rfl) dL_law_184 ⟨by show _ ≤ 1069; omega, by show _ ≤ 10084; omega⟩ (wL cI cL aJ J aO O aS S) (by simp only [wL, List.nil_append, List.append_assoc]) ?_
    refine y_istore Z [(5, .int 2), (0, .ref b), (1, .ref (aJ 0)), (2, .ref (aS 0)), (3, .ref aO), (4, .int (nI i))] dL_law_187 (by decide) rfl ?_
    refine y_aload_n Z dL_law_189 3 rfl rfl ?_
    refine y_aload_n Z dL_law_190 1 rfl rfl ?_
    refine y_iload Z dL_law_191 5 rfl ?_
    refine y_iconst (v := 1) Z dL_law_193 (by decide) ?_
    refine y_iadd Z dL_law_194 ?_
    refine y_sld Z hX hbl hbA (sx_in hi hL 1 (by decide)).1 (i + 1) (sx_in hi hL 1 (by decide)).2 dL_law_195 ?_
    refine y_VIw (rest := []) Z (k_X6_program l D ht0 aS S (xs (i + 1)) m_nn) (y_cwV 1 Z ml_RL_101 im_X6_program se_X6_program in_X6 co_X6_program rfl rfl hd_X6_program ⟨Nat.le_of_ble_eq_true rfl, Nat.le_of_ble_eq_true rfl⟩) (wVM cI aJ J ++ wOut cL aO O) List.nil (by simp only [List.append_assoc, List.append_nil]) 6 0 rfl rfl rfl rfl (Nat.le_of_ble_eq_true rfl) dL_law_196 ⟨by show _ ≤ 1069; omega, by show _ ≤ 10084; omega⟩ (wL cI cL aJ J aO O aS (mc_program S (xs (i + 1)))) (by simp only [wL, mc_program, List.append_assoc, List.append_nil, wMix, wLog, wPic, wRep, wScr, wVM, wMd, sR_eq, sR_ne, sF_eq, sF_ne, upd_eq, upd_ne, gs_eq, gs_ne, gm_4, gm_ne, Nat.reduceBEq]) ?_
    refine y_istore Z [(6, .int (if mv_go (mv_is (xs (i + 1))) (mv_hr (S 0 1)) 1 = 0 then 0 else mv_ds (S 1) 0 (xs (i + 1)) (-1) (-1) (-1))), (5, .int 2), (0, .ref b), (1, .ref (aJ 0)), (2, .ref (aS 0)), (3, .ref aO), (4, .int (nI i))] dL_law_199 (by decide) rfl ?_
    refine y_aload_n Z dL_law_201 4 rfl rfl ?_
    refine y_VIw (rest := []) Z (k_X6_thrown l D ht0 aS (mc_program S (xs (i + 1)))) (y_cwV 0 Z ml_RL_102 im_X6_thrown se_X6_thrown in_X6 co_X6_thrown rfl rfl hd_X6_thrown ⟨Nat.le_of_ble_eq_true rfl, Nat.le_of_ble_eq_true rfl⟩) (wVM cI aJ J ++ wOut cL aO O) List.nil (by simp only [List.append_assoc, List.append_nil]) 6 0 rfl rfl rfl rfl (Nat.le_of_ble_eq_true rfl) dL_law_202 ⟨by show _ ≤ 1069; omega, by show _ ≤ 10084; omega⟩ (wL cI cL aJ J aO O aS (mc_program S (xs (i + 1)))) (by simp only [wL, List.append_assoc, List.append_nil]) ?_
    refine y_eq rfl rfl (st' := [.int 2]) (by rw [he]) ?_
    refine y_iload Z dL_law_205 1 rfl ?_
    refine y_icmp_eq (tgt := 212) Z dL_law_207 (by decide) (fun _ => ?_) (fun h => absurd rfl h)
    refine y_iload Z dL_law_212 1 rfl ?_
    refine y_if_ne (tgt := 229) Z dL_law_214 (by decide) (fun _ => ?_) (fun h => absurd h (by decide))
    refine y_goto (tgt := 1756) Z dL_law_229 (by decide) ?_
    refine y_lv [2, 3, 4, 5, 6] (lv' := [(0, .ref b), (1, .ref (aJ 0)), (2, .ref (aS 0)), (3, .ref aO), (4, .int (nI i))]) rfl ?_
    exact y_wide (k := cells + 1) (n := slots + 6) (by omega) (by omega) (K _ _ _ hI)
set_option maxHeartbeats 4000000 in
set_option maxRecDepth 100000 in
theorem lc_preview {p : Program} {l : Launch} {e : Env} {s : State} {m : MethodId} {args : Array Value} {below : List Frame} {meth : Method} {c : Code} {Q : State → Prop} {D : va_G} {A : Nat → Prop} {tys : List (ClassId × FieldType)} {cI cL : ClassId} (Z : Zz p m c cL_law 9 s args wsL_law RL D tys A) (X : Xz s A) (htr : l.stackTraces = false) (ht0 : tys[0]? = some (cI, .int)) (ht1 : tys[1]? = some (cL, .long)) {b L : Nat} {xs : Nat → Int32} (hX : va_X b L xs s s.heap) (hbl : b < s.heap.size) (hbA : ¬ A b) {i : Nat} (hi : i + 4 < L) (hL : L ≤ 2560) {cells slots : Nat} (hc : cells + 1 ≤ 1069) (hs : slots + 6 ≤ 10084) {aJ : Nat → Nat} {aO : Nat} {aS : Nat → Nat} {J : Nat → Nat → Nat → Int32} {O : Nat → Int64} {S : Nat → Nat → Int32} (I : Inv J S) (K : ∀ (J2 : Nat → Nat → Nat → Int32) (O2 : Nat → Int64) (S2 : Nat → Nat → Int32), Inv J2 S2 → Yy p l e room_1 s m args below meth c Q D A 9 (cells + 1) (slots + 6) (wL cI cL aJ J2 aO O2 aS S2) [(0, .ref b), (1, .ref (aJ 0)), (2, .ref (aS 0)), (3, .ref aO), (4, .int (nI i))] [] 1756) : Yy p l e room_1 s m args below meth c Q D A 9 cells slots (wL cI cL aJ J aO O aS S) [(0, .ref b), (1, .ref (aJ 0)), (2, .ref (aS 0)), (3, .ref aO), (4, .int (nI i))] [] 232 := by
  obtain ⟨m_nn, hr⟩ := c2_preview I (xs (i + 1))
  rcases hr with ⟨o_q, o_m, he, her, hI⟩ | ⟨hb, he, hI⟩ | ⟨o_q, hb, he, hI⟩
  · refine y_aload_n Z dL_law_232 1 rfl rfl ?_
    refine y_aload_n Z dL_law_233 0 rfl rfl ?_
    refine y_iload Z dL_law_234 4 rfl ?_
    refine y_iconst (v := 1) Z dL_law_236 (by decide) ?_
    refine y_iadd Z dL_law_237 ?_
    refine y_sld Z hX hbl hbA (sx_in hi hL 1 (by decide)).1 (i + 1) (sx_in hi hL 1 (by decide)).2 dL_law_238 ?_
    refine y_aload_n Z dL_law_239 3 rfl rfl ?_
    refine y_SWw (rest := []) Z X (k_L_preview l htr D ht0 ht1 aJ J aO O (xs (i + 1)) o_q o_m) (y_cwSW 3 Z ml_RL_105 st_L_preview in_L co_L_preview rfl rfl hs_L_preview ⟨Nat.le_of_ble_eq_true rfl, Nat.le_of_ble_eq_true rfl⟩) List.nil (wMd cI aS S) (by simp only [List.nil_append, List.append_assoc]) rfl rfl (Nat.le_of_ble_eq_true rfl) dL_law_240 ⟨by show _ ≤ 1069; omega, by show _ ≤ 10084; omega⟩ (wL cI cL aJ (vm_enact J 1 (xs (i + 1)) (-1) (-1) (-1)) aO (vp_updL O 0 (Int32.toInt64 (perfR (J 0) 1 (xs (i + 1)) (-1) (-1) (-1)))) aS S) (by simp only [wL, List.nil_append, List.append_assoc]) ?_
    refine y_istore Z [(5, .int 0), (0, .ref b), (1, .ref (aJ 0)), (2, .ref (aS 0)), (3, .ref aO), (4, .int (nI i))] dL_law_243 (by decide) rfl ?_
    refine y_aload_n Z dL_law_245 3 rfl rfl ?_
    refine y_aload_n Z dL_law_246 1 rfl rfl ?_
    refine y_iload Z dL_law_247 5 rfl ?_
    refine y_iconst (v := 1) Z dL_law_249 (by decide) ?_
    refine y_iadd Z dL_law_250 ?_
    refine y_sld Z hX hbl hbA (sx_in hi hL 1 (by decide)).1 (i + 1) (sx_in hi hL 1 (by decide)).2 dL_law_251 ?_
    refine y_VIw (rest := []) Z (k_X6_preview l D ht0 aS S (xs (i + 1)) m_nn) (y_cwV 1 Z ml_RL_107 im_X6_preview se_X6_preview in_X6 co_X6_preview rfl rfl hd_X6_preview ⟨Nat.le_of_ble_eq_true rfl, Nat.le_of_ble_eq_true rfl⟩) (wVM cI aJ (vm_enact J 1 (xs (i + 1)) (-1) (-1) (-1)) ++ wOut cL aO (vp_updL O 0 (Int32.toInt64 (perfR (J 0) 1 (xs (i + 1)) (-1) (-1) (-1))))) List.nil (by simp only [List.append_assoc, List.append_nil]) 6 0 rfl rfl rfl rfl (Nat.le_of_ble_eq_true rfl) dL_law_252 ⟨by show _ ≤ 1069; omega, by show _ ≤ 10084; omega⟩ (wL cI cL aJ (vm_enact J 1 (xs (i + 1)) (-1) (-1) (-1)) aO (vp_updL O 0 (Int32.toInt64 (perfR (J 0) 1 (xs (i + 1)) (-1) (-1) (-1)))) aS (mc_preview S (xs (i + 1)))) (by simp only [wL, mc_preview, List.append_assoc, List.append_nil, wMix, wLog, wPic, wRep, wScr, wVM, wMd, sR_eq, sR_ne, sF_eq, sF_ne, upd_eq, upd_ne, gs_eq, gs_ne, gm_4, gm_ne, Nat.reduceBEq]) ?_
    refine y_istore Z [(6, .int (if mv_go (mv_is (xs (i + 1))) (mv_hr (S 0 1)) 1 = 0 then 0 else mv_ds (S 1) 1 (xs (i + 1)) (-1) (-1) (-1))), (5, .int 0), (0, .ref b), (1, .ref (aJ 0)), (2, .ref (aS 0)), (3, .ref aO), (4, .int (nI i))] dL_law_255 (by decide) rfl ?_
    refine y_aload_n Z dL_law_257 4 rfl rfl ?_
    refine y_VIw (rest := []) Z (k_X6_thrown l D ht0 aS (mc_preview S (xs (i + 1)))) (y_cwV 0 Z ml_RL_102 im_X6_thrown se_X6_thrown in_X6 co_X6_thrown rfl rfl hd_X6_thrown ⟨Nat.le_of_ble_eq_true rfl, Nat.le_of_ble_eq_true rfl⟩) (wVM cI aJ (vm_enact J 1 (xs (i + 1)) (-1) (-1) (-1)) ++ wOut cL aO (vp_updL O 0 (Int32.toInt64 (perfR (J 0) 1 (xs (i + 1)) (-1) (-1) (-1))))) List.nil (by simp only [List.append_assoc, List.append_nil]) 6 0 rfl rfl rfl rfl (Nat.le_of_ble_eq_true rfl) dL_law_258 ⟨by show _ ≤ 1069; omega, by show _ ≤ 10084; omega⟩ (wL cI cL aJ (vm_enact J 1 (xs (i + 1)) (-1) (-1) (-1)) aO (vp_updL O 0 (Int32.toInt64 (perfR (J 0) 1 (xs (i + 1)) (-1) (-1) (-1)))) aS (mc_preview S (xs (i + 1)))) (by simp only [wL, List.append_assoc, List.append_nil]) ?_
    refine y_eq rfl rfl (st' := [.int 0]) (by rw [he]) ?_
    refine y_iload Z dL_law_261 1 rfl ?_
    refine y_icmp_eq (tgt := 268) Z dL_law_263 (by decide) (fun _ => ?_) (fun h => absurd rfl h)
    refine y_iload Z dL_law_268 1 rfl ?_
    refine y_if_ne (tgt := 285) Z dL_law_270 (by decide) (fun h => absurd rfl h) (fun _ => ?_)
    refine y_aload_n Z dL_law_273 5 rfl rfl ?_
    refine y_iconst (v := 0) Z dL_law_274 (by decide) ?_
    refine y_lald Z 27 1 rfl ht1 (vpd (by decide) (by decide)) 0 (by decide) dL_law_275 ?_
    refine y_iload Z dL_law_276 0 rfl ?_
    refine y_i2l Z dL_law_278 ?_
    refine y_eq rfl rfl (st' := [.long (Int32.toInt64 (if mv_go (mv_is (xs (i + 1))) (mv_hr (S 0 1)) 1 = 0 then 0 else mv_ds (S 1) 1 (xs (i + 1)) (-1) (-1) (-1))), .long (Int32.toInt64 (if mv_go (mv_is (xs (i + 1))) (mv_hr (S 0 1)) 1 = 0 then 0 else mv_ds (S 1) 1 (xs (i + 1)) (-1) (-1) (-1)))]) (by rw [← her]; rfl) ?_
    refine y_lcmp Z dL_law_279 ?_
    refine y_if_eq (tgt := 285) Z dL_law_280 (by decide) (fun _ => ?_) (fun h => absurd (lgc_self _) h)
    refine y_goto (tgt := 1756) Z dL_law_285 (by decide) ?_
    refine y_lv [2, 3, 4, 5, 6] (lv' := [(0, .ref b), (1, .ref (aJ 0)), (2, .ref (aS 0)), (3, .ref aO), (4, .int (nI i))]) rfl ?_
    exact y_wide (k := cells + 1) (n := slots + 6) (by omega) (by omega) (K _ _ _ hI)
  · refine y_aload_n Z dL_law_232 1 rfl rfl ?_
    refine y_aload_n Z dL_law_233 0 rfl rfl ?_
    refine y_iload Z dL_law_234 4 rfl ?_
    refine y_iconst (v := 1) Z dL_law_236 (by decide) ?_
    refine y_iadd Z dL_law_237 ?_
    refine y_sld Z hX hbl hbA (sx_in hi hL 1 (by decide)).1 (i + 1) (sx_in hi hL 1 (by decide)).2 dL_law_238 ?_
    refine y_aload_n Z dL_law_239 3 rfl rfl ?_
    refine y_SWw (rest := []) Z X (k_L_preview_b0 l htr D ht0 ht1 aJ J aO O (xs (i + 1)) hb) (y_cwSW 3 Z ml_RL_105 st_L_preview in_L co_L_preview rfl rfl hs_L_preview ⟨Nat.le_of_ble_eq_true rfl, Nat.le_of_ble_eq_true rfl⟩) List.nil (wMd cI aS S) (by simp only [List.nil_append, List.append_assoc]) rfl rfl (Nat.le_of_ble_eq_true rfl) dL_law_240 ⟨by show _ ≤ 1069; omega, by show _ ≤ 10084; omega⟩ (wL cI cL aJ J aO O aS S) (by simp only [wL, List.nil_append, List.append_assoc]) ?_
    refine y_istore Z [(5, .int 1), (0, .ref b), (1, .ref (aJ 0)), (2, .ref (aS 0)), (3, .ref aO), (4, .int (nI i))] dL_law_243 (by decide) rfl ?_
    refine y_aload_n Z dL_law_245 3 rfl rfl ?_
    refine y_aload_n Z dL_law_246 1 rfl rfl ?_
    refine y_iload Z dL_law_247 5 rfl ?_
    refine y_iconst (v := 1) Z dL_law_249 (by decide) ?_
    refine y_iadd Z dL_law_250 ?_
    refine y_sld Z hX hbl hbA (sx_in hi hL 1 (by decide)).1 (i + 1) (sx_in hi hL 1 (by decide)).2 dL_law_251 ?_
    refine y_VIw (rest := []) Z (k_X6_preview l D ht0 aS S (xs (i + 1)) m_nn) (y_cwV 1 Z ml_RL_107 im_X6_preview se_X6_preview in_X6 co_X6_preview rfl rfl hd_X6_preview ⟨Nat.le_of_ble_eq_true rfl, Nat.le_of_ble_eq_true rfl⟩) (wVM cI aJ J ++ wOut cL aO O) List.nil (by simp only [List.append_assoc, List.append_nil]) 6 0 rfl rfl rfl rfl (Nat.le_of_ble_eq_true rfl) dL_law_252 ⟨by show _ ≤ 1069; omega, by show _ ≤ 10084; omega⟩ (wL cI cL aJ J aO O aS (mc_preview S (xs (i + 1)))) (by simp only [wL, mc_preview, List.append_assoc, List.append_nil, wMix, wLog, wPic, wRep, wScr, wVM, wMd, sR_eq, sR_ne, sF_eq, sF_ne, upd_eq, upd_ne, gs_eq, gs_ne, gm_4, gm_ne, Nat.reduceBEq]) ?_
    refine y_istore Z [(6, .int (if mv_go (mv_is (xs (i + 1))) (mv_hr (S 0 1)) 1 = 0 then 0 else mv_ds (S 1) 1 (xs (i + 1)) (-1) (-1) (-1))), (5, .int 1), (0, .ref b), (1, .ref (aJ 0)), (2, .ref (aS 0)), (3, .ref aO), (4, .int (nI i))] dL_law_255 (by decide) rfl ?_
    refine y_aload_n Z dL_law_257 4 rfl rfl ?_
    refine y_VIw (rest := []) Z (k_X6_thrown l D ht0 aS (mc_preview S (xs (i + 1)))) (y_cwV 0 Z ml_RL_102 im_X6_thrown se_X6_thrown in_X6 co_X6_thrown rfl rfl hd_X6_thrown ⟨Nat.le_of_ble_eq_true rfl, Nat.le_of_ble_eq_true rfl⟩) (wVM cI aJ J ++ wOut cL aO O) List.nil (by simp only [List.append_assoc, List.append_nil]) 6 0 rfl rfl rfl rfl (Nat.le_of_ble_eq_true rfl) dL_law_258 ⟨by show _ ≤ 1069; omega, by show _ ≤ 10084; omega⟩ (wL cI cL aJ J aO O aS (mc_preview S (xs (i + 1)))) (by simp only [wL, List.append_assoc, List.append_nil]) ?_
    refine y_eq rfl rfl (st' := [.int 1]) (by rw [he]) ?_
    refine y_iload Z dL_law_261 1 rfl ?_
    refine y_icmp_eq (tgt := 268) Z dL_law_263 (by decide) (fun _ => ?_) (fun h => absurd rfl h)
    refine y_iload Z dL_law_268 1 rfl ?_
    refine y_if_ne (tgt := 285) Z dL_law_270 (by decide) (fun _ => ?_) (fun h => absurd h (by decide))
    refine y_goto (tgt := 1756) Z dL_law_285 (by decide) ?_
    refine y_lv [2, 3, 4, 5, 6] (lv' := [(0, .ref b), (1, .ref (aJ 0)), (2, .ref (aS 0)), (3, .ref aO), (4, .int (nI i))]) rfl ?_
    exact y_wide (k := cells + 1) (n := slots + 6) (by omega) (by omega) (K _ _ _ hI)
  · refine y_aload_n Z dL_law_232 1 rfl rfl ?_
    refine y_aload_n Z dL_law_233 0 rfl rfl ?_
    refine y_iload Z dL_law_234 4 rfl ?_
    refine y_iconst (v := 1) Z dL_law_236 (by decide) ?_
    refine y_iadd Z dL_law_237 ?_
    refine y_sld Z hX hbl hbA (sx_in hi hL 1 (by decide)).1 (i + 1) (sx_in hi hL 1 (by decide)).2 dL_law_238 ?_
    refine y_aload_n Z dL_law_239 3 rfl rfl ?_
    refine y_SWw (rest := []) Z X (k_L_preview_b1 l htr D ht0 ht1 aJ J aO O (xs (i + 1)) o_q hb) (y_cwSW 3 Z ml_RL_105 st_L_preview in_L co_L_preview rfl rfl hs_L_preview ⟨Nat.le_of_ble_eq_true rfl, Nat.le_of_ble_eq_true rfl⟩) List.nil (wMd cI aS S) (by simp only [List.nil_append, List.append_assoc]) rfl rfl (Nat.le_of_ble_eq_true rfl) dL_law_240 ⟨by show _ ≤ 1069; omega, by show _ ≤ 10084; omega⟩ (wL cI cL aJ J aO O aS S) (by simp only [wL, List.nil_append, List.append_assoc]) ?_
    refine y_istore Z [(5, .int 2), (0, .ref b), (1, .ref (aJ 0)), (2, .ref (aS 0)), (3, .ref aO), (4, .int (nI i))] dL_law_243 (by decide) rfl ?_
    refine y_aload_n Z dL_law_245 3 rfl rfl ?_
    refine y_aload_n Z dL_law_246 1 rfl rfl ?_
    refine y_iload Z dL_law_247 5 rfl ?_
    refine y_iconst (v := 1) Z dL_law_249 (by decide) ?_
    refine y_iadd Z dL_law_250 ?_
    refine y_sld Z hX hbl hbA (sx_in hi hL 1 (by decide)).1 (i + 1) (sx_in hi hL 1 (by decide)).2 dL_law_251 ?_
    refine y_VIw (rest := []) Z (k_X6_preview l D ht0 aS S (xs (i + 1)) m_nn) (y_cwV 1 Z ml_RL_107 im_X6_preview se_X6_preview in_X6 co_X6_preview rfl rfl hd_X6_preview ⟨Nat.le_of_ble_eq_true rfl, Nat.le_of_ble_eq_true rfl⟩) (wVM cI aJ J ++ wOut cL aO O) List.nil (by simp only [List.append_assoc, List.append_nil]) 6 0 rfl rfl rfl rfl (Nat.le_of_ble_eq_true rfl) dL_law_252 ⟨by show _ ≤ 1069; omega, by show _ ≤ 10084; omega⟩ (wL cI cL aJ J aO O aS (mc_preview S (xs (i + 1)))) (by simp only [wL, mc_preview, List.append_assoc, List.append_nil, wMix, wLog, wPic, wRep, wScr, wVM, wMd, sR_eq, sR_ne, sF_eq, sF_ne, upd_eq, upd_ne, gs_eq, gs_ne, gm_4, gm_ne, Nat.reduceBEq]) ?_
    refine y_istore Z [(6, .int (if mv_go (mv_is (xs (i + 1))) (mv_hr (S 0 1)) 1 = 0 then 0 else mv_ds (S 1) 1 (xs (i + 1)) (-1) (-1) (-1))), (5, .int 2), (0, .ref b), (1, .ref (aJ 0)), (2, .ref (aS 0)), (3, .ref aO), (4, .int (nI i))] dL_law_255 (by decide) rfl ?_
    refine y_aload_n Z dL_law_257 4 rfl rfl ?_
    refine y_VIw (rest := []) Z (k_X6_thrown l D ht0 aS (mc_preview S (xs (i + 1)))) (y_cwV 0 Z ml_RL_102 im_X6_thrown se_X6_thrown in_X6 co_X6_thrown rfl rfl hd_X6_thrown ⟨Nat.le_of_ble_eq_true rfl, Nat.le_of_ble_eq_true rfl⟩) (wVM cI aJ J ++ wOut cL aO O) List.nil (by simp only [List.append_assoc, List.append_nil]) 6 0 rfl rfl rfl rfl (Nat.le_of_ble_eq_true rfl) dL_law_258 ⟨by show _ ≤ 1069; omega, by show _ ≤ 10084; omega⟩ (wL cI cL aJ J aO O aS (mc_preview S (xs (i + 1)))) (by simp only [wL, List.append_assoc, List.append_nil]) ?_
    refine y_eq rfl rfl (st' := [.int 2]) (by rw [he]) ?_
    refine y_iload Z dL_law_261 1 rfl ?_
    refine y_icmp_eq (tgt := 268) Z dL_law_263 (by decide) (fun _ => ?_) (fun h => absurd rfl h)
    refine y_iload Z dL_law_268 1 rfl ?_
    refine y_if_ne (tgt := 285) Z dL_law_270 (by decide) (fun _ => ?_) (fun h => absurd h (by decide))
    refine y_goto (tgt := 1756) Z dL_law_285 (by decide) ?_
    refine y_lv [2, 3, 4, 5, 6] (lv' := [(0, .ref b), (1, .ref (aJ 0)), (2, .ref (aS 0)), (3, .ref aO), (4, .int (nI i))]) rfl ?_
    exact y_wide (k := cells + 1) (n := slots + 6) (by omega) (by omega) (K _ _ _ hI)
set_option maxHeartbeats 4000000 in
set_option maxRecDepth 100000 in
theorem lc_transition {p : Program} {l : Launch} {e : Env} {s : State} {m : MethodId} {args : Array Value} {below : List Frame} {meth : Method} {c : Code} {Q : State → Prop} {D : va_G} {A : Nat → Prop} {tys : List (ClassId × FieldType)} {cI cL : ClassId} (Z : Zz p m c cL_law 9 s args wsL_law RL D tys A) (X : Xz s A) (htr : l.stackTraces = false) (ht0 : tys[0]? = some (cI, .int)) (ht1 : tys[1]? = some (cL, .long)) {b L : Nat} {xs : Nat → Int32} (hX : va_X b L xs s s.heap) (hbl : b < s.heap.size) (hbA : ¬ A b) {i : Nat} (hi : i + 4 < L) (hL : L ≤ 2560) {cells slots : Nat} (hc : cells + 1 ≤ 1069) (hs : slots + 6 ≤ 10084) {aJ : Nat → Nat} {aO : Nat} {aS : Nat → Nat} {J : Nat → Nat → Nat → Int32} {O : Nat → Int64} {S : Nat → Nat → Int32} (I : Inv J S) (K : ∀ (J2 : Nat → Nat → Nat → Int32) (O2 : Nat → Int64) (S2 : Nat → Nat → Int32), Inv J2 S2 → Yy p l e room_1 s m args below meth c Q D A 9 (cells + 1) (slots + 6) (wL cI cL aJ J2 aO O2 aS S2) [(0, .ref b), (1, .ref (aJ 0)), (2, .ref (aS 0)), (3, .ref aO), (4, .int (nI i))] [] 1756) : Yy p l e room_1 s m args below meth c Q D A 9 cells slots (wL cI cL aJ J aO O aS S) [(0, .ref b), (1, .ref (aJ 0)), (2, .ref (aS 0)), (3, .ref aO), (4, .int (nI i))] [] 288 := by
  obtain ⟨m_nn, hr⟩ := c2_transition I (xs (i + 1)) (xs (i + 2))
  rcases hr with ⟨o_k, o_ra, o_m, he, her, hI⟩ | ⟨hb, he, hI⟩ | ⟨o_k, hb, he, hI⟩ | ⟨o_k, o_ra, hb, he, hI⟩
  · refine y_aload_n Z dL_law_288 1 rfl rfl ?_
    refine y_aload_n Z dL_law_289 0 rfl rfl ?_
    refine y_iload Z dL_law_290 4 rfl ?_
    refine y_iconst (v := 1) Z dL_law_292 (by decide) ?_
    refine y_iadd Z dL_law_293 ?_
    refine y_sld Z hX hbl hbA (sx_in hi hL 1 (by decide)).1 (i + 1) (sx_in hi hL 1 (by decide)).2 dL_law_294 ?_
    refine y_aload_n Z dL_law_295 0 rfl rfl ?_
    refine y_iload Z dL_law_296 4 rfl ?_
    refine y_iconst (v := 2) Z dL_law_298 (by decide) ?_
    refine y_iadd Z dL_law_299 ?_
    refine y_sld Z hX hbl hbA (sx_in hi hL 2 (by decide)).1 (i + 2) (sx_in hi hL 2 (by decide)).2 dL_law_300 ?_
    refine y_aload_n Z dL_law_301 3 rfl rfl ?_
    refine y_SWw (rest := []) Z X (k_L_transition l htr D ht0 ht1 aJ J aO O (xs (i + 1)) (xs (i + 2)) o_k o_ra o_m) (y_cwSW 4 Z ml_RL_108 st_L_transition in_L co_L_transition rfl rfl hs_L_transition ⟨Nat.le_of_ble_eq_true rfl, Nat.le_of_ble_eq_true rfl⟩) List.nil (wMd cI aS S) (by simp only [List.nil_append, List.append_assoc]) rfl rfl (Nat.le_of_ble_eq_true rfl) dL_law_302 ⟨by show _ ≤ 1069; omega, by show _ ≤ 10084; omega⟩ (wL cI cL aJ (vm_enact J 2 (xs (i + 1)) (xs (i + 2)) (-1) (-1)) aO (vp_updL O 0 (Int32.toInt64 (perfR (J 0) 2 (xs (i + 1)) (xs (i + 2)) (-1) (-1)))) aS S) (by simp only [wL, List.nil_append, List.append_assoc]) ?_
    refine y_istore Z [(5, .int 0), (0, .ref b), (1, .ref (aJ 0)), (2, .ref (aS 0)), (3, .ref aO), (4, .int (nI i))] dL_law_305 (by decide) rfl ?_
    refine y_aload_n Z dL_law_307 3 rfl rfl ?_
    refine y_aload_n Z dL_law_308 1 rfl rfl ?_
    refine y_iload Z dL_law_309 5 rfl ?_
    refine y_iconst (v := 1) Z dL_law_311 (by decide) ?_
    refine y_iadd Z dL_law_312 ?_
    refine y_sld Z hX hbl hbA (sx_in hi hL 1 (by decide)).1 (i + 1) (sx_in hi hL 1 (by decide)).2 dL_law_313 ?_
    refine y_aload_n Z dL_law_314 1 rfl rfl ?_
    refine y_iload Z dL_law_315 5 rfl ?_
    refine y_iconst (v := 2) Z dL_law_317 (by decide) ?_
    refine y_iadd Z dL_law_318 ?_
    refine y_sld Z hX hbl hbA (sx_in hi hL 2 (by decide)).1 (i + 2) (sx_in hi hL 2 (by decide)).2 dL_law_319 ?_
    refine y_VIw (rest := []) Z (k_X6_transition l D ht0 aS S (xs (i + 1)) (xs (i + 2)) m_nn) (y_cwV 2 Z ml_RL_111 im_X6_transition se_X6_transition in_X6 co_X6_transition rfl rfl hd_X6_transition ⟨Nat.le_of_ble_eq_true rfl, Nat.le_of_ble_eq_true rfl⟩) (wVM cI aJ (vm_enact J 2 (xs (i + 1)) (xs (i + 2)) (-1) (-1)) ++ wOut cL aO (vp_updL O 0 (Int32.toInt64 (perfR (J 0) 2 (xs (i + 1)) (xs (i + 2)) (-1) (-1))))) List.nil (by simp only [List.append_assoc, List.append_nil]) 6 0 rfl rfl rfl rfl (Nat.le_of_ble_eq_true rfl) dL_law_320 ⟨by show _ ≤ 1069; omega, by show _ ≤ 10084; omega⟩ (wL cI cL aJ (vm_enact J 2 (xs (i + 1)) (xs (i + 2)) (-1) (-1)) aO (vp_updL O 0 (Int32.toInt64 (perfR (J 0) 2 (xs (i + 1)) (xs (i + 2)) (-1) (-1)))) aS (mc_transition S (xs (i + 1)) (xs (i + 2)))) (by simp only [wL, mc_transition, List.append_assoc, List.append_nil, wMix, wLog, wPic, wRep, wScr, wVM, wMd, sR_eq, sR_ne, sF_eq, sF_ne, upd_eq, upd_ne, gs_eq, gs_ne, gm_4, gm_ne, Nat.reduceBEq]) ?_
    refine y_istore Z [(6, .int (if mv_go (mv_an (mv_in (Int32.toInt64 (xs (i + 1))) 0 2) (mv_in (Int32.toInt64 (xs (i + 2))) 1 100)) (mv_hr (S 0 1)) 1 = 0 then 0 else mv_ds (S 1) 2 (xs (i + 1)) (xs (i + 2)) (-1) (-1))), (5, .int 0), (0, .ref b), (1, .ref (aJ 0)), (2, .ref (aS 0)), (3, .ref aO), (4, .int (nI i))] dL_law_323 (by decide) rfl ?_
    refine y_aload_n Z dL_law_325 4 rfl rfl ?_
    refine y_VIw (rest := []) Z (k_X6_thrown l D ht0 aS (mc_transition S (xs (i + 1)) (xs (i + 2)))) (y_cwV 0 Z ml_RL_102 im_X6_thrown se_X6_thrown in_X6 co_X6_thrown rfl rfl hd_X6_thrown ⟨Nat.le_of_ble_eq_true rfl, Nat.le_of_ble_eq_true rfl⟩) (wVM cI aJ (vm_enact J 2 (xs (i + 1)) (xs (i + 2)) (-1) (-1)) ++ wOut cL aO (vp_updL O 0 (Int32.toInt64 (perfR (J 0) 2 (xs (i + 1)) (xs (i + 2)) (-1) (-1))))) List.nil (by simp only [List.append_assoc, List.append_nil]) 6 0 rfl rfl rfl rfl (Nat.le_of_ble_eq_true rfl) dL_law_326 ⟨by show _ ≤ 1069; omega, by show _ ≤ 10084; omega⟩ (wL cI cL aJ (vm_enact J 2 (xs (i + 1)) (xs (i + 2)) (-1) (-1)) aO (vp_updL O 0 (Int32.toInt64 (perfR (J 0) 2 (xs (i + 1)) (xs (i + 2)) (-1) (-1)))) aS (mc_transition S (xs (i + 1)) (xs (i + 2)))) (by simp only [wL, List.append_assoc, List.append_nil]) ?_
    refine y_eq rfl rfl (st' := [.int 0]) (by rw [he]) ?_
    refine y_iload Z dL_law_329 1 rfl ?_
    refine y_icmp_eq (tgt := 336) Z dL_law_331 (by decide) (fun _ => ?_) (fun h => absurd rfl h)
    refine y_iload Z dL_law_336 1 rfl ?_
    refine y_if_ne (tgt := 353) Z dL_law_338 (by decide) (fun h => absurd rfl h) (fun _ => ?_)
    refine y_aload_n Z dL_law_341 5 rfl rfl ?_
    refine y_iconst (v := 0) Z dL_law_342 (by decide) ?_
    refine y_lald Z 27 1 rfl ht1 (vpd (by decide) (by decide)) 0 (by decide) dL_law_343 ?_
    refine y_iload Z dL_law_344 0 rfl ?_
    refine y_i2l Z dL_law_346 ?_
    refine y_eq rfl rfl (st' := [.long (Int32.toInt64 (if mv_go (mv_an (mv_in (Int32.toInt64 (xs (i + 1))) 0 2) (mv_in (Int32.toInt64 (xs (i + 2))) 1 100)) (mv_hr (S 0 1)) 1 = 0 then 0 else mv_ds (S 1) 2 (xs (i + 1)) (xs (i + 2)) (-1) (-1))), .long (Int32.toInt64 (if mv_go (mv_an (mv_in (Int32.toInt64 (xs (i + 1))) 0 2) (mv_in (Int32.toInt64 (xs (i + 2))) 1 100)) (mv_hr (S 0 1)) 1 = 0 then 0 else mv_ds (S 1) 2 (xs (i + 1)) (xs (i + 2)) (-1) (-1)))]) (by rw [← her]; rfl) ?_
    refine y_lcmp Z dL_law_347 ?_
    refine y_if_eq (tgt := 353) Z dL_law_348 (by decide) (fun _ => ?_) (fun h => absurd (lgc_self _) h)
    refine y_goto (tgt := 1756) Z dL_law_353 (by decide) ?_
    refine y_lv [2, 3, 4, 5, 6] (lv' := [(0, .ref b), (1, .ref (aJ 0)), (2, .ref (aS 0)), (3, .ref aO), (4, .int (nI i))]) rfl ?_
    exact y_wide (k := cells + 1) (n := slots + 6) (by omega) (by omega) (K _ _ _ hI)
  · refine y_aload_n Z dL_law_288 1 rfl rfl ?_
    refine y_aload_n Z dL_law_289 0 rfl rfl ?_
    refine y_iload Z dL_law_290 4 rfl ?_
    refine y_iconst (v := 1) Z dL_law_292 (by decide) ?_
    refine y_iadd Z dL_law_293 ?_
    refine y_sld Z hX hbl hbA (sx_in hi hL 1 (by decide)).1 (i + 1) (sx_in hi hL 1 (by decide)).2 dL_law_294 ?_
    refine y_aload_n Z dL_law_295 0 rfl rfl ?_
    refine y_iload Z dL_law_296 4 rfl ?_
    refine y_iconst (v := 2) Z dL_law_298 (by decide) ?_
    refine y_iadd Z dL_law_299 ?_
    refine y_sld Z hX hbl hbA (sx_in hi hL 2 (by decide)).1 (i + 2) (sx_in hi hL 2 (by decide)).2 dL_law_300 ?_
    refine y_aload_n Z dL_law_301 3 rfl rfl ?_
    refine y_SWw (rest := []) Z X (k_L_transition_b0 l htr D ht0 ht1 aJ J aO O (xs (i + 1)) (xs (i + 2)) hb) (y_cwSW 4 Z ml_RL_108 st_L_transition in_L co_L_transition rfl rfl hs_L_transition ⟨Nat.le_of_ble_eq_true rfl, Nat.le_of_ble_eq_true rfl⟩) List.nil (wMd cI aS S) (by simp only [List.nil_append, List.append_assoc]) rfl rfl (Nat.le_of_ble_eq_true rfl) dL_law_302 ⟨by show _ ≤ 1069; omega, by show _ ≤ 10084; omega⟩ (wL cI cL aJ J aO O aS S) (by simp only [wL, List.nil_append, List.append_assoc]) ?_
    refine y_istore Z [(5, .int 1), (0, .ref b), (1, .ref (aJ 0)), (2, .ref (aS 0)), (3, .ref aO), (4, .int (nI i))] dL_law_305 (by decide) rfl ?_
    refine y_aload_n Z dL_law_307 3 rfl rfl ?_
    refine y_aload_n Z dL_law_308 1 rfl rfl ?_
    refine y_iload Z dL_law_309 5 rfl ?_
    refine y_iconst (v := 1) Z dL_law_311 (by decide) ?_
    refine y_iadd Z dL_law_312 ?_
    refine y_sld Z hX hbl hbA (sx_in hi hL 1 (by decide)).1 (i + 1) (sx_in hi hL 1 (by decide)).2 dL_law_313 ?_
    refine y_aload_n Z dL_law_314 1 rfl rfl ?_
    refine y_iload Z dL_law_315 5 rfl ?_
    refine y_iconst (v := 2) Z dL_law_317 (by decide) ?_
    refine y_iadd Z dL_law_318 ?_
    refine y_sld Z hX hbl hbA (sx_in hi hL 2 (by decide)).1 (i + 2) (sx_in hi hL 2 (by decide)).2 dL_law_319 ?_
    refine y_VIw (rest := []) Z (k_X6_transition l D ht0 aS S (xs (i + 1)) (xs (i + 2)) m_nn) (y_cwV 2 Z ml_RL_111 im_X6_transition se_X6_transition in_X6 co_X6_transition rfl rfl hd_X6_transition ⟨Nat.le_of_ble_eq_true rfl, Nat.le_of_ble_eq_true rfl⟩) (wVM cI aJ J ++ wOut cL aO O) List.nil (by simp only [List.append_assoc, List.append_nil]) 6 0 rfl rfl rfl rfl (Nat.le_of_ble_eq_true rfl) dL_law_320 ⟨by show _ ≤ 1069; omega, by show _ ≤ 10084; omega⟩ (wL cI cL aJ J aO O aS (mc_transition S (xs (i + 1)) (xs (i + 2)))) (by simp only [wL, mc_transition, List.append_assoc, List.append_nil, wMix, wLog, wPic, wRep, wScr, wVM, wMd, sR_eq, sR_ne, sF_eq, sF_ne, upd_eq, upd_ne, gs_eq, gs_ne, gm_4, gm_ne, Nat.reduceBEq]) ?_
    refine y_istore Z [(6, .int (if mv_go (mv_an (mv_in (Int32.toInt64 (xs (i + 1))) 0 2) (mv_in (Int32.toInt64 (xs (i + 2))) 1 100)) (mv_hr (S 0 1)) 1 = 0 then 0 else mv_ds (S 1) 2 (xs (i + 1)) (xs (i + 2)) (-1) (-1))), (5, .int 1), (0, .ref b), (1, .ref (aJ 0)), (2, .ref (aS 0)), (3, .ref aO), (4, .int (nI i))] dL_law_323 (by decide) rfl ?_
    refine y_aload_n Z dL_law_325 4 rfl rfl ?_
    refine y_VIw (rest := []) Z (k_X6_thrown l D ht0 aS (mc_transition S (xs (i + 1)) (xs (i + 2)))) (y_cwV 0 Z ml_RL_102 im_X6_thrown se_X6_thrown in_X6 co_X6_thrown rfl rfl hd_X6_thrown ⟨Nat.le_of_ble_eq_true rfl, Nat.le_of_ble_eq_true rfl⟩) (wVM cI aJ J ++ wOut cL aO O) List.nil (by simp only [List.append_assoc, List.append_nil]) 6 0 rfl rfl rfl rfl (Nat.le_of_ble_eq_true rfl) dL_law_326 ⟨by show _ ≤ 1069; omega, by show _ ≤ 10084; omega⟩ (wL cI cL aJ J aO O aS (mc_transition S (xs (i + 1)) (xs (i + 2)))) (by simp only [wL, List.append_assoc, List.append_nil]) ?_
    refine y_eq rfl rfl (st' := [.int 1]) (by rw [he]) ?_
    refine y_iload Z dL_law_329 1 rfl ?_
    refine y_icmp_eq (tgt := 336) Z dL_law_331 (by decide) (fun _ => ?_) (fun h => absurd rfl h)
    refine y_iload Z dL_law_336 1 rfl ?_
    refine y_if_ne (tgt := 353) Z dL_law_338 (by decide) (fun _ => ?_) (fun h => absurd h (by decide))
    refine y_goto (tgt := 1756) Z dL_law_353 (by decide) ?_
    refine y_lv [2, 3, 4, 5, 6] (lv' := [(0, .ref b), (1, .ref (aJ 0)), (2, .ref (aS 0)), (3, .ref aO), (4, .int (nI i))]) rfl ?_
    exact y_wide (k := cells + 1) (n := slots + 6) (by omega) (by omega) (K _ _ _ hI)
  · refine y_aload_n Z dL_law_288 1 rfl rfl ?_
    refine y_aload_n Z dL_law_289 0 rfl rfl ?_
    refine y_iload Z dL_law_290 4 rfl ?_
    refine y_iconst (v := 1) Z dL_law_292 (by decide) ?_
    refine y_iadd Z dL_law_293 ?_
    refine y_sld Z hX hbl hbA (sx_in hi hL 1 (by decide)).1 (i + 1) (sx_in hi hL 1 (by decide)).2 dL_law_294 ?_
    refine y_aload_n Z dL_law_295 0 rfl rfl ?_
    refine y_iload Z dL_law_296 4 rfl ?_
    refine y_iconst (v := 2) Z dL_law_298 (by decide) ?_
    refine y_iadd Z dL_law_299 ?_
    refine y_sld Z hX hbl hbA (sx_in hi hL 2 (by decide)).1 (i + 2) (sx_in hi hL 2 (by decide)).2 dL_law_300 ?_
    refine y_aload_n Z dL_law_301 3 rfl rfl ?_
    refine y_SWw (rest := []) Z X (k_L_transition_b1 l htr D ht0 ht1 aJ J aO O (xs (i + 1)) (xs (i + 2)) o_k hb) (y_cwSW 4 Z ml_RL_108 st_L_transition in_L co_L_transition rfl rfl hs_L_transition ⟨Nat.le_of_ble_eq_true rfl, Nat.le_of_ble_eq_true rfl⟩) List.nil (wMd cI aS S) (by simp only [List.nil_append, List.append_assoc]) rfl rfl (Nat.le_of_ble_eq_true rfl) dL_law_302 ⟨by show _ ≤ 1069; omega, by show _ ≤ 10084; omega⟩ (wL cI cL aJ J aO O aS S) (by simp only [wL, List.nil_append, List.append_assoc]) ?_
    refine y_istore Z [(5, .int 1), (0, .ref b), (1, .ref (aJ 0)), (2, .ref (aS 0)), (3, .ref aO), (4, .int (nI i))] dL_law_305 (by decide) rfl ?_
    refine y_aload_n Z dL_law_307 3 rfl rfl ?_
    refine y_aload_n Z dL_law_308 1 rfl rfl ?_
    refine y_iload Z dL_law_309 5 rfl ?_
    refine y_iconst (v := 1) Z dL_law_311 (by decide) ?_
    refine y_iadd Z dL_law_312 ?_
    refine y_sld Z hX hbl hbA (sx_in hi hL 1 (by decide)).1 (i + 1) (sx_in hi hL 1 (by decide)).2 dL_law_313 ?_
    refine y_aload_n Z dL_law_314 1 rfl rfl ?_
    refine y_iload Z dL_law_315 5 rfl ?_
    refine y_iconst (v := 2) Z dL_law_317 (by decide) ?_
    refine y_iadd Z dL_law_318 ?_
    refine y_sld Z hX hbl hbA (sx_in hi hL 2 (by decide)).1 (i + 2) (sx_in hi hL 2 (by decide)).2 dL_law_319 ?_
    refine y_VIw (rest := []) Z (k_X6_transition l D ht0 aS S (xs (i + 1)) (xs (i + 2)) m_nn) (y_cwV 2 Z ml_RL_111 im_X6_transition se_X6_transition in_X6 co_X6_transition rfl rfl hd_X6_transition ⟨Nat.le_of_ble_eq_true rfl, Nat.le_of_ble_eq_true rfl⟩) (wVM cI aJ J ++ wOut cL aO O) List.nil (by simp only [List.append_assoc, List.append_nil]) 6 0 rfl rfl rfl rfl (Nat.le_of_ble_eq_true rfl) dL_law_320 ⟨by show _ ≤ 1069; omega, by show _ ≤ 10084; omega⟩ (wL cI cL aJ J aO O aS (mc_transition S (xs (i + 1)) (xs (i + 2)))) (by simp only [wL, mc_transition, List.append_assoc, List.append_nil, wMix, wLog, wPic, wRep, wScr, wVM, wMd, sR_eq, sR_ne, sF_eq, sF_ne, upd_eq, upd_ne, gs_eq, gs_ne, gm_4, gm_ne, Nat.reduceBEq]) ?_
    refine y_istore Z [(6, .int (if mv_go (mv_an (mv_in (Int32.toInt64 (xs (i + 1))) 0 2) (mv_in (Int32.toInt64 (xs (i + 2))) 1 100)) (mv_hr (S 0 1)) 1 = 0 then 0 else mv_ds (S 1) 2 (xs (i + 1)) (xs (i + 2)) (-1) (-1))), (5, .int 1), (0, .ref b), (1, .ref (aJ 0)), (2, .ref (aS 0)), (3, .ref aO), (4, .int (nI i))] dL_law_323 (by decide) rfl ?_
    refine y_aload_n Z dL_law_325 4 rfl rfl ?_
    refine y_VIw (rest := []) Z (k_X6_thrown l D ht0 aS (mc_transition S (xs (i + 1)) (xs (i + 2)))) (y_cwV 0 Z ml_RL_102 im_X6_thrown se_X6_thrown in_X6 co_X6_thrown rfl rfl hd_X6_thrown ⟨Nat.le_of_ble_eq_true rfl, Nat.le_of_ble_eq_true rfl⟩) (wVM cI aJ J ++ wOut cL aO O) List.nil (by simp only [List.append_assoc, List.append_nil]) 6 0 rfl rfl rfl rfl (Nat.le_of_ble_eq_true rfl) dL_law_326 ⟨by show _ ≤ 1069; omega, by show _ ≤ 10084; omega⟩ (wL cI cL aJ J aO O aS (mc_transition S (xs (i + 1)) (xs (i + 2)))) (by simp only [wL, List.append_assoc, List.append_nil]) ?_
    refine y_eq rfl rfl (st' := [.int 1]) (by rw [he]) ?_
    refine y_iload Z dL_law_329 1 rfl ?_
    refine y_icmp_eq (tgt := 336) Z dL_law_331 (by decide) (fun _ => ?_) (fun h => absurd rfl h)
    refine y_iload Z dL_law_336 1 rfl ?_
    refine y_if_ne (tgt := 353) Z dL_law_338 (by decide) (fun _ => ?_) (fun h => absurd h (by decide))
    refine y_goto (tgt := 1756) Z dL_law_353 (by decide) ?_
    refine y_lv [2, 3, 4, 5, 6] (lv' := [(0, .ref b), (1, .ref (aJ 0)), (2, .ref (aS 0)), (3, .ref aO), (4, .int (nI i))]) rfl ?_
    exact y_wide (k := cells + 1) (n := slots + 6) (by omega) (by omega) (K _ _ _ hI)
  · refine y_aload_n Z dL_law_288 1 rfl rfl ?_
    refine y_aload_n Z dL_law_289 0 rfl rfl ?_
    refine y_iload Z dL_law_290 4 rfl ?_
    refine y_iconst (v := 1) Z dL_law_292 (by decide) ?_
    refine y_iadd Z dL_law_293 ?_
    refine y_sld Z hX hbl hbA (sx_in hi hL 1 (by decide)).1 (i + 1) (sx_in hi hL 1 (by decide)).2 dL_law_294 ?_
    refine y_aload_n Z dL_law_295 0 rfl rfl ?_
    refine y_iload Z dL_law_296 4 rfl ?_
    refine y_iconst (v := 2) Z dL_law_298 (by decide) ?_
    refine y_iadd Z dL_law_299 ?_
    refine y_sld Z hX hbl hbA (sx_in hi hL 2 (by decide)).1 (i + 2) (sx_in hi hL 2 (by decide)).2 dL_law_300 ?_
    refine y_aload_n Z dL_law_301 3 rfl rfl ?_
    refine y_SWw (rest := []) Z X (k_L_transition_b2 l htr D ht0 ht1 aJ J aO O (xs (i + 1)) (xs (i + 2)) o_k o_ra hb) (y_cwSW 4 Z ml_RL_108 st_L_transition in_L co_L_transition rfl rfl hs_L_transition ⟨Nat.le_of_ble_eq_true rfl, Nat.le_of_ble_eq_true rfl⟩) List.nil (wMd cI aS S) (by simp only [List.nil_append, List.append_assoc]) rfl rfl (Nat.le_of_ble_eq_true rfl) dL_law_302 ⟨by show _ ≤ 1069; omega, by show _ ≤ 10084; omega⟩ (wL cI cL aJ J aO O aS S) (by simp only [wL, List.nil_append, List.append_assoc]) ?_
    refine y_istore Z [(5, .int 2), (0, .ref b), (1, .ref (aJ 0)), (2, .ref (aS 0)), (3, .ref aO), (4, .int (nI i))] dL_law_305 (by decide) rfl ?_
    refine y_aload_n Z dL_law_307 3 rfl rfl ?_
    refine y_aload_n Z dL_law_308 1 rfl rfl ?_
    refine y_iload Z dL_law_309 5 rfl ?_
    refine y_iconst (v := 1) Z dL_law_311 (by decide) ?_
    refine y_iadd Z dL_law_312 ?_
    refine y_sld Z hX hbl hbA (sx_in hi hL 1 (by decide)).1 (i + 1) (sx_in hi hL 1 (by decide)).2 dL_law_313 ?_
    refine y_aload_n Z dL_law_314 1 rfl rfl ?_
    refine y_iload Z dL_law_315 5 rfl ?_
    refine y_iconst (v := 2) Z dL_law_317 (by decide) ?_
    refine y_iadd Z dL_law_318 ?_
    refine y_sld Z hX hbl hbA (sx_in hi hL 2 (by decide)).1 (i + 2) (sx_in hi hL 2 (by decide)).2 dL_law_319 ?_
    refine y_VIw (rest := []) Z (k_X6_transition l D ht0 aS S (xs (i + 1)) (xs (i + 2)) m_nn) (y_cwV 2 Z ml_RL_111 im_X6_transition se_X6_transition in_X6 co_X6_transition rfl rfl hd_X6_transition ⟨Nat.le_of_ble_eq_true rfl, Nat.le_of_ble_eq_true rfl⟩) (wVM cI aJ J ++ wOut cL aO O) List.nil (by simp only [List.append_assoc, List.append_nil]) 6 0 rfl rfl rfl rfl (Nat.le_of_ble_eq_true rfl) dL_law_320 ⟨by show _ ≤ 1069; omega, by show _ ≤ 10084; omega⟩ (wL cI cL aJ J aO O aS (mc_transition S (xs (i + 1)) (xs (i + 2)))) (by simp only [wL, mc_transition, List.append_assoc, List.append_nil, wMix, wLog, wPic, wRep, wScr, wVM, wMd, sR_eq, sR_ne, sF_eq, sF_ne, upd_eq, upd_ne, gs_eq, gs_ne, gm_4, gm_ne, Nat.reduceBEq]) ?_
    refine y_istore Z [(6, .int (if mv_go (mv_an (mv_in (Int32.toInt64 (xs (i + 1))) 0 2) (mv_in (Int32.toInt64 (xs (i + 2))) 1 100)) (mv_hr (S 0 1)) 1 = 0 then 0 else mv_ds (S 1) 2 (xs (i + 1)) (xs (i + 2)) (-1) (-1))), (5, .int 2), (0, .ref b), (1, .ref (aJ 0)), (2, .ref (aS 0)), (3, .ref aO), (4, .int (nI i))] dL_law_323 (by decide) rfl ?_
    refine y_aload_n Z dL_law_325 4 rfl rfl ?_
    refine y_VIw (rest := []) Z (k_X6_thrown l D ht0 aS (mc_transition S (xs (i + 1)) (xs (i + 2)))) (y_cwV 0 Z ml_RL_102 im_X6_thrown se_X6_thrown in_X6 co_X6_thrown rfl rfl hd_X6_thrown ⟨Nat.le_of_ble_eq_true rfl, Nat.le_of_ble_eq_true rfl⟩) (wVM cI aJ J ++ wOut cL aO O) List.nil (by simp only [List.append_assoc, List.append_nil]) 6 0 rfl rfl rfl rfl (Nat.le_of_ble_eq_true rfl) dL_law_326 ⟨by show _ ≤ 1069; omega, by show _ ≤ 10084; omega⟩ (wL cI cL aJ J aO O aS (mc_transition S (xs (i + 1)) (xs (i + 2)))) (by simp only [wL, List.append_assoc, List.append_nil]) ?_
    refine y_eq rfl rfl (st' := [.int 2]) (by rw [he]) ?_
    refine y_iload Z dL_law_329 1 rfl ?_
    refine y_icmp_eq (tgt := 336) Z dL_law_331 (by decide) (fun _ => ?_) (fun h => absurd rfl h)
    refine y_iload Z dL_law_336 1 rfl ?_
    refine y_if_ne (tgt := 353) Z dL_law_338 (by decide) (fun _ => ?_) (fun h => absurd h (by decide))
    refine y_goto (tgt := 1756) Z dL_law_353 (by decide) ?_
    refine y_lv [2, 3, 4, 5, 6] (lv' := [(0, .ref b), (1, .ref (aJ 0)), (2, .ref (aS 0)), (3, .ref aO), (4, .int (nI i))]) rfl ?_
    exact y_wide (k := cells + 1) (n := slots + 6) (by omega) (by omega) (K _ _ _ hI)
set_option maxHeartbeats 4000000 in
set_option maxRecDepth 100000 in
theorem lc_next {p : Program} {l : Launch} {e : Env} {s : State} {m : MethodId} {args : Array Value} {below : List Frame} {meth : Method} {c : Code} {Q : State → Prop} {D : va_G} {A : Nat → Prop} {tys : List (ClassId × FieldType)} {cI cL : ClassId} (Z : Zz p m c cL_law 9 s args wsL_law RL D tys A) (X : Xz s A) (htr : l.stackTraces = false) (ht0 : tys[0]? = some (cI, .int)) (ht1 : tys[1]? = some (cL, .long)) {b L : Nat} {xs : Nat → Int32} (hX : va_X b L xs s s.heap) (hbl : b < s.heap.size) (hbA : ¬ A b) {i : Nat} (hi : i + 4 < L) (hL : L ≤ 2560) {cells slots : Nat} (hc : cells + 1 ≤ 1069) (hs : slots + 6 ≤ 10084) {aJ : Nat → Nat} {aO : Nat} {aS : Nat → Nat} {J : Nat → Nat → Nat → Int32} {O : Nat → Int64} {S : Nat → Nat → Int32} (I : Inv J S) (K : ∀ (J2 : Nat → Nat → Nat → Int32) (O2 : Nat → Int64) (S2 : Nat → Nat → Int32), Inv J2 S2 → Yy p l e room_1 s m args below meth c Q D A 9 (cells + 1) (slots + 6) (wL cI cL aJ J2 aO O2 aS S2) [(0, .ref b), (1, .ref (aJ 0)), (2, .ref (aS 0)), (3, .ref aO), (4, .int (nI i))] [] 1756) : Yy p l e room_1 s m args below meth c Q D A 9 cells slots (wL cI cL aJ J aO O aS S) [(0, .ref b), (1, .ref (aJ 0)), (2, .ref (aS 0)), (3, .ref aO), (4, .int (nI i))] [] 356 := by
  obtain ⟨m_nn, hr⟩ := c2_next I (xs (i + 1))
  rcases hr with ⟨o_el, o_m, he, her, hI⟩ | ⟨hb, he, hI⟩ | ⟨o_el, hb, he, hI⟩
  · refine y_aload_n Z dL_law_356 1 rfl rfl ?_
    refine y_aload_n Z dL_law_357 0 rfl rfl ?_
    refine y_iload Z dL_law_358 4 rfl ?_
    refine y_iconst (v := 1) Z dL_law_360 (by decide) ?_
    refine y_iadd Z dL_law_361 ?_
    refine y_sld Z hX hbl hbA (sx_in hi hL 1 (by decide)).1 (i + 1) (sx_in hi hL 1 (by decide)).2 dL_law_362 ?_
    refine y_aload_n Z dL_law_363 3 rfl rfl ?_
    refine y_SWw (rest := []) Z X (k_L_next l htr D ht0 ht1 aJ J aO O (xs (i + 1)) o_el o_m) (y_cwSW 3 Z ml_RL_112 st_L_next in_L co_L_next rfl rfl hs_L_next ⟨Nat.le_of_ble_eq_true rfl, Nat.le_of_ble_eq_true rfl⟩) List.nil (wMd cI aS S) (by simp only [List.nil_append, List.append_assoc]) rfl rfl (Nat.le_of_ble_eq_true rfl) dL_law_364 ⟨by show _ ≤ 1069; omega, by show _ ≤ 10084; omega⟩ (wL cI cL aJ (vm_enact J 3 (xs (i + 1)) (-1) (-1) (-1)) aO (vp_updL O 0 (Int32.toInt64 (perfR (J 0) 3 (xs (i + 1)) (-1) (-1) (-1)))) aS S) (by simp only [wL, List.nil_append, List.append_assoc]) ?_
    refine y_istore Z [(5, .int 0), (0, .ref b), (1, .ref (aJ 0)), (2, .ref (aS 0)), (3, .ref aO), (4, .int (nI i))] dL_law_367 (by decide) rfl ?_
    refine y_aload_n Z dL_law_369 3 rfl rfl ?_
    refine y_aload_n Z dL_law_370 1 rfl rfl ?_
    refine y_iload Z dL_law_371 5 rfl ?_
    refine y_iconst (v := 1) Z dL_law_373 (by decide) ?_
    refine y_iadd Z dL_law_374 ?_
    refine y_sld Z hX hbl hbA (sx_in hi hL 1 (by decide)).1 (i + 1) (sx_in hi hL 1 (by decide)).2 dL_law_375 ?_
    refine y_VIw (rest := []) Z (k_X6_next l D ht0 aS S (xs (i + 1)) m_nn) (y_cwV 1 Z ml_RL_114 im_X6_next se_X6_next in_X6 co_X6_next rfl rfl hd_X6_next ⟨Nat.le_of_ble_eq_true rfl, Nat.le_of_ble_eq_true rfl⟩) (wVM cI aJ (vm_enact J 3 (xs (i + 1)) (-1) (-1) (-1)) ++ wOut cL aO (vp_updL O 0 (Int32.toInt64 (perfR (J 0) 3 (xs (i + 1)) (-1) (-1) (-1))))) List.nil (by simp only [List.append_assoc, List.append_nil]) 6 0 rfl rfl rfl rfl (Nat.le_of_ble_eq_true rfl) dL_law_376 ⟨by show _ ≤ 1069; omega, by show _ ≤ 10084; omega⟩ (wL cI cL aJ (vm_enact J 3 (xs (i + 1)) (-1) (-1) (-1)) aO (vp_updL O 0 (Int32.toInt64 (perfR (J 0) 3 (xs (i + 1)) (-1) (-1) (-1)))) aS (mc_next S (xs (i + 1)))) (by simp only [wL, mc_next, List.append_assoc, List.append_nil, wMix, wLog, wPic, wRep, wScr, wVM, wMd, sR_eq, sR_ne, sF_eq, sF_ne, upd_eq, upd_ne, gs_eq, gs_ne, gm_4, gm_ne, Nat.reduceBEq]) ?_
    refine y_istore Z [(6, .int (if mv_go (mv_in (Int32.toInt64 (xs (i + 1))) 0 15) (mv_an (mv_hr (S 0 1)) (mv_ps (S 1) 3)) 1 = 0 then 0 else mv_ds (S 1) 3 (xs (i + 1)) (-1) (-1) (-1))), (5, .int 0), (0, .ref b), (1, .ref (aJ 0)), (2, .ref (aS 0)), (3, .ref aO), (4, .int (nI i))] dL_law_379 (by decide) rfl ?_
    refine y_aload_n Z dL_law_381 4 rfl rfl ?_
    refine y_VIw (rest := []) Z (k_X6_thrown l D ht0 aS (mc_next S (xs (i + 1)))) (y_cwV 0 Z ml_RL_102 im_X6_thrown se_X6_thrown in_X6 co_X6_thrown rfl rfl hd_X6_thrown ⟨Nat.le_of_ble_eq_true rfl, Nat.le_of_ble_eq_true rfl⟩) (wVM cI aJ (vm_enact J 3 (xs (i + 1)) (-1) (-1) (-1)) ++ wOut cL aO (vp_updL O 0 (Int32.toInt64 (perfR (J 0) 3 (xs (i + 1)) (-1) (-1) (-1))))) List.nil (by simp only [List.append_assoc, List.append_nil]) 6 0 rfl rfl rfl rfl (Nat.le_of_ble_eq_true rfl) dL_law_382 ⟨by show _ ≤ 1069; omega, by show _ ≤ 10084; omega⟩ (wL cI cL aJ (vm_enact J 3 (xs (i + 1)) (-1) (-1) (-1)) aO (vp_updL O 0 (Int32.toInt64 (perfR (J 0) 3 (xs (i + 1)) (-1) (-1) (-1)))) aS (mc_next S (xs (i + 1)))) (by simp only [wL, List.append_assoc, List.append_nil]) ?_
    refine y_eq rfl rfl (st' := [.int 0]) (by rw [he]) ?_
    refine y_iload Z dL_law_385 1 rfl ?_
    refine y_icmp_eq (tgt := 392) Z dL_law_387 (by decide) (fun _ => ?_) (fun h => absurd rfl h)
    refine y_iload Z dL_law_392 1 rfl ?_
    refine y_if_ne (tgt := 409) Z dL_law_394 (by decide) (fun h => absurd rfl h) (fun _ => ?_)
    refine y_aload_n Z dL_law_397 5 rfl rfl ?_
    refine y_iconst (v := 0) Z dL_law_398 (by decide) ?_
    refine y_lald Z 27 1 rfl ht1 (vpd (by decide) (by decide)) 0 (by decide) dL_law_399 ?_
    refine y_iload Z dL_law_400 0 rfl ?_
    refine y_i2l Z dL_law_402 ?_
    refine y_eq rfl rfl (st' := [.long (Int32.toInt64 (if mv_go (mv_in (Int32.toInt64 (xs (i + 1))) 0 15) (mv_an (mv_hr (S 0 1)) (mv_ps (S 1) 3)) 1 = 0 then 0 else mv_ds (S 1) 3 (xs (i + 1)) (-1) (-1) (-1))), .long (Int32.toInt64 (if mv_go (mv_in (Int32.toInt64 (xs (i + 1))) 0 15) (mv_an (mv_hr (S 0 1)) (mv_ps (S 1) 3)) 1 = 0 then 0 else mv_ds (S 1) 3 (xs (i + 1)) (-1) (-1) (-1)))]) (by rw [← her]; rfl) ?_
    refine y_lcmp Z dL_law_403 ?_
    refine y_if_eq (tgt := 409) Z dL_law_404 (by decide) (fun _ => ?_) (fun h => absurd (lgc_self _) h)
    refine y_goto (tgt := 1756) Z dL_law_409 (by decide) ?_
    refine y_lv [2, 3, 4, 5, 6] (lv' := [(0, .ref b), (1, .ref (aJ 0)), (2, .ref (aS 0)), (3, .ref aO), (4, .int (nI i))]) rfl ?_
    exact y_wide (k := cells + 1) (n := slots + 6) (by omega) (by omega) (K _ _ _ hI)
  · refine y_aload_n Z dL_law_356 1 rfl rfl ?_
    refine y_aload_n Z dL_law_357 0 rfl rfl ?_
    refine y_iload Z dL_law_358 4 rfl ?_
    refine y_iconst (v := 1) Z dL_law_360 (by decide) ?_
    refine y_iadd Z dL_law_361 ?_
    refine y_sld Z hX hbl hbA (sx_in hi hL 1 (by decide)).1 (i + 1) (sx_in hi hL 1 (by decide)).2 dL_law_362 ?_
    refine y_aload_n Z dL_law_363 3 rfl rfl ?_
    refine y_SWw (rest := []) Z X (k_L_next_b0 l htr D ht0 ht1 aJ J aO O (xs (i + 1)) hb) (y_cwSW 3 Z ml_RL_112 st_L_next in_L co_L_next rfl rfl hs_L_next ⟨Nat.le_of_ble_eq_true rfl, Nat.le_of_ble_eq_true rfl⟩) List.nil (wMd cI aS S) (by simp only [List.nil_append, List.append_assoc]) rfl rfl (Nat.le_of_ble_eq_true rfl) dL_law_364 ⟨by show _ ≤ 1069; omega, by show _ ≤ 10084; omega⟩ (wL cI cL aJ J aO O aS S) (by simp only [wL, List.nil_append, List.append_assoc]) ?_
    refine y_istore Z [(5, .int 1), (0, .ref b), (1, .ref (aJ 0)), (2, .ref (aS 0)), (3, .ref aO), (4, .int (nI i))] dL_law_367 (by decide) rfl ?_
    refine y_aload_n Z dL_law_369 3 rfl rfl ?_
    refine y_aload_n Z dL_law_370 1 rfl rfl ?_
    refine y_iload Z dL_law_371 5 rfl ?_
    refine y_iconst (v := 1) Z dL_law_373 (by decide) ?_
    refine y_iadd Z dL_law_374 ?_
    refine y_sld Z hX hbl hbA (sx_in hi hL 1 (by decide)).1 (i + 1) (sx_in hi hL 1 (by decide)).2 dL_law_375 ?_
    refine y_VIw (rest := []) Z (k_X6_next l D ht0 aS S (xs (i + 1)) m_nn) (y_cwV 1 Z ml_RL_114 im_X6_next se_X6_next in_X6 co_X6_next rfl rfl hd_X6_next ⟨Nat.le_of_ble_eq_true rfl, Nat.le_of_ble_eq_true rfl⟩) (wVM cI aJ J ++ wOut cL aO O) List.nil (by simp only [List.append_assoc, List.append_nil]) 6 0 rfl rfl rfl rfl (Nat.le_of_ble_eq_true rfl) dL_law_376 ⟨by show _ ≤ 1069; omega, by show _ ≤ 10084; omega⟩ (wL cI cL aJ J aO O aS (mc_next S (xs (i + 1)))) (by simp only [wL, mc_next, List.append_assoc, List.append_nil, wMix, wLog, wPic, wRep, wScr, wVM, wMd, sR_eq, sR_ne, sF_eq, sF_ne, upd_eq, upd_ne, gs_eq, gs_ne, gm_4, gm_ne, Nat.reduceBEq]) ?_
    refine y_istore Z [(6, .int (if mv_go (mv_in (Int32.toInt64 (xs (i + 1))) 0 15) (mv_an (mv_hr (S 0 1)) (mv_ps (S 1) 3)) 1 = 0 then 0 else mv_ds (S 1) 3 (xs (i + 1)) (-1) (-1) (-1))), (5, .int 1), (0, .ref b), (1, .ref (aJ 0)), (2, .ref (aS 0)), (3, .ref aO), (4, .int (nI i))] dL_law_379 (by decide) rfl ?_
    refine y_aload_n Z dL_law_381 4 rfl rfl ?_
    refine y_VIw (rest := []) Z (k_X6_thrown l D ht0 aS (mc_next S (xs (i + 1)))) (y_cwV 0 Z ml_RL_102 im_X6_thrown se_X6_thrown in_X6 co_X6_thrown rfl rfl hd_X6_thrown ⟨Nat.le_of_ble_eq_true rfl, Nat.le_of_ble_eq_true rfl⟩) (wVM cI aJ J ++ wOut cL aO O) List.nil (by simp only [List.append_assoc, List.append_nil]) 6 0 rfl rfl rfl rfl (Nat.le_of_ble_eq_true rfl) dL_law_382 ⟨by show _ ≤ 1069; omega, by show _ ≤ 10084; omega⟩ (wL cI cL aJ J aO O aS (mc_next S (xs (i + 1)))) (by simp only [wL, List.append_assoc, List.append_nil]) ?_
    refine y_eq rfl rfl (st' := [.int 1]) (by rw [he]) ?_
    refine y_iload Z dL_law_385 1 rfl ?_
    refine y_icmp_eq (tgt := 392) Z dL_law_387 (by decide) (fun _ => ?_) (fun h => absurd rfl h)
    refine y_iload Z dL_law_392 1 rfl ?_
    refine y_if_ne (tgt := 409) Z dL_law_394 (by decide) (fun _ => ?_) (fun h => absurd h (by decide))
    refine y_goto (tgt := 1756) Z dL_law_409 (by decide) ?_
    refine y_lv [2, 3, 4, 5, 6] (lv' := [(0, .ref b), (1, .ref (aJ 0)), (2, .ref (aS 0)), (3, .ref aO), (4, .int (nI i))]) rfl ?_
    exact y_wide (k := cells + 1) (n := slots + 6) (by omega) (by omega) (K _ _ _ hI)
  · refine y_aload_n Z dL_law_356 1 rfl rfl ?_
    refine y_aload_n Z dL_law_357 0 rfl rfl ?_
    refine y_iload Z dL_law_358 4 rfl ?_
    refine y_iconst (v := 1) Z dL_law_360 (by decide) ?_
    refine y_iadd Z dL_law_361 ?_
    refine y_sld Z hX hbl hbA (sx_in hi hL 1 (by decide)).1 (i + 1) (sx_in hi hL 1 (by decide)).2 dL_law_362 ?_
    refine y_aload_n Z dL_law_363 3 rfl rfl ?_
    refine y_SWw (rest := []) Z X (k_L_next_b1 l htr D ht0 ht1 aJ J aO O (xs (i + 1)) o_el hb) (y_cwSW 3 Z ml_RL_112 st_L_next in_L co_L_next rfl rfl hs_L_next ⟨Nat.le_of_ble_eq_true rfl, Nat.le_of_ble_eq_true rfl⟩) List.nil (wMd cI aS S) (by simp only [List.nil_append, List.append_assoc]) rfl rfl (Nat.le_of_ble_eq_true rfl) dL_law_364 ⟨by show _ ≤ 1069; omega, by show _ ≤ 10084; omega⟩ (wL cI cL aJ J aO O aS S) (by simp only [wL, List.nil_append, List.append_assoc]) ?_
    refine y_istore Z [(5, .int 2), (0, .ref b), (1, .ref (aJ 0)), (2, .ref (aS 0)), (3, .ref aO), (4, .int (nI i))] dL_law_367 (by decide) rfl ?_
    refine y_aload_n Z dL_law_369 3 rfl rfl ?_
    refine y_aload_n Z dL_law_370 1 rfl rfl ?_
    refine y_iload Z dL_law_371 5 rfl ?_
    refine y_iconst (v := 1) Z dL_law_373 (by decide) ?_
    refine y_iadd Z dL_law_374 ?_
    refine y_sld Z hX hbl hbA (sx_in hi hL 1 (by decide)).1 (i + 1) (sx_in hi hL 1 (by decide)).2 dL_law_375 ?_
    refine y_VIw (rest := []) Z (k_X6_next l D ht0 aS S (xs (i + 1)) m_nn) (y_cwV 1 Z ml_RL_114 im_X6_next se_X6_next in_X6 co_X6_next rfl rfl hd_X6_next ⟨Nat.le_of_ble_eq_true rfl, Nat.le_of_ble_eq_true rfl⟩) (wVM cI aJ J ++ wOut cL aO O) List.nil (by simp only [List.append_assoc, List.append_nil]) 6 0 rfl rfl rfl rfl (Nat.le_of_ble_eq_true rfl) dL_law_376 ⟨by show _ ≤ 1069; omega, by show _ ≤ 10084; omega⟩ (wL cI cL aJ J aO O aS (mc_next S (xs (i + 1)))) (by simp only [wL, mc_next, List.append_assoc, List.append_nil, wMix, wLog, wPic, wRep, wScr, wVM, wMd, sR_eq, sR_ne, sF_eq, sF_ne, upd_eq, upd_ne, gs_eq, gs_ne, gm_4, gm_ne, Nat.reduceBEq]) ?_
    refine y_istore Z [(6, .int (if mv_go (mv_in (Int32.toInt64 (xs (i + 1))) 0 15) (mv_an (mv_hr (S 0 1)) (mv_ps (S 1) 3)) 1 = 0 then 0 else mv_ds (S 1) 3 (xs (i + 1)) (-1) (-1) (-1))), (5, .int 2), (0, .ref b), (1, .ref (aJ 0)), (2, .ref (aS 0)), (3, .ref aO), (4, .int (nI i))] dL_law_379 (by decide) rfl ?_
    refine y_aload_n Z dL_law_381 4 rfl rfl ?_
    refine y_VIw (rest := []) Z (k_X6_thrown l D ht0 aS (mc_next S (xs (i + 1)))) (y_cwV 0 Z ml_RL_102 im_X6_thrown se_X6_thrown in_X6 co_X6_thrown rfl rfl hd_X6_thrown ⟨Nat.le_of_ble_eq_true rfl, Nat.le_of_ble_eq_true rfl⟩) (wVM cI aJ J ++ wOut cL aO O) List.nil (by simp only [List.append_assoc, List.append_nil]) 6 0 rfl rfl rfl rfl (Nat.le_of_ble_eq_true rfl) dL_law_382 ⟨by show _ ≤ 1069; omega, by show _ ≤ 10084; omega⟩ (wL cI cL aJ J aO O aS (mc_next S (xs (i + 1)))) (by simp only [wL, List.append_assoc, List.append_nil]) ?_
    refine y_eq rfl rfl (st' := [.int 2]) (by rw [he]) ?_
    refine y_iload Z dL_law_385 1 rfl ?_
    refine y_icmp_eq (tgt := 392) Z dL_law_387 (by decide) (fun _ => ?_) (fun h => absurd rfl h)
    refine y_iload Z dL_law_392 1 rfl ?_
    refine y_if_ne (tgt := 409) Z dL_law_394 (by decide) (fun _ => ?_) (fun h => absurd h (by decide))
    refine y_goto (tgt := 1756) Z dL_law_409 (by decide) ?_
    refine y_lv [2, 3, 4, 5, 6] (lv' := [(0, .ref b), (1, .ref (aJ 0)), (2, .ref (aS 0)), (3, .ref aO), (4, .int (nI i))]) rfl ?_
    exact y_wide (k := cells + 1) (n := slots + 6) (by omega) (by omega) (K _ _ _ hI)
set_option maxHeartbeats 4000000 in
set_option maxRecDepth 100000 in
theorem lc_key {p : Program} {l : Launch} {e : Env} {s : State} {m : MethodId} {args : Array Value} {below : List Frame} {meth : Method} {c : Code} {Q : State → Prop} {D : va_G} {A : Nat → Prop} {tys : List (ClassId × FieldType)} {cI cL : ClassId} (Z : Zz p m c cL_law 9 s args wsL_law RL D tys A) (X : Xz s A) (htr : l.stackTraces = false) (ht0 : tys[0]? = some (cI, .int)) (ht1 : tys[1]? = some (cL, .long)) {b L : Nat} {xs : Nat → Int32} (hX : va_X b L xs s s.heap) (hbl : b < s.heap.size) (hbA : ¬ A b) {i : Nat} (hi : i + 4 < L) (hL : L ≤ 2560) {cells slots : Nat} (hc : cells + 1 ≤ 1069) (hs : slots + 6 ≤ 10084) {aJ : Nat → Nat} {aO : Nat} {aS : Nat → Nat} {J : Nat → Nat → Nat → Int32} {O : Nat → Int64} {S : Nat → Nat → Int32} (I : Inv J S) (K : ∀ (J2 : Nat → Nat → Nat → Int32) (O2 : Nat → Int64) (S2 : Nat → Nat → Int32), Inv J2 S2 → Yy p l e room_1 s m args below meth c Q D A 9 (cells + 1) (slots + 6) (wL cI cL aJ J2 aO O2 aS S2) [(0, .ref b), (1, .ref (aJ 0)), (2, .ref (aS 0)), (3, .ref aO), (4, .int (nI i))] [] 1756) : Yy p l e room_1 s m args below meth c Q D A 9 cells slots (wL cI cL aJ J aO O aS S) [(0, .ref b), (1, .ref (aJ 0)), (2, .ref (aS 0)), (3, .ref aO), (4, .int (nI i))] [] 412 := by
  obtain ⟨m_nn, hr⟩ := c2_key I (xs (i + 1)) (xs (i + 2)) (xs (i + 3)) (xs (i + 4))
  rcases hr with ⟨o_k, o_f, o_o, o_ar, o_m, he, her, hI⟩ | ⟨hb, he, hI⟩ | ⟨o_k, hb, he, hI⟩ | ⟨o_k, o_f, hb, he, hI⟩ | ⟨o_k, o_f, o_o, hb, he, hI⟩ | ⟨o_k, o_f, o_o, o_ar, hb, he, hI⟩
  · refine y_aload_n Z dL_law_412 1 rfl rfl ?_
    refine y_aload_n Z dL_law_413 0 rfl rfl ?_
    refine y_iload Z dL_law_414 4 rfl ?_
    refine y_iconst (v := 1) Z dL_law_416 (by decide) ?_
    refine y_iadd Z dL_law_417 ?_
    refine y_sld Z hX hbl hbA (sx_in hi hL 1 (by decide)).1 (i + 1) (sx_in hi hL 1 (by decide)).2 dL_law_418 ?_
    refine y_aload_n Z dL_law_419 0 rfl rfl ?_
    refine y_iload Z dL_law_420 4 rfl ?_
    refine y_iconst (v := 2) Z dL_law_422 (by decide) ?_
    refine y_iadd Z dL_law_423 ?_
    refine y_sld Z hX hbl hbA (sx_in hi hL 2 (by decide)).1 (i + 2) (sx_in hi hL 2 (by decide)).2 dL_law_424 ?_
    refine y_aload_n Z dL_law_425 0 rfl rfl ?_
    refine y_iload Z dL_law_426 4 rfl ?_
    refine y_iconst (v := 3) Z dL_law_428 (by decide) ?_
    refine y_iadd Z dL_law_429 ?_
    refine y_sld Z hX hbl hbA (sx_in hi hL 3 (by decide)).1 (i + 3) (sx_in hi hL 3 (by decide)).2 dL_law_430 ?_
    refine y_aload_n Z dL_law_431 0 rfl rfl ?_
    refine y_iload Z dL_law_432 4 rfl ?_
    refine y_iconst (v := 4) Z dL_law_434 (by decide) ?_
    refine y_iadd Z dL_law_435 ?_
    refine y_sld Z hX hbl hbA (sx_in hi hL 4 (by decide)).1 (i + 4) (sx_in hi hL 4 (by decide)).2 dL_law_436 ?_
    refine y_aload_n Z dL_law_437 3 rfl rfl ?_
    refine y_SWw (rest := []) Z X (k_L_key l htr D ht0 ht1 aJ J aO O (xs (i + 1)) (xs (i + 2)) (xs (i + 3)) (xs (i + 4)) o_k o_f o_o o_ar o_m) (y_cwSW 6 Z ml_RL_115 st_L_key in_L co_L_key rfl rfl hs_L_key ⟨Nat.le_of_ble_eq_true rfl, Nat.le_of_ble_eq_true rfl⟩) List.nil (wMd cI aS S) (by simp only [List.nil_append, List.append_assoc]) rfl rfl (Nat.le_of_ble_eq_true rfl) dL_law_438 ⟨by show _ ≤ 1069; omega, by show _ ≤ 10084; omega⟩ (wL cI cL aJ (vm_enact J 4 (xs (i + 1)) (xs (i + 2)) (xs (i + 3)) (xs (i + 4))) aO (vp_updL O 0 (Int32.toInt64 (perfR (J 0) 4 (xs (i + 1)) (xs (i + 2)) (xs (i + 3)) (xs (i + 4))))) aS S) (by simp only [wL, List.nil_append, List.append_assoc]) ?_
    refine y_istore Z [(5, .int 0), (0, .ref b), (1, .ref (aJ 0)), (2, .ref (aS 0)), (3, .ref aO), (4, .int (nI i))] dL_law_441 (by decide) rfl ?_
    refine y_aload_n Z dL_law_443 3 rfl rfl ?_
    refine y_aload_n Z dL_law_444 1 rfl rfl ?_
    refine y_iload Z dL_law_445 5 rfl ?_
    refine y_iconst (v := 1) Z dL_law_447 (by decide) ?_
    refine y_iadd Z dL_law_448 ?_
    refine y_sld Z hX hbl hbA (sx_in hi hL 1 (by decide)).1 (i + 1) (sx_in hi hL 1 (by decide)).2 dL_law_449 ?_
    refine y_aload_n Z dL_law_450 1 rfl rfl ?_
    refine y_iload Z dL_law_451 5 rfl ?_
    refine y_iconst (v := 2) Z dL_law_453 (by decide) ?_
    refine y_iadd Z dL_law_454 ?_
    refine y_sld Z hX hbl hbA (sx_in hi hL 2 (by decide)).1 (i + 2) (sx_in hi hL 2 (by decide)).2 dL_law_455 ?_
    refine y_aload_n Z dL_law_456 1 rfl rfl ?_
    refine y_iload Z dL_law_457 5 rfl ?_
    refine y_iconst (v := 3) Z dL_law_459 (by decide) ?_
    refine y_iadd Z dL_law_460 ?_
    refine y_sld Z hX hbl hbA (sx_in hi hL 3 (by decide)).1 (i + 3) (sx_in hi hL 3 (by decide)).2 dL_law_461 ?_
    refine y_aload_n Z dL_law_462 1 rfl rfl ?_
    refine y_iload Z dL_law_463 5 rfl ?_
    refine y_iconst (v := 4) Z dL_law_465 (by decide) ?_
    refine y_iadd Z dL_law_466 ?_
    refine y_sld Z hX hbl hbA (sx_in hi hL 4 (by decide)).1 (i + 4) (sx_in hi hL 4 (by decide)).2 dL_law_467 ?_
    refine y_VIw (rest := []) Z (k_X6_key l D ht0 aS S (xs (i + 1)) (xs (i + 2)) (xs (i + 3)) (xs (i + 4)) m_nn) (y_cwV 4 Z ml_RL_118 im_X6_key se_X6_key in_X6 co_X6_key rfl rfl hd_X6_key ⟨Nat.le_of_ble_eq_true rfl, Nat.le_of_ble_eq_true rfl⟩) (wVM cI aJ (vm_enact J 4 (xs (i + 1)) (xs (i + 2)) (xs (i + 3)) (xs (i + 4))) ++ wOut cL aO (vp_updL O 0 (Int32.toInt64 (perfR (J 0) 4 (xs (i + 1)) (xs (i + 2)) (xs (i + 3)) (xs (i + 4)))))) List.nil (by simp only [List.append_assoc, List.append_nil]) 6 0 rfl rfl rfl rfl (Nat.le_of_ble_eq_true rfl) dL_law_468 ⟨by show _ ≤ 1069; omega, by show _ ≤ 10084; omega⟩ (wL cI cL aJ (vm_enact J 4 (xs (i + 1)) (xs (i + 2)) (xs (i + 3)) (xs (i + 4))) aO (vp_updL O 0 (Int32.toInt64 (perfR (J 0) 4 (xs (i + 1)) (xs (i + 2)) (xs (i + 3)) (xs (i + 4))))) aS (mc_key S (xs (i + 1)) (xs (i + 2)) (xs (i + 3)) (xs (i + 4)))) (by simp only [wL, mc_key, List.append_assoc, List.append_nil, wMix, wLog, wPic, wRep, wScr, wVM, wMd, sR_eq, sR_ne, sF_eq, sF_ne, upd_eq, upd_ne, gs_eq, gs_ne, gm_4, gm_ne, Nat.reduceBEq]) ?_
    refine y_istore Z [(6, .int (if mv_go (mv_an (mv_ik (xs (i + 1))) (mv_is (xs (i + 2)))) (mv_an (mv_in (Int32.toInt64 (xs (i + 3))) 0 100) (mv_in (Int32.toInt64 (xs (i + 4))) 1 100)) (mv_hr (S 0 1)) = 0 then 0 else mv_ds (S 1) 4 (xs (i + 1)) (xs (i + 2)) (xs (i + 3)) (xs (i + 4)))), (5, .int 0), (0, .ref b), (1, .ref (aJ 0)), (2, .ref (aS 0)), (3, .ref aO), (4, .int (nI i))] dL_law_471 (by decide) rfl ?_
    refine y_aload_n Z dL_law_473 4 rfl rfl ?_
    refine y_VIw (rest := []) Z (k_X6_thrown l D ht0 aS (mc_key S (xs (i + 1)) (xs (i + 2)) (xs (i + 3)) (xs (i + 4)))) (y_cwV 0 Z ml_RL_102 im_X6_thrown se_X6_thrown in_X6 co_X6_thrown rfl rfl hd_X6_thrown ⟨Nat.le_of_ble_eq_true rfl, Nat.le_of_ble_eq_true rfl⟩) (wVM cI aJ (vm_enact J 4 (xs (i + 1)) (xs (i + 2)) (xs (i + 3)) (xs (i + 4))) ++ wOut cL aO (vp_updL O 0 (Int32.toInt64 (perfR (J 0) 4 (xs (i + 1)) (xs (i + 2)) (xs (i + 3)) (xs (i + 4)))))) List.nil (by simp only [List.append_assoc, List.append_nil]) 6 0 rfl rfl rfl rfl (Nat.le_of_ble_eq_true rfl) dL_law_474 ⟨by show _ ≤ 1069; omega, by show _ ≤ 10084; omega⟩ (wL cI cL aJ (vm_enact J 4 (xs (i + 1)) (xs (i + 2)) (xs (i + 3)) (xs (i + 4))) aO (vp_updL O 0 (Int32.toInt64 (perfR (J 0) 4 (xs (i + 1)) (xs (i + 2)) (xs (i + 3)) (xs (i + 4))))) aS (mc_key S (xs (i + 1)) (xs (i + 2)) (xs (i + 3)) (xs (i + 4)))) (by simp only [wL, List.append_assoc, List.append_nil]) ?_
    refine y_eq rfl rfl (st' := [.int 0]) (by rw [he]) ?_
    refine y_iload Z dL_law_477 1 rfl ?_
    refine y_icmp_eq (tgt := 484) Z dL_law_479 (by decide) (fun _ => ?_) (fun h => absurd rfl h)
    refine y_iload Z dL_law_484 1 rfl ?_
    refine y_if_ne (tgt := 501) Z dL_law_486 (by decide) (fun h => absurd rfl h) (fun _ => ?_)
    refine y_aload_n Z dL_law_489 5 rfl rfl ?_
    refine y_iconst (v := 0) Z dL_law_490 (by decide) ?_
    refine y_lald Z 27 1 rfl ht1 (vpd (by decide) (by decide)) 0 (by decide) dL_law_491 ?_
    refine y_iload Z dL_law_492 0 rfl ?_
    refine y_i2l Z dL_law_494 ?_
    refine y_eq rfl rfl (st' := [.long (Int32.toInt64 (if mv_go (mv_an (mv_ik (xs (i + 1))) (mv_is (xs (i + 2)))) (mv_an (mv_in (Int32.toInt64 (xs (i + 3))) 0 100) (mv_in (Int32.toInt64 (xs (i + 4))) 1 100)) (mv_hr (S 0 1)) = 0 then 0 else mv_ds (S 1) 4 (xs (i + 1)) (xs (i + 2)) (xs (i + 3)) (xs (i + 4)))), .long (Int32.toInt64 (if mv_go (mv_an (mv_ik (xs (i + 1))) (mv_is (xs (i + 2)))) (mv_an (mv_in (Int32.toInt64 (xs (i + 3))) 0 100) (mv_in (Int32.toInt64 (xs (i + 4))) 1 100)) (mv_hr (S 0 1)) = 0 then 0 else mv_ds (S 1) 4 (xs (i + 1)) (xs (i + 2)) (xs (i + 3)) (xs (i + 4))))]) (by rw [← her]; rfl) ?_
    refine y_lcmp Z dL_law_495 ?_
    refine y_if_eq (tgt := 501) Z dL_law_496 (by decide) (fun _ => ?_) (fun h => absurd (lgc_self _) h)
    refine y_goto (tgt := 1756) Z dL_law_501 (by decide) ?_
    refine y_lv [2, 3, 4, 5, 6] (lv' := [(0, .ref b), (1, .ref (aJ 0)), (2, .ref (aS 0)), (3, .ref aO), (4, .int (nI i))]) rfl ?_
    exact y_wide (k := cells + 1) (n := slots + 6) (by omega) (by omega) (K _ _ _ hI)
  · refine y_aload_n Z dL_law_412 1 rfl rfl ?_
    refine y_aload_n Z dL_law_413 0 rfl rfl ?_
    refine y_iload Z dL_law_414 4 rfl ?_
    refine y_iconst (v := 1) Z dL_law_416 (by decide) ?_
    refine y_iadd Z dL_law_417 ?_
    refine y_sld Z hX hbl hbA (sx_in hi hL 1 (by decide)).1 (i + 1) (sx_in hi hL 1 (by decide)).2 dL_law_418 ?_
    refine y_aload_n Z dL_law_419 0 rfl rfl ?_
    refine y_iload Z dL_law_420 4 rfl ?_
    refine y_iconst (v := 2) Z dL_law_422 (by decide) ?_
    refine y_iadd Z dL_law_423 ?_
    refine y_sld Z hX hbl hbA (sx_in hi hL 2 (by decide)).1 (i + 2) (sx_in hi hL 2 (by decide)).2 dL_law_424 ?_
    refine y_aload_n Z dL_law_425 0 rfl rfl ?_
    refine y_iload Z dL_law_426 4 rfl ?_
    refine y_iconst (v := 3) Z dL_law_428 (by decide) ?_
    refine y_iadd Z dL_law_429 ?_
    refine y_sld Z hX hbl hbA (sx_in hi hL 3 (by decide)).1 (i + 3) (sx_in hi hL 3 (by decide)).2 dL_law_430 ?_
    refine y_aload_n Z dL_law_431 0 rfl rfl ?_
    refine y_iload Z dL_law_432 4 rfl ?_
    refine y_iconst (v := 4) Z dL_law_434 (by decide) ?_
    refine y_iadd Z dL_law_435 ?_
    refine y_sld Z hX hbl hbA (sx_in hi hL 4 (by decide)).1 (i + 4) (sx_in hi hL 4 (by decide)).2 dL_law_436 ?_
    refine y_aload_n Z dL_law_437 3 rfl rfl ?_
    refine y_SWw (rest := []) Z X (k_L_key_b0 l htr D ht0 ht1 aJ J aO O (xs (i + 1)) (xs (i + 2)) (xs (i + 3)) (xs (i + 4)) hb) (y_cwSW 6 Z ml_RL_115 st_L_key in_L co_L_key rfl rfl hs_L_key ⟨Nat.le_of_ble_eq_true rfl, Nat.le_of_ble_eq_true rfl⟩) List.nil (wMd cI aS S) (by simp only [List.nil_append, List.append_assoc]) rfl rfl (Nat.le_of_ble_eq_true rfl) dL_law_438 ⟨by show _ ≤ 1069; omega, by show _ ≤ 10084; omega⟩ (wL cI cL aJ J aO O aS S) (by simp only [wL, List.nil_append, List.append_assoc]) ?_
    refine y_istore Z [(5, .int 1), (0, .ref b), (1, .ref (aJ 0)), (2, .ref (aS 0)), (3, .ref aO), (4, .int (nI i))] dL_law_441 (by decide) rfl ?_
    refine y_aload_n Z dL_law_443 3 rfl rfl ?_
    refine y_aload_n Z dL_law_444 1 rfl rfl ?_
    refine y_iload Z dL_law_445 5 rfl ?_
    refine y_iconst (v := 1) Z dL_law_447 (by decide) ?_
    refine y_iadd Z dL_law_448 ?_
    refine y_sld Z hX hbl hbA (sx_in hi hL 1 (by decide)).1 (i + 1) (sx_in hi hL 1 (by decide)).2 dL_law_449 ?_
    refine y_aload_n Z dL_law_450 1 rfl rfl ?_
    refine y_iload Z dL_law_451 5 rfl ?_
    refine y_iconst (v := 2) Z dL_law_453 (by decide) ?_
    refine y_iadd Z dL_law_454 ?_
    refine y_sld Z hX hbl hbA (sx_in hi hL 2 (by decide)).1 (i + 2) (sx_in hi hL 2 (by decide)).2 dL_law_455 ?_
    refine y_aload_n Z dL_law_456 1 rfl rfl ?_
    refine y_iload Z dL_law_457 5 rfl ?_
    refine y_iconst (v := 3) Z dL_law_459 (by decide) ?_
    refine y_iadd Z dL_law_460 ?_
    refine y_sld Z hX hbl hbA (sx_in hi hL 3 (by decide)).1 (i + 3) (sx_in hi hL 3 (by decide)).2 dL_law_461 ?_
    refine y_aload_n Z dL_law_462 1 rfl rfl ?_
    refine y_iload Z dL_law_463 5 rfl ?_
    refine y_iconst (v := 4) Z dL_law_465 (by decide) ?_
    refine y_iadd Z dL_law_466 ?_
    refine y_sld Z hX hbl hbA (sx_in hi hL 4 (by decide)).1 (i + 4) (sx_in hi hL 4 (by decide)).2 dL_law_467 ?_
    refine y_VIw (rest := []) Z (k_X6_key l D ht0 aS S (xs (i + 1)) (xs (i + 2)) (xs (i + 3)) (xs (i + 4)) m_nn) (y_cwV 4 Z ml_RL_118 im_X6_key se_X6_key in_X6 co_X6_key rfl rfl hd_X6_key ⟨Nat.le_of_ble_eq_true rfl, Nat.le_of_ble_eq_true rfl⟩) (wVM cI aJ J ++ wOut cL aO O) List.nil (by simp only [List.append_assoc, List.append_nil]) 6 0 rfl rfl rfl rfl (Nat.le_of_ble_eq_true rfl) dL_law_468 ⟨by show _ ≤ 1069; omega, by show _ ≤ 10084; omega⟩ (wL cI cL aJ J aO O aS (mc_key S (xs (i + 1)) (xs (i + 2)) (xs (i + 3)) (xs (i + 4)))) (by simp only [wL, mc_key, List.append_assoc, List.append_nil, wMix, wLog, wPic, wRep, wScr, wVM, wMd, sR_eq, sR_ne, sF_eq, sF_ne, upd_eq, upd_ne, gs_eq, gs_ne, gm_4, gm_ne, Nat.reduceBEq]) ?_
    refine y_istore Z [(6, .int (if mv_go (mv_an (mv_ik (xs (i + 1))) (mv_is (xs (i + 2)))) (mv_an (mv_in (Int32.toInt64 (xs (i + 3))) 0 100) (mv_in (Int32.toInt64 (xs (i + 4))) 1 100)) (mv_hr (S 0 1)) = 0 then 0 else mv_ds (S 1) 4 (xs (i + 1)) (xs (i + 2)) (xs (i + 3)) (xs (i + 4)))), (5, .int 1), (0, .ref b), (1, .ref (aJ 0)), (2, .ref (aS 0)), (3, .ref aO), (4, .int (nI i))] dL_law_471 (by decide) rfl ?_
    refine y_aload_n Z dL_law_473 4 rfl rfl ?_
    refine y_VIw (rest := []) Z (k_X6_thrown l D ht0 aS (mc_key S (xs (i + 1)) (xs (i + 2)) (xs (i + 3)) (xs (i + 4)))) (y_cwV 0 Z ml_RL_102 im_X6_thrown se_X6_thrown in_X6 co_X6_thrown rfl rfl hd_X6_thrown ⟨Nat.le_of_ble_eq_true rfl, Nat.le_of_ble_eq_true rfl⟩) (wVM cI aJ J ++ wOut cL aO O) List.nil (by simp only [List.append_assoc, List.append_nil]) 6 0 rfl rfl rfl rfl (Nat.le_of_ble_eq_true rfl) dL_law_474 ⟨by show _ ≤ 1069; omega, by show _ ≤ 10084; omega⟩ (wL cI cL aJ J aO O aS (mc_key S (xs (i + 1)) (xs (i + 2)) (xs (i + 3)) (xs (i + 4)))) (by simp only [wL, List.append_assoc, List.append_nil]) ?_
    refine y_eq rfl rfl (st' := [.int 1]) (by rw [he]) ?_
    refine y_iload Z dL_law_477 1 rfl ?_
    refine y_icmp_eq (tgt := 484) Z dL_law_479 (by decide) (fun _ => ?_) (fun h => absurd rfl h)
    refine y_iload Z dL_law_484 1 rfl ?_
    refine y_if_ne (tgt := 501) Z dL_law_486 (by decide) (fun _ => ?_) (fun h => absurd h (by decide))
    refine y_goto (tgt := 1756) Z dL_law_501 (by decide) ?_
    refine y_lv [2, 3, 4, 5, 6] (lv' := [(0, .ref b), (1, .ref (aJ 0)), (2, .ref (aS 0)), (3, .ref aO), (4, .int (nI i))]) rfl ?_
    exact y_wide (k := cells + 1) (n := slots + 6) (by omega) (by omega) (K _ _ _ hI)
  · refine y_aload_n Z dL_law_412 1 rfl rfl ?_
    refine y_aload_n Z dL_law_413 0 rfl rfl ?_
    refine y_iload Z dL_law_414 4 rfl ?_
    refine y_iconst (v := 1) Z dL_law_416 (by decide) ?_
    refine y_iadd Z dL_law_417 ?_
    refine y_sld Z hX hbl hbA (sx_in hi hL 1 (by decide)).1 (i + 1) (sx_in hi hL 1 (by decide)).2 dL_law_418 ?_
    refine y_aload_n Z dL_law_419 0 rfl rfl ?_
    refine y_iload Z dL_law_420 4 rfl ?_
    refine y_iconst (v := 2) Z dL_law_422 (by decide) ?_
    refine y_iadd Z dL_law_423 ?_
    refine y_sld Z hX hbl hbA (sx_in hi hL 2 (by decide)).1 (i + 2) (sx_in hi hL 2 (by decide)).2 dL_law_424 ?_
    refine y_aload_n Z dL_law_425 0 rfl rfl ?_
    refine y_iload Z dL_law_426 4 rfl ?_
    refine y_iconst (v := 3) Z dL_law_428 (by decide) ?_
    refine y_iadd Z dL_law_429 ?_
    refine y_sld Z hX hbl hbA (sx_in hi hL 3 (by decide)).1 (i + 3) (sx_in hi hL 3 (by decide)).2 dL_law_430 ?_
    refine y_aload_n Z dL_law_431 0 rfl rfl ?_
    refine y_iload Z dL_law_432 4 rfl ?_
    refine y_iconst (v := 4) Z dL_law_434 (by decide) ?_
    refine y_iadd Z dL_law_435 ?_
    refine y_sld Z hX hbl hbA (sx_in hi hL 4 (by decide)).1 (i + 4) (sx_in hi hL 4 (by decide)).2 dL_law_436 ?_
    refine y_aload_n Z dL_law_437 3 rfl rfl ?_
    refine y_SWw (rest := []) Z X (k_L_key_b1 l htr D ht0 ht1 aJ J aO O (xs (i + 1)) (xs (i + 2)) (xs (i + 3)) (xs (i + 4)) o_k hb) (y_cwSW 6 Z ml_RL_115 st_L_key in_L co_L_key rfl rfl hs_L_key ⟨Nat.le_of_ble_eq_true rfl, Nat.le_of_ble_eq_true rfl⟩) List.nil (wMd cI aS S) (by simp only [List.nil_append, List.append_assoc]) rfl rfl (Nat.le_of_ble_eq_true rfl) dL_law_438 ⟨by show _ ≤ 1069; omega, by show _ ≤ 10084; omega⟩ (wL cI cL aJ J aO O aS S) (by simp only [wL, List.nil_append, List.append_assoc]) ?_
    refine y_istore Z [(5, .int 1), (0, .ref b), (1, .ref (aJ 0)), (2, .ref (aS 0)), (3, .ref aO), (4, .int (nI i))] dL_law_441 (by decide) rfl ?_
    refine y_aload_n Z dL_law_443 3 rfl rfl ?_
    refine y_aload_n Z dL_law_444 1 rfl rfl ?_
    refine y_iload Z dL_law_445 5 rfl ?_
    refine y_iconst (v := 1) Z dL_law_447 (by decide) ?_
    refine y_iadd Z dL_law_448 ?_
    refine y_sld Z hX hbl hbA (sx_in hi hL 1 (by decide)).1 (i + 1) (sx_in hi hL 1 (by decide)).2 dL_law_449 ?_
    refine y_aload_n Z dL_law_450 1 rfl rfl ?_
    refine y_iload Z dL_law_451 5 rfl ?_
    refine y_iconst (v := 2) Z dL_law_453 (by decide) ?_
    refine y_iadd Z dL_law_454 ?_
    refine y_sld Z hX hbl hbA (sx_in hi hL 2 (by decide)).1 (i + 2) (sx_in hi hL 2 (by decide)).2 dL_law_455 ?_
    refine y_aload_n Z dL_law_456 1 rfl rfl ?_
    refine y_iload Z dL_law_457 5 rfl ?_
    refine y_iconst (v := 3) Z dL_law_459 (by decide) ?_
    refine y_iadd Z dL_law_460 ?_
    refine y_sld Z hX hbl hbA (sx_in hi hL 3 (by decide)).1 (i + 3) (sx_in hi hL 3 (by decide)).2 dL_law_461 ?_
    refine y_aload_n Z dL_law_462 1 rfl rfl ?_
    refine y_iload Z dL_law_463 5 rfl ?_
    refine y_iconst (v := 4) Z dL_law_465 (by decide) ?_
    refine y_iadd Z dL_law_466 ?_
    refine y_sld Z hX hbl hbA (sx_in hi hL 4 (by decide)).1 (i + 4) (sx_in hi hL 4 (by decide)).2 dL_law_467 ?_
    refine y_VIw (rest := []) Z (k_X6_key l D ht0 aS S (xs (i + 1)) (xs (i + 2)) (xs (i + 3)) (xs (i + 4)) m_nn) (y_cwV 4 Z ml_RL_118 im_X6_key se_X6_key in_X6 co_X6_key rfl rfl hd_X6_key ⟨Nat.le_of_ble_eq_true rfl, Nat.le_of_ble_eq_true rfl⟩) (wVM cI aJ J ++ wOut cL aO O) List.nil (by simp only [List.append_assoc, List.append_nil]) 6 0 rfl rfl rfl rfl (Nat.le_of_ble_eq_true rfl) dL_law_468 ⟨by show _ ≤ 1069; omega, by show _ ≤ 10084; omega⟩ (wL cI cL aJ J aO O aS (mc_key S (xs (i + 1)) (xs (i + 2)) (xs (i + 3)) (xs (i + 4)))) (by simp only [wL, mc_key, List.append_assoc, List.append_nil, wMix, wLog, wPic, wRep, wScr, wVM, wMd, sR_eq, sR_ne, sF_eq, sF_ne, upd_eq, upd_ne, gs_eq, gs_ne, gm_4, gm_ne, Nat.reduceBEq]) ?_
    refine y_istore Z [(6, .int (if mv_go (mv_an (mv_ik (xs (i + 1))) (mv_is (xs (i + 2)))) (mv_an (mv_in (Int32.toInt64 (xs (i + 3))) 0 100) (mv_in (Int32.toInt64 (xs (i + 4))) 1 100)) (mv_hr (S 0 1)) = 0 then 0 else mv_ds (S 1) 4 (xs (i + 1)) (xs (i + 2)) (xs (i + 3)) (xs (i + 4)))), (5, .int 1), (0, .ref b), (1, .ref (aJ 0)), (2, .ref (aS 0)), (3, .ref aO), (4, .int (nI i))] dL_law_471 (by decide) rfl ?_
    refine y_aload_n Z dL_law_473 4 rfl rfl ?_
    refine y_VIw (rest := []) Z (k_X6_thrown l D ht0 aS (mc_key S (xs (i + 1)) (xs (i + 2)) (xs (i + 3)) (xs (i + 4)))) (y_cwV 0 Z ml_RL_102 im_X6_thrown se_X6_thrown in_X6 co_X6_thrown rfl rfl hd_X6_thrown ⟨Nat.le_of_ble_eq_true rfl, Nat.le_of_ble_eq_true rfl⟩) (wVM cI aJ J ++ wOut cL aO O) List.nil (by simp only [List.append_assoc, List.append_nil]) 6 0 rfl rfl rfl rfl (Nat.le_of_ble_eq_true rfl) dL_law_474 ⟨by show _ ≤ 1069; omega, by show _ ≤ 10084; omega⟩ (wL cI cL aJ J aO O aS (mc_key S (xs (i + 1)) (xs (i + 2)) (xs (i + 3)) (xs (i + 4)))) (by simp only [wL, List.append_assoc, List.append_nil]) ?_
    refine y_eq rfl rfl (st' := [.int 1]) (by rw [he]) ?_
    refine y_iload Z dL_law_477 1 rfl ?_
    refine y_icmp_eq (tgt := 484) Z dL_law_479 (by decide) (fun _ => ?_) (fun h => absurd rfl h)
    refine y_iload Z dL_law_484 1 rfl ?_
    refine y_if_ne (tgt := 501) Z dL_law_486 (by decide) (fun _ => ?_) (fun h => absurd h (by decide))
    refine y_goto (tgt := 1756) Z dL_law_501 (by decide) ?_
    refine y_lv [2, 3, 4, 5, 6] (lv' := [(0, .ref b), (1, .ref (aJ 0)), (2, .ref (aS 0)), (3, .ref aO), (4, .int (nI i))]) rfl ?_
    exact y_wide (k := cells + 1) (n := slots + 6) (by omega) (by omega) (K _ _ _ hI)
  · refine y_aload_n Z dL_law_412 1 rfl rfl ?_
    refine y_aload_n Z dL_law_413 0 rfl rfl ?_
    refine y_iload Z dL_law_414 4 rfl ?_
    refine y_iconst (v := 1) Z dL_law_416 (by decide) ?_
    refine y_iadd Z dL_law_417 ?_
    refine y_sld Z hX hbl hbA (sx_in hi hL 1 (by decide)).1 (i + 1) (sx_in hi hL 1 (by decide)).2 dL_law_418 ?_
    refine y_aload_n Z dL_law_419 0 rfl rfl ?_
    refine y_iload Z dL_law_420 4 rfl ?_
    refine y_iconst (v := 2) Z dL_law_422 (by decide) ?_
    refine y_iadd Z dL_law_423 ?_
    refine y_sld Z hX hbl hbA (sx_in hi hL 2 (by decide)).1 (i + 2) (sx_in hi hL 2 (by decide)).2 dL_law_424 ?_
    refine y_aload_n Z dL_law_425 0 rfl rfl ?_
    refine y_iload Z dL_law_426 4 rfl ?_
    refine y_iconst (v := 3) Z dL_law_428 (by decide) ?_
    refine y_iadd Z dL_law_429 ?_
    refine y_sld Z hX hbl hbA (sx_in hi hL 3 (by decide)).1 (i + 3) (sx_in hi hL 3 (by decide)).2 dL_law_430 ?_
    refine y_aload_n Z dL_law_431 0 rfl rfl ?_
    refine y_iload Z dL_law_432 4 rfl ?_
    refine y_iconst (v := 4) Z dL_law_434 (by decide) ?_
    refine y_iadd Z dL_law_435 ?_
    refine y_sld Z hX hbl hbA (sx_in hi hL 4 (by decide)).1 (i + 4) (sx_in hi hL 4 (by decide)).2 dL_law_436 ?_
    refine y_aload_n Z dL_law_437 3 rfl rfl ?_
    refine y_SWw (rest := []) Z X (k_L_key_b2 l htr D ht0 ht1 aJ J aO O (xs (i + 1)) (xs (i + 2)) (xs (i + 3)) (xs (i + 4)) o_k o_f hb) (y_cwSW 6 Z ml_RL_115 st_L_key in_L co_L_key rfl rfl hs_L_key ⟨Nat.le_of_ble_eq_true rfl, Nat.le_of_ble_eq_true rfl⟩) List.nil (wMd cI aS S) (by simp only [List.nil_append, List.append_assoc]) rfl rfl (Nat.le_of_ble_eq_true rfl) dL_law_438 ⟨by show _ ≤ 1069; omega, by show _ ≤ 10084; omega⟩ (wL cI cL aJ J aO O aS S) (by simp only [wL, List.nil_append, List.append_assoc]) ?_
    refine y_istore Z [(5, .int 2), (0, .ref b), (1, .ref (aJ 0)), (2, .ref (aS 0)), (3, .ref aO), (4, .int (nI i))] dL_law_441 (by decide) rfl ?_
    refine y_aload_n Z dL_law_443 3 rfl rfl ?_
    refine y_aload_n Z dL_law_444 1 rfl rfl ?_
    refine y_iload Z dL_law_445 5 rfl ?_
    refine y_iconst (v := 1) Z dL_law_447 (by decide) ?_
    refine y_iadd Z dL_law_448 ?_
    refine y_sld Z hX hbl hbA (sx_in hi hL 1 (by decide)).1 (i + 1) (sx_in hi hL 1 (by decide)).2 dL_law_449 ?_
    refine y_aload_n Z dL_law_450 1 rfl rfl ?_
    refine y_iload Z dL_law_451 5 rfl ?_
    refine y_iconst (v := 2) Z dL_law_453 (by decide) ?_
    refine y_iadd Z dL_law_454 ?_
    refine y_sld Z hX hbl hbA (sx_in hi hL 2 (by decide)).1 (i + 2) (sx_in hi hL 2 (by decide)).2 dL_law_455 ?_
    refine y_aload_n Z dL_law_456 1 rfl rfl ?_
    refine y_iload Z dL_law_457 5 rfl ?_
    refine y_iconst (v := 3) Z dL_law_459 (by decide) ?_
    refine y_iadd Z dL_law_460 ?_
    refine y_sld Z hX hbl hbA (sx_in hi hL 3 (by decide)).1 (i + 3) (sx_in hi hL 3 (by decide)).2 dL_law_461 ?_
    refine y_aload_n Z dL_law_462 1 rfl rfl ?_
    refine y_iload Z dL_law_463 5 rfl ?_
    refine y_iconst (v := 4) Z dL_law_465 (by decide) ?_
    refine y_iadd Z dL_law_466 ?_
    refine y_sld Z hX hbl hbA (sx_in hi hL 4 (by decide)).1 (i + 4) (sx_in hi hL 4 (by decide)).2 dL_law_467 ?_
    refine y_VIw (rest := []) Z (k_X6_key l D ht0 aS S (xs (i + 1)) (xs (i + 2)) (xs (i + 3)) (xs (i + 4)) m_nn) (y_cwV 4 Z ml_RL_118 im_X6_key se_X6_key in_X6 co_X6_key rfl rfl hd_X6_key ⟨Nat.le_of_ble_eq_true rfl, Nat.le_of_ble_eq_true rfl⟩) (wVM cI aJ J ++ wOut cL aO O) List.nil (by simp only [List.append_assoc, List.append_nil]) 6 0 rfl rfl rfl rfl (Nat.le_of_ble_eq_true rfl) dL_law_468 ⟨by show _ ≤ 1069; omega, by show _ ≤ 10084; omega⟩ (wL cI cL aJ J aO O aS (mc_key S (xs (i + 1)) (xs (i + 2)) (xs (i + 3)) (xs (i + 4)))) (by simp only [wL, mc_key, List.append_assoc, List.append_nil, wMix, wLog, wPic, wRep, wScr, wVM, wMd, sR_eq, sR_ne, sF_eq, sF_ne, upd_eq, upd_ne, gs_eq, gs_ne, gm_4, gm_ne, Nat.reduceBEq]) ?_
    refine y_istore Z [(6, .int (if mv_go (mv_an (mv_ik (xs (i + 1))) (mv_is (xs (i + 2)))) (mv_an (mv_in (Int32.toInt64 (xs (i + 3))) 0 100) (mv_in (Int32.toInt64 (xs (i + 4))) 1 100)) (mv_hr (S 0 1)) = 0 then 0 else mv_ds (S 1) 4 (xs (i + 1)) (xs (i + 2)) (xs (i + 3)) (xs (i + 4)))), (5, .int 2), (0, .ref b), (1, .ref (aJ 0)), (2, .ref (aS 0)), (3, .ref aO), (4, .int (nI i))] dL_law_471 (by decide) rfl ?_
    refine y_aload_n Z dL_law_473 4 rfl rfl ?_
    refine y_VIw (rest := []) Z (k_X6_thrown l D ht0 aS (mc_key S (xs (i + 1)) (xs (i + 2)) (xs (i + 3)) (xs (i + 4)))) (y_cwV 0 Z ml_RL_102 im_X6_thrown se_X6_thrown in_X6 co_X6_thrown rfl rfl hd_X6_thrown ⟨Nat.le_of_ble_eq_true rfl, Nat.le_of_ble_eq_true rfl⟩) (wVM cI aJ J ++ wOut cL aO O) List.nil (by simp only [List.append_assoc, List.append_nil]) 6 0 rfl rfl rfl rfl (Nat.le_of_ble_eq_true rfl) dL_law_474 ⟨by show _ ≤ 1069; omega, by show _ ≤ 10084; omega⟩ (wL cI cL aJ J aO O aS (mc_key S (xs (i + 1)) (xs (i + 2)) (xs (i + 3)) (xs (i + 4)))) (by simp only [wL, List.append_assoc, List.append_nil]) ?_
    refine y_eq rfl rfl (st' := [.int 2]) (by rw [he]) ?_
    refine y_iload Z dL_law_477 1 rfl ?_
    refine y_icmp_eq (tgt := 484) Z dL_law_479 (by decide) (fun _ => ?_) (fun h => absurd rfl h)
    refine y_iload Z dL_law_484 1 rfl ?_
    refine y_if_ne (tgt := 501) Z dL_law_486 (by decide) (fun _ => ?_) (fun h => absurd h (by decide))
    refine y_goto (tgt := 1756) Z dL_law_501 (by decide) ?_
    refine y_lv [2, 3, 4, 5, 6] (lv' := [(0, .ref b), (1, .ref (aJ 0)), (2, .ref (aS 0)), (3, .ref aO), (4, .int (nI i))]) rfl ?_
    exact y_wide (k := cells + 1) (n := slots + 6) (by omega) (by omega) (K _ _ _ hI)
  · refine y_aload_n Z dL_law_412 1 rfl rfl ?_
    refine y_aload_n Z dL_law_413 0 rfl rfl ?_
    refine y_iload Z dL_law_414 4 rfl ?_
    refine y_iconst (v := 1) Z dL_law_416 (by decide) ?_
    refine y_iadd Z dL_law_417 ?_
    refine y_sld Z hX hbl hbA (sx_in hi hL 1 (by decide)).1 (i + 1) (sx_in hi hL 1 (by decide)).2 dL_law_418 ?_
    refine y_aload_n Z dL_law_419 0 rfl rfl ?_
    refine y_iload Z dL_law_420 4 rfl ?_
    refine y_iconst (v := 2) Z dL_law_422 (by decide) ?_
    refine y_iadd Z dL_law_423 ?_
    refine y_sld Z hX hbl hbA (sx_in hi hL 2 (by decide)).1 (i + 2) (sx_in hi hL 2 (by decide)).2 dL_law_424 ?_
    refine y_aload_n Z dL_law_425 0 rfl rfl ?_
    refine y_iload Z dL_law_426 4 rfl ?_
    refine y_iconst (v := 3) Z dL_law_428 (by decide) ?_
    refine y_iadd Z dL_law_429 ?_
    refine y_sld Z hX hbl hbA (sx_in hi hL 3 (by decide)).1 (i + 3) (sx_in hi hL 3 (by decide)).2 dL_law_430 ?_
    refine y_aload_n Z dL_law_431 0 rfl rfl ?_
    refine y_iload Z dL_law_432 4 rfl ?_
    refine y_iconst (v := 4) Z dL_law_434 (by decide) ?_
    refine y_iadd Z dL_law_435 ?_
    refine y_sld Z hX hbl hbA (sx_in hi hL 4 (by decide)).1 (i + 4) (sx_in hi hL 4 (by decide)).2 dL_law_436 ?_
    refine y_aload_n Z dL_law_437 3 rfl rfl ?_
    refine y_SWw (rest := []) Z X (k_L_key_b3 l htr D ht0 ht1 aJ J aO O (xs (i + 1)) (xs (i + 2)) (xs (i + 3)) (xs (i + 4)) o_k o_f o_o hb) (y_cwSW 6 Z ml_RL_115 st_L_key in_L co_L_key rfl rfl hs_L_key ⟨Nat.le_of_ble_eq_true rfl, Nat.le_of_ble_eq_true rfl⟩) List.nil (wMd cI aS S) (by simp only [List.nil_append, List.append_assoc]) rfl rfl (Nat.le_of_ble_eq_true rfl) dL_law_438 ⟨by show _ ≤ 1069; omega, by show _ ≤ 10084; omega⟩ (wL cI cL aJ J aO O aS S) (by simp only [wL, List.nil_append, List.append_assoc]) ?_
    refine y_istore Z [(5, .int 2), (0, .ref b), (1, .ref (aJ 0)), (2, .ref (aS 0)), (3, .ref aO), (4, .int (nI i))] dL_law_441 (by decide) rfl ?_
    refine y_aload_n Z dL_law_443 3 rfl rfl ?_
    refine y_aload_n Z dL_law_444 1 rfl rfl ?_
    refine y_iload Z dL_law_445 5 rfl ?_
    refine y_iconst (v := 1) Z dL_law_447 (by decide) ?_
    refine y_iadd Z dL_law_448 ?_
    refine y_sld Z hX hbl hbA (sx_in hi hL 1 (by decide)).1 (i + 1) (sx_in hi hL 1 (by decide)).2 dL_law_449 ?_
    refine y_aload_n Z dL_law_450 1 rfl rfl ?_
    refine y_iload Z dL_law_451 5 rfl ?_
    refine y_iconst (v := 2) Z dL_law_453 (by decide) ?_
    refine y_iadd Z dL_law_454 ?_
    refine y_sld Z hX hbl hbA (sx_in hi hL 2 (by decide)).1 (i + 2) (sx_in hi hL 2 (by decide)).2 dL_law_455 ?_
    refine y_aload_n Z dL_law_456 1 rfl rfl ?_
    refine y_iload Z dL_law_457 5 rfl ?_
    refine y_iconst (v := 3) Z dL_law_459 (by decide) ?_
    refine y_iadd Z dL_law_460 ?_
    refine y_sld Z hX hbl hbA (sx_in hi hL 3 (by decide)).1 (i + 3) (sx_in hi hL 3 (by decide)).2 dL_law_461 ?_
    refine y_aload_n Z dL_law_462 1 rfl rfl ?_
    refine y_iload Z dL_law_463 5 rfl ?_
    refine y_iconst (v := 4) Z dL_law_465 (by decide) ?_
    refine y_iadd Z dL_law_466 ?_
    refine y_sld Z hX hbl hbA (sx_in hi hL 4 (by decide)).1 (i + 4) (sx_in hi hL 4 (by decide)).2 dL_law_467 ?_
    refine y_VIw (rest := []) Z (k_X6_key l D ht0 aS S (xs (i + 1)) (xs (i + 2)) (xs (i + 3)) (xs (i + 4)) m_nn) (y_cwV 4 Z ml_RL_118 im_X6_key se_X6_key in_X6 co_X6_key rfl rfl hd_X6_key ⟨Nat.le_of_ble_eq_true rfl, Nat.le_of_ble_eq_true rfl⟩) (wVM cI aJ J ++ wOut cL aO O) List.nil (by simp only [List.append_assoc, List.append_nil]) 6 0 rfl rfl rfl rfl (Nat.le_of_ble_eq_true rfl) dL_law_468 ⟨by show _ ≤ 1069; omega, by show _ ≤ 10084; omega⟩ (wL cI cL aJ J aO O aS (mc_key S (xs (i + 1)) (xs (i + 2)) (xs (i + 3)) (xs (i + 4)))) (by simp only [wL, mc_key, List.append_assoc, List.append_nil, wMix, wLog, wPic, wRep, wScr, wVM, wMd, sR_eq, sR_ne, sF_eq, sF_ne, upd_eq, upd_ne, gs_eq, gs_ne, gm_4, gm_ne, Nat.reduceBEq]) ?_
    refine y_istore Z [(6, .int (if mv_go (mv_an (mv_ik (xs (i + 1))) (mv_is (xs (i + 2)))) (mv_an (mv_in (Int32.toInt64 (xs (i + 3))) 0 100) (mv_in (Int32.toInt64 (xs (i + 4))) 1 100)) (mv_hr (S 0 1)) = 0 then 0 else mv_ds (S 1) 4 (xs (i + 1)) (xs (i + 2)) (xs (i + 3)) (xs (i + 4)))), (5, .int 2), (0, .ref b), (1, .ref (aJ 0)), (2, .ref (aS 0)), (3, .ref aO), (4, .int (nI i))] dL_law_471 (by decide) rfl ?_
    refine y_aload_n Z dL_law_473 4 rfl rfl ?_
    refine y_VIw (rest := []) Z (k_X6_thrown l D ht0 aS (mc_key S (xs (i + 1)) (xs (i + 2)) (xs (i + 3)) (xs (i + 4)))) (y_cwV 0 Z ml_RL_102 im_X6_thrown se_X6_thrown in_X6 co_X6_thrown rfl rfl hd_X6_thrown ⟨Nat.le_of_ble_eq_true rfl, Nat.le_of_ble_eq_true rfl⟩) (wVM cI aJ J ++ wOut cL aO O) List.nil (by simp only [List.append_assoc, List.append_nil]) 6 0 rfl rfl rfl rfl (Nat.le_of_ble_eq_true rfl) dL_law_474 ⟨by show _ ≤ 1069; omega, by show _ ≤ 10084; omega⟩ (wL cI cL aJ J aO O aS (mc_key S (xs (i + 1)) (xs (i + 2)) (xs (i + 3)) (xs (i + 4)))) (by simp only [wL, List.append_assoc, List.append_nil]) ?_
    refine y_eq rfl rfl (st' := [.int 2]) (by rw [he]) ?_
    refine y_iload Z dL_law_477 1 rfl ?_
    refine y_icmp_eq (tgt := 484) Z dL_law_479 (by decide) (fun _ => ?_) (fun h => absurd rfl h)
    refine y_iload Z dL_law_484 1 rfl ?_
    refine y_if_ne (tgt := 501) Z dL_law_486 (by decide) (fun _ => ?_) (fun h => absurd h (by decide))
    refine y_goto (tgt := 1756) Z dL_law_501 (by decide) ?_
    refine y_lv [2, 3, 4, 5, 6] (lv' := [(0, .ref b), (1, .ref (aJ 0)), (2, .ref (aS 0)), (3, .ref aO), (4, .int (nI i))]) rfl ?_
    exact y_wide (k := cells + 1) (n := slots + 6) (by omega) (by omega) (K _ _ _ hI)
  · refine y_aload_n Z dL_law_412 1 rfl rfl ?_
    refine y_aload_n Z dL_law_413 0 rfl rfl ?_
    refine y_iload Z dL_law_414 4 rfl ?_
    refine y_iconst (v := 1) Z dL_law_416 (by decide) ?_
    refine y_iadd Z dL_law_417 ?_
    refine y_sld Z hX hbl hbA (sx_in hi hL 1 (by decide)).1 (i + 1) (sx_in hi hL 1 (by decide)).2 dL_law_418 ?_
    refine y_aload_n Z dL_law_419 0 rfl rfl ?_
    refine y_iload Z dL_law_420 4 rfl ?_
    refine y_iconst (v := 2) Z dL_law_422 (by decide) ?_
    refine y_iadd Z dL_law_423 ?_
    refine y_sld Z hX hbl hbA (sx_in hi hL 2 (by decide)).1 (i + 2) (sx_in hi hL 2 (by decide)).2 dL_law_424 ?_
    refine y_aload_n Z dL_law_425 0 rfl rfl ?_
    refine y_iload Z dL_law_426 4 rfl ?_
    refine y_iconst (v := 3) Z dL_law_428 (by decide) ?_
    refine y_iadd Z dL_law_429 ?_
    refine y_sld Z hX hbl hbA (sx_in hi hL 3 (by decide)).1 (i + 3) (sx_in hi hL 3 (by decide)).2 dL_law_430 ?_
    refine y_aload_n Z dL_law_431 0 rfl rfl ?_
    refine y_iload Z dL_law_432 4 rfl ?_
    refine y_iconst (v := 4) Z dL_law_434 (by decide) ?_
    refine y_iadd Z dL_law_435 ?_
    refine y_sld Z hX hbl hbA (sx_in hi hL 4 (by decide)).1 (i + 4) (sx_in hi hL 4 (by decide)).2 dL_law_436 ?_
    refine y_aload_n Z dL_law_437 3 rfl rfl ?_
    refine y_SWw (rest := []) Z X (k_L_key_b4 l htr D ht0 ht1 aJ J aO O (xs (i + 1)) (xs (i + 2)) (xs (i + 3)) (xs (i + 4)) o_k o_f o_o o_ar hb) (y_cwSW 6 Z ml_RL_115 st_L_key in_L co_L_key rfl rfl hs_L_key ⟨Nat.le_of_ble_eq_true rfl, Nat.le_of_ble_eq_true rfl⟩) List.nil (wMd cI aS S) (by simp only [List.nil_append, List.append_assoc]) rfl rfl (Nat.le_of_ble_eq_true rfl) dL_law_438 ⟨by show _ ≤ 1069; omega, by show _ ≤ 10084; omega⟩ (wL cI cL aJ J aO O aS S) (by simp only [wL, List.nil_append, List.append_assoc]) ?_
    refine y_istore Z [(5, .int 3), (0, .ref b), (1, .ref (aJ 0)), (2, .ref (aS 0)), (3, .ref aO), (4, .int (nI i))] dL_law_441 (by decide) rfl ?_
    refine y_aload_n Z dL_law_443 3 rfl rfl ?_
    refine y_aload_n Z dL_law_444 1 rfl rfl ?_
    refine y_iload Z dL_law_445 5 rfl ?_
    refine y_iconst (v := 1) Z dL_law_447 (by decide) ?_
    refine y_iadd Z dL_law_448 ?_
    refine y_sld Z hX hbl hbA (sx_in hi hL 1 (by decide)).1 (i + 1) (sx_in hi hL 1 (by decide)).2 dL_law_449 ?_
    refine y_aload_n Z dL_law_450 1 rfl rfl ?_
    refine y_iload Z dL_law_451 5 rfl ?_
    refine y_iconst (v := 2) Z dL_law_453 (by decide) ?_
    refine y_iadd Z dL_law_454 ?_
    refine y_sld Z hX hbl hbA (sx_in hi hL 2 (by decide)).1 (i + 2) (sx_in hi hL 2 (by decide)).2 dL_law_455 ?_
    refine y_aload_n Z dL_law_456 1 rfl rfl ?_
    refine y_iload Z dL_law_457 5 rfl ?_
    refine y_iconst (v := 3) Z dL_law_459 (by decide) ?_
    refine y_iadd Z dL_law_460 ?_
    refine y_sld Z hX hbl hbA (sx_in hi hL 3 (by decide)).1 (i + 3) (sx_in hi hL 3 (by decide)).2 dL_law_461 ?_
    refine y_aload_n Z dL_law_462 1 rfl rfl ?_
    refine y_iload Z dL_law_463 5 rfl ?_
    refine y_iconst (v := 4) Z dL_law_465 (by decide) ?_
    refine y_iadd Z dL_law_466 ?_
    refine y_sld Z hX hbl hbA (sx_in hi hL 4 (by decide)).1 (i + 4) (sx_in hi hL 4 (by decide)).2 dL_law_467 ?_
    refine y_VIw (rest := []) Z (k_X6_key l D ht0 aS S (xs (i + 1)) (xs (i + 2)) (xs (i + 3)) (xs (i + 4)) m_nn) (y_cwV 4 Z ml_RL_118 im_X6_key se_X6_key in_X6 co_X6_key rfl rfl hd_X6_key ⟨Nat.le_of_ble_eq_true rfl, Nat.le_of_ble_eq_true rfl⟩) (wVM cI aJ J ++ wOut cL aO O) List.nil (by simp only [List.append_assoc, List.append_nil]) 6 0 rfl rfl rfl rfl (Nat.le_of_ble_eq_true rfl) dL_law_468 ⟨by show _ ≤ 1069; omega, by show _ ≤ 10084; omega⟩ (wL cI cL aJ J aO O aS (mc_key S (xs (i + 1)) (xs (i + 2)) (xs (i + 3)) (xs (i + 4)))) (by simp only [wL, mc_key, List.append_assoc, List.append_nil, wMix, wLog, wPic, wRep, wScr, wVM, wMd, sR_eq, sR_ne, sF_eq, sF_ne, upd_eq, upd_ne, gs_eq, gs_ne, gm_4, gm_ne, Nat.reduceBEq]) ?_
    refine y_istore Z [(6, .int (if mv_go (mv_an (mv_ik (xs (i + 1))) (mv_is (xs (i + 2)))) (mv_an (mv_in (Int32.toInt64 (xs (i + 3))) 0 100) (mv_in (Int32.toInt64 (xs (i + 4))) 1 100)) (mv_hr (S 0 1)) = 0 then 0 else mv_ds (S 1) 4 (xs (i + 1)) (xs (i + 2)) (xs (i + 3)) (xs (i + 4)))), (5, .int 3), (0, .ref b), (1, .ref (aJ 0)), (2, .ref (aS 0)), (3, .ref aO), (4, .int (nI i))] dL_law_471 (by decide) rfl ?_
    refine y_aload_n Z dL_law_473 4 rfl rfl ?_
    refine y_VIw (rest := []) Z (k_X6_thrown l D ht0 aS (mc_key S (xs (i + 1)) (xs (i + 2)) (xs (i + 3)) (xs (i + 4)))) (y_cwV 0 Z ml_RL_102 im_X6_thrown se_X6_thrown in_X6 co_X6_thrown rfl rfl hd_X6_thrown ⟨Nat.le_of_ble_eq_true rfl, Nat.le_of_ble_eq_true rfl⟩) (wVM cI aJ J ++ wOut cL aO O) List.nil (by simp only [List.append_assoc, List.append_nil]) 6 0 rfl rfl rfl rfl (Nat.le_of_ble_eq_true rfl) dL_law_474 ⟨by show _ ≤ 1069; omega, by show _ ≤ 10084; omega⟩ (wL cI cL aJ J aO O aS (mc_key S (xs (i + 1)) (xs (i + 2)) (xs (i + 3)) (xs (i + 4)))) (by simp only [wL, List.append_assoc, List.append_nil]) ?_
    refine y_eq rfl rfl (st' := [.int 3]) (by rw [he]) ?_
    refine y_iload Z dL_law_477 1 rfl ?_
    refine y_icmp_eq (tgt := 484) Z dL_law_479 (by decide) (fun _ => ?_) (fun h => absurd rfl h)
    refine y_iload Z dL_law_484 1 rfl ?_
    refine y_if_ne (tgt := 501) Z dL_law_486 (by decide) (fun _ => ?_) (fun h => absurd h (by decide))
    refine y_goto (tgt := 1756) Z dL_law_501 (by decide) ?_
    refine y_lv [2, 3, 4, 5, 6] (lv' := [(0, .ref b), (1, .ref (aJ 0)), (2, .ref (aS 0)), (3, .ref aO), (4, .int (nI i))]) rfl ?_
    exact y_wide (k := cells + 1) (n := slots + 6) (by omega) (by omega) (K _ _ _ hI)
set_option maxHeartbeats 4000000 in
set_option maxRecDepth 100000 in
theorem lc_toggle {p : Program} {l : Launch} {e : Env} {s : State} {m : MethodId} {args : Array Value} {below : List Frame} {meth : Method} {c : Code} {Q : State → Prop} {D : va_G} {A : Nat → Prop} {tys : List (ClassId × FieldType)} {cI cL : ClassId} (Z : Zz p m c cL_law 9 s args wsL_law RL D tys A) (X : Xz s A) (htr : l.stackTraces = false) (ht0 : tys[0]? = some (cI, .int)) (ht1 : tys[1]? = some (cL, .long)) {b L : Nat} {xs : Nat → Int32} (hX : va_X b L xs s s.heap) (hbl : b < s.heap.size) (hbA : ¬ A b) {i : Nat} (hi : i + 4 < L) (hL : L ≤ 2560) {cells slots : Nat} (hc : cells + 1 ≤ 1069) (hs : slots + 6 ≤ 10084) {aJ : Nat → Nat} {aO : Nat} {aS : Nat → Nat} {J : Nat → Nat → Nat → Int32} {O : Nat → Int64} {S : Nat → Nat → Int32} (I : Inv J S) (K : ∀ (J2 : Nat → Nat → Nat → Int32) (O2 : Nat → Int64) (S2 : Nat → Nat → Int32), Inv J2 S2 → Yy p l e room_1 s m args below meth c Q D A 9 (cells + 1) (slots + 6) (wL cI cL aJ J2 aO O2 aS S2) [(0, .ref b), (1, .ref (aJ 0)), (2, .ref (aS 0)), (3, .ref aO), (4, .int (nI i))] [] 1756) : Yy p l e room_1 s m args below meth c Q D A 9 cells slots (wL cI cL aJ J aO O aS S) [(0, .ref b), (1, .ref (aJ 0)), (2, .ref (aS 0)), (3, .ref aO), (4, .int (nI i))] [] 504 := by
  obtain ⟨m_nn, hr⟩ := c2_toggle I (xs (i + 1))
  rcases hr with ⟨o_k, o_m, he, her, hI⟩ | ⟨hb, he, hI⟩ | ⟨o_k, hb, he, hI⟩
  · refine y_aload_n Z dL_law_504 1 rfl rfl ?_
    refine y_aload_n Z dL_law_505 0 rfl rfl ?_
    refine y_iload Z dL_law_506 4 rfl ?_
    refine y_iconst (v := 1) Z dL_law_508 (by decide) ?_
    refine y_iadd Z dL_law_509 ?_
    refine y_sld Z hX hbl hbA (sx_in hi hL 1 (by decide)).1 (i + 1) (sx_in hi hL 1 (by decide)).2 dL_law_510 ?_
    refine y_aload_n Z dL_law_511 3 rfl rfl ?_
    refine y_SWw (rest := []) Z X (k_L_toggle l htr D ht0 ht1 aJ J aO O (xs (i + 1)) o_k o_m) (y_cwSW 3 Z ml_RL_119 st_L_toggle in_L co_L_toggle rfl rfl hs_L_toggle ⟨Nat.le_of_ble_eq_true rfl, Nat.le_of_ble_eq_true rfl⟩) List.nil (wMd cI aS S) (by simp only [List.nil_append, List.append_assoc]) rfl rfl (Nat.le_of_ble_eq_true rfl) dL_law_512 ⟨by show _ ≤ 1069; omega, by show _ ≤ 10084; omega⟩ (wL cI cL aJ (vm_enact J 5 (xs (i + 1)) (-1) (-1) (-1)) aO (vp_updL O 0 (Int32.toInt64 (perfR (J 0) 5 (xs (i + 1)) (-1) (-1) (-1)))) aS S) (by simp only [wL, List.nil_append, List.append_assoc]) ?_
    refine y_istore Z [(5, .int 0), (0, .ref b), (1, .ref (aJ 0)), (2, .ref (aS 0)), (3, .ref aO), (4, .int (nI i))] dL_law_515 (by decide) rfl ?_
    refine y_aload_n Z dL_law_517 3 rfl rfl ?_
    refine y_aload_n Z dL_law_518 1 rfl rfl ?_
    refine y_iload Z dL_law_519 5 rfl ?_
    refine y_iconst (v := 1) Z dL_law_521 (by decide) ?_
    refine y_iadd Z dL_law_522 ?_
    refine y_sld Z hX hbl hbA (sx_in hi hL 1 (by decide)).1 (i + 1) (sx_in hi hL 1 (by decide)).2 dL_law_523 ?_
    refine y_VIw (rest := []) Z (k_X6_toggle l D ht0 aS S (xs (i + 1)) m_nn) (y_cwV 1 Z ml_RL_121 im_X6_toggle se_X6_toggle in_X6 co_X6_toggle rfl rfl hd_X6_toggle ⟨Nat.le_of_ble_eq_true rfl, Nat.le_of_ble_eq_true rfl⟩) (wVM cI aJ (vm_enact J 5 (xs (i + 1)) (-1) (-1) (-1)) ++ wOut cL aO (vp_updL O 0 (Int32.toInt64 (perfR (J 0) 5 (xs (i + 1)) (-1) (-1) (-1))))) List.nil (by simp only [List.append_assoc, List.append_nil]) 6 0 rfl rfl rfl rfl (Nat.le_of_ble_eq_true rfl) dL_law_524 ⟨by show _ ≤ 1069; omega, by show _ ≤ 10084; omega⟩ (wL cI cL aJ (vm_enact J 5 (xs (i + 1)) (-1) (-1) (-1)) aO (vp_updL O 0 (Int32.toInt64 (perfR (J 0) 5 (xs (i + 1)) (-1) (-1) (-1)))) aS (mc_toggle S (xs (i + 1)))) (by simp only [wL, mc_toggle, List.append_assoc, List.append_nil, wMix, wLog, wPic, wRep, wScr, wVM, wMd, sR_eq, sR_ne, sF_eq, sF_ne, upd_eq, upd_ne, gs_eq, gs_ne, gm_4, gm_ne, Nat.reduceBEq]) ?_
    refine y_istore Z [(6, .int (if mv_go (mv_ik (xs (i + 1))) (mv_hr (S 0 1)) 1 = 0 then 0 else mv_ds (S 1) 5 (xs (i + 1)) (-1) (-1) (-1))), (5, .int 0), (0, .ref b), (1, .ref (aJ 0)), (2, .ref (aS 0)), (3, .ref aO), (4, .int (nI i))] dL_law_527 (by decide) rfl ?_
    refine y_aload_n Z dL_law_529 4 rfl rfl ?_
    refine y_VIw (rest := []) Z (k_X6_thrown l D ht0 aS (mc_toggle S (xs (i + 1)))) (y_cwV 0 Z ml_RL_102 im_X6_thrown se_X6_thrown in_X6 co_X6_thrown rfl rfl hd_X6_thrown ⟨Nat.le_of_ble_eq_true rfl, Nat.le_of_ble_eq_true rfl⟩) (wVM cI aJ (vm_enact J 5 (xs (i + 1)) (-1) (-1) (-1)) ++ wOut cL aO (vp_updL O 0 (Int32.toInt64 (perfR (J 0) 5 (xs (i + 1)) (-1) (-1) (-1))))) List.nil (by simp only [List.append_assoc, List.append_nil]) 6 0 rfl rfl rfl rfl (Nat.le_of_ble_eq_true rfl) dL_law_530 ⟨by show _ ≤ 1069; omega, by show _ ≤ 10084; omega⟩ (wL cI cL aJ (vm_enact J 5 (xs (i + 1)) (-1) (-1) (-1)) aO (vp_updL O 0 (Int32.toInt64 (perfR (J 0) 5 (xs (i + 1)) (-1) (-1) (-1)))) aS (mc_toggle S (xs (i + 1)))) (by simp only [wL, List.append_assoc, List.append_nil]) ?_
    refine y_eq rfl rfl (st' := [.int 0]) (by rw [he]) ?_
    refine y_iload Z dL_law_533 1 rfl ?_
    refine y_icmp_eq (tgt := 540) Z dL_law_535 (by decide) (fun _ => ?_) (fun h => absurd rfl h)
    refine y_iload Z dL_law_540 1 rfl ?_
    refine y_if_ne (tgt := 557) Z dL_law_542 (by decide) (fun h => absurd rfl h) (fun _ => ?_)
    refine y_aload_n Z dL_law_545 5 rfl rfl ?_
    refine y_iconst (v := 0) Z dL_law_546 (by decide) ?_
    refine y_lald Z 27 1 rfl ht1 (vpd (by decide) (by decide)) 0 (by decide) dL_law_547 ?_
    refine y_iload Z dL_law_548 0 rfl ?_
    refine y_i2l Z dL_law_550 ?_
    refine y_eq rfl rfl (st' := [.long (Int32.toInt64 (if mv_go (mv_ik (xs (i + 1))) (mv_hr (S 0 1)) 1 = 0 then 0 else mv_ds (S 1) 5 (xs (i + 1)) (-1) (-1) (-1))), .long (Int32.toInt64 (if mv_go (mv_ik (xs (i + 1))) (mv_hr (S 0 1)) 1 = 0 then 0 else mv_ds (S 1) 5 (xs (i + 1)) (-1) (-1) (-1)))]) (by rw [← her]; rfl) ?_
    refine y_lcmp Z dL_law_551 ?_
    refine y_if_eq (tgt := 557) Z dL_law_552 (by decide) (fun _ => ?_) (fun h => absurd (lgc_self _) h)
    refine y_goto (tgt := 1756) Z dL_law_557 (by decide) ?_
    refine y_lv [2, 3, 4, 5, 6] (lv' := [(0, .ref b), (1, .ref (aJ 0)), (2, .ref (aS 0)), (3, .ref aO), (4, .int (nI i))]) rfl ?_
    exact y_wide (k := cells + 1) (n := slots + 6) (by omega) (by omega) (K _ _ _ hI)
  · refine y_aload_n Z dL_law_504 1 rfl rfl ?_
    refine y_aload_n Z dL_law_505 0 rfl rfl ?_
    refine y_iload Z dL_law_506 4 rfl ?_
    refine y_iconst (v := 1) Z dL_law_508 (by decide) ?_
    refine y_iadd Z dL_law_509 ?_
    refine y_sld Z hX hbl hbA (sx_in hi hL 1 (by decide)).1 (i + 1) (sx_in hi hL 1 (by decide)).2 dL_law_510 ?_
    refine y_aload_n Z dL_law_511 3 rfl rfl ?_
    refine y_SWw (rest := []) Z X (k_L_toggle_b0 l htr D ht0 ht1 aJ J aO O (xs (i + 1)) hb) (y_cwSW 3 Z ml_RL_119 st_L_toggle in_L co_L_toggle rfl rfl hs_L_toggle ⟨Nat.le_of_ble_eq_true rfl, Nat.le_of_ble_eq_true rfl⟩) List.nil (wMd cI aS S) (by simp only [List.nil_append, List.append_assoc]) rfl rfl (Nat.le_of_ble_eq_true rfl) dL_law_512 ⟨by show _ ≤ 1069; omega, by show _ ≤ 10084; omega⟩ (wL cI cL aJ J aO O aS S) (by simp only [wL, List.nil_append, List.append_assoc]) ?_
    refine y_istore Z [(5, .int 1), (0, .ref b), (1, .ref (aJ 0)), (2, .ref (aS 0)), (3, .ref aO), (4, .int (nI i))] dL_law_515 (by decide) rfl ?_
    refine y_aload_n Z dL_law_517 3 rfl rfl ?_
    refine y_aload_n Z dL_law_518 1 rfl rfl ?_
    refine y_iload Z dL_law_519 5 rfl ?_
    refine y_iconst (v := 1) Z dL_law_521 (by decide) ?_
    refine y_iadd Z dL_law_522 ?_
    refine y_sld Z hX hbl hbA (sx_in hi hL 1 (by decide)).1 (i + 1) (sx_in hi hL 1 (by decide)).2 dL_law_523 ?_
    refine y_VIw (rest := []) Z (k_X6_toggle l D ht0 aS S (xs (i + 1)) m_nn) (y_cwV 1 Z ml_RL_121 im_X6_toggle se_X6_toggle in_X6 co_X6_toggle rfl rfl hd_X6_toggle ⟨Nat.le_of_ble_eq_true rfl, Nat.le_of_ble_eq_true rfl⟩) (wVM cI aJ J ++ wOut cL aO O) List.nil (by simp only [List.append_assoc, List.append_nil]) 6 0 rfl rfl rfl rfl (Nat.le_of_ble_eq_true rfl) dL_law_524 ⟨by show _ ≤ 1069; omega, by show _ ≤ 10084; omega⟩ (wL cI cL aJ J aO O aS (mc_toggle S (xs (i + 1)))) (by simp only [wL, mc_toggle, List.append_assoc, List.append_nil, wMix, wLog, wPic, wRep, wScr, wVM, wMd, sR_eq, sR_ne, sF_eq, sF_ne, upd_eq, upd_ne, gs_eq, gs_ne, gm_4, gm_ne, Nat.reduceBEq]) ?_
    refine y_istore Z [(6, .int (if mv_go (mv_ik (xs (i + 1))) (mv_hr (S 0 1)) 1 = 0 then 0 else mv_ds (S 1) 5 (xs (i + 1)) (-1) (-1) (-1))), (5, .int 1), (0, .ref b), (1, .ref (aJ 0)), (2, .ref (aS 0)), (3, .ref aO), (4, .int (nI i))] dL_law_527 (by decide) rfl ?_
    refine y_aload_n Z dL_law_529 4 rfl rfl ?_
    refine y_VIw (rest := []) Z (k_X6_thrown l D ht0 aS (mc_toggle S (xs (i + 1)))) (y_cwV 0 Z ml_RL_102 im_X6_thrown se_X6_thrown in_X6 co_X6_thrown rfl rfl hd_X6_thrown ⟨Nat.le_of_ble_eq_true rfl, Nat.le_of_ble_eq_true rfl⟩) (wVM cI aJ J ++ wOut cL aO O) List.nil (by simp only [List.append_assoc, List.append_nil]) 6 0 rfl rfl rfl rfl (Nat.le_of_ble_eq_true rfl) dL_law_530 ⟨by show _ ≤ 1069; omega, by show _ ≤ 10084; omega⟩ (wL cI cL aJ J aO O aS (mc_toggle S (xs (i + 1)))) (by simp only [wL, List.append_assoc, List.append_nil]) ?_
    refine y_eq rfl rfl (st' := [.int 1]) (by rw [he]) ?_
    refine y_iload Z dL_law_533 1 rfl ?_
    refine y_icmp_eq (tgt := 540) Z dL_law_535 (by decide) (fun _ => ?_) (fun h => absurd rfl h)
    refine y_iload Z dL_law_540 1 rfl ?_
    refine y_if_ne (tgt := 557) Z dL_law_542 (by decide) (fun _ => ?_) (fun h => absurd h (by decide))
    refine y_goto (tgt := 1756) Z dL_law_557 (by decide) ?_
    refine y_lv [2, 3, 4, 5, 6] (lv' := [(0, .ref b), (1, .ref (aJ 0)), (2, .ref (aS 0)), (3, .ref aO), (4, .int (nI i))]) rfl ?_
    exact y_wide (k := cells + 1) (n := slots + 6) (by omega) (by omega) (K _ _ _ hI)
  · refine y_aload_n Z dL_law_504 1 rfl rfl ?_
    refine y_aload_n Z dL_law_505 0 rfl rfl ?_
    refine y_iload Z dL_law_506 4 rfl ?_
    refine y_iconst (v := 1) Z dL_law_508 (by decide) ?_
    refine y_iadd Z dL_law_509 ?_
    refine y_sld Z hX hbl hbA (sx_in hi hL 1 (by decide)).1 (i + 1) (sx_in hi hL 1 (by decide)).2 dL_law_510 ?_
    refine y_aload_n Z dL_law_511 3 rfl rfl ?_
    refine y_SWw (rest := []) Z X (k_L_toggle_b1 l htr D ht0 ht1 aJ J aO O (xs (i + 1)) o_k hb) (y_cwSW 3 Z ml_RL_119 st_L_toggle in_L co_L_toggle rfl rfl hs_L_toggle ⟨Nat.le_of_ble_eq_true rfl, Nat.le_of_ble_eq_true rfl⟩) List.nil (wMd cI aS S) (by simp only [List.nil_append, List.append_assoc]) rfl rfl (Nat.le_of_ble_eq_true rfl) dL_law_512 ⟨by show _ ≤ 1069; omega, by show _ ≤ 10084; omega⟩ (wL cI cL aJ J aO O aS S) (by simp only [wL, List.nil_append, List.append_assoc]) ?_
    refine y_istore Z [(5, .int 2), (0, .ref b), (1, .ref (aJ 0)), (2, .ref (aS 0)), (3, .ref aO), (4, .int (nI i))] dL_law_515 (by decide) rfl ?_
    refine y_aload_n Z dL_law_517 3 rfl rfl ?_
    refine y_aload_n Z dL_law_518 1 rfl rfl ?_
    refine y_iload Z dL_law_519 5 rfl ?_
    refine y_iconst (v := 1) Z dL_law_521 (by decide) ?_
    refine y_iadd Z dL_law_522 ?_
    refine y_sld Z hX hbl hbA (sx_in hi hL 1 (by decide)).1 (i + 1) (sx_in hi hL 1 (by decide)).2 dL_law_523 ?_
    refine y_VIw (rest := []) Z (k_X6_toggle l D ht0 aS S (xs (i + 1)) m_nn) (y_cwV 1 Z ml_RL_121 im_X6_toggle se_X6_toggle in_X6 co_X6_toggle rfl rfl hd_X6_toggle ⟨Nat.le_of_ble_eq_true rfl, Nat.le_of_ble_eq_true rfl⟩) (wVM cI aJ J ++ wOut cL aO O) List.nil (by simp only [List.append_assoc, List.append_nil]) 6 0 rfl rfl rfl rfl (Nat.le_of_ble_eq_true rfl) dL_law_524 ⟨by show _ ≤ 1069; omega, by show _ ≤ 10084; omega⟩ (wL cI cL aJ J aO O aS (mc_toggle S (xs (i + 1)))) (by simp only [wL, mc_toggle, List.append_assoc, List.append_nil, wMix, wLog, wPic, wRep, wScr, wVM, wMd, sR_eq, sR_ne, sF_eq, sF_ne, upd_eq, upd_ne, gs_eq, gs_ne, gm_4, gm_ne, Nat.reduceBEq]) ?_
    refine y_istore Z [(6, .int (if mv_go (mv_ik (xs (i + 1))) (mv_hr (S 0 1)) 1 = 0 then 0 else mv_ds (S 1) 5 (xs (i + 1)) (-1) (-1) (-1))), (5, .int 2), (0, .ref b), (1, .ref (aJ 0)), (2, .ref (aS 0)), (3, .ref aO), (4, .int (nI i))] dL_law_527 (by decide) rfl ?_
    refine y_aload_n Z dL_law_529 4 rfl rfl ?_
    refine y_VIw (rest := []) Z (k_X6_thrown l D ht0 aS (mc_toggle S (xs (i + 1)))) (y_cwV 0 Z ml_RL_102 im_X6_thrown se_X6_thrown in_X6 co_X6_thrown rfl rfl hd_X6_thrown ⟨Nat.le_of_ble_eq_true rfl, Nat.le_of_ble_eq_true rfl⟩) (wVM cI aJ J ++ wOut cL aO O) List.nil (by simp only [List.append_assoc, List.append_nil]) 6 0 rfl rfl rfl rfl (Nat.le_of_ble_eq_true rfl) dL_law_530 ⟨by show _ ≤ 1069; omega, by show _ ≤ 10084; omega⟩ (wL cI cL aJ J aO O aS (mc_toggle S (xs (i + 1)))) (by simp only [wL, List.append_assoc, List.append_nil]) ?_
    refine y_eq rfl rfl (st' := [.int 2]) (by rw [he]) ?_
    refine y_iload Z dL_law_533 1 rfl ?_
    refine y_icmp_eq (tgt := 540) Z dL_law_535 (by decide) (fun _ => ?_) (fun h => absurd rfl h)
    refine y_iload Z dL_law_540 1 rfl ?_
    refine y_if_ne (tgt := 557) Z dL_law_542 (by decide) (fun _ => ?_) (fun h => absurd h (by decide))
    refine y_goto (tgt := 1756) Z dL_law_557 (by decide) ?_
    refine y_lv [2, 3, 4, 5, 6] (lv' := [(0, .ref b), (1, .ref (aJ 0)), (2, .ref (aS 0)), (3, .ref aO), (4, .int (nI i))]) rfl ?_
    exact y_wide (k := cells + 1) (n := slots + 6) (by omega) (by omega) (K _ _ _ hI)
set_option maxHeartbeats 4000000 in
set_option maxRecDepth 100000 in
theorem lc_cut {p : Program} {l : Launch} {e : Env} {s : State} {m : MethodId} {args : Array Value} {below : List Frame} {meth : Method} {c : Code} {Q : State → Prop} {D : va_G} {A : Nat → Prop} {tys : List (ClassId × FieldType)} {cI cL : ClassId} (Z : Zz p m c cL_law 9 s args wsL_law RL D tys A) (X : Xz s A) (htr : l.stackTraces = false) (ht0 : tys[0]? = some (cI, .int)) (ht1 : tys[1]? = some (cL, .long)) {b L : Nat} {xs : Nat → Int32} (hX : va_X b L xs s s.heap) (hbl : b < s.heap.size) (hbA : ¬ A b) {i : Nat} (hi : i + 4 < L) (hL : L ≤ 2560) {cells slots : Nat} (hc : cells + 1 ≤ 1069) (hs : slots + 6 ≤ 10084) {aJ : Nat → Nat} {aO : Nat} {aS : Nat → Nat} {J : Nat → Nat → Nat → Int32} {O : Nat → Int64} {S : Nat → Nat → Int32} (I : Inv J S) (K : ∀ (J2 : Nat → Nat → Nat → Int32) (O2 : Nat → Int64) (S2 : Nat → Nat → Int32), Inv J2 S2 → Yy p l e room_1 s m args below meth c Q D A 9 (cells + 1) (slots + 6) (wL cI cL aJ J2 aO O2 aS S2) [(0, .ref b), (1, .ref (aJ 0)), (2, .ref (aS 0)), (3, .ref aO), (4, .int (nI i))] [] 1756) : Yy p l e room_1 s m args below meth c Q D A 9 cells slots (wL cI cL aJ J aO O aS S) [(0, .ref b), (1, .ref (aJ 0)), (2, .ref (aS 0)), (3, .ref aO), (4, .int (nI i))] [] 560 := by
  obtain ⟨m_nn, hr⟩ := c2_cut I 
  rcases hr with ⟨o_m, he, her, hI⟩ | ⟨hb, he, hI⟩
  · refine y_aload_n Z dL_law_560 1 rfl rfl ?_
    refine y_aload_n Z dL_law_561 3 rfl rfl ?_
    refine y_SWw (rest := []) Z X (k_L_cut l htr D ht0 ht1 aJ J aO O  o_m) (y_cwSW 2 Z ml_RL_122 st_L_cut in_L co_L_cut rfl rfl hs_L_cut ⟨Nat.le_of_ble_eq_true rfl, Nat.le_of_ble_eq_true rfl⟩) List.nil (wMd cI aS S) (by simp only [List.nil_append, List.append_assoc]) rfl rfl (Nat.le_of_ble_eq_true rfl) dL_law_562 ⟨by show _ ≤ 1069; omega, by show _ ≤ 10084; omega⟩ (wL cI cL aJ (vm_enact J 6 (-1) (-1) (-1) (-1)) aO (vp_updL O 0 (Int32.toInt64 (perfR (J 0) 6 (-1) (-1) (-1) (-1)))) aS S) (by simp only [wL, List.nil_append, List.append_assoc]) ?_
    refine y_istore Z [(5, .int 0), (0, .ref b), (1, .ref (aJ 0)), (2, .ref (aS 0)), (3, .ref aO), (4, .int (nI i))] dL_law_565 (by decide) rfl ?_
    refine y_aload_n Z dL_law_567 3 rfl rfl ?_
    refine y_VIw (rest := []) Z (k_X6_cut l D ht0 aS S m_nn) (y_cwV 0 Z ml_RL_125 im_X6_cut se_X6_cut in_X6 co_X6_cut rfl rfl hd_X6_cut ⟨Nat.le_of_ble_eq_true rfl, Nat.le_of_ble_eq_true rfl⟩) (wVM cI aJ (vm_enact J 6 (-1) (-1) (-1) (-1)) ++ wOut cL aO (vp_updL O 0 (Int32.toInt64 (perfR (J 0) 6 (-1) (-1) (-1) (-1))))) List.nil (by simp only [List.append_assoc, List.append_nil]) 6 0 rfl rfl rfl rfl (Nat.le_of_ble_eq_true rfl) dL_law_568 ⟨by show _ ≤ 1069; omega, by show _ ≤ 10084; omega⟩ (wL cI cL aJ (vm_enact J 6 (-1) (-1) (-1) (-1)) aO (vp_updL O 0 (Int32.toInt64 (perfR (J 0) 6 (-1) (-1) (-1) (-1)))) aS (mc_cut S)) (by simp only [wL, mc_cut, List.append_assoc, List.append_nil, wMix, wLog, wPic, wRep, wScr, wVM, wMd, sR_eq, sR_ne, sF_eq, sF_ne, upd_eq, upd_ne, gs_eq, gs_ne, gm_4, gm_ne, Nat.reduceBEq]) ?_
    refine y_istore Z [(6, .int (if mv_go (mv_hr (S 0 1)) 1 1 = 0 then 0 else mv_ds (S 1) 6 (-1) (-1) (-1) (-1))), (5, .int 0), (0, .ref b), (1, .ref (aJ 0)), (2, .ref (aS 0)), (3, .ref aO), (4, .int (nI i))] dL_law_571 (by decide) rfl ?_
    refine y_aload_n Z dL_law_573 4 rfl rfl ?_
    refine y_VIw (rest := []) Z (k_X6_thrown l D ht0 aS (mc_cut S)) (y_cwV 0 Z ml_RL_102 im_X6_thrown se_X6_thrown in_X6 co_X6_thrown rfl rfl hd_X6_thrown ⟨Nat.le_of_ble_eq_true rfl, Nat.le_of_ble_eq_true rfl⟩) (wVM cI aJ (vm_enact J 6 (-1) (-1) (-1) (-1)) ++ wOut cL aO (vp_updL O 0 (Int32.toInt64 (perfR (J 0) 6 (-1) (-1) (-1) (-1))))) List.nil (by simp only [List.append_assoc, List.append_nil]) 6 0 rfl rfl rfl rfl (Nat.le_of_ble_eq_true rfl) dL_law_574 ⟨by show _ ≤ 1069; omega, by show _ ≤ 10084; omega⟩ (wL cI cL aJ (vm_enact J 6 (-1) (-1) (-1) (-1)) aO (vp_updL O 0 (Int32.toInt64 (perfR (J 0) 6 (-1) (-1) (-1) (-1)))) aS (mc_cut S)) (by simp only [wL, List.append_assoc, List.append_nil]) ?_
    refine y_eq rfl rfl (st' := [.int 0]) (by rw [he]) ?_
    refine y_iload Z dL_law_577 1 rfl ?_
    refine y_icmp_eq (tgt := 584) Z dL_law_579 (by decide) (fun _ => ?_) (fun h => absurd rfl h)
    refine y_iload Z dL_law_584 1 rfl ?_
    refine y_if_ne (tgt := 601) Z dL_law_586 (by decide) (fun h => absurd rfl h) (fun _ => ?_)
    refine y_aload_n Z dL_law_589 5 rfl rfl ?_
    refine y_iconst (v := 0) Z dL_law_590 (by decide) ?_
    refine y_lald Z 27 1 rfl ht1 (vpd (by decide) (by decide)) 0 (by decide) dL_law_591 ?_
    refine y_iload Z dL_law_592 0 rfl ?_
    refine y_i2l Z dL_law_594 ?_
    refine y_eq rfl rfl (st' := [.long (Int32.toInt64 (if mv_go (mv_hr (S 0 1)) 1 1 = 0 then 0 else mv_ds (S 1) 6 (-1) (-1) (-1) (-1))), .long (Int32.toInt64 (if mv_go (mv_hr (S 0 1)) 1 1 = 0 then 0 else mv_ds (S 1) 6 (-1) (-1) (-1) (-1)))]) (by rw [← her]; rfl) ?_
    refine y_lcmp Z dL_law_595 ?_
    refine y_if_eq (tgt := 601) Z dL_law_596 (by decide) (fun _ => ?_) (fun h => absurd (lgc_self _) h)
    refine y_goto (tgt := 1756) Z dL_law_601 (by decide) ?_
    refine y_lv [2, 3, 4, 5, 6] (lv' := [(0, .ref b), (1, .ref (aJ 0)), (2, .ref (aS 0)), (3, .ref aO), (4, .int (nI i))]) rfl ?_
    exact y_wide (k := cells + 1) (n := slots + 6) (by omega) (by omega) (K _ _ _ hI)
  · refine y_aload_n Z dL_law_560 1 rfl rfl ?_
    refine y_aload_n Z dL_law_561 3 rfl rfl ?_
    refine y_SWw (rest := []) Z X (k_L_cut_b0 l htr D ht0 ht1 aJ J aO O  hb) (y_cwSW 2 Z ml_RL_122 st_L_cut in_L co_L_cut rfl rfl hs_L_cut ⟨Nat.le_of_ble_eq_true rfl, Nat.le_of_ble_eq_true rfl⟩) List.nil (wMd cI aS S) (by simp only [List.nil_append, List.append_assoc]) rfl rfl (Nat.le_of_ble_eq_true rfl) dL_law_562 ⟨by show _ ≤ 1069; omega, by show _ ≤ 10084; omega⟩ (wL cI cL aJ J aO O aS S) (by simp only [wL, List.nil_append, List.append_assoc]) ?_
    refine y_istore Z [(5, .int 1), (0, .ref b), (1, .ref (aJ 0)), (2, .ref (aS 0)), (3, .ref aO), (4, .int (nI i))] dL_law_565 (by decide) rfl ?_
    refine y_aload_n Z dL_law_567 3 rfl rfl ?_
    refine y_VIw (rest := []) Z (k_X6_cut l D ht0 aS S m_nn) (y_cwV 0 Z ml_RL_125 im_X6_cut se_X6_cut in_X6 co_X6_cut rfl rfl hd_X6_cut ⟨Nat.le_of_ble_eq_true rfl, Nat.le_of_ble_eq_true rfl⟩) (wVM cI aJ J ++ wOut cL aO O) List.nil (by simp only [List.append_assoc, List.append_nil]) 6 0 rfl rfl rfl rfl (Nat.le_of_ble_eq_true rfl) dL_law_568 ⟨by show _ ≤ 1069; omega, by show _ ≤ 10084; omega⟩ (wL cI cL aJ J aO O aS (mc_cut S)) (by simp only [wL, mc_cut, List.append_assoc, List.append_nil, wMix, wLog, wPic, wRep, wScr, wVM, wMd, sR_eq, sR_ne, sF_eq, sF_ne, upd_eq, upd_ne, gs_eq, gs_ne, gm_4, gm_ne, Nat.reduceBEq]) ?_
    refine y_istore Z [(6, .int (if mv_go (mv_hr (S 0 1)) 1 1 = 0 then 0 else mv_ds (S 1) 6 (-1) (-1) (-1) (-1))), (5, .int 1), (0, .ref b), (1, .ref (aJ 0)), (2, .ref (aS 0)), (3, .ref aO), (4, .int (nI i))] dL_law_571 (by decide) rfl ?_
    refine y_aload_n Z dL_law_573 4 rfl rfl ?_
    refine y_VIw (rest := []) Z (k_X6_thrown l D ht0 aS (mc_cut S)) (y_cwV 0 Z ml_RL_102 im_X6_thrown se_X6_thrown in_X6 co_X6_thrown rfl rfl hd_X6_thrown ⟨Nat.le_of_ble_eq_true rfl, Nat.le_of_ble_eq_true rfl⟩) (wVM cI aJ J ++ wOut cL aO O) List.nil (by simp only [List.append_assoc, List.append_nil]) 6 0 rfl rfl rfl rfl (Nat.le_of_ble_eq_true rfl) dL_law_574 ⟨by show _ ≤ 1069; omega, by show _ ≤ 10084; omega⟩ (wL cI cL aJ J aO O aS (mc_cut S)) (by simp only [wL, List.append_assoc, List.append_nil]) ?_
    refine y_eq rfl rfl (st' := [.int 1]) (by rw [he]) ?_
    refine y_iload Z dL_law_577 1 rfl ?_
    refine y_icmp_eq (tgt := 584) Z dL_law_579 (by decide) (fun _ => ?_) (fun h => absurd rfl h)
    refine y_iload Z dL_law_584 1 rfl ?_
    refine y_if_ne (tgt := 601) Z dL_law_586 (by decide) (fun _ => ?_) (fun h => absurd h (by decide))
    refine y_goto (tgt := 1756) Z dL_law_601 (by decide) ?_
    refine y_lv [2, 3, 4, 5, 6] (lv' := [(0, .ref b), (1, .ref (aJ 0)), (2, .ref (aS 0)), (3, .ref aO), (4, .int (nI i))]) rfl ?_
    exact y_wide (k := cells + 1) (n := slots + 6) (by omega) (by omega) (K _ _ _ hI)
set_option maxHeartbeats 4000000 in
set_option maxRecDepth 100000 in
theorem lc_auto {p : Program} {l : Launch} {e : Env} {s : State} {m : MethodId} {args : Array Value} {below : List Frame} {meth : Method} {c : Code} {Q : State → Prop} {D : va_G} {A : Nat → Prop} {tys : List (ClassId × FieldType)} {cI cL : ClassId} (Z : Zz p m c cL_law 9 s args wsL_law RL D tys A) (X : Xz s A) (htr : l.stackTraces = false) (ht0 : tys[0]? = some (cI, .int)) (ht1 : tys[1]? = some (cL, .long)) {b L : Nat} {xs : Nat → Int32} (hX : va_X b L xs s s.heap) (hbl : b < s.heap.size) (hbA : ¬ A b) {i : Nat} (hi : i + 4 < L) (hL : L ≤ 2560) {cells slots : Nat} (hc : cells + 1 ≤ 1069) (hs : slots + 6 ≤ 10084) {aJ : Nat → Nat} {aO : Nat} {aS : Nat → Nat} {J : Nat → Nat → Nat → Int32} {O : Nat → Int64} {S : Nat → Nat → Int32} (I : Inv J S) (K : ∀ (J2 : Nat → Nat → Nat → Int32) (O2 : Nat → Int64) (S2 : Nat → Nat → Int32), Inv J2 S2 → Yy p l e room_1 s m args below meth c Q D A 9 (cells + 1) (slots + 6) (wL cI cL aJ J2 aO O2 aS S2) [(0, .ref b), (1, .ref (aJ 0)), (2, .ref (aS 0)), (3, .ref aO), (4, .int (nI i))] [] 1756) : Yy p l e room_1 s m args below meth c Q D A 9 cells slots (wL cI cL aJ J aO O aS S) [(0, .ref b), (1, .ref (aJ 0)), (2, .ref (aS 0)), (3, .ref aO), (4, .int (nI i))] [] 604 := by
  obtain ⟨m_nn, hr⟩ := c2_auto I 
  rcases hr with ⟨o_m, he, her, hI⟩ | ⟨hb, he, hI⟩
  · refine y_aload_n Z dL_law_604 1 rfl rfl ?_
    refine y_aload_n Z dL_law_605 3 rfl rfl ?_
    refine y_SWw (rest := []) Z X (k_L_auto l htr D ht0 ht1 aJ J aO O  o_m) (y_cwSW 2 Z ml_RL_126 st_L_auto in_L co_L_auto rfl rfl hs_L_auto ⟨Nat.le_of_ble_eq_true rfl, Nat.le_of_ble_eq_true rfl⟩) List.nil (wMd cI aS S) (by simp only [List.nil_append, List.append_assoc]) rfl rfl (Nat.le_of_ble_eq_true rfl) dL_law_606 ⟨by show _ ≤ 1069; omega, by show _ ≤ 10084; omega⟩ (wL cI cL aJ (vm_enact J 7 (-1) (-1) (-1) (-1)) aO (vp_updL O 0 (Int32.toInt64 (perfR (J 0) 7 (-1) (-1) (-1) (-1)))) aS S) (by simp only [wL, List.nil_append, List.append_assoc]) ?_
    refine y_istore Z [(5, .int 0), (0, .ref b), (1, .ref (aJ 0)), (2, .ref (aS 0)), (3, .ref aO), (4, .int (nI i))] dL_law_609 (by decide) rfl ?_
    refine y_aload_n Z dL_law_611 3 rfl rfl ?_
    refine y_VIw (rest := []) Z (k_X6_auto l D ht0 aS S m_nn) (y_cwV 0 Z ml_RL_128 im_X6_auto se_X6_auto in_X6 co_X6_auto rfl rfl hd_X6_auto ⟨Nat.le_of_ble_eq_true rfl, Nat.le_of_ble_eq_true rfl⟩) (wVM cI aJ (vm_enact J 7 (-1) (-1) (-1) (-1)) ++ wOut cL aO (vp_updL O 0 (Int32.toInt64 (perfR (J 0) 7 (-1) (-1) (-1) (-1))))) List.nil (by simp only [List.append_assoc, List.append_nil]) 6 0 rfl rfl rfl rfl (Nat.le_of_ble_eq_true rfl) dL_law_612 ⟨by show _ ≤ 1069; omega, by show _ ≤ 10084; omega⟩ (wL cI cL aJ (vm_enact J 7 (-1) (-1) (-1) (-1)) aO (vp_updL O 0 (Int32.toInt64 (perfR (J 0) 7 (-1) (-1) (-1) (-1)))) aS (mc_auto S)) (by simp only [wL, mc_auto, List.append_assoc, List.append_nil, wMix, wLog, wPic, wRep, wScr, wVM, wMd, sR_eq, sR_ne, sF_eq, sF_ne, upd_eq, upd_ne, gs_eq, gs_ne, gm_4, gm_ne, Nat.reduceBEq]) ?_
    refine y_istore Z [(6, .int (if mv_go (mv_an (mv_hr (S 0 1)) (mv_ps (S 1) 7)) 1 1 = 0 then 0 else mv_ds (S 1) 7 (-1) (-1) (-1) (-1))), (5, .int 0), (0, .ref b), (1, .ref (aJ 0)), (2, .ref (aS 0)), (3, .ref aO), (4, .int (nI i))] dL_law_615 (by decide) rfl ?_
    refine y_aload_n Z dL_law_617 4 rfl rfl ?_
    refine y_VIw (rest := []) Z (k_X6_thrown l D ht0 aS (mc_auto S)) (y_cwV 0 Z ml_RL_102 im_X6_thrown se_X6_thrown in_X6 co_X6_thrown rfl rfl hd_X6_thrown ⟨Nat.le_of_ble_eq_true rfl, Nat.le_of_ble_eq_true rfl⟩) (wVM cI aJ (vm_enact J 7 (-1) (-1) (-1) (-1)) ++ wOut cL aO (vp_updL O 0 (Int32.toInt64 (perfR (J 0) 7 (-1) (-1) (-1) (-1))))) List.nil (by simp only [List.append_assoc, List.append_nil]) 6 0 rfl rfl rfl rfl (Nat.le_of_ble_eq_true rfl) dL_law_618 ⟨by show _ ≤ 1069; omega, by show _ ≤ 10084; omega⟩ (wL cI cL aJ (vm_enact J 7 (-1) (-1) (-1) (-1)) aO (vp_updL O 0 (Int32.toInt64 (perfR (J 0) 7 (-1) (-1) (-1) (-1)))) aS (mc_auto S)) (by simp only [wL, List.append_assoc, List.append_nil]) ?_
    refine y_eq rfl rfl (st' := [.int 0]) (by rw [he]) ?_
    refine y_iload Z dL_law_621 1 rfl ?_
    refine y_icmp_eq (tgt := 628) Z dL_law_623 (by decide) (fun _ => ?_) (fun h => absurd rfl h)
    refine y_iload Z dL_law_628 1 rfl ?_
    refine y_if_ne (tgt := 645) Z dL_law_630 (by decide) (fun h => absurd rfl h) (fun _ => ?_)
    refine y_aload_n Z dL_law_633 5 rfl rfl ?_
    refine y_iconst (v := 0) Z dL_law_634 (by decide) ?_
    refine y_lald Z 27 1 rfl ht1 (vpd (by decide) (by decide)) 0 (by decide) dL_law_635 ?_
    refine y_iload Z dL_law_636 0 rfl ?_
    refine y_i2l Z dL_law_638 ?_
    refine y_eq rfl rfl (st' := [.long (Int32.toInt64 (if mv_go (mv_an (mv_hr (S 0 1)) (mv_ps (S 1) 7)) 1 1 = 0 then 0 else mv_ds (S 1) 7 (-1) (-1) (-1) (-1))), .long (Int32.toInt64 (if mv_go (mv_an (mv_hr (S 0 1)) (mv_ps (S 1) 7)) 1 1 = 0 then 0 else mv_ds (S 1) 7 (-1) (-1) (-1) (-1)))]) (by rw [← her]; rfl) ?_
    refine y_lcmp Z dL_law_639 ?_
    refine y_if_eq (tgt := 645) Z dL_law_640 (by decide) (fun _ => ?_) (fun h => absurd (lgc_self _) h)
    refine y_goto (tgt := 1756) Z dL_law_645 (by decide) ?_
    refine y_lv [2, 3, 4, 5, 6] (lv' := [(0, .ref b), (1, .ref (aJ 0)), (2, .ref (aS 0)), (3, .ref aO), (4, .int (nI i))]) rfl ?_
    exact y_wide (k := cells + 1) (n := slots + 6) (by omega) (by omega) (K _ _ _ hI)
  · refine y_aload_n Z dL_law_604 1 rfl rfl ?_
    refine y_aload_n Z dL_law_605 3 rfl rfl ?_
    refine y_SWw (rest := []) Z X (k_L_auto_b0 l htr D ht0 ht1 aJ J aO O  hb) (y_cwSW 2 Z ml_RL_126 st_L_auto in_L co_L_auto rfl rfl hs_L_auto ⟨Nat.le_of_ble_eq_true rfl, Nat.le_of_ble_eq_true rfl⟩) List.nil (wMd cI aS S) (by simp only [List.nil_append, List.append_assoc]) rfl rfl (Nat.le_of_ble_eq_true rfl) dL_law_606 ⟨by show _ ≤ 1069; omega, by show _ ≤ 10084; omega⟩ (wL cI cL aJ J aO O aS S) (by simp only [wL, List.nil_append, List.append_assoc]) ?_
    refine y_istore Z [(5, .int 1), (0, .ref b), (1, .ref (aJ 0)), (2, .ref (aS 0)), (3, .ref aO), (4, .int (nI i))] dL_law_609 (by decide) rfl ?_
    refine y_aload_n Z dL_law_611 3 rfl rfl ?_
    refine y_VIw (rest := []) Z (k_X6_auto l D ht0 aS S m_nn) (y_cwV 0 Z ml_RL_128 im_X6_auto se_X6_auto in_X6 co_X6_auto rfl rfl hd_X6_auto ⟨Nat.le_of_ble_eq_true rfl, Nat.le_of_ble_eq_true rfl⟩) (wVM cI aJ J ++ wOut cL aO O) List.nil (by simp only [List.append_assoc, List.append_nil]) 6 0 rfl rfl rfl rfl (Nat.le_of_ble_eq_true rfl) dL_law_612 ⟨by show _ ≤ 1069; omega, by show _ ≤ 10084; omega⟩ (wL cI cL aJ J aO O aS (mc_auto S)) (by simp only [wL, mc_auto, List.append_assoc, List.append_nil, wMix, wLog, wPic, wRep, wScr, wVM, wMd, sR_eq, sR_ne, sF_eq, sF_ne, upd_eq, upd_ne, gs_eq, gs_ne, gm_4, gm_ne, Nat.reduceBEq]) ?_
    refine y_istore Z [(6, .int (if mv_go (mv_an (mv_hr (S 0 1)) (mv_ps (S 1) 7)) 1 1 = 0 then 0 else mv_ds (S 1) 7 (-1) (-1) (-1) (-1))), (5, .int 1), (0, .ref b), (1, .ref (aJ 0)), (2, .ref (aS 0)), (3, .ref aO), (4, .int (nI i))] dL_law_615 (by decide) rfl ?_
    refine y_aload_n Z dL_law_617 4 rfl rfl ?_
    refine y_VIw (rest := []) Z (k_X6_thrown l D ht0 aS (mc_auto S)) (y_cwV 0 Z ml_RL_102 im_X6_thrown se_X6_thrown in_X6 co_X6_thrown rfl rfl hd_X6_thrown ⟨Nat.le_of_ble_eq_true rfl, Nat.le_of_ble_eq_true rfl⟩) (wVM cI aJ J ++ wOut cL aO O) List.nil (by simp only [List.append_assoc, List.append_nil]) 6 0 rfl rfl rfl rfl (Nat.le_of_ble_eq_true rfl) dL_law_618 ⟨by show _ ≤ 1069; omega, by show _ ≤ 10084; omega⟩ (wL cI cL aJ J aO O aS (mc_auto S)) (by simp only [wL, List.append_assoc, List.append_nil]) ?_
    refine y_eq rfl rfl (st' := [.int 1]) (by rw [he]) ?_
    refine y_iload Z dL_law_621 1 rfl ?_
    refine y_icmp_eq (tgt := 628) Z dL_law_623 (by decide) (fun _ => ?_) (fun h => absurd rfl h)
    refine y_iload Z dL_law_628 1 rfl ?_
    refine y_if_ne (tgt := 645) Z dL_law_630 (by decide) (fun _ => ?_) (fun h => absurd h (by decide))
    refine y_goto (tgt := 1756) Z dL_law_645 (by decide) ?_
    refine y_lv [2, 3, 4, 5, 6] (lv' := [(0, .ref b), (1, .ref (aJ 0)), (2, .ref (aS 0)), (3, .ref aO), (4, .int (nI i))]) rfl ?_
    exact y_wide (k := cells + 1) (n := slots + 6) (by omega) (by omega) (K _ _ _ hI)
set_option maxHeartbeats 4000000 in
set_option maxRecDepth 100000 in
theorem lc_bar {p : Program} {l : Launch} {e : Env} {s : State} {m : MethodId} {args : Array Value} {below : List Frame} {meth : Method} {c : Code} {Q : State → Prop} {D : va_G} {A : Nat → Prop} {tys : List (ClassId × FieldType)} {cI cL : ClassId} (Z : Zz p m c cL_law 9 s args wsL_law RL D tys A) (X : Xz s A) (htr : l.stackTraces = false) (ht0 : tys[0]? = some (cI, .int)) (ht1 : tys[1]? = some (cL, .long)) {b L : Nat} {xs : Nat → Int32} (hX : va_X b L xs s s.heap) (hbl : b < s.heap.size) (hbA : ¬ A b) {i : Nat} (hi : i + 4 < L) (hL : L ≤ 2560) {cells slots : Nat} (hc : cells + 1 ≤ 1069) (hs : slots + 6 ≤ 10084) {aJ : Nat → Nat} {aO : Nat} {aS : Nat → Nat} {J : Nat → Nat → Nat → Int32} {O : Nat → Int64} {S : Nat → Nat → Int32} (I : Inv J S) (K : ∀ (J2 : Nat → Nat → Nat → Int32) (O2 : Nat → Int64) (S2 : Nat → Nat → Int32), Inv J2 S2 → Yy p l e room_1 s m args below meth c Q D A 9 (cells + 1) (slots + 6) (wL cI cL aJ J2 aO O2 aS S2) [(0, .ref b), (1, .ref (aJ 0)), (2, .ref (aS 0)), (3, .ref aO), (4, .int (nI i))] [] 1756) : Yy p l e room_1 s m args below meth c Q D A 9 cells slots (wL cI cL aJ J aO O aS S) [(0, .ref b), (1, .ref (aJ 0)), (2, .ref (aS 0)), (3, .ref aO), (4, .int (nI i))] [] 648 := by
  obtain ⟨m_nn, hr⟩ := c2_bar I (xs (i + 1))
  rcases hr with ⟨o_b, o_m, he, her, hI⟩ | ⟨hb, he, hI⟩ | ⟨o_b, hb, he, hI⟩
  · refine y_aload_n Z dL_law_648 1 rfl rfl ?_
    refine y_aload_n Z dL_law_649 0 rfl rfl ?_
    refine y_iload Z dL_law_650 4 rfl ?_
    refine y_iconst (v := 1) Z dL_law_652 (by decide) ?_
    refine y_iadd Z dL_law_653 ?_
    refine y_sld Z hX hbl hbA (sx_in hi hL 1 (by decide)).1 (i + 1) (sx_in hi hL 1 (by decide)).2 dL_law_654 ?_
    refine y_aload_n Z dL_law_655 3 rfl rfl ?_
    refine y_SWw (rest := []) Z X (k_L_bar l htr D ht0 ht1 aJ J aO O (xs (i + 1)) o_b o_m) (y_cwSW 3 Z ml_RL_129 st_L_bar in_L co_L_bar rfl rfl hs_L_bar ⟨Nat.le_of_ble_eq_true rfl, Nat.le_of_ble_eq_true rfl⟩) List.nil (wMd cI aS S) (by simp only [List.nil_append, List.append_assoc]) rfl rfl (Nat.le_of_ble_eq_true rfl) dL_law_656 ⟨by show _ ≤ 1069; omega, by show _ ≤ 10084; omega⟩ (wL cI cL aJ (vm_enact J 8 (xs (i + 1)) (-1) (-1) (-1)) aO (vp_updL O 0 (Int32.toInt64 (perfR (J 0) 8 (xs (i + 1)) (-1) (-1) (-1)))) aS S) (by simp only [wL, List.nil_append, List.append_assoc]) ?_
    refine y_istore Z [(5, .int 0), (0, .ref b), (1, .ref (aJ 0)), (2, .ref (aS 0)), (3, .ref aO), (4, .int (nI i))] dL_law_659 (by decide) rfl ?_
    refine y_aload_n Z dL_law_661 3 rfl rfl ?_
    refine y_aload_n Z dL_law_662 1 rfl rfl ?_
    refine y_iload Z dL_law_663 5 rfl ?_
    refine y_iconst (v := 1) Z dL_law_665 (by decide) ?_
    refine y_iadd Z dL_law_666 ?_
    refine y_sld Z hX hbl hbA (sx_in hi hL 1 (by decide)).1 (i + 1) (sx_in hi hL 1 (by decide)).2 dL_law_667 ?_
    refine y_VIw (rest := []) Z (k_X6_bar l D ht0 aS S (xs (i + 1)) m_nn) (y_cwV 1 Z ml_RL_131 im_X6_bar se_X6_bar in_X6 co_X6_bar rfl rfl hd_X6_bar ⟨Nat.le_of_ble_eq_true rfl, Nat.le_of_ble_eq_true rfl⟩) (wVM cI aJ (vm_enact J 8 (xs (i + 1)) (-1) (-1) (-1)) ++ wOut cL aO (vp_updL O 0 (Int32.toInt64 (perfR (J 0) 8 (xs (i + 1)) (-1) (-1) (-1))))) List.nil (by simp only [List.append_assoc, List.append_nil]) 6 0 rfl rfl rfl rfl (Nat.le_of_ble_eq_true rfl) dL_law_668 ⟨by show _ ≤ 1069; omega, by show _ ≤ 10084; omega⟩ (wL cI cL aJ (vm_enact J 8 (xs (i + 1)) (-1) (-1) (-1)) aO (vp_updL O 0 (Int32.toInt64 (perfR (J 0) 8 (xs (i + 1)) (-1) (-1) (-1)))) aS (mc_bar S (xs (i + 1)))) (by simp only [wL, mc_bar, List.append_assoc, List.append_nil, wMix, wLog, wPic, wRep, wScr, wVM, wMd, sR_eq, sR_ne, sF_eq, sF_ne, upd_eq, upd_ne, gs_eq, gs_ne, gm_4, gm_ne, Nat.reduceBEq]) ?_
    refine y_istore Z [(6, .int (if mv_go (mv_in (Int32.toInt64 (xs (i + 1))) 0 1000) (mv_an (mv_hr (S 0 1)) (mv_ps (S 1) 8)) 1 = 0 then 0 else mv_ds (S 1) 8 (xs (i + 1)) (-1) (-1) (-1))), (5, .int 0), (0, .ref b), (1, .ref (aJ 0)), (2, .ref (aS 0)), (3, .ref aO), (4, .int (nI i))] dL_law_671 (by decide) rfl ?_
    refine y_aload_n Z dL_law_673 4 rfl rfl ?_
    refine y_VIw (rest := []) Z (k_X6_thrown l D ht0 aS (mc_bar S (xs (i + 1)))) (y_cwV 0 Z ml_RL_102 im_X6_thrown se_X6_thrown in_X6 co_X6_thrown rfl rfl hd_X6_thrown ⟨Nat.le_of_ble_eq_true rfl, Nat.le_of_ble_eq_true rfl⟩) (wVM cI aJ (vm_enact J 8 (xs (i + 1)) (-1) (-1) (-1)) ++ wOut cL aO (vp_updL O 0 (Int32.toInt64 (perfR (J 0) 8 (xs (i + 1)) (-1) (-1) (-1))))) List.nil (by simp only [List.append_assoc, List.append_nil]) 6 0 rfl rfl rfl rfl (Nat.le_of_ble_eq_true rfl) dL_law_674 ⟨by show _ ≤ 1069; omega, by show _ ≤ 10084; omega⟩ (wL cI cL aJ (vm_enact J 8 (xs (i + 1)) (-1) (-1) (-1)) aO (vp_updL O 0 (Int32.toInt64 (perfR (J 0) 8 (xs (i + 1)) (-1) (-1) (-1)))) aS (mc_bar S (xs (i + 1)))) (by simp only [wL, List.append_assoc, List.append_nil]) ?_
    refine y_eq rfl rfl (st' := [.int 0]) (by rw [he]) ?_
    refine y_iload Z dL_law_677 1 rfl ?_
    refine y_icmp_eq (tgt := 684) Z dL_law_679 (by decide) (fun _ => ?_) (fun h => absurd rfl h)
    refine y_iload Z dL_law_684 1 rfl ?_
    refine y_if_ne (tgt := 701) Z dL_law_686 (by decide) (fun h => absurd rfl h) (fun _ => ?_)
    refine y_aload_n Z dL_law_689 5 rfl rfl ?_
    refine y_iconst (v := 0) Z dL_law_690 (by decide) ?_
    refine y_lald Z 27 1 rfl ht1 (vpd (by decide) (by decide)) 0 (by decide) dL_law_691 ?_
    refine y_iload Z dL_law_692 0 rfl ?_
    refine y_i2l Z dL_law_694 ?_
    refine y_eq rfl rfl (st' := [.long (Int32.toInt64 (if mv_go (mv_in (Int32.toInt64 (xs (i + 1))) 0 1000) (mv_an (mv_hr (S 0 1)) (mv_ps (S 1) 8)) 1 = 0 then 0 else mv_ds (S 1) 8 (xs (i + 1)) (-1) (-1) (-1))), .long (Int32.toInt64 (if mv_go (mv_in (Int32.toInt64 (xs (i + 1))) 0 1000) (mv_an (mv_hr (S 0 1)) (mv_ps (S 1) 8)) 1 = 0 then 0 else mv_ds (S 1) 8 (xs (i + 1)) (-1) (-1) (-1)))]) (by rw [← her]; rfl) ?_
    refine y_lcmp Z dL_law_695 ?_
    refine y_if_eq (tgt := 701) Z dL_law_696 (by decide) (fun _ => ?_) (fun h => absurd (lgc_self _) h)
    refine y_goto (tgt := 1756) Z dL_law_701 (by decide) ?_
    refine y_lv [2, 3, 4, 5, 6] (lv' := [(0, .ref b), (1, .ref (aJ 0)), (2, .ref (aS 0)), (3, .ref aO), (4, .int (nI i))]) rfl ?_
    exact y_wide (k := cells + 1) (n := slots + 6) (by omega) (by omega) (K _ _ _ hI)
  · refine y_aload_n Z dL_law_648 1 rfl rfl ?_
    refine y_aload_n Z dL_law_649 0 rfl rfl ?_
    refine y_iload Z dL_law_650 4 rfl ?_
    refine y_iconst (v := 1) Z dL_law_652 (by decide) ?_
    refine y_iadd Z dL_law_653 ?_
    refine y_sld Z hX hbl hbA (sx_in hi hL 1 (by decide)).1 (i + 1) (sx_in hi hL 1 (by decide)).2 dL_law_654 ?_
    refine y_aload_n Z dL_law_655 3 rfl rfl ?_
    refine y_SWw (rest := []) Z X (k_L_bar_b0 l htr D ht0 ht1 aJ J aO O (xs (i + 1)) hb) (y_cwSW 3 Z ml_RL_129 st_L_bar in_L co_L_bar rfl rfl hs_L_bar ⟨Nat.le_of_ble_eq_true rfl, Nat.le_of_ble_eq_true rfl⟩) List.nil (wMd cI aS S) (by simp only [List.nil_append, List.append_assoc]) rfl rfl (Nat.le_of_ble_eq_true rfl) dL_law_656 ⟨by show _ ≤ 1069; omega, by show _ ≤ 10084; omega⟩ (wL cI cL aJ J aO O aS S) (by simp only [wL, List.nil_append, List.append_assoc]) ?_
    refine y_istore Z [(5, .int 1), (0, .ref b), (1, .ref (aJ 0)), (2, .ref (aS 0)), (3, .ref aO), (4, .int (nI i))] dL_law_659 (by decide) rfl ?_
    refine y_aload_n Z dL_law_661 3 rfl rfl ?_
    refine y_aload_n Z dL_law_662 1 rfl rfl ?_
    refine y_iload Z dL_law_663 5 rfl ?_
    refine y_iconst (v := 1) Z dL_law_665 (by decide) ?_
    refine y_iadd Z dL_law_666 ?_
    refine y_sld Z hX hbl hbA (sx_in hi hL 1 (by decide)).1 (i + 1) (sx_in hi hL 1 (by decide)).2 dL_law_667 ?_
    refine y_VIw (rest := []) Z (k_X6_bar l D ht0 aS S (xs (i + 1)) m_nn) (y_cwV 1 Z ml_RL_131 im_X6_bar se_X6_bar in_X6 co_X6_bar rfl rfl hd_X6_bar ⟨Nat.le_of_ble_eq_true rfl, Nat.le_of_ble_eq_true rfl⟩) (wVM cI aJ J ++ wOut cL aO O) List.nil (by simp only [List.append_assoc, List.append_nil]) 6 0 rfl rfl rfl rfl (Nat.le_of_ble_eq_true rfl) dL_law_668 ⟨by show _ ≤ 1069; omega, by show _ ≤ 10084; omega⟩ (wL cI cL aJ J aO O aS (mc_bar S (xs (i + 1)))) (by simp only [wL, mc_bar, List.append_assoc, List.append_nil, wMix, wLog, wPic, wRep, wScr, wVM, wMd, sR_eq, sR_ne, sF_eq, sF_ne, upd_eq, upd_ne, gs_eq, gs_ne, gm_4, gm_ne, Nat.reduceBEq]) ?_
    refine y_istore Z [(6, .int (if mv_go (mv_in (Int32.toInt64 (xs (i + 1))) 0 1000) (mv_an (mv_hr (S 0 1)) (mv_ps (S 1) 8)) 1 = 0 then 0 else mv_ds (S 1) 8 (xs (i + 1)) (-1) (-1) (-1))), (5, .int 1), (0, .ref b), (1, .ref (aJ 0)), (2, .ref (aS 0)), (3, .ref aO), (4, .int (nI i))] dL_law_671 (by decide) rfl ?_
    refine y_aload_n Z dL_law_673 4 rfl rfl ?_
    refine y_VIw (rest := []) Z (k_X6_thrown l D ht0 aS (mc_bar S (xs (i + 1)))) (y_cwV 0 Z ml_RL_102 im_X6_thrown se_X6_thrown in_X6 co_X6_thrown rfl rfl hd_X6_thrown ⟨Nat.le_of_ble_eq_true rfl, Nat.le_of_ble_eq_true rfl⟩) (wVM cI aJ J ++ wOut cL aO O) List.nil (by simp only [List.append_assoc, List.append_nil]) 6 0 rfl rfl rfl rfl (Nat.le_of_ble_eq_true rfl) dL_law_674 ⟨by show _ ≤ 1069; omega, by show _ ≤ 10084; omega⟩ (wL cI cL aJ J aO O aS (mc_bar S (xs (i + 1)))) (by simp only [wL, List.append_assoc, List.append_nil]) ?_
    refine y_eq rfl rfl (st' := [.int 1]) (by rw [he]) ?_
    refine y_iload Z dL_law_677 1 rfl ?_
    refine y_icmp_eq (tgt := 684) Z dL_law_679 (by decide) (fun _ => ?_) (fun h => absurd rfl h)
    refine y_iload Z dL_law_684 1 rfl ?_
    refine y_if_ne (tgt := 701) Z dL_law_686 (by decide) (fun _ => ?_) (fun h => absurd h (by decide))
    refine y_goto (tgt := 1756) Z dL_law_701 (by decide) ?_
    refine y_lv [2, 3, 4, 5, 6] (lv' := [(0, .ref b), (1, .ref (aJ 0)), (2, .ref (aS 0)), (3, .ref aO), (4, .int (nI i))]) rfl ?_
    exact y_wide (k := cells + 1) (n := slots + 6) (by omega) (by omega) (K _ _ _ hI)
  · refine y_aload_n Z dL_law_648 1 rfl rfl ?_
    refine y_aload_n Z dL_law_649 0 rfl rfl ?_
    refine y_iload Z dL_law_650 4 rfl ?_
    refine y_iconst (v := 1) Z dL_law_652 (by decide) ?_
    refine y_iadd Z dL_law_653 ?_
    refine y_sld Z hX hbl hbA (sx_in hi hL 1 (by decide)).1 (i + 1) (sx_in hi hL 1 (by decide)).2 dL_law_654 ?_
    refine y_aload_n Z dL_law_655 3 rfl rfl ?_
    refine y_SWw (rest := []) Z X (k_L_bar_b1 l htr D ht0 ht1 aJ J aO O (xs (i + 1)) o_b hb) (y_cwSW 3 Z ml_RL_129 st_L_bar in_L co_L_bar rfl rfl hs_L_bar ⟨Nat.le_of_ble_eq_true rfl, Nat.le_of_ble_eq_true rfl⟩) List.nil (wMd cI aS S) (by simp only [List.nil_append, List.append_assoc]) rfl rfl (Nat.le_of_ble_eq_true rfl) dL_law_656 ⟨by show _ ≤ 1069; omega, by show _ ≤ 10084; omega⟩ (wL cI cL aJ J aO O aS S) (by simp only [wL, List.nil_append, List.append_assoc]) ?_
    refine y_istore Z [(5, .int 2), (0, .ref b), (1, .ref (aJ 0)), (2, .ref (aS 0)), (3, .ref aO), (4, .int (nI i))] dL_law_659 (by decide) rfl ?_
    refine y_aload_n Z dL_law_661 3 rfl rfl ?_
    refine y_aload_n Z dL_law_662 1 rfl rfl ?_
    refine y_iload Z dL_law_663 5 rfl ?_
    refine y_iconst (v := 1) Z dL_law_665 (by decide) ?_
    refine y_iadd Z dL_law_666 ?_
    refine y_sld Z hX hbl hbA (sx_in hi hL 1 (by decide)).1 (i + 1) (sx_in hi hL 1 (by decide)).2 dL_law_667 ?_
    refine y_VIw (rest := []) Z (k_X6_bar l D ht0 aS S (xs (i + 1)) m_nn) (y_cwV 1 Z ml_RL_131 im_X6_bar se_X6_bar in_X6 co_X6_bar rfl rfl hd_X6_bar ⟨Nat.le_of_ble_eq_true rfl, Nat.le_of_ble_eq_true rfl⟩) (wVM cI aJ J ++ wOut cL aO O) List.nil (by simp only [List.append_assoc, List.append_nil]) 6 0 rfl rfl rfl rfl (Nat.le_of_ble_eq_true rfl) dL_law_668 ⟨by show _ ≤ 1069; omega, by show _ ≤ 10084; omega⟩ (wL cI cL aJ J aO O aS (mc_bar S (xs (i + 1)))) (by simp only [wL, mc_bar, List.append_assoc, List.append_nil, wMix, wLog, wPic, wRep, wScr, wVM, wMd, sR_eq, sR_ne, sF_eq, sF_ne, upd_eq, upd_ne, gs_eq, gs_ne, gm_4, gm_ne, Nat.reduceBEq]) ?_
    refine y_istore Z [(6, .int (if mv_go (mv_in (Int32.toInt64 (xs (i + 1))) 0 1000) (mv_an (mv_hr (S 0 1)) (mv_ps (S 1) 8)) 1 = 0 then 0 else mv_ds (S 1) 8 (xs (i + 1)) (-1) (-1) (-1))), (5, .int 2), (0, .ref b), (1, .ref (aJ 0)), (2, .ref (aS 0)), (3, .ref aO), (4, .int (nI i))] dL_law_671 (by decide) rfl ?_
    refine y_aload_n Z dL_law_673 4 rfl rfl ?_
    refine y_VIw (rest := []) Z (k_X6_thrown l D ht0 aS (mc_bar S (xs (i + 1)))) (y_cwV 0 Z ml_RL_102 im_X6_thrown se_X6_thrown in_X6 co_X6_thrown rfl rfl hd_X6_thrown ⟨Nat.le_of_ble_eq_true rfl, Nat.le_of_ble_eq_true rfl⟩) (wVM cI aJ J ++ wOut cL aO O) List.nil (by simp only [List.append_assoc, List.append_nil]) 6 0 rfl rfl rfl rfl (Nat.le_of_ble_eq_true rfl) dL_law_674 ⟨by show _ ≤ 1069; omega, by show _ ≤ 10084; omega⟩ (wL cI cL aJ J aO O aS (mc_bar S (xs (i + 1)))) (by simp only [wL, List.append_assoc, List.append_nil]) ?_
    refine y_eq rfl rfl (st' := [.int 2]) (by rw [he]) ?_
    refine y_iload Z dL_law_677 1 rfl ?_
    refine y_icmp_eq (tgt := 684) Z dL_law_679 (by decide) (fun _ => ?_) (fun h => absurd rfl h)
    refine y_iload Z dL_law_684 1 rfl ?_
    refine y_if_ne (tgt := 701) Z dL_law_686 (by decide) (fun _ => ?_) (fun h => absurd h (by decide))
    refine y_goto (tgt := 1756) Z dL_law_701 (by decide) ?_
    refine y_lv [2, 3, 4, 5, 6] (lv' := [(0, .ref b), (1, .ref (aJ 0)), (2, .ref (aS 0)), (3, .ref aO), (4, .int (nI i))]) rfl ?_
    exact y_wide (k := cells + 1) (n := slots + 6) (by omega) (by omega) (K _ _ _ hI)
set_option maxHeartbeats 4000000 in
set_option maxRecDepth 100000 in
theorem lc_fault {p : Program} {l : Launch} {e : Env} {s : State} {m : MethodId} {args : Array Value} {below : List Frame} {meth : Method} {c : Code} {Q : State → Prop} {D : va_G} {A : Nat → Prop} {tys : List (ClassId × FieldType)} {cI cL : ClassId} (Z : Zz p m c cL_law 9 s args wsL_law RL D tys A) (X : Xz s A) (htr : l.stackTraces = false) (ht0 : tys[0]? = some (cI, .int)) (ht1 : tys[1]? = some (cL, .long)) {b L : Nat} {xs : Nat → Int32} (hX : va_X b L xs s s.heap) (hbl : b < s.heap.size) (hbA : ¬ A b) {i : Nat} (hi : i + 4 < L) (hL : L ≤ 2560) {cells slots : Nat} (hc : cells + 1 ≤ 1069) (hs : slots + 6 ≤ 10084) {aJ : Nat → Nat} {aO : Nat} {aS : Nat → Nat} {J : Nat → Nat → Nat → Int32} {O : Nat → Int64} {S : Nat → Nat → Int32} (I : Inv J S) (K : ∀ (J2 : Nat → Nat → Nat → Int32) (O2 : Nat → Int64) (S2 : Nat → Nat → Int32), Inv J2 S2 → Yy p l e room_1 s m args below meth c Q D A 9 (cells + 1) (slots + 6) (wL cI cL aJ J2 aO O2 aS S2) [(0, .ref b), (1, .ref (aJ 0)), (2, .ref (aS 0)), (3, .ref aO), (4, .int (nI i))] [] 1756) : Yy p l e room_1 s m args below meth c Q D A 9 cells slots (wL cI cL aJ J aO O aS S) [(0, .ref b), (1, .ref (aJ 0)), (2, .ref (aS 0)), (3, .ref aO), (4, .int (nI i))] [] 704 := by
  obtain ⟨m_nn, hr⟩ := c2_fault I (xs (i + 1)) (nzF (xs (i + 2)))
  rcases hr with ⟨o_q, o_b, o_m, he, her, hI⟩ | ⟨hb, he, hI⟩ | ⟨o_q, hb, he, hI⟩ | ⟨o_q, o_b, hb, he, hI⟩
  · refine y_aload_n Z dL_law_704 1 rfl rfl ?_
    refine y_aload_n Z dL_law_705 0 rfl rfl ?_
    refine y_iload Z dL_law_706 4 rfl ?_
    refine y_iconst (v := 1) Z dL_law_708 (by decide) ?_
    refine y_iadd Z dL_law_709 ?_
    refine y_sld Z hX hbl hbA (sx_in hi hL 1 (by decide)).1 (i + 1) (sx_in hi hL 1 (by decide)).2 dL_law_710 ?_
    refine y_aload_n Z dL_law_711 0 rfl rfl ?_
    refine y_iload Z dL_law_712 4 rfl ?_
    refine y_iconst (v := 2) Z dL_law_714 (by decide) ?_
    refine y_iadd Z dL_law_715 ?_
    refine y_sld Z hX hbl hbA (sx_in hi hL 2 (by decide)).1 (i + 2) (sx_in hi hL 2 (by decide)).2 dL_law_716 ?_
    refine y_nz (X := 724) (Y := 725) Z dL_law_717 (by decide) dL_law_720 dL_law_721 (by decide) dL_law_724 rfl ?_
    refine y_aload_n Z dL_law_725 3 rfl rfl ?_
    refine y_SWw (rest := []) Z X (k_L_fault l htr D ht0 ht1 aJ J aO O (xs (i + 1)) (nzF (xs (i + 2))) o_q o_b o_m) (y_cwSW 4 Z ml_RL_132 st_L_fault in_L co_L_fault rfl rfl hs_L_fault ⟨Nat.le_of_ble_eq_true rfl, Nat.le_of_ble_eq_true rfl⟩) List.nil (wMd cI aS S) (by simp only [List.nil_append, List.append_assoc]) rfl rfl (Nat.le_of_ble_eq_true rfl) dL_law_726 ⟨by show _ ≤ 1069; omega, by show _ ≤ 10084; omega⟩ (wL cI cL aJ (vm_enact J 9 (xs (i + 1)) (nzF (nzF (xs (i + 2)))) (-1) (-1)) aO (vp_updL O 0 (Int32.toInt64 (perfR (J 0) 9 (xs (i + 1)) (nzF (nzF (xs (i + 2)))) (-1) (-1)))) aS S) (by simp only [wL, List.nil_append, List.append_assoc]) ?_
    refine y_istore Z [(5, .int 0), (0, .ref b), (1, .ref (aJ 0)), (2, .ref (aS 0)), (3, .ref aO), (4, .int (nI i))] dL_law_729 (by decide) rfl ?_
    refine y_aload_n Z dL_law_731 3 rfl rfl ?_
    refine y_aload_n Z dL_law_732 1 rfl rfl ?_
    refine y_iload Z dL_law_733 5 rfl ?_
    refine y_iconst (v := 1) Z dL_law_735 (by decide) ?_
    refine y_iadd Z dL_law_736 ?_
    refine y_sld Z hX hbl hbA (sx_in hi hL 1 (by decide)).1 (i + 1) (sx_in hi hL 1 (by decide)).2 dL_law_737 ?_
    refine y_aload_n Z dL_law_738 1 rfl rfl ?_
    refine y_iload Z dL_law_739 5 rfl ?_
    refine y_iconst (v := 2) Z dL_law_741 (by decide) ?_
    refine y_iadd Z dL_law_742 ?_
    refine y_sld Z hX hbl hbA (sx_in hi hL 2 (by decide)).1 (i + 2) (sx_in hi hL 2 (by decide)).2 dL_law_743 ?_
    refine y_nz (X := 751) (Y := 752) Z dL_law_744 (by decide) dL_law_747 dL_law_748 (by decide) dL_law_751 rfl ?_
    refine y_VIw (rest := []) Z (k_X6_fault l D ht0 aS S (xs (i + 1)) (nzF (xs (i + 2))) m_nn) (y_cwV 2 Z ml_RL_135 im_X6_fault se_X6_fault in_X6 co_X6_fault rfl rfl hd_X6_fault ⟨Nat.le_of_ble_eq_true rfl, Nat.le_of_ble_eq_true rfl⟩) (wVM cI aJ (vm_enact J 9 (xs (i + 1)) (nzF (nzF (xs (i + 2)))) (-1) (-1)) ++ wOut cL aO (vp_updL O 0 (Int32.toInt64 (perfR (J 0) 9 (xs (i + 1)) (nzF (nzF (xs (i + 2)))) (-1) (-1))))) List.nil (by simp only [List.append_assoc, List.append_nil]) 6 0 rfl rfl rfl rfl (Nat.le_of_ble_eq_true rfl) dL_law_752 ⟨by show _ ≤ 1069; omega, by show _ ≤ 10084; omega⟩ (wL cI cL aJ (vm_enact J 9 (xs (i + 1)) (nzF (nzF (xs (i + 2)))) (-1) (-1)) aO (vp_updL O 0 (Int32.toInt64 (perfR (J 0) 9 (xs (i + 1)) (nzF (nzF (xs (i + 2)))) (-1) (-1)))) aS (mc_fault S (xs (i + 1)) (nzF (xs (i + 2))))) (by simp only [wL, mc_fault, List.append_assoc, List.append_nil, wMix, wLog, wPic, wRep, wScr, wVM, wMd, sR_eq, sR_ne, sF_eq, sF_ne, upd_eq, upd_ne, gs_eq, gs_ne, gm_4, gm_ne, Nat.reduceBEq]) ?_
    refine y_istore Z [(6, .int (if mv_go (mv_in (Int32.toInt64 (xs (i + 1))) 1 9) (mv_hr (S 0 1)) 1 = 0 then 0 else mv_ds (S 1) 9 (xs (i + 1)) (nzF (nzF (xs (i + 2)))) (-1) (-1))), (5, .int 0), (0, .ref b), (1, .ref (aJ 0)), (2, .ref (aS 0)), (3, .ref aO), (4, .int (nI i))] dL_law_755 (by decide) rfl ?_
    refine y_aload_n Z dL_law_757 4 rfl rfl ?_
    refine y_VIw (rest := []) Z (k_X6_thrown l D ht0 aS (mc_fault S (xs (i + 1)) (nzF (xs (i + 2))))) (y_cwV 0 Z ml_RL_102 im_X6_thrown se_X6_thrown in_X6 co_X6_thrown rfl rfl hd_X6_thrown ⟨Nat.le_of_ble_eq_true rfl, Nat.le_of_ble_eq_true rfl⟩) (wVM cI aJ (vm_enact J 9 (xs (i + 1)) (nzF (nzF (xs (i + 2)))) (-1) (-1)) ++ wOut cL aO (vp_updL O 0 (Int32.toInt64 (perfR (J 0) 9 (xs (i + 1)) (nzF (nzF (xs (i + 2)))) (-1) (-1))))) List.nil (by simp only [List.append_assoc, List.append_nil]) 6 0 rfl rfl rfl rfl (Nat.le_of_ble_eq_true rfl) dL_law_758 ⟨by show _ ≤ 1069; omega, by show _ ≤ 10084; omega⟩ (wL cI cL aJ (vm_enact J 9 (xs (i + 1)) (nzF (nzF (xs (i + 2)))) (-1) (-1)) aO (vp_updL O 0 (Int32.toInt64 (perfR (J 0) 9 (xs (i + 1)) (nzF (nzF (xs (i + 2)))) (-1) (-1)))) aS (mc_fault S (xs (i + 1)) (nzF (xs (i + 2))))) (by simp only [wL, List.append_assoc, List.append_nil]) ?_
    refine y_eq rfl rfl (st' := [.int 0]) (by rw [he]) ?_
    refine y_iload Z dL_law_761 1 rfl ?_
    refine y_icmp_eq (tgt := 768) Z dL_law_763 (by decide) (fun _ => ?_) (fun h => absurd rfl h)
    refine y_iload Z dL_law_768 1 rfl ?_
    refine y_if_ne (tgt := 785) Z dL_law_770 (by decide) (fun h => absurd rfl h) (fun _ => ?_)
    refine y_aload_n Z dL_law_773 5 rfl rfl ?_
    refine y_iconst (v := 0) Z dL_law_774 (by decide) ?_
    refine y_lald Z 27 1 rfl ht1 (vpd (by decide) (by decide)) 0 (by decide) dL_law_775 ?_
    refine y_iload Z dL_law_776 0 rfl ?_
    refine y_i2l Z dL_law_778 ?_
    refine y_eq rfl rfl (st' := [.long (Int32.toInt64 (if mv_go (mv_in (Int32.toInt64 (xs (i + 1))) 1 9) (mv_hr (S 0 1)) 1 = 0 then 0 else mv_ds (S 1) 9 (xs (i + 1)) (nzF (nzF (xs (i + 2)))) (-1) (-1))), .long (Int32.toInt64 (if mv_go (mv_in (Int32.toInt64 (xs (i + 1))) 1 9) (mv_hr (S 0 1)) 1 = 0 then 0 else mv_ds (S 1) 9 (xs (i + 1)) (nzF (nzF (xs (i + 2)))) (-1) (-1)))]) (by rw [← her]; rfl) ?_
    refine y_lcmp Z dL_law_779 ?_
    refine y_if_eq (tgt := 785) Z dL_law_780 (by decide) (fun _ => ?_) (fun h => absurd (lgc_self _) h)
    refine y_goto (tgt := 1756) Z dL_law_785 (by decide) ?_
    refine y_lv [2, 3, 4, 5, 6] (lv' := [(0, .ref b), (1, .ref (aJ 0)), (2, .ref (aS 0)), (3, .ref aO), (4, .int (nI i))]) rfl ?_
    exact y_wide (k := cells + 1) (n := slots + 6) (by omega) (by omega) (K _ _ _ hI)
  · refine y_aload_n Z dL_law_704 1 rfl rfl ?_
    refine y_aload_n Z dL_law_705 0 rfl rfl ?_
    refine y_iload Z dL_law_706 4 rfl ?_
    refine y_iconst (v := 1) Z dL_law_708 (by decide) ?_
    refine y_iadd Z dL_law_709 ?_
    refine y_sld Z hX hbl hbA (sx_in hi hL 1 (by decide)).1 (i + 1) (sx_in hi hL 1 (by decide)).2 dL_law_710 ?_
    refine y_aload_n Z dL_law_711 0 rfl rfl ?_
    refine y_iload Z dL_law_712 4 rfl ?_
    refine y_iconst (v := 2) Z dL_law_714 (by decide) ?_
    refine y_iadd Z dL_law_715 ?_
    refine y_sld Z hX hbl hbA (sx_in hi hL 2 (by decide)).1 (i + 2) (sx_in hi hL 2 (by decide)).2 dL_law_716 ?_
    refine y_nz (X := 724) (Y := 725) Z dL_law_717 (by decide) dL_law_720 dL_law_721 (by decide) dL_law_724 rfl ?_
    refine y_aload_n Z dL_law_725 3 rfl rfl ?_
    refine y_SWw (rest := []) Z X (k_L_fault_b0 l htr D ht0 ht1 aJ J aO O (xs (i + 1)) (nzF (xs (i + 2))) hb) (y_cwSW 4 Z ml_RL_132 st_L_fault in_L co_L_fault rfl rfl hs_L_fault ⟨Nat.le_of_ble_eq_true rfl, Nat.le_of_ble_eq_true rfl⟩) List.nil (wMd cI aS S) (by simp only [List.nil_append, List.append_assoc]) rfl rfl (Nat.le_of_ble_eq_true rfl) dL_law_726 ⟨by show _ ≤ 1069; omega, by show _ ≤ 10084; omega⟩ (wL cI cL aJ J aO O aS S) (by simp only [wL, List.nil_append, List.append_assoc]) ?_
    refine y_istore Z [(5, .int 1), (0, .ref b), (1, .ref (aJ 0)), (2, .ref (aS 0)), (3, .ref aO), (4, .int (nI i))] dL_law_729 (by decide) rfl ?_
    refine y_aload_n Z dL_law_731 3 rfl rfl ?_
    refine y_aload_n Z dL_law_732 1 rfl rfl ?_
    refine y_iload Z dL_law_733 5 rfl ?_
    refine y_iconst (v := 1) Z dL_law_735 (by decide) ?_
    refine y_iadd Z dL_law_736 ?_
    refine y_sld Z hX hbl hbA (sx_in hi hL 1 (by decide)).1 (i + 1) (sx_in hi hL 1 (by decide)).2 dL_law_737 ?_
    refine y_aload_n Z dL_law_738 1 rfl rfl ?_
    refine y_iload Z dL_law_739 5 rfl ?_
    refine y_iconst (v := 2) Z dL_law_741 (by decide) ?_
    refine y_iadd Z dL_law_742 ?_
    refine y_sld Z hX hbl hbA (sx_in hi hL 2 (by decide)).1 (i + 2) (sx_in hi hL 2 (by decide)).2 dL_law_743 ?_
    refine y_nz (X := 751) (Y := 752) Z dL_law_744 (by decide) dL_law_747 dL_law_748 (by decide) dL_law_751 rfl ?_
    refine y_VIw (rest := []) Z (k_X6_fault l D ht0 aS S (xs (i + 1)) (nzF (xs (i + 2))) m_nn) (y_cwV 2 Z ml_RL_135 im_X6_fault se_X6_fault in_X6 co_X6_fault rfl rfl hd_X6_fault ⟨Nat.le_of_ble_eq_true rfl, Nat.le_of_ble_eq_true rfl⟩) (wVM cI aJ J ++ wOut cL aO O) List.nil (by simp only [List.append_assoc, List.append_nil]) 6 0 rfl rfl rfl rfl (Nat.le_of_ble_eq_true rfl) dL_law_752 ⟨by show _ ≤ 1069; omega, by show _ ≤ 10084; omega⟩ (wL cI cL aJ J aO O aS (mc_fault S (xs (i + 1)) (nzF (xs (i + 2))))) (by simp only [wL, mc_fault, List.append_assoc, List.append_nil, wMix, wLog, wPic, wRep, wScr, wVM, wMd, sR_eq, sR_ne, sF_eq, sF_ne, upd_eq, upd_ne, gs_eq, gs_ne, gm_4, gm_ne, Nat.reduceBEq]) ?_
    refine y_istore Z [(6, .int (if mv_go (mv_in (Int32.toInt64 (xs (i + 1))) 1 9) (mv_hr (S 0 1)) 1 = 0 then 0 else mv_ds (S 1) 9 (xs (i + 1)) (nzF (nzF (xs (i + 2)))) (-1) (-1))), (5, .int 1), (0, .ref b), (1, .ref (aJ 0)), (2, .ref (aS 0)), (3, .ref aO), (4, .int (nI i))] dL_law_755 (by decide) rfl ?_
    refine y_aload_n Z dL_law_757 4 rfl rfl ?_
    refine y_VIw (rest := []) Z (k_X6_thrown l D ht0 aS (mc_fault S (xs (i + 1)) (nzF (xs (i + 2))))) (y_cwV 0 Z ml_RL_102 im_X6_thrown se_X6_thrown in_X6 co_X6_thrown rfl rfl hd_X6_thrown ⟨Nat.le_of_ble_eq_true rfl, Nat.le_of_ble_eq_true rfl⟩) (wVM cI aJ J ++ wOut cL aO O) List.nil (by simp only [List.append_assoc, List.append_nil]) 6 0 rfl rfl rfl rfl (Nat.le_of_ble_eq_true rfl) dL_law_758 ⟨by show _ ≤ 1069; omega, by show _ ≤ 10084; omega⟩ (wL cI cL aJ J aO O aS (mc_fault S (xs (i + 1)) (nzF (xs (i + 2))))) (by simp only [wL, List.append_assoc, List.append_nil]) ?_
    refine y_eq rfl rfl (st' := [.int 1]) (by rw [he]) ?_
    refine y_iload Z dL_law_761 1 rfl ?_
    refine y_icmp_eq (tgt := 768) Z dL_law_763 (by decide) (fun _ => ?_) (fun h => absurd rfl h)
    refine y_iload Z dL_law_768 1 rfl ?_
    refine y_if_ne (tgt := 785) Z dL_law_770 (by decide) (fun _ => ?_) (fun h => absurd h (by decide))
    refine y_goto (tgt := 1756) Z dL_law_785 (by decide) ?_
    refine y_lv [2, 3, 4, 5, 6] (lv' := [(0, .ref b), (1, .ref (aJ 0)), (2, .ref (aS 0)), (3, .ref aO), (4, .int (nI i))]) rfl ?_
    exact y_wide (k := cells + 1) (n := slots + 6) (by omega) (by omega) (K _ _ _ hI)
  · refine y_aload_n Z dL_law_704 1 rfl rfl ?_
    refine y_aload_n Z dL_law_705 0 rfl rfl ?_
    refine y_iload Z dL_law_706 4 rfl ?_
    refine y_iconst (v := 1) Z dL_law_708 (by decide) ?_
    refine y_iadd Z dL_law_709 ?_
    refine y_sld Z hX hbl hbA (sx_in hi hL 1 (by decide)).1 (i + 1) (sx_in hi hL 1 (by decide)).2 dL_law_710 ?_
    refine y_aload_n Z dL_law_711 0 rfl rfl ?_
    refine y_iload Z dL_law_712 4 rfl ?_
    refine y_iconst (v := 2) Z dL_law_714 (by decide) ?_
    refine y_iadd Z dL_law_715 ?_
    refine y_sld Z hX hbl hbA (sx_in hi hL 2 (by decide)).1 (i + 2) (sx_in hi hL 2 (by decide)).2 dL_law_716 ?_
    refine y_nz (X := 724) (Y := 725) Z dL_law_717 (by decide) dL_law_720 dL_law_721 (by decide) dL_law_724 rfl ?_
    refine y_aload_n Z dL_law_725 3 rfl rfl ?_
    refine y_SWw (rest := []) Z X (k_L_fault_b1 l htr D ht0 ht1 aJ J aO O (xs (i + 1)) (nzF (xs (i + 2))) o_q hb) (y_cwSW 4 Z ml_RL_132 st_L_fault in_L co_L_fault rfl rfl hs_L_fault ⟨Nat.le_of_ble_eq_true rfl, Nat.le_of_ble_eq_true rfl⟩) List.nil (wMd cI aS S) (by simp only [List.nil_append, List.append_assoc]) rfl rfl (Nat.le_of_ble_eq_true rfl) dL_law_726 ⟨by show _ ≤ 1069; omega, by show _ ≤ 10084; omega⟩ (wL cI cL aJ J aO O aS S) (by simp only [wL, List.nil_append, List.append_assoc]) ?_
    refine y_istore Z [(5, .int 1), (0, .ref b), (1, .ref (aJ 0)), (2, .ref (aS 0)), (3, .ref aO), (4, .int (nI i))] dL_law_729 (by decide) rfl ?_
    refine y_aload_n Z dL_law_731 3 rfl rfl ?_
    refine y_aload_n Z dL_law_732 1 rfl rfl ?_
    refine y_iload Z dL_law_733 5 rfl ?_
    refine y_iconst (v := 1) Z dL_law_735 (by decide) ?_
    refine y_iadd Z dL_law_736 ?_
    refine y_sld Z hX hbl hbA (sx_in hi hL 1 (by decide)).1 (i + 1) (sx_in hi hL 1 (by decide)).2 dL_law_737 ?_
    refine y_aload_n Z dL_law_738 1 rfl rfl ?_
    refine y_iload Z dL_law_739 5 rfl ?_
    refine y_iconst (v := 2) Z dL_law_741 (by decide) ?_
    refine y_iadd Z dL_law_742 ?_
    refine y_sld Z hX hbl hbA (sx_in hi hL 2 (by decide)).1 (i + 2) (sx_in hi hL 2 (by decide)).2 dL_law_743 ?_
    refine y_nz (X := 751) (Y := 752) Z dL_law_744 (by decide) dL_law_747 dL_law_748 (by decide) dL_law_751 rfl ?_
    refine y_VIw (rest := []) Z (k_X6_fault l D ht0 aS S (xs (i + 1)) (nzF (xs (i + 2))) m_nn) (y_cwV 2 Z ml_RL_135 im_X6_fault se_X6_fault in_X6 co_X6_fault rfl rfl hd_X6_fault ⟨Nat.le_of_ble_eq_true rfl, Nat.le_of_ble_eq_true rfl⟩) (wVM cI aJ J ++ wOut cL aO O) List.nil (by simp only [List.append_assoc, List.append_nil]) 6 0 rfl rfl rfl rfl (Nat.le_of_ble_eq_true rfl) dL_law_752 ⟨by show _ ≤ 1069; omega, by show _ ≤ 10084; omega⟩ (wL cI cL aJ J aO O aS (mc_fault S (xs (i + 1)) (nzF (xs (i + 2))))) (by simp only [wL, mc_fault, List.append_assoc, List.append_nil, wMix, wLog, wPic, wRep, wScr, wVM, wMd, sR_eq, sR_ne, sF_eq, sF_ne, upd_eq, upd_ne, gs_eq, gs_ne, gm_4, gm_ne, Nat.reduceBEq]) ?_
    refine y_istore Z [(6, .int (if mv_go (mv_in (Int32.toInt64 (xs (i + 1))) 1 9) (mv_hr (S 0 1)) 1 = 0 then 0 else mv_ds (S 1) 9 (xs (i + 1)) (nzF (nzF (xs (i + 2)))) (-1) (-1))), (5, .int 1), (0, .ref b), (1, .ref (aJ 0)), (2, .ref (aS 0)), (3, .ref aO), (4, .int (nI i))] dL_law_755 (by decide) rfl ?_
    refine y_aload_n Z dL_law_757 4 rfl rfl ?_
    refine y_VIw (rest := []) Z (k_X6_thrown l D ht0 aS (mc_fault S (xs (i + 1)) (nzF (xs (i + 2))))) (y_cwV 0 Z ml_RL_102 im_X6_thrown se_X6_thrown in_X6 co_X6_thrown rfl rfl hd_X6_thrown ⟨Nat.le_of_ble_eq_true rfl, Nat.le_of_ble_eq_true rfl⟩) (wVM cI aJ J ++ wOut cL aO O) List.nil (by simp only [List.append_assoc, List.append_nil]) 6 0 rfl rfl rfl rfl (Nat.le_of_ble_eq_true rfl) dL_law_758 ⟨by show _ ≤ 1069; omega, by show _ ≤ 10084; omega⟩ (wL cI cL aJ J aO O aS (mc_fault S (xs (i + 1)) (nzF (xs (i + 2))))) (by simp only [wL, List.append_assoc, List.append_nil]) ?_
    refine y_eq rfl rfl (st' := [.int 1]) (by rw [he]) ?_
    refine y_iload Z dL_law_761 1 rfl ?_
    refine y_icmp_eq (tgt := 768) Z dL_law_763 (by decide) (fun _ => ?_) (fun h => absurd rfl h)
    refine y_iload Z dL_law_768 1 rfl ?_
    refine y_if_ne (tgt := 785) Z dL_law_770 (by decide) (fun _ => ?_) (fun h => absurd h (by decide))
    refine y_goto (tgt := 1756) Z dL_law_785 (by decide) ?_
    refine y_lv [2, 3, 4, 5, 6] (lv' := [(0, .ref b), (1, .ref (aJ 0)), (2, .ref (aS 0)), (3, .ref aO), (4, .int (nI i))]) rfl ?_
    exact y_wide (k := cells + 1) (n := slots + 6) (by omega) (by omega) (K _ _ _ hI)
  · refine y_aload_n Z dL_law_704 1 rfl rfl ?_
    refine y_aload_n Z dL_law_705 0 rfl rfl ?_
    refine y_iload Z dL_law_706 4 rfl ?_
    refine y_iconst (v := 1) Z dL_law_708 (by decide) ?_
    refine y_iadd Z dL_law_709 ?_
    refine y_sld Z hX hbl hbA (sx_in hi hL 1 (by decide)).1 (i + 1) (sx_in hi hL 1 (by decide)).2 dL_law_710 ?_
    refine y_aload_n Z dL_law_711 0 rfl rfl ?_
    refine y_iload Z dL_law_712 4 rfl ?_
    refine y_iconst (v := 2) Z dL_law_714 (by decide) ?_
    refine y_iadd Z dL_law_715 ?_
    refine y_sld Z hX hbl hbA (sx_in hi hL 2 (by decide)).1 (i + 2) (sx_in hi hL 2 (by decide)).2 dL_law_716 ?_
    refine y_nz (X := 724) (Y := 725) Z dL_law_717 (by decide) dL_law_720 dL_law_721 (by decide) dL_law_724 rfl ?_
    refine y_aload_n Z dL_law_725 3 rfl rfl ?_
    refine y_SWw (rest := []) Z X (k_L_fault_b2 l htr D ht0 ht1 aJ J aO O (xs (i + 1)) (nzF (xs (i + 2))) o_q o_b hb) (y_cwSW 4 Z ml_RL_132 st_L_fault in_L co_L_fault rfl rfl hs_L_fault ⟨Nat.le_of_ble_eq_true rfl, Nat.le_of_ble_eq_true rfl⟩) List.nil (wMd cI aS S) (by simp only [List.nil_append, List.append_assoc]) rfl rfl (Nat.le_of_ble_eq_true rfl) dL_law_726 ⟨by show _ ≤ 1069; omega, by show _ ≤ 10084; omega⟩ (wL cI cL aJ J aO O aS S) (by simp only [wL, List.nil_append, List.append_assoc]) ?_
    refine y_istore Z [(5, .int 2), (0, .ref b), (1, .ref (aJ 0)), (2, .ref (aS 0)), (3, .ref aO), (4, .int (nI i))] dL_law_729 (by decide) rfl ?_
    refine y_aload_n Z dL_law_731 3 rfl rfl ?_
    refine y_aload_n Z dL_law_732 1 rfl rfl ?_
    refine y_iload Z dL_law_733 5 rfl ?_
    refine y_iconst (v := 1) Z dL_law_735 (by decide) ?_
    refine y_iadd Z dL_law_736 ?_
    refine y_sld Z hX hbl hbA (sx_in hi hL 1 (by decide)).1 (i + 1) (sx_in hi hL 1 (by decide)).2 dL_law_737 ?_
    refine y_aload_n Z dL_law_738 1 rfl rfl ?_
    refine y_iload Z dL_law_739 5 rfl ?_
    refine y_iconst (v := 2) Z dL_law_741 (by decide) ?_
    refine y_iadd Z dL_law_742 ?_
    refine y_sld Z hX hbl hbA (sx_in hi hL 2 (by decide)).1 (i + 2) (sx_in hi hL 2 (by decide)).2 dL_law_743 ?_
    refine y_nz (X := 751) (Y := 752) Z dL_law_744 (by decide) dL_law_747 dL_law_748 (by decide) dL_law_751 rfl ?_
    refine y_VIw (rest := []) Z (k_X6_fault l D ht0 aS S (xs (i + 1)) (nzF (xs (i + 2))) m_nn) (y_cwV 2 Z ml_RL_135 im_X6_fault se_X6_fault in_X6 co_X6_fault rfl rfl hd_X6_fault ⟨Nat.le_of_ble_eq_true rfl, Nat.le_of_ble_eq_true rfl⟩) (wVM cI aJ J ++ wOut cL aO O) List.nil (by simp only [List.append_assoc, List.append_nil]) 6 0 rfl rfl rfl rfl (Nat.le_of_ble_eq_true rfl) dL_law_752 ⟨by show _ ≤ 1069; omega, by show _ ≤ 10084; omega⟩ (wL cI cL aJ J aO O aS (mc_fault S (xs (i + 1)) (nzF (xs (i + 2))))) (by simp only [wL, mc_fault, List.append_assoc, List.append_nil, wMix, wLog, wPic, wRep, wScr, wVM, wMd, sR_eq, sR_ne, sF_eq, sF_ne, upd_eq, upd_ne, gs_eq, gs_ne, gm_4, gm_ne, Nat.reduceBEq]) ?_
    refine y_istore Z [(6, .int (if mv_go (mv_in (Int32.toInt64 (xs (i + 1))) 1 9) (mv_hr (S 0 1)) 1 = 0 then 0 else mv_ds (S 1) 9 (xs (i + 1)) (nzF (nzF (xs (i + 2)))) (-1) (-1))), (5, .int 2), (0, .ref b), (1, .ref (aJ 0)), (2, .ref (aS 0)), (3, .ref aO), (4, .int (nI i))] dL_law_755 (by decide) rfl ?_
    refine y_aload_n Z dL_law_757 4 rfl rfl ?_
    refine y_VIw (rest := []) Z (k_X6_thrown l D ht0 aS (mc_fault S (xs (i + 1)) (nzF (xs (i + 2))))) (y_cwV 0 Z ml_RL_102 im_X6_thrown se_X6_thrown in_X6 co_X6_thrown rfl rfl hd_X6_thrown ⟨Nat.le_of_ble_eq_true rfl, Nat.le_of_ble_eq_true rfl⟩) (wVM cI aJ J ++ wOut cL aO O) List.nil (by simp only [List.append_assoc, List.append_nil]) 6 0 rfl rfl rfl rfl (Nat.le_of_ble_eq_true rfl) dL_law_758 ⟨by show _ ≤ 1069; omega, by show _ ≤ 10084; omega⟩ (wL cI cL aJ J aO O aS (mc_fault S (xs (i + 1)) (nzF (xs (i + 2))))) (by simp only [wL, List.append_assoc, List.append_nil]) ?_
    refine y_eq rfl rfl (st' := [.int 2]) (by rw [he]) ?_
    refine y_iload Z dL_law_761 1 rfl ?_
    refine y_icmp_eq (tgt := 768) Z dL_law_763 (by decide) (fun _ => ?_) (fun h => absurd rfl h)
    refine y_iload Z dL_law_768 1 rfl ?_
    refine y_if_ne (tgt := 785) Z dL_law_770 (by decide) (fun _ => ?_) (fun h => absurd h (by decide))
    refine y_goto (tgt := 1756) Z dL_law_785 (by decide) ?_
    refine y_lv [2, 3, 4, 5, 6] (lv' := [(0, .ref b), (1, .ref (aJ 0)), (2, .ref (aS 0)), (3, .ref aO), (4, .int (nI i))]) rfl ?_
    exact y_wide (k := cells + 1) (n := slots + 6) (by omega) (by omega) (K _ _ _ hI)
set_option maxHeartbeats 4000000 in
set_option maxRecDepth 100000 in
theorem lc_pass {p : Program} {l : Launch} {e : Env} {s : State} {m : MethodId} {args : Array Value} {below : List Frame} {meth : Method} {c : Code} {Q : State → Prop} {D : va_G} {A : Nat → Prop} {tys : List (ClassId × FieldType)} {cI cL : ClassId} (Z : Zz p m c cL_law 9 s args wsL_law RL D tys A) (X : Xz s A) (htr : l.stackTraces = false) (ht0 : tys[0]? = some (cI, .int)) (ht1 : tys[1]? = some (cL, .long)) {b L : Nat} {xs : Nat → Int32} (hX : va_X b L xs s s.heap) (hbl : b < s.heap.size) (hbA : ¬ A b) {i : Nat} (hi : i + 4 < L) (hL : L ≤ 2560) {cells slots : Nat} (hc : cells + 1 ≤ 1069) (hs : slots + 6 ≤ 10084) {aJ : Nat → Nat} {aO : Nat} {aS : Nat → Nat} {J : Nat → Nat → Nat → Int32} {O : Nat → Int64} {S : Nat → Nat → Int32} (I : Inv J S) (K : ∀ (J2 : Nat → Nat → Nat → Int32) (O2 : Nat → Int64) (S2 : Nat → Nat → Int32), Inv J2 S2 → Yy p l e room_1 s m args below meth c Q D A 9 (cells + 1) (slots + 6) (wL cI cL aJ J2 aO O2 aS S2) [(0, .ref b), (1, .ref (aJ 0)), (2, .ref (aS 0)), (3, .ref aO), (4, .int (nI i))] [] 1756) : Yy p l e room_1 s m args below meth c Q D A 9 cells slots (wL cI cL aJ J aO O aS S) [(0, .ref b), (1, .ref (aJ 0)), (2, .ref (aS 0)), (3, .ref aO), (4, .int (nI i))] [] 788 := by
  obtain ⟨m_r, m_stop, hr⟩ := c2_pass I (xs (i + 1))
  rcases hr with ⟨o_f, o_p, he, her, hI⟩ | ⟨hb, he, hI⟩ | ⟨o_f, hb, he, hI⟩
  · refine y_aload_n Z dL_law_788 1 rfl rfl ?_
    refine y_aload_n Z dL_law_789 0 rfl rfl ?_
    refine y_iload Z dL_law_790 4 rfl ?_
    refine y_iconst (v := 1) Z dL_law_792 (by decide) ?_
    refine y_iadd Z dL_law_793 ?_
    refine y_sld Z hX hbl hbA (sx_in hi hL 1 (by decide)).1 (i + 1) (sx_in hi hL 1 (by decide)).2 dL_law_794 ?_
    refine y_aload_n Z dL_law_795 3 rfl rfl ?_
    refine y_SWw (rest := []) Z X (k_L_pass l htr D ht0 ht1 aJ J aO O (xs (i + 1)) o_f o_p) (y_cwSW 3 Z ml_RL_136 st_L_pass in_L co_L_pass rfl rfl hs_L_pass ⟨Nat.le_of_ble_eq_true rfl, Nat.le_of_ble_eq_true rfl⟩) List.nil (wMd cI aS S) (by simp only [List.nil_append, List.append_assoc]) rfl rfl (Nat.le_of_ble_eq_true rfl) dL_law_796 ⟨by show _ ≤ 1069; omega, by show _ ≤ 10084; omega⟩ (wL cI cL aJ (vm_pass J (xs (i + 1))) aO (vp_updL O 0 (Int32.toInt64 (gt_letPass (xs (i + 1)) (J 0) 0 7))) aS S) (by simp only [wL, List.nil_append, List.append_assoc]) ?_
    refine y_istore Z [(5, .int 0), (0, .ref b), (1, .ref (aJ 0)), (2, .ref (aS 0)), (3, .ref aO), (4, .int (nI i))] dL_law_799 (by decide) rfl ?_
    refine y_aload_n Z dL_law_801 3 rfl rfl ?_
    refine y_aload_n Z dL_law_802 1 rfl rfl ?_
    refine y_iload Z dL_law_803 5 rfl ?_
    refine y_iconst (v := 1) Z dL_law_805 (by decide) ?_
    refine y_iadd Z dL_law_806 ?_
    refine y_sld Z hX hbl hbA (sx_in hi hL 1 (by decide)).1 (i + 1) (sx_in hi hL 1 (by decide)).2 dL_law_807 ?_
    refine y_VIw (rest := []) Z (k_X6_pass l D ht0 aS S (xs (i + 1)) m_r m_stop) (y_cwV 1 Z ml_RL_138 im_X6_pass se_X6_pass in_X6 co_X6_pass rfl rfl hd_X6_pass ⟨Nat.le_of_ble_eq_true rfl, Nat.le_of_ble_eq_true rfl⟩) (wVM cI aJ (vm_pass J (xs (i + 1))) ++ wOut cL aO (vp_updL O 0 (Int32.toInt64 (gt_letPass (xs (i + 1)) (J 0) 0 7)))) List.nil (by simp only [List.append_assoc, List.append_nil]) 6 0 rfl rfl rfl rfl (Nat.le_of_ble_eq_true rfl) dL_law_808 ⟨by show _ ≤ 1069; omega, by show _ ≤ 10084; omega⟩ (wL cI cL aJ (vm_pass J (xs (i + 1))) aO (vp_updL O 0 (Int32.toInt64 (gt_letPass (xs (i + 1)) (J 0) 0 7))) aS (mc_pass S (xs (i + 1)))) (by simp only [wL, mc_pass, List.append_assoc, List.append_nil, wMix, wLog, wPic, wRep, wScr, wVM, wMd, sR_eq, sR_ne, sF_eq, sF_ne, upd_eq, upd_ne, gs_eq, gs_ne, gm_4, gm_ne, Nat.reduceBEq]) ?_
    refine y_istore Z [(6, .int (if mv_pg (S 0 0) (xs (i + 1)) = 0 then 0 else (psX (xs (i + 1)) (S 1) (S 0 3) (S 0 0)).2.2.1)), (5, .int 0), (0, .ref b), (1, .ref (aJ 0)), (2, .ref (aS 0)), (3, .ref aO), (4, .int (nI i))] dL_law_811 (by decide) rfl ?_
    refine y_aload_n Z dL_law_813 4 rfl rfl ?_
    refine y_VIw (rest := []) Z (k_X6_thrown l D ht0 aS (mc_pass S (xs (i + 1)))) (y_cwV 0 Z ml_RL_102 im_X6_thrown se_X6_thrown in_X6 co_X6_thrown rfl rfl hd_X6_thrown ⟨Nat.le_of_ble_eq_true rfl, Nat.le_of_ble_eq_true rfl⟩) (wVM cI aJ (vm_pass J (xs (i + 1))) ++ wOut cL aO (vp_updL O 0 (Int32.toInt64 (gt_letPass (xs (i + 1)) (J 0) 0 7)))) List.nil (by simp only [List.append_assoc, List.append_nil]) 6 0 rfl rfl rfl rfl (Nat.le_of_ble_eq_true rfl) dL_law_814 ⟨by show _ ≤ 1069; omega, by show _ ≤ 10084; omega⟩ (wL cI cL aJ (vm_pass J (xs (i + 1))) aO (vp_updL O 0 (Int32.toInt64 (gt_letPass (xs (i + 1)) (J 0) 0 7))) aS (mc_pass S (xs (i + 1)))) (by simp only [wL, List.append_assoc, List.append_nil]) ?_
    refine y_eq rfl rfl (st' := [.int 0]) (by rw [he]) ?_
    refine y_iload Z dL_law_817 1 rfl ?_
    refine y_icmp_eq (tgt := 824) Z dL_law_819 (by decide) (fun _ => ?_) (fun h => absurd rfl h)
    refine y_iload Z dL_law_824 1 rfl ?_
    refine y_if_ne (tgt := 841) Z dL_law_826 (by decide) (fun h => absurd rfl h) (fun _ => ?_)
    refine y_aload_n Z dL_law_829 5 rfl rfl ?_
    refine y_iconst (v := 0) Z dL_law_830 (by decide) ?_
    refine y_lald Z 27 1 rfl ht1 (vpd (by decide) (by decide)) 0 (by decide) dL_law_831 ?_
    refine y_iload Z dL_law_832 0 rfl ?_
    refine y_i2l Z dL_law_834 ?_
    refine y_eq rfl rfl (st' := [.long (Int32.toInt64 (if mv_pg (S 0 0) (xs (i + 1)) = 0 then 0 else (psX (xs (i + 1)) (S 1) (S 0 3) (S 0 0)).2.2.1)), .long (Int32.toInt64 (if mv_pg (S 0 0) (xs (i + 1)) = 0 then 0 else (psX (xs (i + 1)) (S 1) (S 0 3) (S 0 0)).2.2.1))]) (by rw [← her]; rfl) ?_
    refine y_lcmp Z dL_law_835 ?_
    refine y_if_eq (tgt := 841) Z dL_law_836 (by decide) (fun _ => ?_) (fun h => absurd (lgc_self _) h)
    refine y_goto (tgt := 1756) Z dL_law_841 (by decide) ?_
    refine y_lv [2, 3, 4, 5, 6] (lv' := [(0, .ref b), (1, .ref (aJ 0)), (2, .ref (aS 0)), (3, .ref aO), (4, .int (nI i))]) rfl ?_
    exact y_wide (k := cells + 1) (n := slots + 6) (by omega) (by omega) (K _ _ _ hI)
  · refine y_aload_n Z dL_law_788 1 rfl rfl ?_
    refine y_aload_n Z dL_law_789 0 rfl rfl ?_
    refine y_iload Z dL_law_790 4 rfl ?_
    refine y_iconst (v := 1) Z dL_law_792 (by decide) ?_
    refine y_iadd Z dL_law_793 ?_
    refine y_sld Z hX hbl hbA (sx_in hi hL 1 (by decide)).1 (i + 1) (sx_in hi hL 1 (by decide)).2 dL_law_794 ?_
    refine y_aload_n Z dL_law_795 3 rfl rfl ?_
    refine y_SWw (rest := []) Z X (k_L_pass_b0 l htr D ht0 ht1 aJ J aO O (xs (i + 1)) hb) (y_cwSW 3 Z ml_RL_136 st_L_pass in_L co_L_pass rfl rfl hs_L_pass ⟨Nat.le_of_ble_eq_true rfl, Nat.le_of_ble_eq_true rfl⟩) List.nil (wMd cI aS S) (by simp only [List.nil_append, List.append_assoc]) rfl rfl (Nat.le_of_ble_eq_true rfl) dL_law_796 ⟨by show _ ≤ 1069; omega, by show _ ≤ 10084; omega⟩ (wL cI cL aJ J aO O aS S) (by simp only [wL, List.nil_append, List.append_assoc]) ?_
    refine y_istore Z [(5, .int 1), (0, .ref b), (1, .ref (aJ 0)), (2, .ref (aS 0)), (3, .ref aO), (4, .int (nI i))] dL_law_799 (by decide) rfl ?_
    refine y_aload_n Z dL_law_801 3 rfl rfl ?_
    refine y_aload_n Z dL_law_802 1 rfl rfl ?_
    refine y_iload Z dL_law_803 5 rfl ?_
    refine y_iconst (v := 1) Z dL_law_805 (by decide) ?_
    refine y_iadd Z dL_law_806 ?_
    refine y_sld Z hX hbl hbA (sx_in hi hL 1 (by decide)).1 (i + 1) (sx_in hi hL 1 (by decide)).2 dL_law_807 ?_
    refine y_VIw (rest := []) Z (k_X6_pass l D ht0 aS S (xs (i + 1)) m_r m_stop) (y_cwV 1 Z ml_RL_138 im_X6_pass se_X6_pass in_X6 co_X6_pass rfl rfl hd_X6_pass ⟨Nat.le_of_ble_eq_true rfl, Nat.le_of_ble_eq_true rfl⟩) (wVM cI aJ J ++ wOut cL aO O) List.nil (by simp only [List.append_assoc, List.append_nil]) 6 0 rfl rfl rfl rfl (Nat.le_of_ble_eq_true rfl) dL_law_808 ⟨by show _ ≤ 1069; omega, by show _ ≤ 10084; omega⟩ (wL cI cL aJ J aO O aS (mc_pass S (xs (i + 1)))) (by simp only [wL, mc_pass, List.append_assoc, List.append_nil, wMix, wLog, wPic, wRep, wScr, wVM, wMd, sR_eq, sR_ne, sF_eq, sF_ne, upd_eq, upd_ne, gs_eq, gs_ne, gm_4, gm_ne, Nat.reduceBEq]) ?_
    refine y_istore Z [(6, .int (if mv_pg (S 0 0) (xs (i + 1)) = 0 then 0 else (psX (xs (i + 1)) (S 1) (S 0 3) (S 0 0)).2.2.1)), (5, .int 1), (0, .ref b), (1, .ref (aJ 0)), (2, .ref (aS 0)), (3, .ref aO), (4, .int (nI i))] dL_law_811 (by decide) rfl ?_
    refine y_aload_n Z dL_law_813 4 rfl rfl ?_
    refine y_VIw (rest := []) Z (k_X6_thrown l D ht0 aS (mc_pass S (xs (i + 1)))) (y_cwV 0 Z ml_RL_102 im_X6_thrown se_X6_thrown in_X6 co_X6_thrown rfl rfl hd_X6_thrown ⟨Nat.le_of_ble_eq_true rfl, Nat.le_of_ble_eq_true rfl⟩) (wVM cI aJ J ++ wOut cL aO O) List.nil (by simp only [List.append_assoc, List.append_nil]) 6 0 rfl rfl rfl rfl (Nat.le_of_ble_eq_true rfl) dL_law_814 ⟨by show _ ≤ 1069; omega, by show _ ≤ 10084; omega⟩ (wL cI cL aJ J aO O aS (mc_pass S (xs (i + 1)))) (by simp only [wL, List.append_assoc, List.append_nil]) ?_
    refine y_eq rfl rfl (st' := [.int 1]) (by rw [he]) ?_
    refine y_iload Z dL_law_817 1 rfl ?_
    refine y_icmp_eq (tgt := 824) Z dL_law_819 (by decide) (fun _ => ?_) (fun h => absurd rfl h)
    refine y_iload Z dL_law_824 1 rfl ?_
    refine y_if_ne (tgt := 841) Z dL_law_826 (by decide) (fun _ => ?_) (fun h => absurd h (by decide))
    refine y_goto (tgt := 1756) Z dL_law_841 (by decide) ?_
    refine y_lv [2, 3, 4, 5, 6] (lv' := [(0, .ref b), (1, .ref (aJ 0)), (2, .ref (aS 0)), (3, .ref aO), (4, .int (nI i))]) rfl ?_
    exact y_wide (k := cells + 1) (n := slots + 6) (by omega) (by omega) (K _ _ _ hI)
  · refine y_aload_n Z dL_law_788 1 rfl rfl ?_
    refine y_aload_n Z dL_law_789 0 rfl rfl ?_
    refine y_iload Z dL_law_790 4 rfl ?_
    refine y_iconst (v := 1) Z dL_law_792 (by decide) ?_
    refine y_iadd Z dL_law_793 ?_
    refine y_sld Z hX hbl hbA (sx_in hi hL 1 (by decide)).1 (i + 1) (sx_in hi hL 1 (by decide)).2 dL_law_794 ?_
    refine y_aload_n Z dL_law_795 3 rfl rfl ?_
    refine y_SWw (rest := []) Z X (k_L_pass_b1 l htr D ht0 ht1 aJ J aO O (xs (i + 1)) o_f hb) (y_cwSW 3 Z ml_RL_136 st_L_pass in_L co_L_pass rfl rfl hs_L_pass ⟨Nat.le_of_ble_eq_true rfl, Nat.le_of_ble_eq_true rfl⟩) List.nil (wMd cI aS S) (by simp only [List.nil_append, List.append_assoc]) rfl rfl (Nat.le_of_ble_eq_true rfl) dL_law_796 ⟨by show _ ≤ 1069; omega, by show _ ≤ 10084; omega⟩ (wL cI cL aJ J aO O aS S) (by simp only [wL, List.nil_append, List.append_assoc]) ?_
    refine y_istore Z [(5, .int 2), (0, .ref b), (1, .ref (aJ 0)), (2, .ref (aS 0)), (3, .ref aO), (4, .int (nI i))] dL_law_799 (by decide) rfl ?_
    refine y_aload_n Z dL_law_801 3 rfl rfl ?_
    refine y_aload_n Z dL_law_802 1 rfl rfl ?_
    refine y_iload Z dL_law_803 5 rfl ?_
    refine y_iconst (v := 1) Z dL_law_805 (by decide) ?_
    refine y_iadd Z dL_law_806 ?_
    refine y_sld Z hX hbl hbA (sx_in hi hL 1 (by decide)).1 (i + 1) (sx_in hi hL 1 (by decide)).2 dL_law_807 ?_
    refine y_VIw (rest := []) Z (k_X6_pass l D ht0 aS S (xs (i + 1)) m_r m_stop) (y_cwV 1 Z ml_RL_138 im_X6_pass se_X6_pass in_X6 co_X6_pass rfl rfl hd_X6_pass ⟨Nat.le_of_ble_eq_true rfl, Nat.le_of_ble_eq_true rfl⟩) (wVM cI aJ J ++ wOut cL aO O) List.nil (by simp only [List.append_assoc, List.append_nil]) 6 0 rfl rfl rfl rfl (Nat.le_of_ble_eq_true rfl) dL_law_808 ⟨by show _ ≤ 1069; omega, by show _ ≤ 10084; omega⟩ (wL cI cL aJ J aO O aS (mc_pass S (xs (i + 1)))) (by simp only [wL, mc_pass, List.append_assoc, List.append_nil, wMix, wLog, wPic, wRep, wScr, wVM, wMd, sR_eq, sR_ne, sF_eq, sF_ne, upd_eq, upd_ne, gs_eq, gs_ne, gm_4, gm_ne, Nat.reduceBEq]) ?_
    refine y_istore Z [(6, .int (if mv_pg (S 0 0) (xs (i + 1)) = 0 then 0 else (psX (xs (i + 1)) (S 1) (S 0 3) (S 0 0)).2.2.1)), (5, .int 2), (0, .ref b), (1, .ref (aJ 0)), (2, .ref (aS 0)), (3, .ref aO), (4, .int (nI i))] dL_law_811 (by decide) rfl ?_
    refine y_aload_n Z dL_law_813 4 rfl rfl ?_
    refine y_VIw (rest := []) Z (k_X6_thrown l D ht0 aS (mc_pass S (xs (i + 1)))) (y_cwV 0 Z ml_RL_102 im_X6_thrown se_X6_thrown in_X6 co_X6_thrown rfl rfl hd_X6_thrown ⟨Nat.le_of_ble_eq_true rfl, Nat.le_of_ble_eq_true rfl⟩) (wVM cI aJ J ++ wOut cL aO O) List.nil (by simp only [List.append_assoc, List.append_nil]) 6 0 rfl rfl rfl rfl (Nat.le_of_ble_eq_true rfl) dL_law_814 ⟨by show _ ≤ 1069; omega, by show _ ≤ 10084; omega⟩ (wL cI cL aJ J aO O aS (mc_pass S (xs (i + 1)))) (by simp only [wL, List.append_assoc, List.append_nil]) ?_
    refine y_eq rfl rfl (st' := [.int 2]) (by rw [he]) ?_
    refine y_iload Z dL_law_817 1 rfl ?_
    refine y_icmp_eq (tgt := 824) Z dL_law_819 (by decide) (fun _ => ?_) (fun h => absurd rfl h)
    refine y_iload Z dL_law_824 1 rfl ?_
    refine y_if_ne (tgt := 841) Z dL_law_826 (by decide) (fun _ => ?_) (fun h => absurd h (by decide))
    refine y_goto (tgt := 1756) Z dL_law_841 (by decide) ?_
    refine y_lv [2, 3, 4, 5, 6] (lv' := [(0, .ref b), (1, .ref (aJ 0)), (2, .ref (aS 0)), (3, .ref aO), (4, .int (nI i))]) rfl ?_
    exact y_wide (k := cells + 1) (n := slots + 6) (by omega) (by omega) (K _ _ _ hI)
set_option maxHeartbeats 4000000 in
set_option maxRecDepth 100000 in
theorem lc_setting {p : Program} {l : Launch} {e : Env} {s : State} {m : MethodId} {args : Array Value} {below : List Frame} {meth : Method} {c : Code} {Q : State → Prop} {D : va_G} {A : Nat → Prop} {tys : List (ClassId × FieldType)} {cI cL : ClassId} (Z : Zz p m c cL_law 9 s args wsL_law RL D tys A) (X : Xz s A) (htr : l.stackTraces = false) (ht0 : tys[0]? = some (cI, .int)) (ht1 : tys[1]? = some (cL, .long)) {b L : Nat} {xs : Nat → Int32} (hX : va_X b L xs s s.heap) (hbl : b < s.heap.size) (hbA : ¬ A b) {i : Nat} (hi : i + 4 < L) (hL : L ≤ 2560) {cells slots : Nat} (hc : cells + 1 ≤ 1069) (hs : slots + 6 ≤ 10084) {aJ : Nat → Nat} {aO : Nat} {aS : Nat → Nat} {J : Nat → Nat → Nat → Int32} {O : Nat → Int64} {S : Nat → Nat → Int32} (I : Inv J S) (K : ∀ (J2 : Nat → Nat → Nat → Int32) (O2 : Nat → Int64) (S2 : Nat → Nat → Int32), Inv J2 S2 → Yy p l e room_1 s m args below meth c Q D A 9 (cells + 1) (slots + 6) (wL cI cL aJ J2 aO O2 aS S2) [(0, .ref b), (1, .ref (aJ 0)), (2, .ref (aS 0)), (3, .ref aO), (4, .int (nI i))] [] 1756) : Yy p l e room_1 s m args below meth c Q D A 9 cells slots (wL cI cL aJ J aO O aS S) [(0, .ref b), (1, .ref (aJ 0)), (2, .ref (aS 0)), (3, .ref aO), (4, .int (nI i))] [] 844 := by
  have hr := c2_setting I (xs (i + 1))
  rcases hr with ⟨o_w, he, her, hI⟩ | ⟨hb, he, hI⟩
  · refine y_aload_n Z dL_law_844 1 rfl rfl ?_
    refine y_aload_n Z dL_law_845 0 rfl rfl ?_
    refine y_iload Z dL_law_846 4 rfl ?_
    refine y_iconst (v := 1) Z dL_law_848 (by decide) ?_
    refine y_iadd Z dL_law_849 ?_
    refine y_sld Z hX hbl hbA (sx_in hi hL 1 (by decide)).1 (i + 1) (sx_in hi hL 1 (by decide)).2 dL_law_850 ?_
    refine y_aload_n Z dL_law_851 3 rfl rfl ?_
    refine y_SWw (rest := []) Z X (k_L_setting l htr D ht0 ht1 aJ J aO O (xs (i + 1)) o_w) (y_cwSW 3 Z ml_RL_139 st_L_setting in_L co_L_setting rfl rfl hs_L_setting ⟨Nat.le_of_ble_eq_true rfl, Nat.le_of_ble_eq_true rfl⟩) List.nil (wMd cI aS S) (by simp only [List.nil_append, List.append_assoc]) rfl rfl (Nat.le_of_ble_eq_true rfl) dL_law_852 ⟨by show _ ≤ 1069; omega, by show _ ≤ 10084; omega⟩ (wL cI cL aJ J aO (vp_updL O 0 (Int32.toInt64 (psF J (xs (i + 1))))) aS S) (by simp only [wL, List.nil_append, List.append_assoc]) ?_
    refine y_istore Z [(5, .int 0), (0, .ref b), (1, .ref (aJ 0)), (2, .ref (aS 0)), (3, .ref aO), (4, .int (nI i))] dL_law_855 (by decide) rfl ?_
    refine y_aload_n Z dL_law_857 3 rfl rfl ?_
    refine y_aload_n Z dL_law_858 1 rfl rfl ?_
    refine y_iload Z dL_law_859 5 rfl ?_
    refine y_iconst (v := 1) Z dL_law_861 (by decide) ?_
    refine y_iadd Z dL_law_862 ?_
    refine y_sld Z hX hbl hbA (sx_in hi hL 1 (by decide)).1 (i + 1) (sx_in hi hL 1 (by decide)).2 dL_law_863 ?_
    refine y_VIw (rest := []) Z (k_X6_setting l D ht0 aS S (xs (i + 1))) (y_cwV 1 Z ml_RL_141 im_X6_setting se_X6_setting in_X6 co_X6_setting rfl rfl hd_X6_setting ⟨Nat.le_of_ble_eq_true rfl, Nat.le_of_ble_eq_true rfl⟩) (wVM cI aJ J ++ wOut cL aO (vp_updL O 0 (Int32.toInt64 (psF J (xs (i + 1)))))) List.nil (by simp only [List.append_assoc, List.append_nil]) 6 0 rfl rfl rfl rfl (Nat.le_of_ble_eq_true rfl) dL_law_864 ⟨by show _ ≤ 1069; omega, by show _ ≤ 10084; omega⟩ (wL cI cL aJ J aO (vp_updL O 0 (Int32.toInt64 (psF J (xs (i + 1))))) aS (mc_setting S (xs (i + 1)))) (by simp only [wL, mc_setting, List.append_assoc, List.append_nil, wMix, wLog, wPic, wRep, wScr, wVM, wMd, sR_eq, sR_ne, sF_eq, sF_ne, upd_eq, upd_ne, gs_eq, gs_ne, gm_4, gm_ne, Nat.reduceBEq]) ?_
    refine y_istore Z [(6, .int (if mv_go (mv_in (Int32.toInt64 (xs (i + 1))) 0 8) 1 1 = 0 then 0 else mv_st (S 1) (S 0 0) (S 0 1) (xs (i + 1)))), (5, .int 0), (0, .ref b), (1, .ref (aJ 0)), (2, .ref (aS 0)), (3, .ref aO), (4, .int (nI i))] dL_law_867 (by decide) rfl ?_
    refine y_aload_n Z dL_law_869 4 rfl rfl ?_
    refine y_VIw (rest := []) Z (k_X6_thrown l D ht0 aS (mc_setting S (xs (i + 1)))) (y_cwV 0 Z ml_RL_102 im_X6_thrown se_X6_thrown in_X6 co_X6_thrown rfl rfl hd_X6_thrown ⟨Nat.le_of_ble_eq_true rfl, Nat.le_of_ble_eq_true rfl⟩) (wVM cI aJ J ++ wOut cL aO (vp_updL O 0 (Int32.toInt64 (psF J (xs (i + 1)))))) List.nil (by simp only [List.append_assoc, List.append_nil]) 6 0 rfl rfl rfl rfl (Nat.le_of_ble_eq_true rfl) dL_law_870 ⟨by show _ ≤ 1069; omega, by show _ ≤ 10084; omega⟩ (wL cI cL aJ J aO (vp_updL O 0 (Int32.toInt64 (psF J (xs (i + 1))))) aS (mc_setting S (xs (i + 1)))) (by simp only [wL, List.append_assoc, List.append_nil]) ?_
    refine y_eq rfl rfl (st' := [.int 0]) (by rw [he]) ?_
    refine y_iload Z dL_law_873 1 rfl ?_
    refine y_icmp_eq (tgt := 880) Z dL_law_875 (by decide) (fun _ => ?_) (fun h => absurd rfl h)
    refine y_iload Z dL_law_880 1 rfl ?_
    refine y_if_ne (tgt := 897) Z dL_law_882 (by decide) (fun h => absurd rfl h) (fun _ => ?_)
    refine y_aload_n Z dL_law_885 5 rfl rfl ?_
    refine y_iconst (v := 0) Z dL_law_886 (by decide) ?_
    refine y_lald Z 27 1 rfl ht1 (vpd (by decide) (by decide)) 0 (by decide) dL_law_887 ?_
    refine y_iload Z dL_law_888 0 rfl ?_
    refine y_i2l Z dL_law_890 ?_
    refine y_eq rfl rfl (st' := [.long (Int32.toInt64 (if mv_go (mv_in (Int32.toInt64 (xs (i + 1))) 0 8) 1 1 = 0 then 0 else mv_st (S 1) (S 0 0) (S 0 1) (xs (i + 1)))), .long (Int32.toInt64 (if mv_go (mv_in (Int32.toInt64 (xs (i + 1))) 0 8) 1 1 = 0 then 0 else mv_st (S 1) (S 0 0) (S 0 1) (xs (i + 1))))]) (by rw [← her]; rfl) ?_
    refine y_lcmp Z dL_law_891 ?_
    refine y_if_eq (tgt := 897) Z dL_law_892 (by decide) (fun _ => ?_) (fun h => absurd (lgc_self _) h)
    refine y_goto (tgt := 1756) Z dL_law_897 (by decide) ?_
    refine y_lv [2, 3, 4, 5, 6] (lv' := [(0, .ref b), (1, .ref (aJ 0)), (2, .ref (aS 0)), (3, .ref aO), (4, .int (nI i))]) rfl ?_
    exact y_wide (k := cells + 1) (n := slots + 6) (by omega) (by omega) (K _ _ _ hI)
  · refine y_aload_n Z dL_law_844 1 rfl rfl ?_
    refine y_aload_n Z dL_law_845 0 rfl rfl ?_
    refine y_iload Z dL_law_846 4 rfl ?_
    refine y_iconst (v := 1) Z dL_law_848 (by decide) ?_
    refine y_iadd Z dL_law_849 ?_
    refine y_sld Z hX hbl hbA (sx_in hi hL 1 (by decide)).1 (i + 1) (sx_in hi hL 1 (by decide)).2 dL_law_850 ?_
    refine y_aload_n Z dL_law_851 3 rfl rfl ?_
    refine y_SWw (rest := []) Z X (k_L_setting_b0 l htr D ht0 ht1 aJ J aO O (xs (i + 1)) hb) (y_cwSW 3 Z ml_RL_139 st_L_setting in_L co_L_setting rfl rfl hs_L_setting ⟨Nat.le_of_ble_eq_true rfl, Nat.le_of_ble_eq_true rfl⟩) List.nil (wMd cI aS S) (by simp only [List.nil_append, List.append_assoc]) rfl rfl (Nat.le_of_ble_eq_true rfl) dL_law_852 ⟨by show _ ≤ 1069; omega, by show _ ≤ 10084; omega⟩ (wL cI cL aJ J aO O aS S) (by simp only [wL, List.nil_append, List.append_assoc]) ?_
    refine y_istore Z [(5, .int 1), (0, .ref b), (1, .ref (aJ 0)), (2, .ref (aS 0)), (3, .ref aO), (4, .int (nI i))] dL_law_855 (by decide) rfl ?_
    refine y_aload_n Z dL_law_857 3 rfl rfl ?_
    refine y_aload_n Z dL_law_858 1 rfl rfl ?_
    refine y_iload Z dL_law_859 5 rfl ?_
    refine y_iconst (v := 1) Z dL_law_861 (by decide) ?_
    refine y_iadd Z dL_law_862 ?_
    refine y_sld Z hX hbl hbA (sx_in hi hL 1 (by decide)).1 (i + 1) (sx_in hi hL 1 (by decide)).2 dL_law_863 ?_
    refine y_VIw (rest := []) Z (k_X6_setting l D ht0 aS S (xs (i + 1))) (y_cwV 1 Z ml_RL_141 im_X6_setting se_X6_setting in_X6 co_X6_setting rfl rfl hd_X6_setting ⟨Nat.le_of_ble_eq_true rfl, Nat.le_of_ble_eq_true rfl⟩) (wVM cI aJ J ++ wOut cL aO O) List.nil (by simp only [List.append_assoc, List.append_nil]) 6 0 rfl rfl rfl rfl (Nat.le_of_ble_eq_true rfl) dL_law_864 ⟨by show _ ≤ 1069; omega, by show _ ≤ 10084; omega⟩ (wL cI cL aJ J aO O aS (mc_setting S (xs (i + 1)))) (by simp only [wL, mc_setting, List.append_assoc, List.append_nil, wMix, wLog, wPic, wRep, wScr, wVM, wMd, sR_eq, sR_ne, sF_eq, sF_ne, upd_eq, upd_ne, gs_eq, gs_ne, gm_4, gm_ne, Nat.reduceBEq]) ?_
    refine y_istore Z [(6, .int (if mv_go (mv_in (Int32.toInt64 (xs (i + 1))) 0 8) 1 1 = 0 then 0 else mv_st (S 1) (S 0 0) (S 0 1) (xs (i + 1)))), (5, .int 1), (0, .ref b), (1, .ref (aJ 0)), (2, .ref (aS 0)), (3, .ref aO), (4, .int (nI i))] dL_law_867 (by decide) rfl ?_
    refine y_aload_n Z dL_law_869 4 rfl rfl ?_
    refine y_VIw (rest := []) Z (k_X6_thrown l D ht0 aS (mc_setting S (xs (i + 1)))) (y_cwV 0 Z ml_RL_102 im_X6_thrown se_X6_thrown in_X6 co_X6_thrown rfl rfl hd_X6_thrown ⟨Nat.le_of_ble_eq_true rfl, Nat.le_of_ble_eq_true rfl⟩) (wVM cI aJ J ++ wOut cL aO O) List.nil (by simp only [List.append_assoc, List.append_nil]) 6 0 rfl rfl rfl rfl (Nat.le_of_ble_eq_true rfl) dL_law_870 ⟨by show _ ≤ 1069; omega, by show _ ≤ 10084; omega⟩ (wL cI cL aJ J aO O aS (mc_setting S (xs (i + 1)))) (by simp only [wL, List.append_assoc, List.append_nil]) ?_
    refine y_eq rfl rfl (st' := [.int 1]) (by rw [he]) ?_
    refine y_iload Z dL_law_873 1 rfl ?_
    refine y_icmp_eq (tgt := 880) Z dL_law_875 (by decide) (fun _ => ?_) (fun h => absurd rfl h)
    refine y_iload Z dL_law_880 1 rfl ?_
    refine y_if_ne (tgt := 897) Z dL_law_882 (by decide) (fun _ => ?_) (fun h => absurd h (by decide))
    refine y_goto (tgt := 1756) Z dL_law_897 (by decide) ?_
    refine y_lv [2, 3, 4, 5, 6] (lv' := [(0, .ref b), (1, .ref (aJ 0)), (2, .ref (aS 0)), (3, .ref aO), (4, .int (nI i))]) rfl ?_
    exact y_wide (k := cells + 1) (n := slots + 6) (by omega) (by omega) (K _ _ _ hI)
set_option maxHeartbeats 4000000 in
set_option maxRecDepth 100000 in
theorem lc_keyer {p : Program} {l : Launch} {e : Env} {s : State} {m : MethodId} {args : Array Value} {below : List Frame} {meth : Method} {c : Code} {Q : State → Prop} {D : va_G} {A : Nat → Prop} {tys : List (ClassId × FieldType)} {cI cL : ClassId} (Z : Zz p m c cL_law 9 s args wsL_law RL D tys A) (X : Xz s A) (htr : l.stackTraces = false) (ht0 : tys[0]? = some (cI, .int)) (ht1 : tys[1]? = some (cL, .long)) {b L : Nat} {xs : Nat → Int32} (hX : va_X b L xs s s.heap) (hbl : b < s.heap.size) (hbA : ¬ A b) {i : Nat} (hi : i + 4 < L) (hL : L ≤ 2560) {cells slots : Nat} (hc : cells + 1 ≤ 1069) (hs : slots + 6 ≤ 10084) {aJ : Nat → Nat} {aO : Nat} {aS : Nat → Nat} {J : Nat → Nat → Nat → Int32} {O : Nat → Int64} {S : Nat → Nat → Int32} (I : Inv J S) (K : ∀ (J2 : Nat → Nat → Nat → Int32) (O2 : Nat → Int64) (S2 : Nat → Nat → Int32), Inv J2 S2 → Yy p l e room_1 s m args below meth c Q D A 9 (cells + 1) (slots + 6) (wL cI cL aJ J2 aO O2 aS S2) [(0, .ref b), (1, .ref (aJ 0)), (2, .ref (aS 0)), (3, .ref aO), (4, .int (nI i))] [] 1756) : Yy p l e room_1 s m args below meth c Q D A 9 cells slots (wL cI cL aJ J aO O aS S) [(0, .ref b), (1, .ref (aJ 0)), (2, .ref (aS 0)), (3, .ref aO), (4, .int (nI i))] [] 900 := by
  have hr := c2_keyer I (xs (i + 1)) (xs (i + 2))
  rcases hr with ⟨o_k, o_w, he, her, hI⟩ | ⟨hb, he, hI⟩ | ⟨o_k, hb, he, hI⟩
  · refine y_aload_n Z dL_law_900 1 rfl rfl ?_
    refine y_aload_n Z dL_law_901 0 rfl rfl ?_
    refine y_iload Z dL_law_902 4 rfl ?_
    refine y_iconst (v := 1) Z dL_law_904 (by decide) ?_
    refine y_iadd Z dL_law_905 ?_
    refine y_sld Z hX hbl hbA (sx_in hi hL 1 (by decide)).1 (i + 1) (sx_in hi hL 1 (by decide)).2 dL_law_906 ?_
    refine y_aload_n Z dL_law_907 0 rfl rfl ?_
    refine y_iload Z dL_law_908 4 rfl ?_
    refine y_iconst (v := 2) Z dL_law_910 (by decide) ?_
    refine y_iadd Z dL_law_911 ?_
    refine y_sld Z hX hbl hbA (sx_in hi hL 2 (by decide)).1 (i + 2) (sx_in hi hL 2 (by decide)).2 dL_law_912 ?_
    refine y_aload_n Z dL_law_913 3 rfl rfl ?_
    refine y_SWw (rest := []) Z X (k_L_keyer l htr D ht0 ht1 aJ J aO O (xs (i + 1)) (xs (i + 2)) o_k o_w) (y_cwSW 4 Z ml_RL_142 st_L_keyer in_L co_L_keyer rfl rfl hs_L_keyer ⟨Nat.le_of_ble_eq_true rfl, Nat.le_of_ble_eq_true rfl⟩) List.nil (wMd cI aS S) (by simp only [List.nil_append, List.append_assoc]) rfl rfl (Nat.le_of_ble_eq_true rfl) dL_law_914 ⟨by show _ ≤ 1069; omega, by show _ ≤ 10084; omega⟩ (wL cI cL aJ J aO (vp_updL O 0 (Int32.toInt64 (tellK (J 0) (xs (i + 1)) (xs (i + 2))))) aS S) (by simp only [wL, List.nil_append, List.append_assoc]) ?_
    refine y_istore Z [(5, .int 0), (0, .ref b), (1, .ref (aJ 0)), (2, .ref (aS 0)), (3, .ref aO), (4, .int (nI i))] dL_law_917 (by decide) rfl ?_
    refine y_aload_n Z dL_law_919 3 rfl rfl ?_
    refine y_aload_n Z dL_law_920 1 rfl rfl ?_
    refine y_iload Z dL_law_921 5 rfl ?_
    refine y_iconst (v := 1) Z dL_law_923 (by decide) ?_
    refine y_iadd Z dL_law_924 ?_
    refine y_sld Z hX hbl hbA (sx_in hi hL 1 (by decide)).1 (i + 1) (sx_in hi hL 1 (by decide)).2 dL_law_925 ?_
    refine y_aload_n Z dL_law_926 1 rfl rfl ?_
    refine y_iload Z dL_law_927 5 rfl ?_
    refine y_iconst (v := 2) Z dL_law_929 (by decide) ?_
    refine y_iadd Z dL_law_930 ?_
    refine y_sld Z hX hbl hbA (sx_in hi hL 2 (by decide)).1 (i + 2) (sx_in hi hL 2 (by decide)).2 dL_law_931 ?_
    refine y_VIw (rest := []) Z (k_X6_keyer l D ht0 aS S (xs (i + 1)) (xs (i + 2))) (y_cwV 2 Z ml_RL_144 im_X6_keyer se_X6_keyer in_X6 co_X6_keyer rfl rfl hd_X6_keyer ⟨Nat.le_of_ble_eq_true rfl, Nat.le_of_ble_eq_true rfl⟩) (wVM cI aJ J ++ wOut cL aO (vp_updL O 0 (Int32.toInt64 (tellK (J 0) (xs (i + 1)) (xs (i + 2)))))) List.nil (by simp only [List.append_assoc, List.append_nil]) 6 0 rfl rfl rfl rfl (Nat.le_of_ble_eq_true rfl) dL_law_932 ⟨by show _ ≤ 1069; omega, by show _ ≤ 10084; omega⟩ (wL cI cL aJ J aO (vp_updL O 0 (Int32.toInt64 (tellK (J 0) (xs (i + 1)) (xs (i + 2))))) aS (mc_keyer S (xs (i + 1)) (xs (i + 2)))) (by simp only [wL, mc_keyer, List.append_assoc, List.append_nil, wMix, wLog, wPic, wRep, wScr, wVM, wMd, sR_eq, sR_ne, sF_eq, sF_ne, upd_eq, upd_ne, gs_eq, gs_ne, gm_4, gm_ne, Nat.reduceBEq]) ?_
    refine y_istore Z [(6, .int (if mv_go (mv_ik (xs (i + 1))) (mv_in (Int32.toInt64 (xs (i + 2))) 0 3) 1 = 0 then 0 else (S 1) (kx (xs (i + 1)) (xs (i + 2))))), (5, .int 0), (0, .ref b), (1, .ref (aJ 0)), (2, .ref (aS 0)), (3, .ref aO), (4, .int (nI i))] dL_law_935 (by decide) rfl ?_
    refine y_aload_n Z dL_law_937 4 rfl rfl ?_
    refine y_VIw (rest := []) Z (k_X6_thrown l D ht0 aS (mc_keyer S (xs (i + 1)) (xs (i + 2)))) (y_cwV 0 Z ml_RL_102 im_X6_thrown se_X6_thrown in_X6 co_X6_thrown rfl rfl hd_X6_thrown ⟨Nat.le_of_ble_eq_true rfl, Nat.le_of_ble_eq_true rfl⟩) (wVM cI aJ J ++ wOut cL aO (vp_updL O 0 (Int32.toInt64 (tellK (J 0) (xs (i + 1)) (xs (i + 2)))))) List.nil (by simp only [List.append_assoc, List.append_nil]) 6 0 rfl rfl rfl rfl (Nat.le_of_ble_eq_true rfl) dL_law_938 ⟨by show _ ≤ 1069; omega, by show _ ≤ 10084; omega⟩ (wL cI cL aJ J aO (vp_updL O 0 (Int32.toInt64 (tellK (J 0) (xs (i + 1)) (xs (i + 2))))) aS (mc_keyer S (xs (i + 1)) (xs (i + 2)))) (by simp only [wL, List.append_assoc, List.append_nil]) ?_
    refine y_eq rfl rfl (st' := [.int 0]) (by rw [he]) ?_
    refine y_iload Z dL_law_941 1 rfl ?_
    refine y_icmp_eq (tgt := 948) Z dL_law_943 (by decide) (fun _ => ?_) (fun h => absurd rfl h)
    refine y_iload Z dL_law_948 1 rfl ?_
    refine y_if_ne (tgt := 965) Z dL_law_950 (by decide) (fun h => absurd rfl h) (fun _ => ?_)
    refine y_aload_n Z dL_law_953 5 rfl rfl ?_
    refine y_iconst (v := 0) Z dL_law_954 (by decide) ?_
    refine y_lald Z 27 1 rfl ht1 (vpd (by decide) (by decide)) 0 (by decide) dL_law_955 ?_
    refine y_iload Z dL_law_956 0 rfl ?_
    refine y_i2l Z dL_law_958 ?_
    refine y_eq rfl rfl (st' := [.long (Int32.toInt64 (if mv_go (mv_ik (xs (i + 1))) (mv_in (Int32.toInt64 (xs (i + 2))) 0 3) 1 = 0 then 0 else (S 1) (kx (xs (i + 1)) (xs (i + 2))))), .long (Int32.toInt64 (if mv_go (mv_ik (xs (i + 1))) (mv_in (Int32.toInt64 (xs (i + 2))) 0 3) 1 = 0 then 0 else (S 1) (kx (xs (i + 1)) (xs (i + 2)))))]) (by rw [← her]; rfl) ?_
    refine y_lcmp Z dL_law_959 ?_
    refine y_if_eq (tgt := 965) Z dL_law_960 (by decide) (fun _ => ?_) (fun h => absurd (lgc_self _) h)
    refine y_goto (tgt := 1756) Z dL_law_965 (by decide) ?_
    refine y_lv [2, 3, 4, 5, 6] (lv' := [(0, .ref b), (1, .ref (aJ 0)), (2, .ref (aS 0)), (3, .ref aO), (4, .int (nI i))]) rfl ?_
    exact y_wide (k := cells + 1) (n := slots + 6) (by omega) (by omega) (K _ _ _ hI)
  · refine y_aload_n Z dL_law_900 1 rfl rfl ?_
    refine y_aload_n Z dL_law_901 0 rfl rfl ?_
    refine y_iload Z dL_law_902 4 rfl ?_
    refine y_iconst (v := 1) Z dL_law_904 (by decide) ?_
    refine y_iadd Z dL_law_905 ?_
    refine y_sld Z hX hbl hbA (sx_in hi hL 1 (by decide)).1 (i + 1) (sx_in hi hL 1 (by decide)).2 dL_law_906 ?_
    refine y_aload_n Z dL_law_907 0 rfl rfl ?_
    refine y_iload Z dL_law_908 4 rfl ?_
    refine y_iconst (v := 2) Z dL_law_910 (by decide) ?_
    refine y_iadd Z dL_law_911 ?_
    refine y_sld Z hX hbl hbA (sx_in hi hL 2 (by decide)).1 (i + 2) (sx_in hi hL 2 (by decide)).2 dL_law_912 ?_
    refine y_aload_n Z dL_law_913 3 rfl rfl ?_
    refine y_SWw (rest := []) Z X (k_L_keyer_b0 l htr D ht0 ht1 aJ J aO O (xs (i + 1)) (xs (i + 2)) hb) (y_cwSW 4 Z ml_RL_142 st_L_keyer in_L co_L_keyer rfl rfl hs_L_keyer ⟨Nat.le_of_ble_eq_true rfl, Nat.le_of_ble_eq_true rfl⟩) List.nil (wMd cI aS S) (by simp only [List.nil_append, List.append_assoc]) rfl rfl (Nat.le_of_ble_eq_true rfl) dL_law_914 ⟨by show _ ≤ 1069; omega, by show _ ≤ 10084; omega⟩ (wL cI cL aJ J aO O aS S) (by simp only [wL, List.nil_append, List.append_assoc]) ?_
    refine y_istore Z [(5, .int 1), (0, .ref b), (1, .ref (aJ 0)), (2, .ref (aS 0)), (3, .ref aO), (4, .int (nI i))] dL_law_917 (by decide) rfl ?_
    refine y_aload_n Z dL_law_919 3 rfl rfl ?_
    refine y_aload_n Z dL_law_920 1 rfl rfl ?_
    refine y_iload Z dL_law_921 5 rfl ?_
    refine y_iconst (v := 1) Z dL_law_923 (by decide) ?_
    refine y_iadd Z dL_law_924 ?_
    refine y_sld Z hX hbl hbA (sx_in hi hL 1 (by decide)).1 (i + 1) (sx_in hi hL 1 (by decide)).2 dL_law_925 ?_
    refine y_aload_n Z dL_law_926 1 rfl rfl ?_
    refine y_iload Z dL_law_927 5 rfl ?_
    refine y_iconst (v := 2) Z dL_law_929 (by decide) ?_
    refine y_iadd Z dL_law_930 ?_
    refine y_sld Z hX hbl hbA (sx_in hi hL 2 (by decide)).1 (i + 2) (sx_in hi hL 2 (by decide)).2 dL_law_931 ?_
    refine y_VIw (rest := []) Z (k_X6_keyer l D ht0 aS S (xs (i + 1)) (xs (i + 2))) (y_cwV 2 Z ml_RL_144 im_X6_keyer se_X6_keyer in_X6 co_X6_keyer rfl rfl hd_X6_keyer ⟨Nat.le_of_ble_eq_true rfl, Nat.le_of_ble_eq_true rfl⟩) (wVM cI aJ J ++ wOut cL aO O) List.nil (by simp only [List.append_assoc, List.append_nil]) 6 0 rfl rfl rfl rfl (Nat.le_of_ble_eq_true rfl) dL_law_932 ⟨by show _ ≤ 1069; omega, by show _ ≤ 10084; omega⟩ (wL cI cL aJ J aO O aS (mc_keyer S (xs (i + 1)) (xs (i + 2)))) (by simp only [wL, mc_keyer, List.append_assoc, List.append_nil, wMix, wLog, wPic, wRep, wScr, wVM, wMd, sR_eq, sR_ne, sF_eq, sF_ne, upd_eq, upd_ne, gs_eq, gs_ne, gm_4, gm_ne, Nat.reduceBEq]) ?_
    refine y_istore Z [(6, .int (if mv_go (mv_ik (xs (i + 1))) (mv_in (Int32.toInt64 (xs (i + 2))) 0 3) 1 = 0 then 0 else (S 1) (kx (xs (i + 1)) (xs (i + 2))))), (5, .int 1), (0, .ref b), (1, .ref (aJ 0)), (2, .ref (aS 0)), (3, .ref aO), (4, .int (nI i))] dL_law_935 (by decide) rfl ?_
    refine y_aload_n Z dL_law_937 4 rfl rfl ?_
    refine y_VIw (rest := []) Z (k_X6_thrown l D ht0 aS (mc_keyer S (xs (i + 1)) (xs (i + 2)))) (y_cwV 0 Z ml_RL_102 im_X6_thrown se_X6_thrown in_X6 co_X6_thrown rfl rfl hd_X6_thrown ⟨Nat.le_of_ble_eq_true rfl, Nat.le_of_ble_eq_true rfl⟩) (wVM cI aJ J ++ wOut cL aO O) List.nil (by simp only [List.append_assoc, List.append_nil]) 6 0 rfl rfl rfl rfl (Nat.le_of_ble_eq_true rfl) dL_law_938 ⟨by show _ ≤ 1069; omega, by show _ ≤ 10084; omega⟩ (wL cI cL aJ J aO O aS (mc_keyer S (xs (i + 1)) (xs (i + 2)))) (by simp only [wL, List.append_assoc, List.append_nil]) ?_
    refine y_eq rfl rfl (st' := [.int 1]) (by rw [he]) ?_
    refine y_iload Z dL_law_941 1 rfl ?_
    refine y_icmp_eq (tgt := 948) Z dL_law_943 (by decide) (fun _ => ?_) (fun h => absurd rfl h)
    refine y_iload Z dL_law_948 1 rfl ?_
    refine y_if_ne (tgt := 965) Z dL_law_950 (by decide) (fun _ => ?_) (fun h => absurd h (by decide))
    refine y_goto (tgt := 1756) Z dL_law_965 (by decide) ?_
    refine y_lv [2, 3, 4, 5, 6] (lv' := [(0, .ref b), (1, .ref (aJ 0)), (2, .ref (aS 0)), (3, .ref aO), (4, .int (nI i))]) rfl ?_
    exact y_wide (k := cells + 1) (n := slots + 6) (by omega) (by omega) (K _ _ _ hI)
  · refine y_aload_n Z dL_law_900 1 rfl rfl ?_
    refine y_aload_n Z dL_law_901 0 rfl rfl ?_
    refine y_iload Z dL_law_902 4 rfl ?_
    refine y_iconst (v := 1) Z dL_law_904 (by decide) ?_
    refine y_iadd Z dL_law_905 ?_
    refine y_sld Z hX hbl hbA (sx_in hi hL 1 (by decide)).1 (i + 1) (sx_in hi hL 1 (by decide)).2 dL_law_906 ?_
    refine y_aload_n Z dL_law_907 0 rfl rfl ?_
    refine y_iload Z dL_law_908 4 rfl ?_
    refine y_iconst (v := 2) Z dL_law_910 (by decide) ?_
    refine y_iadd Z dL_law_911 ?_
    refine y_sld Z hX hbl hbA (sx_in hi hL 2 (by decide)).1 (i + 2) (sx_in hi hL 2 (by decide)).2 dL_law_912 ?_
    refine y_aload_n Z dL_law_913 3 rfl rfl ?_
    refine y_SWw (rest := []) Z X (k_L_keyer_b1 l htr D ht0 ht1 aJ J aO O (xs (i + 1)) (xs (i + 2)) o_k hb) (y_cwSW 4 Z ml_RL_142 st_L_keyer in_L co_L_keyer rfl rfl hs_L_keyer ⟨Nat.le_of_ble_eq_true rfl, Nat.le_of_ble_eq_true rfl⟩) List.nil (wMd cI aS S) (by simp only [List.nil_append, List.append_assoc]) rfl rfl (Nat.le_of_ble_eq_true rfl) dL_law_914 ⟨by show _ ≤ 1069; omega, by show _ ≤ 10084; omega⟩ (wL cI cL aJ J aO O aS S) (by simp only [wL, List.nil_append, List.append_assoc]) ?_
    refine y_istore Z [(5, .int 2), (0, .ref b), (1, .ref (aJ 0)), (2, .ref (aS 0)), (3, .ref aO), (4, .int (nI i))] dL_law_917 (by decide) rfl ?_
    refine y_aload_n Z dL_law_919 3 rfl rfl ?_
    refine y_aload_n Z dL_law_920 1 rfl rfl ?_
    refine y_iload Z dL_law_921 5 rfl ?_
    refine y_iconst (v := 1) Z dL_law_923 (by decide) ?_
    refine y_iadd Z dL_law_924 ?_
    refine y_sld Z hX hbl hbA (sx_in hi hL 1 (by decide)).1 (i + 1) (sx_in hi hL 1 (by decide)).2 dL_law_925 ?_
    refine y_aload_n Z dL_law_926 1 rfl rfl ?_
    refine y_iload Z dL_law_927 5 rfl ?_
    refine y_iconst (v := 2) Z dL_law_929 (by decide) ?_
    refine y_iadd Z dL_law_930 ?_
    refine y_sld Z hX hbl hbA (sx_in hi hL 2 (by decide)).1 (i + 2) (sx_in hi hL 2 (by decide)).2 dL_law_931 ?_
    refine y_VIw (rest := []) Z (k_X6_keyer l D ht0 aS S (xs (i + 1)) (xs (i + 2))) (y_cwV 2 Z ml_RL_144 im_X6_keyer se_X6_keyer in_X6 co_X6_keyer rfl rfl hd_X6_keyer ⟨Nat.le_of_ble_eq_true rfl, Nat.le_of_ble_eq_true rfl⟩) (wVM cI aJ J ++ wOut cL aO O) List.nil (by simp only [List.append_assoc, List.append_nil]) 6 0 rfl rfl rfl rfl (Nat.le_of_ble_eq_true rfl) dL_law_932 ⟨by show _ ≤ 1069; omega, by show _ ≤ 10084; omega⟩ (wL cI cL aJ J aO O aS (mc_keyer S (xs (i + 1)) (xs (i + 2)))) (by simp only [wL, mc_keyer, List.append_assoc, List.append_nil, wMix, wLog, wPic, wRep, wScr, wVM, wMd, sR_eq, sR_ne, sF_eq, sF_ne, upd_eq, upd_ne, gs_eq, gs_ne, gm_4, gm_ne, Nat.reduceBEq]) ?_
    refine y_istore Z [(6, .int (if mv_go (mv_ik (xs (i + 1))) (mv_in (Int32.toInt64 (xs (i + 2))) 0 3) 1 = 0 then 0 else (S 1) (kx (xs (i + 1)) (xs (i + 2))))), (5, .int 2), (0, .ref b), (1, .ref (aJ 0)), (2, .ref (aS 0)), (3, .ref aO), (4, .int (nI i))] dL_law_935 (by decide) rfl ?_
    refine y_aload_n Z dL_law_937 4 rfl rfl ?_
    refine y_VIw (rest := []) Z (k_X6_thrown l D ht0 aS (mc_keyer S (xs (i + 1)) (xs (i + 2)))) (y_cwV 0 Z ml_RL_102 im_X6_thrown se_X6_thrown in_X6 co_X6_thrown rfl rfl hd_X6_thrown ⟨Nat.le_of_ble_eq_true rfl, Nat.le_of_ble_eq_true rfl⟩) (wVM cI aJ J ++ wOut cL aO O) List.nil (by simp only [List.append_assoc, List.append_nil]) 6 0 rfl rfl rfl rfl (Nat.le_of_ble_eq_true rfl) dL_law_938 ⟨by show _ ≤ 1069; omega, by show _ ≤ 10084; omega⟩ (wL cI cL aJ J aO O aS (mc_keyer S (xs (i + 1)) (xs (i + 2)))) (by simp only [wL, List.append_assoc, List.append_nil]) ?_
    refine y_eq rfl rfl (st' := [.int 2]) (by rw [he]) ?_
    refine y_iload Z dL_law_941 1 rfl ?_
    refine y_icmp_eq (tgt := 948) Z dL_law_943 (by decide) (fun _ => ?_) (fun h => absurd rfl h)
    refine y_iload Z dL_law_948 1 rfl ?_
    refine y_if_ne (tgt := 965) Z dL_law_950 (by decide) (fun _ => ?_) (fun h => absurd h (by decide))
    refine y_goto (tgt := 1756) Z dL_law_965 (by decide) ?_
    refine y_lv [2, 3, 4, 5, 6] (lv' := [(0, .ref b), (1, .ref (aJ 0)), (2, .ref (aS 0)), (3, .ref aO), (4, .int (nI i))]) rfl ?_
    exact y_wide (k := cells + 1) (n := slots + 6) (by omega) (by omega) (K _ _ _ hI)
set_option maxHeartbeats 4000000 in
set_option maxRecDepth 100000 in
theorem lc_share {p : Program} {l : Launch} {e : Env} {s : State} {m : MethodId} {args : Array Value} {below : List Frame} {meth : Method} {c : Code} {Q : State → Prop} {D : va_G} {A : Nat → Prop} {tys : List (ClassId × FieldType)} {cI cL : ClassId} (Z : Zz p m c cL_law 9 s args wsL_law RL D tys A) (X : Xz s A) (htr : l.stackTraces = false) (ht0 : tys[0]? = some (cI, .int)) (ht1 : tys[1]? = some (cL, .long)) {b L : Nat} {xs : Nat → Int32} (hX : va_X b L xs s s.heap) (hbl : b < s.heap.size) (hbA : ¬ A b) {i : Nat} (hi : i + 4 < L) (hL : L ≤ 2560) {cells slots : Nat} (hc : cells + 1 ≤ 1069) (hs : slots + 6 ≤ 10084) {aJ : Nat → Nat} {aO : Nat} {aS : Nat → Nat} {J : Nat → Nat → Nat → Int32} {O : Nat → Int64} {S : Nat → Nat → Int32} (I : Inv J S) (K : ∀ (J2 : Nat → Nat → Nat → Int32) (O2 : Nat → Int64) (S2 : Nat → Nat → Int32), Inv J2 S2 → Yy p l e room_1 s m args below meth c Q D A 9 (cells + 1) (slots + 6) (wL cI cL aJ J2 aO O2 aS S2) [(0, .ref b), (1, .ref (aJ 0)), (2, .ref (aS 0)), (3, .ref aO), (4, .int (nI i))] [] 1756) : Yy p l e room_1 s m args below meth c Q D A 9 cells slots (wL cI cL aJ J aO O aS S) [(0, .ref b), (1, .ref (aJ 0)), (2, .ref (aS 0)), (3, .ref aO), (4, .int (nI i))] [] 968 := by
  obtain ⟨m_o, hr⟩ := c2_share I (xs (i + 1)) (nzF (xs (i + 2)))
  rcases hr with ⟨o_q, he, her, hI⟩ | ⟨hb, he, hI⟩
  · refine y_aload_n Z dL_law_968 1 rfl rfl ?_
    refine y_aload_n Z dL_law_969 0 rfl rfl ?_
    refine y_iload Z dL_law_970 4 rfl ?_
    refine y_iconst (v := 1) Z dL_law_972 (by decide) ?_
    refine y_iadd Z dL_law_973 ?_
    refine y_sld Z hX hbl hbA (sx_in hi hL 1 (by decide)).1 (i + 1) (sx_in hi hL 1 (by decide)).2 dL_law_974 ?_
    refine y_aload_n Z dL_law_975 0 rfl rfl ?_
    refine y_iload Z dL_law_976 4 rfl ?_
    refine y_iconst (v := 2) Z dL_law_978 (by decide) ?_
    refine y_iadd Z dL_law_979 ?_
    refine y_sld Z hX hbl hbA (sx_in hi hL 2 (by decide)).1 (i + 2) (sx_in hi hL 2 (by decide)).2 dL_law_980 ?_
    refine y_nz (X := 988) (Y := 989) Z dL_law_981 (by decide) dL_law_984 dL_law_985 (by decide) dL_law_988 rfl ?_
    refine y_aload_n Z dL_law_989 3 rfl rfl ?_
    refine y_SWw (rest := []) Z X (k_L_share l htr D ht0 ht1 aJ J aO O (xs (i + 1)) (nzF (xs (i + 2))) o_q) (y_cwSW 4 Z ml_RL_145 st_L_share in_L co_L_share rfl rfl hs_L_share ⟨Nat.le_of_ble_eq_true rfl, Nat.le_of_ble_eq_true rfl⟩) List.nil (wMd cI aS S) (by simp only [List.nil_append, List.append_assoc]) rfl rfl (Nat.le_of_ble_eq_true rfl) dL_law_990 ⟨by show _ ≤ 1069; omega, by show _ ≤ 10084; omega⟩ (wL cI cL aJ (vm_pP J) aO (vp_updL O 0 (Int32.toInt64 (shF J (xs (i + 1)) (nzF (xs (i + 2)))))) aS S) (by simp only [wL, List.nil_append, List.append_assoc]) ?_
    refine y_istore Z [(5, .int 0), (0, .ref b), (1, .ref (aJ 0)), (2, .ref (aS 0)), (3, .ref aO), (4, .int (nI i))] dL_law_993 (by decide) rfl ?_
    refine y_aload_n Z dL_law_995 3 rfl rfl ?_
    refine y_aload_n Z dL_law_996 1 rfl rfl ?_
    refine y_iload Z dL_law_997 5 rfl ?_
    refine y_iconst (v := 1) Z dL_law_999 (by decide) ?_
    refine y_iadd Z dL_law_1000 ?_
    refine y_sld Z hX hbl hbA (sx_in hi hL 1 (by decide)).1 (i + 1) (sx_in hi hL 1 (by decide)).2 dL_law_1001 ?_
    refine y_aload_n Z dL_law_1002 1 rfl rfl ?_
    refine y_iload Z dL_law_1003 5 rfl ?_
    refine y_iconst (v := 2) Z dL_law_1005 (by decide) ?_
    refine y_iadd Z dL_law_1006 ?_
    refine y_sld Z hX hbl hbA (sx_in hi hL 2 (by decide)).1 (i + 2) (sx_in hi hL 2 (by decide)).2 dL_law_1007 ?_
    refine y_nz (X := 1015) (Y := 1016) Z dL_law_1008 (by decide) dL_law_1011 dL_law_1012 (by decide) dL_law_1015 rfl ?_
    refine y_VIw (rest := []) Z (k_X6_share l D ht0 aS S (xs (i + 1)) (nzF (xs (i + 2))) m_o) (y_cwV 2 Z ml_RL_147 im_X6_share se_X6_share in_X6 co_X6_share rfl rfl hd_X6_share ⟨Nat.le_of_ble_eq_true rfl, Nat.le_of_ble_eq_true rfl⟩) (wVM cI aJ (vm_pP J) ++ wOut cL aO (vp_updL O 0 (Int32.toInt64 (shF J (xs (i + 1)) (nzF (xs (i + 2))))))) List.nil (by simp only [List.append_assoc, List.append_nil]) 6 0 rfl rfl rfl rfl (Nat.le_of_ble_eq_true rfl) dL_law_1016 ⟨by show _ ≤ 1069; omega, by show _ ≤ 10084; omega⟩ (wL cI cL aJ (vm_pP J) aO (vp_updL O 0 (Int32.toInt64 (shF J (xs (i + 1)) (nzF (xs (i + 2)))))) aS (mc_share S (xs (i + 1)) (nzF (xs (i + 2))))) (by simp only [wL, mc_share, List.append_assoc, List.append_nil, wMix, wLog, wPic, wRep, wScr, wVM, wMd, sR_eq, sR_ne, sF_eq, sF_ne, upd_eq, upd_ne, gs_eq, gs_ne, gm_4, gm_ne, Nat.reduceBEq]) ?_
    refine y_istore Z [(6, .int (if mv_go (mv_is (xs (i + 1))) 1 1 = 0 then 0 else mv_sh (S 1) (mr_ls (S 1) (S 4)) (xs (i + 1)) (nzF (xs (i + 2))))), (5, .int 0), (0, .ref b), (1, .ref (aJ 0)), (2, .ref (aS 0)), (3, .ref aO), (4, .int (nI i))] dL_law_1019 (by decide) rfl ?_
    refine y_aload_n Z dL_law_1021 4 rfl rfl ?_
    refine y_VIw (rest := []) Z (k_X6_thrown l D ht0 aS (mc_share S (xs (i + 1)) (nzF (xs (i + 2))))) (y_cwV 0 Z ml_RL_102 im_X6_thrown se_X6_thrown in_X6 co_X6_thrown rfl rfl hd_X6_thrown ⟨Nat.le_of_ble_eq_true rfl, Nat.le_of_ble_eq_true rfl⟩) (wVM cI aJ (vm_pP J) ++ wOut cL aO (vp_updL O 0 (Int32.toInt64 (shF J (xs (i + 1)) (nzF (xs (i + 2))))))) List.nil (by simp only [List.append_assoc, List.append_nil]) 6 0 rfl rfl rfl rfl (Nat.le_of_ble_eq_true rfl) dL_law_1022 ⟨by show _ ≤ 1069; omega, by show _ ≤ 10084; omega⟩ (wL cI cL aJ (vm_pP J) aO (vp_updL O 0 (Int32.toInt64 (shF J (xs (i + 1)) (nzF (xs (i + 2)))))) aS (mc_share S (xs (i + 1)) (nzF (xs (i + 2))))) (by simp only [wL, List.append_assoc, List.append_nil]) ?_
    refine y_eq rfl rfl (st' := [.int 0]) (by rw [he]) ?_
    refine y_iload Z dL_law_1025 1 rfl ?_
    refine y_icmp_eq (tgt := 1032) Z dL_law_1027 (by decide) (fun _ => ?_) (fun h => absurd rfl h)
    refine y_iload Z dL_law_1032 1 rfl ?_
    refine y_if_ne (tgt := 1049) Z dL_law_1034 (by decide) (fun h => absurd rfl h) (fun _ => ?_)
    refine y_aload_n Z dL_law_1037 5 rfl rfl ?_
    refine y_iconst (v := 0) Z dL_law_1038 (by decide) ?_
    refine y_lald Z 27 1 rfl ht1 (vpd (by decide) (by decide)) 0 (by decide) dL_law_1039 ?_
    refine y_iload Z dL_law_1040 0 rfl ?_
    refine y_i2l Z dL_law_1042 ?_
    refine y_eq rfl rfl (st' := [.long (Int32.toInt64 (if mv_go (mv_is (xs (i + 1))) 1 1 = 0 then 0 else mv_sh (S 1) (mr_ls (S 1) (S 4)) (xs (i + 1)) (nzF (xs (i + 2))))), .long (Int32.toInt64 (if mv_go (mv_is (xs (i + 1))) 1 1 = 0 then 0 else mv_sh (S 1) (mr_ls (S 1) (S 4)) (xs (i + 1)) (nzF (xs (i + 2)))))]) (by rw [← her]; rfl) ?_
    refine y_lcmp Z dL_law_1043 ?_
    refine y_if_eq (tgt := 1049) Z dL_law_1044 (by decide) (fun _ => ?_) (fun h => absurd (lgc_self _) h)
    refine y_goto (tgt := 1756) Z dL_law_1049 (by decide) ?_
    refine y_lv [2, 3, 4, 5, 6] (lv' := [(0, .ref b), (1, .ref (aJ 0)), (2, .ref (aS 0)), (3, .ref aO), (4, .int (nI i))]) rfl ?_
    exact y_wide (k := cells + 1) (n := slots + 6) (by omega) (by omega) (K _ _ _ hI)
  · refine y_aload_n Z dL_law_968 1 rfl rfl ?_
    refine y_aload_n Z dL_law_969 0 rfl rfl ?_
    refine y_iload Z dL_law_970 4 rfl ?_
    refine y_iconst (v := 1) Z dL_law_972 (by decide) ?_
    refine y_iadd Z dL_law_973 ?_
    refine y_sld Z hX hbl hbA (sx_in hi hL 1 (by decide)).1 (i + 1) (sx_in hi hL 1 (by decide)).2 dL_law_974 ?_
    refine y_aload_n Z dL_law_975 0 rfl rfl ?_
    refine y_iload Z dL_law_976 4 rfl ?_
    refine y_iconst (v := 2) Z dL_law_978 (by decide) ?_
    refine y_iadd Z dL_law_979 ?_
    refine y_sld Z hX hbl hbA (sx_in hi hL 2 (by decide)).1 (i + 2) (sx_in hi hL 2 (by decide)).2 dL_law_980 ?_
    refine y_nz (X := 988) (Y := 989) Z dL_law_981 (by decide) dL_law_984 dL_law_985 (by decide) dL_law_988 rfl ?_
    refine y_aload_n Z dL_law_989 3 rfl rfl ?_
    refine y_SWw (rest := []) Z X (k_L_share_b0 l htr D ht0 ht1 aJ J aO O (xs (i + 1)) (nzF (xs (i + 2))) hb) (y_cwSW 4 Z ml_RL_145 st_L_share in_L co_L_share rfl rfl hs_L_share ⟨Nat.le_of_ble_eq_true rfl, Nat.le_of_ble_eq_true rfl⟩) List.nil (wMd cI aS S) (by simp only [List.nil_append, List.append_assoc]) rfl rfl (Nat.le_of_ble_eq_true rfl) dL_law_990 ⟨by show _ ≤ 1069; omega, by show _ ≤ 10084; omega⟩ (wL cI cL aJ J aO O aS S) (by simp only [wL, List.nil_append, List.append_assoc]) ?_
    refine y_istore Z [(5, .int 1), (0, .ref b), (1, .ref (aJ 0)), (2, .ref (aS 0)), (3, .ref aO), (4, .int (nI i))] dL_law_993 (by decide) rfl ?_
    refine y_aload_n Z dL_law_995 3 rfl rfl ?_
    refine y_aload_n Z dL_law_996 1 rfl rfl ?_
    refine y_iload Z dL_law_997 5 rfl ?_
    refine y_iconst (v := 1) Z dL_law_999 (by decide) ?_
    refine y_iadd Z dL_law_1000 ?_
    refine y_sld Z hX hbl hbA (sx_in hi hL 1 (by decide)).1 (i + 1) (sx_in hi hL 1 (by decide)).2 dL_law_1001 ?_
    refine y_aload_n Z dL_law_1002 1 rfl rfl ?_
    refine y_iload Z dL_law_1003 5 rfl ?_
    refine y_iconst (v := 2) Z dL_law_1005 (by decide) ?_
    refine y_iadd Z dL_law_1006 ?_
    refine y_sld Z hX hbl hbA (sx_in hi hL 2 (by decide)).1 (i + 2) (sx_in hi hL 2 (by decide)).2 dL_law_1007 ?_
    refine y_nz (X := 1015) (Y := 1016) Z dL_law_1008 (by decide) dL_law_1011 dL_law_1012 (by decide) dL_law_1015 rfl ?_
    refine y_VIw (rest := []) Z (k_X6_share l D ht0 aS S (xs (i + 1)) (nzF (xs (i + 2))) m_o) (y_cwV 2 Z ml_RL_147 im_X6_share se_X6_share in_X6 co_X6_share rfl rfl hd_X6_share ⟨Nat.le_of_ble_eq_true rfl, Nat.le_of_ble_eq_true rfl⟩) (wVM cI aJ J ++ wOut cL aO O) List.nil (by simp only [List.append_assoc, List.append_nil]) 6 0 rfl rfl rfl rfl (Nat.le_of_ble_eq_true rfl) dL_law_1016 ⟨by show _ ≤ 1069; omega, by show _ ≤ 10084; omega⟩ (wL cI cL aJ J aO O aS (mc_share S (xs (i + 1)) (nzF (xs (i + 2))))) (by simp only [wL, mc_share, List.append_assoc, List.append_nil, wMix, wLog, wPic, wRep, wScr, wVM, wMd, sR_eq, sR_ne, sF_eq, sF_ne, upd_eq, upd_ne, gs_eq, gs_ne, gm_4, gm_ne, Nat.reduceBEq]) ?_
    refine y_istore Z [(6, .int (if mv_go (mv_is (xs (i + 1))) 1 1 = 0 then 0 else mv_sh (S 1) (mr_ls (S 1) (S 4)) (xs (i + 1)) (nzF (xs (i + 2))))), (5, .int 1), (0, .ref b), (1, .ref (aJ 0)), (2, .ref (aS 0)), (3, .ref aO), (4, .int (nI i))] dL_law_1019 (by decide) rfl ?_
    refine y_aload_n Z dL_law_1021 4 rfl rfl ?_
    refine y_VIw (rest := []) Z (k_X6_thrown l D ht0 aS (mc_share S (xs (i + 1)) (nzF (xs (i + 2))))) (y_cwV 0 Z ml_RL_102 im_X6_thrown se_X6_thrown in_X6 co_X6_thrown rfl rfl hd_X6_thrown ⟨Nat.le_of_ble_eq_true rfl, Nat.le_of_ble_eq_true rfl⟩) (wVM cI aJ J ++ wOut cL aO O) List.nil (by simp only [List.append_assoc, List.append_nil]) 6 0 rfl rfl rfl rfl (Nat.le_of_ble_eq_true rfl) dL_law_1022 ⟨by show _ ≤ 1069; omega, by show _ ≤ 10084; omega⟩ (wL cI cL aJ J aO O aS (mc_share S (xs (i + 1)) (nzF (xs (i + 2))))) (by simp only [wL, List.append_assoc, List.append_nil]) ?_
    refine y_eq rfl rfl (st' := [.int 1]) (by rw [he]) ?_
    refine y_iload Z dL_law_1025 1 rfl ?_
    refine y_icmp_eq (tgt := 1032) Z dL_law_1027 (by decide) (fun _ => ?_) (fun h => absurd rfl h)
    refine y_iload Z dL_law_1032 1 rfl ?_
    refine y_if_ne (tgt := 1049) Z dL_law_1034 (by decide) (fun _ => ?_) (fun h => absurd h (by decide))
    refine y_goto (tgt := 1756) Z dL_law_1049 (by decide) ?_
    refine y_lv [2, 3, 4, 5, 6] (lv' := [(0, .ref b), (1, .ref (aJ 0)), (2, .ref (aS 0)), (3, .ref aO), (4, .int (nI i))]) rfl ?_
    exact y_wide (k := cells + 1) (n := slots + 6) (by omega) (by omega) (K _ _ _ hI)
set_option maxHeartbeats 4000000 in
set_option maxRecDepth 100000 in
theorem lc_tally {p : Program} {l : Launch} {e : Env} {s : State} {m : MethodId} {args : Array Value} {below : List Frame} {meth : Method} {c : Code} {Q : State → Prop} {D : va_G} {A : Nat → Prop} {tys : List (ClassId × FieldType)} {cI cL : ClassId} (Z : Zz p m c cL_law 9 s args wsL_law RL D tys A) (X : Xz s A) (htr : l.stackTraces = false) (ht0 : tys[0]? = some (cI, .int)) (ht1 : tys[1]? = some (cL, .long)) {b L : Nat} {xs : Nat → Int32} (hX : va_X b L xs s s.heap) (hbl : b < s.heap.size) (hbA : ¬ A b) {i : Nat} (hi : i + 4 < L) (hL : L ≤ 2560) {cells slots : Nat} (hc : cells + 1 ≤ 1069) (hs : slots + 6 ≤ 10084) {aJ : Nat → Nat} {aO : Nat} {aS : Nat → Nat} {J : Nat → Nat → Nat → Int32} {O : Nat → Int64} {S : Nat → Nat → Int32} (I : Inv J S) (K : ∀ (J2 : Nat → Nat → Nat → Int32) (O2 : Nat → Int64) (S2 : Nat → Nat → Int32), Inv J2 S2 → Yy p l e room_1 s m args below meth c Q D A 9 (cells + 1) (slots + 6) (wL cI cL aJ J2 aO O2 aS S2) [(0, .ref b), (1, .ref (aJ 0)), (2, .ref (aS 0)), (3, .ref aO), (4, .int (nI i))] [] 1756) : Yy p l e room_1 s m args below meth c Q D A 9 cells slots (wL cI cL aJ J aO O aS S) [(0, .ref b), (1, .ref (aJ 0)), (2, .ref (aS 0)), (3, .ref aO), (4, .int (nI i))] [] 1052 := by
  obtain ⟨m_o, hr⟩ := c2_tally I (xs (i + 1))
  rcases hr with ⟨o_q, he, her, hI⟩ | ⟨hb, he, hI⟩
  · refine y_aload_n Z dL_law_1052 1 rfl rfl ?_
    refine y_aload_n Z dL_law_1053 0 rfl rfl ?_
    refine y_iload Z dL_law_1054 4 rfl ?_
    refine y_iconst (v := 1) Z dL_law_1056 (by decide) ?_
    refine y_iadd Z dL_law_1057 ?_
    refine y_sld Z hX hbl hbA (sx_in hi hL 1 (by decide)).1 (i + 1) (sx_in hi hL 1 (by decide)).2 dL_law_1058 ?_
    refine y_aload_n Z dL_law_1059 3 rfl rfl ?_
    refine y_SWw (rest := []) Z X (k_L_tally l htr D ht0 ht1 aJ J aO O (xs (i + 1)) o_q) (y_cwSW 3 Z ml_RL_148 st_L_tally in_L co_L_tally rfl rfl hs_L_tally ⟨Nat.le_of_ble_eq_true rfl, Nat.le_of_ble_eq_true rfl⟩) List.nil (wMd cI aS S) (by simp only [List.nil_append, List.append_assoc]) rfl rfl (Nat.le_of_ble_eq_true rfl) dL_law_1060 ⟨by show _ ≤ 1069; omega, by show _ ≤ 10084; omega⟩ (wL cI cL aJ (vm_tal J) aO (vp_updL O 0 (Int32.toInt64 (tpF (vm_tal J) (xs (i + 1))))) aS S) (by simp only [wL, List.nil_append, List.append_assoc]) ?_
    refine y_istore Z [(5, .int 0), (0, .ref b), (1, .ref (aJ 0)), (2, .ref (aS 0)), (3, .ref aO), (4, .int (nI i))] dL_law_1063 (by decide) rfl ?_
    refine y_aload_n Z dL_law_1065 3 rfl rfl ?_
    refine y_aload_n Z dL_law_1066 1 rfl rfl ?_
    refine y_iload Z dL_law_1067 5 rfl ?_
    refine y_iconst (v := 1) Z dL_law_1069 (by decide) ?_
    refine y_iadd Z dL_law_1070 ?_
    refine y_sld Z hX hbl hbA (sx_in hi hL 1 (by decide)).1 (i + 1) (sx_in hi hL 1 (by decide)).2 dL_law_1071 ?_
    refine y_VIw (rest := []) Z (k_X6_tally l D ht0 aS S (xs (i + 1)) m_o) (y_cwV 1 Z ml_RL_150 im_X6_tally se_X6_tally in_X6 co_X6_tally rfl rfl hd_X6_tally ⟨Nat.le_of_ble_eq_true rfl, Nat.le_of_ble_eq_true rfl⟩) (wVM cI aJ (vm_tal J) ++ wOut cL aO (vp_updL O 0 (Int32.toInt64 (tpF (vm_tal J) (xs (i + 1)))))) List.nil (by simp only [List.append_assoc, List.append_nil]) 6 0 rfl rfl rfl rfl (Nat.le_of_ble_eq_true rfl) dL_law_1072 ⟨by show _ ≤ 1069; omega, by show _ ≤ 10084; omega⟩ (wL cI cL aJ (vm_tal J) aO (vp_updL O 0 (Int32.toInt64 (tpF (vm_tal J) (xs (i + 1))))) aS (mc_tally S (xs (i + 1)))) (by simp only [wL, mc_tally, List.append_assoc, List.append_nil, wMix, wLog, wPic, wRep, wScr, wVM, wMd, sR_eq, sR_ne, sF_eq, sF_ne, upd_eq, upd_ne, gs_eq, gs_ne, gm_4, gm_ne, Nat.reduceBEq]) ?_
    refine y_istore Z [(6, .int (if mv_go (mv_is (xs (i + 1))) 1 1 = 0 then 0 else mv_ty (S 1) (S 4) (xs (i + 1)))), (5, .int 0), (0, .ref b), (1, .ref (aJ 0)), (2, .ref (aS 0)), (3, .ref aO), (4, .int (nI i))] dL_law_1075 (by decide) rfl ?_
    refine y_aload_n Z dL_law_1077 4 rfl rfl ?_
    refine y_VIw (rest := []) Z (k_X6_thrown l D ht0 aS (mc_tally S (xs (i + 1)))) (y_cwV 0 Z ml_RL_102 im_X6_thrown se_X6_thrown in_X6 co_X6_thrown rfl rfl hd_X6_thrown ⟨Nat.le_of_ble_eq_true rfl, Nat.le_of_ble_eq_true rfl⟩) (wVM cI aJ (vm_tal J) ++ wOut cL aO (vp_updL O 0 (Int32.toInt64 (tpF (vm_tal J) (xs (i + 1)))))) List.nil (by simp only [List.append_assoc, List.append_nil]) 6 0 rfl rfl rfl rfl (Nat.le_of_ble_eq_true rfl) dL_law_1078 ⟨by show _ ≤ 1069; omega, by show _ ≤ 10084; omega⟩ (wL cI cL aJ (vm_tal J) aO (vp_updL O 0 (Int32.toInt64 (tpF (vm_tal J) (xs (i + 1))))) aS (mc_tally S (xs (i + 1)))) (by simp only [wL, List.append_assoc, List.append_nil]) ?_
    refine y_eq rfl rfl (st' := [.int 0]) (by rw [he]) ?_
    refine y_iload Z dL_law_1081 1 rfl ?_
    refine y_icmp_eq (tgt := 1088) Z dL_law_1083 (by decide) (fun _ => ?_) (fun h => absurd rfl h)
    refine y_iload Z dL_law_1088 1 rfl ?_
    refine y_if_ne (tgt := 1105) Z dL_law_1090 (by decide) (fun h => absurd rfl h) (fun _ => ?_)
    refine y_aload_n Z dL_law_1093 5 rfl rfl ?_
    refine y_iconst (v := 0) Z dL_law_1094 (by decide) ?_
    refine y_lald Z 27 1 rfl ht1 (vpd (by decide) (by decide)) 0 (by decide) dL_law_1095 ?_
    refine y_iload Z dL_law_1096 0 rfl ?_
    refine y_i2l Z dL_law_1098 ?_
    refine y_eq rfl rfl (st' := [.long (Int32.toInt64 (if mv_go (mv_is (xs (i + 1))) 1 1 = 0 then 0 else mv_ty (S 1) (S 4) (xs (i + 1)))), .long (Int32.toInt64 (if mv_go (mv_is (xs (i + 1))) 1 1 = 0 then 0 else mv_ty (S 1) (S 4) (xs (i + 1))))]) (by rw [← her]; rfl) ?_
    refine y_lcmp Z dL_law_1099 ?_
    refine y_if_eq (tgt := 1105) Z dL_law_1100 (by decide) (fun _ => ?_) (fun h => absurd (lgc_self _) h)
    refine y_goto (tgt := 1756) Z dL_law_1105 (by decide) ?_
    refine y_lv [2, 3, 4, 5, 6] (lv' := [(0, .ref b), (1, .ref (aJ 0)), (2, .ref (aS 0)), (3, .ref aO), (4, .int (nI i))]) rfl ?_
    exact y_wide (k := cells + 1) (n := slots + 6) (by omega) (by omega) (K _ _ _ hI)
  · refine y_aload_n Z dL_law_1052 1 rfl rfl ?_
    refine y_aload_n Z dL_law_1053 0 rfl rfl ?_
    refine y_iload Z dL_law_1054 4 rfl ?_
    refine y_iconst (v := 1) Z dL_law_1056 (by decide) ?_
    refine y_iadd Z dL_law_1057 ?_
    refine y_sld Z hX hbl hbA (sx_in hi hL 1 (by decide)).1 (i + 1) (sx_in hi hL 1 (by decide)).2 dL_law_1058 ?_
    refine y_aload_n Z dL_law_1059 3 rfl rfl ?_
    refine y_SWw (rest := []) Z X (k_L_tally_b0 l htr D ht0 ht1 aJ J aO O (xs (i + 1)) hb) (y_cwSW 3 Z ml_RL_148 st_L_tally in_L co_L_tally rfl rfl hs_L_tally ⟨Nat.le_of_ble_eq_true rfl, Nat.le_of_ble_eq_true rfl⟩) List.nil (wMd cI aS S) (by simp only [List.nil_append, List.append_assoc]) rfl rfl (Nat.le_of_ble_eq_true rfl) dL_law_1060 ⟨by show _ ≤ 1069; omega, by show _ ≤ 10084; omega⟩ (wL cI cL aJ J aO O aS S) (by simp only [wL, List.nil_append, List.append_assoc]) ?_
    refine y_istore Z [(5, .int 1), (0, .ref b), (1, .ref (aJ 0)), (2, .ref (aS 0)), (3, .ref aO), (4, .int (nI i))] dL_law_1063 (by decide) rfl ?_
    refine y_aload_n Z dL_law_1065 3 rfl rfl ?_
    refine y_aload_n Z dL_law_1066 1 rfl rfl ?_
    refine y_iload Z dL_law_1067 5 rfl ?_
    refine y_iconst (v := 1) Z dL_law_1069 (by decide) ?_
    refine y_iadd Z dL_law_1070 ?_
    refine y_sld Z hX hbl hbA (sx_in hi hL 1 (by decide)).1 (i + 1) (sx_in hi hL 1 (by decide)).2 dL_law_1071 ?_
    refine y_VIw (rest := []) Z (k_X6_tally l D ht0 aS S (xs (i + 1)) m_o) (y_cwV 1 Z ml_RL_150 im_X6_tally se_X6_tally in_X6 co_X6_tally rfl rfl hd_X6_tally ⟨Nat.le_of_ble_eq_true rfl, Nat.le_of_ble_eq_true rfl⟩) (wVM cI aJ J ++ wOut cL aO O) List.nil (by simp only [List.append_assoc, List.append_nil]) 6 0 rfl rfl rfl rfl (Nat.le_of_ble_eq_true rfl) dL_law_1072 ⟨by show _ ≤ 1069; omega, by show _ ≤ 10084; omega⟩ (wL cI cL aJ J aO O aS (mc_tally S (xs (i + 1)))) (by simp only [wL, mc_tally, List.append_assoc, List.append_nil, wMix, wLog, wPic, wRep, wScr, wVM, wMd, sR_eq, sR_ne, sF_eq, sF_ne, upd_eq, upd_ne, gs_eq, gs_ne, gm_4, gm_ne, Nat.reduceBEq]) ?_
    refine y_istore Z [(6, .int (if mv_go (mv_is (xs (i + 1))) 1 1 = 0 then 0 else mv_ty (S 1) (S 4) (xs (i + 1)))), (5, .int 1), (0, .ref b), (1, .ref (aJ 0)), (2, .ref (aS 0)), (3, .ref aO), (4, .int (nI i))] dL_law_1075 (by decide) rfl ?_
    refine y_aload_n Z dL_law_1077 4 rfl rfl ?_
    refine y_VIw (rest := []) Z (k_X6_thrown l D ht0 aS (mc_tally S (xs (i + 1)))) (y_cwV 0 Z ml_RL_102 im_X6_thrown se_X6_thrown in_X6 co_X6_thrown rfl rfl hd_X6_thrown ⟨Nat.le_of_ble_eq_true rfl, Nat.le_of_ble_eq_true rfl⟩) (wVM cI aJ J ++ wOut cL aO O) List.nil (by simp only [List.append_assoc, List.append_nil]) 6 0 rfl rfl rfl rfl (Nat.le_of_ble_eq_true rfl) dL_law_1078 ⟨by show _ ≤ 1069; omega, by show _ ≤ 10084; omega⟩ (wL cI cL aJ J aO O aS (mc_tally S (xs (i + 1)))) (by simp only [wL, List.append_assoc, List.append_nil]) ?_
    refine y_eq rfl rfl (st' := [.int 1]) (by rw [he]) ?_
    refine y_iload Z dL_law_1081 1 rfl ?_
    refine y_icmp_eq (tgt := 1088) Z dL_law_1083 (by decide) (fun _ => ?_) (fun h => absurd rfl h)
    refine y_iload Z dL_law_1088 1 rfl ?_
    refine y_if_ne (tgt := 1105) Z dL_law_1090 (by decide) (fun _ => ?_) (fun h => absurd h (by decide))
    refine y_goto (tgt := 1756) Z dL_law_1105 (by decide) ?_
    refine y_lv [2, 3, 4, 5, 6] (lv' := [(0, .ref b), (1, .ref (aJ 0)), (2, .ref (aS 0)), (3, .ref aO), (4, .int (nI i))]) rfl ?_
    exact y_wide (k := cells + 1) (n := slots + 6) (by omega) (by omega) (K _ _ _ hI)
set_option maxHeartbeats 4000000 in
set_option maxRecDepth 100000 in
theorem lc_settingAt {p : Program} {l : Launch} {e : Env} {s : State} {m : MethodId} {args : Array Value} {below : List Frame} {meth : Method} {c : Code} {Q : State → Prop} {D : va_G} {A : Nat → Prop} {tys : List (ClassId × FieldType)} {cI cL : ClassId} (Z : Zz p m c cL_law 9 s args wsL_law RL D tys A) (X : Xz s A) (htr : l.stackTraces = false) (ht0 : tys[0]? = some (cI, .int)) (ht1 : tys[1]? = some (cL, .long)) {b L : Nat} {xs : Nat → Int32} (hX : va_X b L xs s s.heap) (hbl : b < s.heap.size) (hbA : ¬ A b) {i : Nat} (hi : i + 4 < L) (hL : L ≤ 2560) {cells slots : Nat} (hc : cells + 1 ≤ 1069) (hs : slots + 6 ≤ 10084) {aJ : Nat → Nat} {aO : Nat} {aS : Nat → Nat} {J : Nat → Nat → Nat → Int32} {O : Nat → Int64} {S : Nat → Nat → Int32} (I : Inv J S) (K : ∀ (J2 : Nat → Nat → Nat → Int32) (O2 : Nat → Int64) (S2 : Nat → Nat → Int32), Inv J2 S2 → Yy p l e room_1 s m args below meth c Q D A 9 (cells + 1) (slots + 6) (wL cI cL aJ J2 aO O2 aS S2) [(0, .ref b), (1, .ref (aJ 0)), (2, .ref (aS 0)), (3, .ref aO), (4, .int (nI i))] [] 1756) : Yy p l e room_1 s m args below meth c Q D A 9 cells slots (wL cI cL aJ J aO O aS S) [(0, .ref b), (1, .ref (aJ 0)), (2, .ref (aS 0)), (3, .ref aO), (4, .int (nI i))] [] 1149 := by
  obtain ⟨m_n, m_v, m_c, hr⟩ := c2_settingAt I (xs (i + 1)) (xs (i + 2))
  rcases hr with ⟨o_t, o_w, c_n, he, her, hI⟩ | ⟨hb, he, hI⟩ | ⟨o_t, hb, he, hI⟩
  · refine y_aload_n Z dL_law_1149 1 rfl rfl ?_
    refine y_aload_n Z dL_law_1150 0 rfl rfl ?_
    refine y_iload Z dL_law_1151 4 rfl ?_
    refine y_iconst (v := 1) Z dL_law_1153 (by decide) ?_
    refine y_iadd Z dL_law_1154 ?_
    refine y_sld Z hX hbl hbA (sx_in hi hL 1 (by decide)).1 (i + 1) (sx_in hi hL 1 (by decide)).2 dL_law_1155 ?_
    refine y_aload_n Z dL_law_1156 0 rfl rfl ?_
    refine y_iload Z dL_law_1157 4 rfl ?_
    refine y_iconst (v := 2) Z dL_law_1159 (by decide) ?_
    refine y_iadd Z dL_law_1160 ?_
    refine y_sld Z hX hbl hbA (sx_in hi hL 2 (by decide)).1 (i + 2) (sx_in hi hL 2 (by decide)).2 dL_law_1161 ?_
    refine y_aload_n Z dL_law_1162 3 rfl rfl ?_
    refine y_SWw (rest := []) Z X (k_L_settingAt l htr D ht0 ht1 aJ J aO O (xs (i + 1)) (xs (i + 2)) c_n o_t o_w) (y_cwSW 4 Z ml_RL_156 st_L_settingAt in_L co_L_settingAt rfl rfl hs_L_settingAt ⟨Nat.le_of_ble_eq_true rfl, Nat.le_of_ble_eq_true rfl⟩) List.nil (wMd cI aS S) (by simp only [List.nil_append, List.append_assoc]) rfl rfl (Nat.le_of_ble_eq_true rfl) dL_law_1163 ⟨by show _ ≤ 1069; omega, by show _ ≤ 10084; omega⟩ (wL cI cL aJ (vm_replay J (xs (i + 1)) (-1)) aO (vp_updL O 0 (Int32.toInt64 (tellF (vm_replay J (xs (i + 1)) (-1) 4) (xs (i + 2))))) aS S) (by simp only [wL, List.nil_append, List.append_assoc]) ?_
    refine y_istore Z [(5, .int 0), (0, .ref b), (1, .ref (aJ 0)), (2, .ref (aS 0)), (3, .ref aO), (4, .int (nI i))] dL_law_1166 (by decide) rfl ?_
    refine y_aload_n Z dL_law_1168 3 rfl rfl ?_
    refine y_aload_n Z dL_law_1169 1 rfl rfl ?_
    refine y_iload Z dL_law_1170 5 rfl ?_
    refine y_iconst (v := 1) Z dL_law_1172 (by decide) ?_
    refine y_iadd Z dL_law_1173 ?_
    refine y_sld Z hX hbl hbA (sx_in hi hL 1 (by decide)).1 (i + 1) (sx_in hi hL 1 (by decide)).2 dL_law_1174 ?_
    refine y_aload_n Z dL_law_1175 1 rfl rfl ?_
    refine y_iload Z dL_law_1176 5 rfl ?_
    refine y_iconst (v := 2) Z dL_law_1178 (by decide) ?_
    refine y_iadd Z dL_law_1179 ?_
    refine y_sld Z hX hbl hbA (sx_in hi hL 2 (by decide)).1 (i + 2) (sx_in hi hL 2 (by decide)).2 dL_law_1180 ?_
    refine y_VIw (rest := []) Z (k_X6_settingAt l D ht0 aS S (xs (i + 1)) (xs (i + 2)) m_n m_v m_c) (y_cwV 2 Z ml_RL_158 im_X6_settingAt se_X6_settingAt in_X6 co_X6_settingAt rfl rfl hd_X6_settingAt ⟨Nat.le_of_ble_eq_true rfl, Nat.le_of_ble_eq_true rfl⟩) (wVM cI aJ (vm_replay J (xs (i + 1)) (-1)) ++ wOut cL aO (vp_updL O 0 (Int32.toInt64 (tellF (vm_replay J (xs (i + 1)) (-1) 4) (xs (i + 2)))))) List.nil (by simp only [List.append_assoc, List.append_nil]) 6 0 rfl rfl rfl rfl (Nat.le_of_ble_eq_true rfl) dL_law_1181 ⟨by show _ ≤ 1069; omega, by show _ ≤ 10084; omega⟩ (wL cI cL aJ (vm_replay J (xs (i + 1)) (-1)) aO (vp_updL O 0 (Int32.toInt64 (tellF (vm_replay J (xs (i + 1)) (-1) 4) (xs (i + 2))))) aS (mc_settingAt S (xs (i + 1)) (xs (i + 2)))) (by simp only [wL, mc_settingAt, List.append_assoc, List.append_nil, wMix, wLog, wPic, wRep, wScr, wVM, wMd, sR_eq, sR_ne, sF_eq, sF_ne, upd_eq, upd_ne, gs_eq, gs_ne, gm_4, gm_ne, Nat.reduceBEq]) ?_
    refine y_istore Z [(6, .int (if mv_go (mv_it (xs (i + 1)) (S 0 0)) (mv_in (Int32.toInt64 (xs (i + 2))) 0 6) 1 = 0 then 0 else (gtX (S 3) (S 0 1) (xs (i + 1)) (-1) (S 1)).1 (cl (xs (i + 2))))), (5, .int 0), (0, .ref b), (1, .ref (aJ 0)), (2, .ref (aS 0)), (3, .ref aO), (4, .int (nI i))] dL_law_1184 (by decide) rfl ?_
    refine y_aload_n Z dL_law_1186 4 rfl rfl ?_
    refine y_VIw (rest := []) Z (k_X6_thrown l D ht0 aS (mc_settingAt S (xs (i + 1)) (xs (i + 2)))) (y_cwV 0 Z ml_RL_102 im_X6_thrown se_X6_thrown in_X6 co_X6_thrown rfl rfl hd_X6_thrown ⟨Nat.le_of_ble_eq_true rfl, Nat.le_of_ble_eq_true rfl⟩) (wVM cI aJ (vm_replay J (xs (i + 1)) (-1)) ++ wOut cL aO (vp_updL O 0 (Int32.toInt64 (tellF (vm_replay J (xs (i + 1)) (-1) 4) (xs (i + 2)))))) List.nil (by simp only [List.append_assoc, List.append_nil]) 6 0 rfl rfl rfl rfl (Nat.le_of_ble_eq_true rfl) dL_law_1187 ⟨by show _ ≤ 1069; omega, by show _ ≤ 10084; omega⟩ (wL cI cL aJ (vm_replay J (xs (i + 1)) (-1)) aO (vp_updL O 0 (Int32.toInt64 (tellF (vm_replay J (xs (i + 1)) (-1) 4) (xs (i + 2))))) aS (mc_settingAt S (xs (i + 1)) (xs (i + 2)))) (by simp only [wL, List.append_assoc, List.append_nil]) ?_
    refine y_eq rfl rfl (st' := [.int 0]) (by rw [he]) ?_
    refine y_iload Z dL_law_1190 1 rfl ?_
    refine y_icmp_eq (tgt := 1197) Z dL_law_1192 (by decide) (fun _ => ?_) (fun h => absurd rfl h)
    refine y_iload Z dL_law_1197 1 rfl ?_
    refine y_if_ne (tgt := 1214) Z dL_law_1199 (by decide) (fun h => absurd rfl h) (fun _ => ?_)
    refine y_aload_n Z dL_law_1202 5 rfl rfl ?_
    refine y_iconst (v := 0) Z dL_law_1203 (by decide) ?_
    refine y_lald Z 27 1 rfl ht1 (vpd (by decide) (by decide)) 0 (by decide) dL_law_1204 ?_
    refine y_iload Z dL_law_1205 0 rfl ?_
    refine y_i2l Z dL_law_1207 ?_
    refine y_eq rfl rfl (st' := [.long (Int32.toInt64 (if mv_go (mv_it (xs (i + 1)) (S 0 0)) (mv_in (Int32.toInt64 (xs (i + 2))) 0 6) 1 = 0 then 0 else (gtX (S 3) (S 0 1) (xs (i + 1)) (-1) (S 1)).1 (cl (xs (i + 2))))), .long (Int32.toInt64 (if mv_go (mv_it (xs (i + 1)) (S 0 0)) (mv_in (Int32.toInt64 (xs (i + 2))) 0 6) 1 = 0 then 0 else (gtX (S 3) (S 0 1) (xs (i + 1)) (-1) (S 1)).1 (cl (xs (i + 2)))))]) (by rw [← her]; rfl) ?_
    refine y_lcmp Z dL_law_1208 ?_
    refine y_if_eq (tgt := 1214) Z dL_law_1209 (by decide) (fun _ => ?_) (fun h => absurd (lgc_self _) h)
    refine y_goto (tgt := 1756) Z dL_law_1214 (by decide) ?_
    refine y_lv [2, 3, 4, 5, 6] (lv' := [(0, .ref b), (1, .ref (aJ 0)), (2, .ref (aS 0)), (3, .ref aO), (4, .int (nI i))]) rfl ?_
    exact y_wide (k := cells + 1) (n := slots + 6) (by omega) (by omega) (K _ _ _ hI)
  · refine y_aload_n Z dL_law_1149 1 rfl rfl ?_
    refine y_aload_n Z dL_law_1150 0 rfl rfl ?_
    refine y_iload Z dL_law_1151 4 rfl ?_
    refine y_iconst (v := 1) Z dL_law_1153 (by decide) ?_
    refine y_iadd Z dL_law_1154 ?_
    refine y_sld Z hX hbl hbA (sx_in hi hL 1 (by decide)).1 (i + 1) (sx_in hi hL 1 (by decide)).2 dL_law_1155 ?_
    refine y_aload_n Z dL_law_1156 0 rfl rfl ?_
    refine y_iload Z dL_law_1157 4 rfl ?_
    refine y_iconst (v := 2) Z dL_law_1159 (by decide) ?_
    refine y_iadd Z dL_law_1160 ?_
    refine y_sld Z hX hbl hbA (sx_in hi hL 2 (by decide)).1 (i + 2) (sx_in hi hL 2 (by decide)).2 dL_law_1161 ?_
    refine y_aload_n Z dL_law_1162 3 rfl rfl ?_
    refine y_SWw (rest := []) Z X (k_L_settingAt_b0 l htr D ht0 ht1 aJ J aO O (xs (i + 1)) (xs (i + 2)) hb) (y_cwSW 4 Z ml_RL_156 st_L_settingAt in_L co_L_settingAt rfl rfl hs_L_settingAt ⟨Nat.le_of_ble_eq_true rfl, Nat.le_of_ble_eq_true rfl⟩) List.nil (wMd cI aS S) (by simp only [List.nil_append, List.append_assoc]) rfl rfl (Nat.le_of_ble_eq_true rfl) dL_law_1163 ⟨by show _ ≤ 1069; omega, by show _ ≤ 10084; omega⟩ (wL cI cL aJ J aO O aS S) (by simp only [wL, List.nil_append, List.append_assoc]) ?_
    refine y_istore Z [(5, .int 1), (0, .ref b), (1, .ref (aJ 0)), (2, .ref (aS 0)), (3, .ref aO), (4, .int (nI i))] dL_law_1166 (by decide) rfl ?_
    refine y_aload_n Z dL_law_1168 3 rfl rfl ?_
    refine y_aload_n Z dL_law_1169 1 rfl rfl ?_
    refine y_iload Z dL_law_1170 5 rfl ?_
    refine y_iconst (v := 1) Z dL_law_1172 (by decide) ?_
    refine y_iadd Z dL_law_1173 ?_
    refine y_sld Z hX hbl hbA (sx_in hi hL 1 (by decide)).1 (i + 1) (sx_in hi hL 1 (by decide)).2 dL_law_1174 ?_
    refine y_aload_n Z dL_law_1175 1 rfl rfl ?_
    refine y_iload Z dL_law_1176 5 rfl ?_
    refine y_iconst (v := 2) Z dL_law_1178 (by decide) ?_
    refine y_iadd Z dL_law_1179 ?_
    refine y_sld Z hX hbl hbA (sx_in hi hL 2 (by decide)).1 (i + 2) (sx_in hi hL 2 (by decide)).2 dL_law_1180 ?_
    refine y_VIw (rest := []) Z (k_X6_settingAt l D ht0 aS S (xs (i + 1)) (xs (i + 2)) m_n m_v m_c) (y_cwV 2 Z ml_RL_158 im_X6_settingAt se_X6_settingAt in_X6 co_X6_settingAt rfl rfl hd_X6_settingAt ⟨Nat.le_of_ble_eq_true rfl, Nat.le_of_ble_eq_true rfl⟩) (wVM cI aJ J ++ wOut cL aO O) List.nil (by simp only [List.append_assoc, List.append_nil]) 6 0 rfl rfl rfl rfl (Nat.le_of_ble_eq_true rfl) dL_law_1181 ⟨by show _ ≤ 1069; omega, by show _ ≤ 10084; omega⟩ (wL cI cL aJ J aO O aS (mc_settingAt S (xs (i + 1)) (xs (i + 2)))) (by simp only [wL, mc_settingAt, List.append_assoc, List.append_nil, wMix, wLog, wPic, wRep, wScr, wVM, wMd, sR_eq, sR_ne, sF_eq, sF_ne, upd_eq, upd_ne, gs_eq, gs_ne, gm_4, gm_ne, Nat.reduceBEq]) ?_
    refine y_istore Z [(6, .int (if mv_go (mv_it (xs (i + 1)) (S 0 0)) (mv_in (Int32.toInt64 (xs (i + 2))) 0 6) 1 = 0 then 0 else (gtX (S 3) (S 0 1) (xs (i + 1)) (-1) (S 1)).1 (cl (xs (i + 2))))), (5, .int 1), (0, .ref b), (1, .ref (aJ 0)), (2, .ref (aS 0)), (3, .ref aO), (4, .int (nI i))] dL_law_1184 (by decide) rfl ?_
    refine y_aload_n Z dL_law_1186 4 rfl rfl ?_
    refine y_VIw (rest := []) Z (k_X6_thrown l D ht0 aS (mc_settingAt S (xs (i + 1)) (xs (i + 2)))) (y_cwV 0 Z ml_RL_102 im_X6_thrown se_X6_thrown in_X6 co_X6_thrown rfl rfl hd_X6_thrown ⟨Nat.le_of_ble_eq_true rfl, Nat.le_of_ble_eq_true rfl⟩) (wVM cI aJ J ++ wOut cL aO O) List.nil (by simp only [List.append_assoc, List.append_nil]) 6 0 rfl rfl rfl rfl (Nat.le_of_ble_eq_true rfl) dL_law_1187 ⟨by show _ ≤ 1069; omega, by show _ ≤ 10084; omega⟩ (wL cI cL aJ J aO O aS (mc_settingAt S (xs (i + 1)) (xs (i + 2)))) (by simp only [wL, List.append_assoc, List.append_nil]) ?_
    refine y_eq rfl rfl (st' := [.int 1]) (by rw [he]) ?_
    refine y_iload Z dL_law_1190 1 rfl ?_
    refine y_icmp_eq (tgt := 1197) Z dL_law_1192 (by decide) (fun _ => ?_) (fun h => absurd rfl h)
    refine y_iload Z dL_law_1197 1 rfl ?_
    refine y_if_ne (tgt := 1214) Z dL_law_1199 (by decide) (fun _ => ?_) (fun h => absurd h (by decide))
    refine y_goto (tgt := 1756) Z dL_law_1214 (by decide) ?_
    refine y_lv [2, 3, 4, 5, 6] (lv' := [(0, .ref b), (1, .ref (aJ 0)), (2, .ref (aS 0)), (3, .ref aO), (4, .int (nI i))]) rfl ?_
    exact y_wide (k := cells + 1) (n := slots + 6) (by omega) (by omega) (K _ _ _ hI)
  · refine y_aload_n Z dL_law_1149 1 rfl rfl ?_
    refine y_aload_n Z dL_law_1150 0 rfl rfl ?_
    refine y_iload Z dL_law_1151 4 rfl ?_
    refine y_iconst (v := 1) Z dL_law_1153 (by decide) ?_
    refine y_iadd Z dL_law_1154 ?_
    refine y_sld Z hX hbl hbA (sx_in hi hL 1 (by decide)).1 (i + 1) (sx_in hi hL 1 (by decide)).2 dL_law_1155 ?_
    refine y_aload_n Z dL_law_1156 0 rfl rfl ?_
    refine y_iload Z dL_law_1157 4 rfl ?_
    refine y_iconst (v := 2) Z dL_law_1159 (by decide) ?_
    refine y_iadd Z dL_law_1160 ?_
    refine y_sld Z hX hbl hbA (sx_in hi hL 2 (by decide)).1 (i + 2) (sx_in hi hL 2 (by decide)).2 dL_law_1161 ?_
    refine y_aload_n Z dL_law_1162 3 rfl rfl ?_
    refine y_SWw (rest := []) Z X (k_L_settingAt_b1 l htr D ht0 ht1 aJ J aO O (xs (i + 1)) (xs (i + 2)) o_t hb) (y_cwSW 4 Z ml_RL_156 st_L_settingAt in_L co_L_settingAt rfl rfl hs_L_settingAt ⟨Nat.le_of_ble_eq_true rfl, Nat.le_of_ble_eq_true rfl⟩) List.nil (wMd cI aS S) (by simp only [List.nil_append, List.append_assoc]) rfl rfl (Nat.le_of_ble_eq_true rfl) dL_law_1163 ⟨by show _ ≤ 1069; omega, by show _ ≤ 10084; omega⟩ (wL cI cL aJ J aO O aS S) (by simp only [wL, List.nil_append, List.append_assoc]) ?_
    refine y_istore Z [(5, .int 2), (0, .ref b), (1, .ref (aJ 0)), (2, .ref (aS 0)), (3, .ref aO), (4, .int (nI i))] dL_law_1166 (by decide) rfl ?_
    refine y_aload_n Z dL_law_1168 3 rfl rfl ?_
    refine y_aload_n Z dL_law_1169 1 rfl rfl ?_
    refine y_iload Z dL_law_1170 5 rfl ?_
    refine y_iconst (v := 1) Z dL_law_1172 (by decide) ?_
    refine y_iadd Z dL_law_1173 ?_
    refine y_sld Z hX hbl hbA (sx_in hi hL 1 (by decide)).1 (i + 1) (sx_in hi hL 1 (by decide)).2 dL_law_1174 ?_
    refine y_aload_n Z dL_law_1175 1 rfl rfl ?_
    refine y_iload Z dL_law_1176 5 rfl ?_
    refine y_iconst (v := 2) Z dL_law_1178 (by decide) ?_
    refine y_iadd Z dL_law_1179 ?_
    refine y_sld Z hX hbl hbA (sx_in hi hL 2 (by decide)).1 (i + 2) (sx_in hi hL 2 (by decide)).2 dL_law_1180 ?_
    refine y_VIw (rest := []) Z (k_X6_settingAt l D ht0 aS S (xs (i + 1)) (xs (i + 2)) m_n m_v m_c) (y_cwV 2 Z ml_RL_158 im_X6_settingAt se_X6_settingAt in_X6 co_X6_settingAt rfl rfl hd_X6_settingAt ⟨Nat.le_of_ble_eq_true rfl, Nat.le_of_ble_eq_true rfl⟩) (wVM cI aJ J ++ wOut cL aO O) List.nil (by simp only [List.append_assoc, List.append_nil]) 6 0 rfl rfl rfl rfl (Nat.le_of_ble_eq_true rfl) dL_law_1181 ⟨by show _ ≤ 1069; omega, by show _ ≤ 10084; omega⟩ (wL cI cL aJ J aO O aS (mc_settingAt S (xs (i + 1)) (xs (i + 2)))) (by simp only [wL, mc_settingAt, List.append_assoc, List.append_nil, wMix, wLog, wPic, wRep, wScr, wVM, wMd, sR_eq, sR_ne, sF_eq, sF_ne, upd_eq, upd_ne, gs_eq, gs_ne, gm_4, gm_ne, Nat.reduceBEq]) ?_
    refine y_istore Z [(6, .int (if mv_go (mv_it (xs (i + 1)) (S 0 0)) (mv_in (Int32.toInt64 (xs (i + 2))) 0 6) 1 = 0 then 0 else (gtX (S 3) (S 0 1) (xs (i + 1)) (-1) (S 1)).1 (cl (xs (i + 2))))), (5, .int 2), (0, .ref b), (1, .ref (aJ 0)), (2, .ref (aS 0)), (3, .ref aO), (4, .int (nI i))] dL_law_1184 (by decide) rfl ?_
    refine y_aload_n Z dL_law_1186 4 rfl rfl ?_
    refine y_VIw (rest := []) Z (k_X6_thrown l D ht0 aS (mc_settingAt S (xs (i + 1)) (xs (i + 2)))) (y_cwV 0 Z ml_RL_102 im_X6_thrown se_X6_thrown in_X6 co_X6_thrown rfl rfl hd_X6_thrown ⟨Nat.le_of_ble_eq_true rfl, Nat.le_of_ble_eq_true rfl⟩) (wVM cI aJ J ++ wOut cL aO O) List.nil (by simp only [List.append_assoc, List.append_nil]) 6 0 rfl rfl rfl rfl (Nat.le_of_ble_eq_true rfl) dL_law_1187 ⟨by show _ ≤ 1069; omega, by show _ ≤ 10084; omega⟩ (wL cI cL aJ J aO O aS (mc_settingAt S (xs (i + 1)) (xs (i + 2)))) (by simp only [wL, List.append_assoc, List.append_nil]) ?_
    refine y_eq rfl rfl (st' := [.int 2]) (by rw [he]) ?_
    refine y_iload Z dL_law_1190 1 rfl ?_
    refine y_icmp_eq (tgt := 1197) Z dL_law_1192 (by decide) (fun _ => ?_) (fun h => absurd rfl h)
    refine y_iload Z dL_law_1197 1 rfl ?_
    refine y_if_ne (tgt := 1214) Z dL_law_1199 (by decide) (fun _ => ?_) (fun h => absurd h (by decide))
    refine y_goto (tgt := 1756) Z dL_law_1214 (by decide) ?_
    refine y_lv [2, 3, 4, 5, 6] (lv' := [(0, .ref b), (1, .ref (aJ 0)), (2, .ref (aS 0)), (3, .ref aO), (4, .int (nI i))]) rfl ?_
    exact y_wide (k := cells + 1) (n := slots + 6) (by omega) (by omega) (K _ _ _ hI)
set_option maxHeartbeats 4000000 in
set_option maxRecDepth 100000 in
theorem lc_shareAt {p : Program} {l : Launch} {e : Env} {s : State} {m : MethodId} {args : Array Value} {below : List Frame} {meth : Method} {c : Code} {Q : State → Prop} {D : va_G} {A : Nat → Prop} {tys : List (ClassId × FieldType)} {cI cL : ClassId} (Z : Zz p m c cL_law 9 s args wsL_law RL D tys A) (X : Xz s A) (htr : l.stackTraces = false) (ht0 : tys[0]? = some (cI, .int)) (ht1 : tys[1]? = some (cL, .long)) {b L : Nat} {xs : Nat → Int32} (hX : va_X b L xs s s.heap) (hbl : b < s.heap.size) (hbA : ¬ A b) {i : Nat} (hi : i + 4 < L) (hL : L ≤ 2560) {cells slots : Nat} (hc : cells + 1 ≤ 1069) (hs : slots + 6 ≤ 10084) {aJ : Nat → Nat} {aO : Nat} {aS : Nat → Nat} {J : Nat → Nat → Nat → Int32} {O : Nat → Int64} {S : Nat → Nat → Int32} (I : Inv J S) (K : ∀ (J2 : Nat → Nat → Nat → Int32) (O2 : Nat → Int64) (S2 : Nat → Nat → Int32), Inv J2 S2 → Yy p l e room_1 s m args below meth c Q D A 9 (cells + 1) (slots + 6) (wL cI cL aJ J2 aO O2 aS S2) [(0, .ref b), (1, .ref (aJ 0)), (2, .ref (aS 0)), (3, .ref aO), (4, .int (nI i))] [] 1756) : Yy p l e room_1 s m args below meth c Q D A 9 cells slots (wL cI cL aJ J aO O aS S) [(0, .ref b), (1, .ref (aJ 0)), (2, .ref (aS 0)), (3, .ref aO), (4, .int (nI i))] [] 1217 := by
  obtain ⟨m_n, m_v, m_c, hr⟩ := c2_shareAt I (xs (i + 1)) (xs (i + 2))
  rcases hr with ⟨o_t, o_q, c_n, he, her, hI⟩ | ⟨hb, he, hI⟩ | ⟨o_t, hb, he, hI⟩
  · refine y_aload_n Z dL_law_1217 1 rfl rfl ?_
    refine y_aload_n Z dL_law_1218 0 rfl rfl ?_
    refine y_iload Z dL_law_1219 4 rfl ?_
    refine y_iconst (v := 1) Z dL_law_1221 (by decide) ?_
    refine y_iadd Z dL_law_1222 ?_
    refine y_sld Z hX hbl hbA (sx_in hi hL 1 (by decide)).1 (i + 1) (sx_in hi hL 1 (by decide)).2 dL_law_1223 ?_
    refine y_aload_n Z dL_law_1224 0 rfl rfl ?_
    refine y_iload Z dL_law_1225 4 rfl ?_
    refine y_iconst (v := 2) Z dL_law_1227 (by decide) ?_
    refine y_iadd Z dL_law_1228 ?_
    refine y_sld Z hX hbl hbA (sx_in hi hL 2 (by decide)).1 (i + 2) (sx_in hi hL 2 (by decide)).2 dL_law_1229 ?_
    refine y_aload_n Z dL_law_1230 3 rfl rfl ?_
    refine y_SWw (rest := []) Z X (k_L_shareAt l htr D ht0 ht1 aJ J aO O (xs (i + 1)) (xs (i + 2)) c_n o_t o_q) (y_cwSW 4 Z ml_RL_159 st_L_shareAt in_L co_L_shareAt rfl rfl hs_L_shareAt ⟨Nat.le_of_ble_eq_true rfl, Nat.le_of_ble_eq_true rfl⟩) List.nil (wMd cI aS S) (by simp only [List.nil_append, List.append_assoc]) rfl rfl (Nat.le_of_ble_eq_true rfl) dL_law_1231 ⟨by show _ ≤ 1069; omega, by show _ ≤ 10084; omega⟩ (wL cI cL aJ (vm_rp J (xs (i + 1)) (-1)) aO (vp_updL O 0 (Int32.toInt64 (cellF (vm_rp J (xs (i + 1)) (-1) 6 1) 10 (xs (i + 2))))) aS S) (by simp only [wL, List.nil_append, List.append_assoc]) ?_
    refine y_istore Z [(5, .int 0), (0, .ref b), (1, .ref (aJ 0)), (2, .ref (aS 0)), (3, .ref aO), (4, .int (nI i))] dL_law_1234 (by decide) rfl ?_
    refine y_aload_n Z dL_law_1236 3 rfl rfl ?_
    refine y_aload_n Z dL_law_1237 1 rfl rfl ?_
    refine y_iload Z dL_law_1238 5 rfl ?_
    refine y_iconst (v := 1) Z dL_law_1240 (by decide) ?_
    refine y_iadd Z dL_law_1241 ?_
    refine y_sld Z hX hbl hbA (sx_in hi hL 1 (by decide)).1 (i + 1) (sx_in hi hL 1 (by decide)).2 dL_law_1242 ?_
    refine y_aload_n Z dL_law_1243 1 rfl rfl ?_
    refine y_iload Z dL_law_1244 5 rfl ?_
    refine y_iconst (v := 2) Z dL_law_1246 (by decide) ?_
    refine y_iadd Z dL_law_1247 ?_
    refine y_sld Z hX hbl hbA (sx_in hi hL 2 (by decide)).1 (i + 2) (sx_in hi hL 2 (by decide)).2 dL_law_1248 ?_
    refine y_VIw (rest := []) Z (k_X6_shareAt l D ht0 aS S (xs (i + 1)) (xs (i + 2)) m_n m_v m_c) (y_cwV 2 Z ml_RL_161 im_X6_shareAt se_X6_shareAt in_X6 co_X6_shareAt rfl rfl hd_X6_shareAt ⟨Nat.le_of_ble_eq_true rfl, Nat.le_of_ble_eq_true rfl⟩) (wVM cI aJ (vm_rp J (xs (i + 1)) (-1)) ++ wOut cL aO (vp_updL O 0 (Int32.toInt64 (cellF (vm_rp J (xs (i + 1)) (-1) 6 1) 10 (xs (i + 2)))))) List.nil (by simp only [List.append_assoc, List.append_nil]) 6 0 rfl rfl rfl rfl (Nat.le_of_ble_eq_true rfl) dL_law_1249 ⟨by show _ ≤ 1069; omega, by show _ ≤ 10084; omega⟩ (wL cI cL aJ (vm_rp J (xs (i + 1)) (-1)) aO (vp_updL O 0 (Int32.toInt64 (cellF (vm_rp J (xs (i + 1)) (-1) 6 1) 10 (xs (i + 2))))) aS (mc_shareAt S (xs (i + 1)) (xs (i + 2)))) (by simp only [wL, mc_shareAt, List.append_assoc, List.append_nil, wMix, wLog, wPic, wRep, wScr, wVM, wMd, sR_eq, sR_ne, sF_eq, sF_ne, upd_eq, upd_ne, gs_eq, gs_ne, gm_4, gm_ne, Nat.reduceBEq]) ?_
    refine y_istore Z [(6, .int (if mv_go (mv_an (mv_it (xs (i + 1)) (S 0 0)) (mv_is (xs (i + 2)))) 1 1 = 0 then 0 else mv_sh (gtX (S 3) (S 0 1) (xs (i + 1)) (-1) (S 1)).1 (mr_ls (gtX (S 3) (S 0 1) (xs (i + 1)) (-1) (S 1)).1 (S 4)) (xs (i + 2)) 0)), (5, .int 0), (0, .ref b), (1, .ref (aJ 0)), (2, .ref (aS 0)), (3, .ref aO), (4, .int (nI i))] dL_law_1252 (by decide) rfl ?_
    refine y_aload_n Z dL_law_1254 4 rfl rfl ?_
    refine y_VIw (rest := []) Z (k_X6_thrown l D ht0 aS (mc_shareAt S (xs (i + 1)) (xs (i + 2)))) (y_cwV 0 Z ml_RL_102 im_X6_thrown se_X6_thrown in_X6 co_X6_thrown rfl rfl hd_X6_thrown ⟨Nat.le_of_ble_eq_true rfl, Nat.le_of_ble_eq_true rfl⟩) (wVM cI aJ (vm_rp J (xs (i + 1)) (-1)) ++ wOut cL aO (vp_updL O 0 (Int32.toInt64 (cellF (vm_rp J (xs (i + 1)) (-1) 6 1) 10 (xs (i + 2)))))) List.nil (by simp only [List.append_assoc, List.append_nil]) 6 0 rfl rfl rfl rfl (Nat.le_of_ble_eq_true rfl) dL_law_1255 ⟨by show _ ≤ 1069; omega, by show _ ≤ 10084; omega⟩ (wL cI cL aJ (vm_rp J (xs (i + 1)) (-1)) aO (vp_updL O 0 (Int32.toInt64 (cellF (vm_rp J (xs (i + 1)) (-1) 6 1) 10 (xs (i + 2))))) aS (mc_shareAt S (xs (i + 1)) (xs (i + 2)))) (by simp only [wL, List.append_assoc, List.append_nil]) ?_
    refine y_eq rfl rfl (st' := [.int 0]) (by rw [he]) ?_
    refine y_iload Z dL_law_1258 1 rfl ?_
    refine y_icmp_eq (tgt := 1265) Z dL_law_1260 (by decide) (fun _ => ?_) (fun h => absurd rfl h)
    refine y_iload Z dL_law_1265 1 rfl ?_
    refine y_if_ne (tgt := 1282) Z dL_law_1267 (by decide) (fun h => absurd rfl h) (fun _ => ?_)
    refine y_aload_n Z dL_law_1270 5 rfl rfl ?_
    refine y_iconst (v := 0) Z dL_law_1271 (by decide) ?_
    refine y_lald Z 27 1 rfl ht1 (vpd (by decide) (by decide)) 0 (by decide) dL_law_1272 ?_
    refine y_iload Z dL_law_1273 0 rfl ?_
    refine y_i2l Z dL_law_1275 ?_
    refine y_eq rfl rfl (st' := [.long (Int32.toInt64 (if mv_go (mv_an (mv_it (xs (i + 1)) (S 0 0)) (mv_is (xs (i + 2)))) 1 1 = 0 then 0 else mv_sh (gtX (S 3) (S 0 1) (xs (i + 1)) (-1) (S 1)).1 (mr_ls (gtX (S 3) (S 0 1) (xs (i + 1)) (-1) (S 1)).1 (S 4)) (xs (i + 2)) 0)), .long (Int32.toInt64 (if mv_go (mv_an (mv_it (xs (i + 1)) (S 0 0)) (mv_is (xs (i + 2)))) 1 1 = 0 then 0 else mv_sh (gtX (S 3) (S 0 1) (xs (i + 1)) (-1) (S 1)).1 (mr_ls (gtX (S 3) (S 0 1) (xs (i + 1)) (-1) (S 1)).1 (S 4)) (xs (i + 2)) 0))]) (by rw [← her]; rfl) ?_
    refine y_lcmp Z dL_law_1276 ?_
    refine y_if_eq (tgt := 1282) Z dL_law_1277 (by decide) (fun _ => ?_) (fun h => absurd (lgc_self _) h)
    refine y_goto (tgt := 1756) Z dL_law_1282 (by decide) ?_
    refine y_lv [2, 3, 4, 5, 6] (lv' := [(0, .ref b), (1, .ref (aJ 0)), (2, .ref (aS 0)), (3, .ref aO), (4, .int (nI i))]) rfl ?_
    exact y_wide (k := cells + 1) (n := slots + 6) (by omega) (by omega) (K _ _ _ hI)
  · refine y_aload_n Z dL_law_1217 1 rfl rfl ?_
    refine y_aload_n Z dL_law_1218 0 rfl rfl ?_
    refine y_iload Z dL_law_1219 4 rfl ?_
    refine y_iconst (v := 1) Z dL_law_1221 (by decide) ?_
    refine y_iadd Z dL_law_1222 ?_
    refine y_sld Z hX hbl hbA (sx_in hi hL 1 (by decide)).1 (i + 1) (sx_in hi hL 1 (by decide)).2 dL_law_1223 ?_
    refine y_aload_n Z dL_law_1224 0 rfl rfl ?_
    refine y_iload Z dL_law_1225 4 rfl ?_
    refine y_iconst (v := 2) Z dL_law_1227 (by decide) ?_
    refine y_iadd Z dL_law_1228 ?_
    refine y_sld Z hX hbl hbA (sx_in hi hL 2 (by decide)).1 (i + 2) (sx_in hi hL 2 (by decide)).2 dL_law_1229 ?_
    refine y_aload_n Z dL_law_1230 3 rfl rfl ?_
    refine y_SWw (rest := []) Z X (k_L_shareAt_b0 l htr D ht0 ht1 aJ J aO O (xs (i + 1)) (xs (i + 2)) hb) (y_cwSW 4 Z ml_RL_159 st_L_shareAt in_L co_L_shareAt rfl rfl hs_L_shareAt ⟨Nat.le_of_ble_eq_true rfl, Nat.le_of_ble_eq_true rfl⟩) List.nil (wMd cI aS S) (by simp only [List.nil_append, List.append_assoc]) rfl rfl (Nat.le_of_ble_eq_true rfl) dL_law_1231 ⟨by show _ ≤ 1069; omega, by show _ ≤ 10084; omega⟩ (wL cI cL aJ J aO O aS S) (by simp only [wL, List.nil_append, List.append_assoc]) ?_
    refine y_istore Z [(5, .int 1), (0, .ref b), (1, .ref (aJ 0)), (2, .ref (aS 0)), (3, .ref aO), (4, .int (nI i))] dL_law_1234 (by decide) rfl ?_
    refine y_aload_n Z dL_law_1236 3 rfl rfl ?_
    refine y_aload_n Z dL_law_1237 1 rfl rfl ?_
    refine y_iload Z dL_law_1238 5 rfl ?_
    refine y_iconst (v := 1) Z dL_law_1240 (by decide) ?_
    refine y_iadd Z dL_law_1241 ?_
    refine y_sld Z hX hbl hbA (sx_in hi hL 1 (by decide)).1 (i + 1) (sx_in hi hL 1 (by decide)).2 dL_law_1242 ?_
    refine y_aload_n Z dL_law_1243 1 rfl rfl ?_
    refine y_iload Z dL_law_1244 5 rfl ?_
    refine y_iconst (v := 2) Z dL_law_1246 (by decide) ?_
    refine y_iadd Z dL_law_1247 ?_
    refine y_sld Z hX hbl hbA (sx_in hi hL 2 (by decide)).1 (i + 2) (sx_in hi hL 2 (by decide)).2 dL_law_1248 ?_
    refine y_VIw (rest := []) Z (k_X6_shareAt l D ht0 aS S (xs (i + 1)) (xs (i + 2)) m_n m_v m_c) (y_cwV 2 Z ml_RL_161 im_X6_shareAt se_X6_shareAt in_X6 co_X6_shareAt rfl rfl hd_X6_shareAt ⟨Nat.le_of_ble_eq_true rfl, Nat.le_of_ble_eq_true rfl⟩) (wVM cI aJ J ++ wOut cL aO O) List.nil (by simp only [List.append_assoc, List.append_nil]) 6 0 rfl rfl rfl rfl (Nat.le_of_ble_eq_true rfl) dL_law_1249 ⟨by show _ ≤ 1069; omega, by show _ ≤ 10084; omega⟩ (wL cI cL aJ J aO O aS (mc_shareAt S (xs (i + 1)) (xs (i + 2)))) (by simp only [wL, mc_shareAt, List.append_assoc, List.append_nil, wMix, wLog, wPic, wRep, wScr, wVM, wMd, sR_eq, sR_ne, sF_eq, sF_ne, upd_eq, upd_ne, gs_eq, gs_ne, gm_4, gm_ne, Nat.reduceBEq]) ?_
    refine y_istore Z [(6, .int (if mv_go (mv_an (mv_it (xs (i + 1)) (S 0 0)) (mv_is (xs (i + 2)))) 1 1 = 0 then 0 else mv_sh (gtX (S 3) (S 0 1) (xs (i + 1)) (-1) (S 1)).1 (mr_ls (gtX (S 3) (S 0 1) (xs (i + 1)) (-1) (S 1)).1 (S 4)) (xs (i + 2)) 0)), (5, .int 1), (0, .ref b), (1, .ref (aJ 0)), (2, .ref (aS 0)), (3, .ref aO), (4, .int (nI i))] dL_law_1252 (by decide) rfl ?_
    refine y_aload_n Z dL_law_1254 4 rfl rfl ?_
    refine y_VIw (rest := []) Z (k_X6_thrown l D ht0 aS (mc_shareAt S (xs (i + 1)) (xs (i + 2)))) (y_cwV 0 Z ml_RL_102 im_X6_thrown se_X6_thrown in_X6 co_X6_thrown rfl rfl hd_X6_thrown ⟨Nat.le_of_ble_eq_true rfl, Nat.le_of_ble_eq_true rfl⟩) (wVM cI aJ J ++ wOut cL aO O) List.nil (by simp only [List.append_assoc, List.append_nil]) 6 0 rfl rfl rfl rfl (Nat.le_of_ble_eq_true rfl) dL_law_1255 ⟨by show _ ≤ 1069; omega, by show _ ≤ 10084; omega⟩ (wL cI cL aJ J aO O aS (mc_shareAt S (xs (i + 1)) (xs (i + 2)))) (by simp only [wL, List.append_assoc, List.append_nil]) ?_
    refine y_eq rfl rfl (st' := [.int 1]) (by rw [he]) ?_
    refine y_iload Z dL_law_1258 1 rfl ?_
    refine y_icmp_eq (tgt := 1265) Z dL_law_1260 (by decide) (fun _ => ?_) (fun h => absurd rfl h)
    refine y_iload Z dL_law_1265 1 rfl ?_
    refine y_if_ne (tgt := 1282) Z dL_law_1267 (by decide) (fun _ => ?_) (fun h => absurd h (by decide))
    refine y_goto (tgt := 1756) Z dL_law_1282 (by decide) ?_
    refine y_lv [2, 3, 4, 5, 6] (lv' := [(0, .ref b), (1, .ref (aJ 0)), (2, .ref (aS 0)), (3, .ref aO), (4, .int (nI i))]) rfl ?_
    exact y_wide (k := cells + 1) (n := slots + 6) (by omega) (by omega) (K _ _ _ hI)
  · refine y_aload_n Z dL_law_1217 1 rfl rfl ?_
    refine y_aload_n Z dL_law_1218 0 rfl rfl ?_
    refine y_iload Z dL_law_1219 4 rfl ?_
    refine y_iconst (v := 1) Z dL_law_1221 (by decide) ?_
    refine y_iadd Z dL_law_1222 ?_
    refine y_sld Z hX hbl hbA (sx_in hi hL 1 (by decide)).1 (i + 1) (sx_in hi hL 1 (by decide)).2 dL_law_1223 ?_
    refine y_aload_n Z dL_law_1224 0 rfl rfl ?_
    refine y_iload Z dL_law_1225 4 rfl ?_
    refine y_iconst (v := 2) Z dL_law_1227 (by decide) ?_
    refine y_iadd Z dL_law_1228 ?_
    refine y_sld Z hX hbl hbA (sx_in hi hL 2 (by decide)).1 (i + 2) (sx_in hi hL 2 (by decide)).2 dL_law_1229 ?_
    refine y_aload_n Z dL_law_1230 3 rfl rfl ?_
    refine y_SWw (rest := []) Z X (k_L_shareAt_b1 l htr D ht0 ht1 aJ J aO O (xs (i + 1)) (xs (i + 2)) o_t hb) (y_cwSW 4 Z ml_RL_159 st_L_shareAt in_L co_L_shareAt rfl rfl hs_L_shareAt ⟨Nat.le_of_ble_eq_true rfl, Nat.le_of_ble_eq_true rfl⟩) List.nil (wMd cI aS S) (by simp only [List.nil_append, List.append_assoc]) rfl rfl (Nat.le_of_ble_eq_true rfl) dL_law_1231 ⟨by show _ ≤ 1069; omega, by show _ ≤ 10084; omega⟩ (wL cI cL aJ J aO O aS S) (by simp only [wL, List.nil_append, List.append_assoc]) ?_
    refine y_istore Z [(5, .int 1), (0, .ref b), (1, .ref (aJ 0)), (2, .ref (aS 0)), (3, .ref aO), (4, .int (nI i))] dL_law_1234 (by decide) rfl ?_
    refine y_aload_n Z dL_law_1236 3 rfl rfl ?_
    refine y_aload_n Z dL_law_1237 1 rfl rfl ?_
    refine y_iload Z dL_law_1238 5 rfl ?_
    refine y_iconst (v := 1) Z dL_law_1240 (by decide) ?_
    refine y_iadd Z dL_law_1241 ?_
    refine y_sld Z hX hbl hbA (sx_in hi hL 1 (by decide)).1 (i + 1) (sx_in hi hL 1 (by decide)).2 dL_law_1242 ?_
    refine y_aload_n Z dL_law_1243 1 rfl rfl ?_
    refine y_iload Z dL_law_1244 5 rfl ?_
    refine y_iconst (v := 2) Z dL_law_1246 (by decide) ?_
    refine y_iadd Z dL_law_1247 ?_
    refine y_sld Z hX hbl hbA (sx_in hi hL 2 (by decide)).1 (i + 2) (sx_in hi hL 2 (by decide)).2 dL_law_1248 ?_
    refine y_VIw (rest := []) Z (k_X6_shareAt l D ht0 aS S (xs (i + 1)) (xs (i + 2)) m_n m_v m_c) (y_cwV 2 Z ml_RL_161 im_X6_shareAt se_X6_shareAt in_X6 co_X6_shareAt rfl rfl hd_X6_shareAt ⟨Nat.le_of_ble_eq_true rfl, Nat.le_of_ble_eq_true rfl⟩) (wVM cI aJ J ++ wOut cL aO O) List.nil (by simp only [List.append_assoc, List.append_nil]) 6 0 rfl rfl rfl rfl (Nat.le_of_ble_eq_true rfl) dL_law_1249 ⟨by show _ ≤ 1069; omega, by show _ ≤ 10084; omega⟩ (wL cI cL aJ J aO O aS (mc_shareAt S (xs (i + 1)) (xs (i + 2)))) (by simp only [wL, mc_shareAt, List.append_assoc, List.append_nil, wMix, wLog, wPic, wRep, wScr, wVM, wMd, sR_eq, sR_ne, sF_eq, sF_ne, upd_eq, upd_ne, gs_eq, gs_ne, gm_4, gm_ne, Nat.reduceBEq]) ?_
    refine y_istore Z [(6, .int (if mv_go (mv_an (mv_it (xs (i + 1)) (S 0 0)) (mv_is (xs (i + 2)))) 1 1 = 0 then 0 else mv_sh (gtX (S 3) (S 0 1) (xs (i + 1)) (-1) (S 1)).1 (mr_ls (gtX (S 3) (S 0 1) (xs (i + 1)) (-1) (S 1)).1 (S 4)) (xs (i + 2)) 0)), (5, .int 1), (0, .ref b), (1, .ref (aJ 0)), (2, .ref (aS 0)), (3, .ref aO), (4, .int (nI i))] dL_law_1252 (by decide) rfl ?_
    refine y_aload_n Z dL_law_1254 4 rfl rfl ?_
    refine y_VIw (rest := []) Z (k_X6_thrown l D ht0 aS (mc_shareAt S (xs (i + 1)) (xs (i + 2)))) (y_cwV 0 Z ml_RL_102 im_X6_thrown se_X6_thrown in_X6 co_X6_thrown rfl rfl hd_X6_thrown ⟨Nat.le_of_ble_eq_true rfl, Nat.le_of_ble_eq_true rfl⟩) (wVM cI aJ J ++ wOut cL aO O) List.nil (by simp only [List.append_assoc, List.append_nil]) 6 0 rfl rfl rfl rfl (Nat.le_of_ble_eq_true rfl) dL_law_1255 ⟨by show _ ≤ 1069; omega, by show _ ≤ 10084; omega⟩ (wL cI cL aJ J aO O aS (mc_shareAt S (xs (i + 1)) (xs (i + 2)))) (by simp only [wL, List.append_assoc, List.append_nil]) ?_
    refine y_eq rfl rfl (st' := [.int 1]) (by rw [he]) ?_
    refine y_iload Z dL_law_1258 1 rfl ?_
    refine y_icmp_eq (tgt := 1265) Z dL_law_1260 (by decide) (fun _ => ?_) (fun h => absurd rfl h)
    refine y_iload Z dL_law_1265 1 rfl ?_
    refine y_if_ne (tgt := 1282) Z dL_law_1267 (by decide) (fun _ => ?_) (fun h => absurd h (by decide))
    refine y_goto (tgt := 1756) Z dL_law_1282 (by decide) ?_
    refine y_lv [2, 3, 4, 5, 6] (lv' := [(0, .ref b), (1, .ref (aJ 0)), (2, .ref (aS 0)), (3, .ref aO), (4, .int (nI i))]) rfl ?_
    exact y_wide (k := cells + 1) (n := slots + 6) (by omega) (by omega) (K _ _ _ hI)
set_option maxHeartbeats 4000000 in
set_option maxRecDepth 100000 in
theorem lc_timesRed {p : Program} {l : Launch} {e : Env} {s : State} {m : MethodId} {args : Array Value} {below : List Frame} {meth : Method} {c : Code} {Q : State → Prop} {D : va_G} {A : Nat → Prop} {tys : List (ClassId × FieldType)} {cI cL : ClassId} (Z : Zz p m c cL_law 9 s args wsL_law RL D tys A) (X : Xz s A) (htr : l.stackTraces = false) (ht0 : tys[0]? = some (cI, .int)) (ht1 : tys[1]? = some (cL, .long)) {b L : Nat} {xs : Nat → Int32} (hX : va_X b L xs s s.heap) (hbl : b < s.heap.size) (hbA : ¬ A b) {i : Nat} (hi : i + 4 < L) (hL : L ≤ 2560) {cells slots : Nat} (hc : cells + 1 ≤ 1069) (hs : slots + 6 ≤ 10084) {aJ : Nat → Nat} {aO : Nat} {aS : Nat → Nat} {J : Nat → Nat → Nat → Int32} {O : Nat → Int64} {S : Nat → Nat → Int32} (I : Inv J S) (K : ∀ (J2 : Nat → Nat → Nat → Int32) (O2 : Nat → Int64) (S2 : Nat → Nat → Int32), Inv J2 S2 → Yy p l e room_1 s m args below meth c Q D A 9 (cells + 1) (slots + 6) (wL cI cL aJ J2 aO O2 aS S2) [(0, .ref b), (1, .ref (aJ 0)), (2, .ref (aS 0)), (3, .ref aO), (4, .int (nI i))] [] 1756) : Yy p l e room_1 s m args below meth c Q D A 9 cells slots (wL cI cL aJ J aO O aS S) [(0, .ref b), (1, .ref (aJ 0)), (2, .ref (aS 0)), (3, .ref aO), (4, .int (nI i))] [] 1285 := by
  obtain ⟨m_n, m_v, m_c, hr⟩ := c2_timesRed I (xs (i + 1))
  rcases hr with ⟨o_q, c_n, c_stop, he, her, hI⟩ | ⟨hb, he, hI⟩
  · refine y_aload_n Z dL_law_1285 1 rfl rfl ?_
    refine y_aload_n Z dL_law_1286 0 rfl rfl ?_
    refine y_iload Z dL_law_1287 4 rfl ?_
    refine y_iconst (v := 1) Z dL_law_1289 (by decide) ?_
    refine y_iadd Z dL_law_1290 ?_
    refine y_sld Z hX hbl hbA (sx_in hi hL 1 (by decide)).1 (i + 1) (sx_in hi hL 1 (by decide)).2 dL_law_1291 ?_
    refine y_aload_n Z dL_law_1292 3 rfl rfl ?_
    refine y_SWw (rest := []) Z X (k_L_timesRed l htr D ht0 ht1 aJ J aO O (xs (i + 1)) c_n c_stop o_q) (y_cwSW 3 Z ml_RL_162 st_L_timesRed in_L co_L_timesRed rfl rfl hs_L_timesRed ⟨Nat.le_of_ble_eq_true rfl, Nat.le_of_ble_eq_true rfl⟩) List.nil (wMd cI aS S) (by simp only [List.nil_append, List.append_assoc]) rfl rfl (Nat.le_of_ble_eq_true rfl) dL_law_1293 ⟨by show _ ≤ 1069; omega, by show _ ≤ 10084; omega⟩ (wL cI cL aJ (vm_46 J (trX J (xs (i + 1))).1 (trX J (xs (i + 1))).2.1) aO (vp_updL O 0 (Int32.toInt64 ((trX J (xs (i + 1))).2.2.1))) aS S) (by simp only [wL, List.nil_append, List.append_assoc]) ?_
    refine y_istore Z [(5, .int 0), (0, .ref b), (1, .ref (aJ 0)), (2, .ref (aS 0)), (3, .ref aO), (4, .int (nI i))] dL_law_1296 (by decide) rfl ?_
    refine y_aload_n Z dL_law_1298 3 rfl rfl ?_
    refine y_aload_n Z dL_law_1299 1 rfl rfl ?_
    refine y_iload Z dL_law_1300 5 rfl ?_
    refine y_iconst (v := 1) Z dL_law_1302 (by decide) ?_
    refine y_iadd Z dL_law_1303 ?_
    refine y_sld Z hX hbl hbA (sx_in hi hL 1 (by decide)).1 (i + 1) (sx_in hi hL 1 (by decide)).2 dL_law_1304 ?_
    refine y_VIw (rest := []) Z (k_X6_timesRed l D ht0 aS S (xs (i + 1)) m_n m_v m_c) (y_cwV 1 Z ml_RL_164 im_X6_timesRed se_X6_timesRed in_X6 co_X6_timesRed rfl rfl hd_X6_timesRed ⟨Nat.le_of_ble_eq_true rfl, Nat.le_of_ble_eq_true rfl⟩) (wVM cI aJ (vm_46 J (trX J (xs (i + 1))).1 (trX J (xs (i + 1))).2.1) ++ wOut cL aO (vp_updL O 0 (Int32.toInt64 ((trX J (xs (i + 1))).2.2.1)))) List.nil (by simp only [List.append_assoc, List.append_nil]) 6 0 rfl rfl rfl rfl (Nat.le_of_ble_eq_true rfl) dL_law_1305 ⟨by show _ ≤ 1069; omega, by show _ ≤ 10084; omega⟩ (wL cI cL aJ (vm_46 J (trX J (xs (i + 1))).1 (trX J (xs (i + 1))).2.1) aO (vp_updL O 0 (Int32.toInt64 ((trX J (xs (i + 1))).2.2.1))) aS (mc_timesRed S (xs (i + 1)))) (by simp only [wL, mc_timesRed, List.append_assoc, List.append_nil, wMix, wLog, wPic, wRep, wScr, wVM, wMd, sR_eq, sR_ne, sF_eq, sF_ne, upd_eq, upd_ne, gs_eq, gs_ne, gm_4, gm_ne, Nat.reduceBEq]) ?_
    refine y_istore Z [(6, .int (if mv_go (mv_is (xs (i + 1))) 1 1 = 0 then 0 else (ghX (S 3) (S 0 1) (S 0 0) (xs (i + 1)) (S 1) (S 4) (S 0 3)).2.2.2.2.1)), (5, .int 0), (0, .ref b), (1, .ref (aJ 0)), (2, .ref (aS 0)), (3, .ref aO), (4, .int (nI i))] dL_law_1308 (by decide) rfl ?_
    refine y_aload_n Z dL_law_1310 4 rfl rfl ?_
    refine y_VIw (rest := []) Z (k_X6_thrown l D ht0 aS (mc_timesRed S (xs (i + 1)))) (y_cwV 0 Z ml_RL_102 im_X6_thrown se_X6_thrown in_X6 co_X6_thrown rfl rfl hd_X6_thrown ⟨Nat.le_of_ble_eq_true rfl, Nat.le_of_ble_eq_true rfl⟩) (wVM cI aJ (vm_46 J (trX J (xs (i + 1))).1 (trX J (xs (i + 1))).2.1) ++ wOut cL aO (vp_updL O 0 (Int32.toInt64 ((trX J (xs (i + 1))).2.2.1)))) List.nil (by simp only [List.append_assoc, List.append_nil]) 6 0 rfl rfl rfl rfl (Nat.le_of_ble_eq_true rfl) dL_law_1311 ⟨by show _ ≤ 1069; omega, by show _ ≤ 10084; omega⟩ (wL cI cL aJ (vm_46 J (trX J (xs (i + 1))).1 (trX J (xs (i + 1))).2.1) aO (vp_updL O 0 (Int32.toInt64 ((trX J (xs (i + 1))).2.2.1))) aS (mc_timesRed S (xs (i + 1)))) (by simp only [wL, List.append_assoc, List.append_nil]) ?_
    refine y_eq rfl rfl (st' := [.int 0]) (by rw [he]) ?_
    refine y_iload Z dL_law_1314 1 rfl ?_
    refine y_icmp_eq (tgt := 1321) Z dL_law_1316 (by decide) (fun _ => ?_) (fun h => absurd rfl h)
    refine y_iload Z dL_law_1321 1 rfl ?_
    refine y_if_ne (tgt := 1338) Z dL_law_1323 (by decide) (fun h => absurd rfl h) (fun _ => ?_)
    refine y_aload_n Z dL_law_1326 5 rfl rfl ?_
    refine y_iconst (v := 0) Z dL_law_1327 (by decide) ?_
    refine y_lald Z 27 1 rfl ht1 (vpd (by decide) (by decide)) 0 (by decide) dL_law_1328 ?_
    refine y_iload Z dL_law_1329 0 rfl ?_
    refine y_i2l Z dL_law_1331 ?_
    refine y_eq rfl rfl (st' := [.long (Int32.toInt64 (if mv_go (mv_is (xs (i + 1))) 1 1 = 0 then 0 else (ghX (S 3) (S 0 1) (S 0 0) (xs (i + 1)) (S 1) (S 4) (S 0 3)).2.2.2.2.1)), .long (Int32.toInt64 (if mv_go (mv_is (xs (i + 1))) 1 1 = 0 then 0 else (ghX (S 3) (S 0 1) (S 0 0) (xs (i + 1)) (S 1) (S 4) (S 0 3)).2.2.2.2.1))]) (by rw [← her]; rfl) ?_
    refine y_lcmp Z dL_law_1332 ?_
    refine y_if_eq (tgt := 1338) Z dL_law_1333 (by decide) (fun _ => ?_) (fun h => absurd (lgc_self _) h)
    refine y_goto (tgt := 1756) Z dL_law_1338 (by decide) ?_
    refine y_lv [2, 3, 4, 5, 6] (lv' := [(0, .ref b), (1, .ref (aJ 0)), (2, .ref (aS 0)), (3, .ref aO), (4, .int (nI i))]) rfl ?_
    exact y_wide (k := cells + 1) (n := slots + 6) (by omega) (by omega) (K _ _ _ hI)
  · refine y_aload_n Z dL_law_1285 1 rfl rfl ?_
    refine y_aload_n Z dL_law_1286 0 rfl rfl ?_
    refine y_iload Z dL_law_1287 4 rfl ?_
    refine y_iconst (v := 1) Z dL_law_1289 (by decide) ?_
    refine y_iadd Z dL_law_1290 ?_
    refine y_sld Z hX hbl hbA (sx_in hi hL 1 (by decide)).1 (i + 1) (sx_in hi hL 1 (by decide)).2 dL_law_1291 ?_
    refine y_aload_n Z dL_law_1292 3 rfl rfl ?_
    refine y_SWw (rest := []) Z X (k_L_timesRed_b0 l htr D ht0 ht1 aJ J aO O (xs (i + 1)) hb) (y_cwSW 3 Z ml_RL_162 st_L_timesRed in_L co_L_timesRed rfl rfl hs_L_timesRed ⟨Nat.le_of_ble_eq_true rfl, Nat.le_of_ble_eq_true rfl⟩) List.nil (wMd cI aS S) (by simp only [List.nil_append, List.append_assoc]) rfl rfl (Nat.le_of_ble_eq_true rfl) dL_law_1293 ⟨by show _ ≤ 1069; omega, by show _ ≤ 10084; omega⟩ (wL cI cL aJ J aO O aS S) (by simp only [wL, List.nil_append, List.append_assoc]) ?_
    refine y_istore Z [(5, .int 1), (0, .ref b), (1, .ref (aJ 0)), (2, .ref (aS 0)), (3, .ref aO), (4, .int (nI i))] dL_law_1296 (by decide) rfl ?_
    refine y_aload_n Z dL_law_1298 3 rfl rfl ?_
    refine y_aload_n Z dL_law_1299 1 rfl rfl ?_
    refine y_iload Z dL_law_1300 5 rfl ?_
    refine y_iconst (v := 1) Z dL_law_1302 (by decide) ?_
    refine y_iadd Z dL_law_1303 ?_
    refine y_sld Z hX hbl hbA (sx_in hi hL 1 (by decide)).1 (i + 1) (sx_in hi hL 1 (by decide)).2 dL_law_1304 ?_
    refine y_VIw (rest := []) Z (k_X6_timesRed l D ht0 aS S (xs (i + 1)) m_n m_v m_c) (y_cwV 1 Z ml_RL_164 im_X6_timesRed se_X6_timesRed in_X6 co_X6_timesRed rfl rfl hd_X6_timesRed ⟨Nat.le_of_ble_eq_true rfl, Nat.le_of_ble_eq_true rfl⟩) (wVM cI aJ J ++ wOut cL aO O) List.nil (by simp only [List.append_assoc, List.append_nil]) 6 0 rfl rfl rfl rfl (Nat.le_of_ble_eq_true rfl) dL_law_1305 ⟨by show _ ≤ 1069; omega, by show _ ≤ 10084; omega⟩ (wL cI cL aJ J aO O aS (mc_timesRed S (xs (i + 1)))) (by simp only [wL, mc_timesRed, List.append_assoc, List.append_nil, wMix, wLog, wPic, wRep, wScr, wVM, wMd, sR_eq, sR_ne, sF_eq, sF_ne, upd_eq, upd_ne, gs_eq, gs_ne, gm_4, gm_ne, Nat.reduceBEq]) ?_
    refine y_istore Z [(6, .int (if mv_go (mv_is (xs (i + 1))) 1 1 = 0 then 0 else (ghX (S 3) (S 0 1) (S 0 0) (xs (i + 1)) (S 1) (S 4) (S 0 3)).2.2.2.2.1)), (5, .int 1), (0, .ref b), (1, .ref (aJ 0)), (2, .ref (aS 0)), (3, .ref aO), (4, .int (nI i))] dL_law_1308 (by decide) rfl ?_
    refine y_aload_n Z dL_law_1310 4 rfl rfl ?_
    refine y_VIw (rest := []) Z (k_X6_thrown l D ht0 aS (mc_timesRed S (xs (i + 1)))) (y_cwV 0 Z ml_RL_102 im_X6_thrown se_X6_thrown in_X6 co_X6_thrown rfl rfl hd_X6_thrown ⟨Nat.le_of_ble_eq_true rfl, Nat.le_of_ble_eq_true rfl⟩) (wVM cI aJ J ++ wOut cL aO O) List.nil (by simp only [List.append_assoc, List.append_nil]) 6 0 rfl rfl rfl rfl (Nat.le_of_ble_eq_true rfl) dL_law_1311 ⟨by show _ ≤ 1069; omega, by show _ ≤ 10084; omega⟩ (wL cI cL aJ J aO O aS (mc_timesRed S (xs (i + 1)))) (by simp only [wL, List.append_assoc, List.append_nil]) ?_
    refine y_eq rfl rfl (st' := [.int 1]) (by rw [he]) ?_
    refine y_iload Z dL_law_1314 1 rfl ?_
    refine y_icmp_eq (tgt := 1321) Z dL_law_1316 (by decide) (fun _ => ?_) (fun h => absurd rfl h)
    refine y_iload Z dL_law_1321 1 rfl ?_
    refine y_if_ne (tgt := 1338) Z dL_law_1323 (by decide) (fun _ => ?_) (fun h => absurd h (by decide))
    refine y_goto (tgt := 1756) Z dL_law_1338 (by decide) ?_
    refine y_lv [2, 3, 4, 5, 6] (lv' := [(0, .ref b), (1, .ref (aJ 0)), (2, .ref (aS 0)), (3, .ref aO), (4, .int (nI i))]) rfl ?_
    exact y_wide (k := cells + 1) (n := slots + 6) (by omega) (by omega) (K _ _ _ hI)
set_option maxHeartbeats 4000000 in
set_option maxRecDepth 100000 in
theorem lc_firstRed {p : Program} {l : Launch} {e : Env} {s : State} {m : MethodId} {args : Array Value} {below : List Frame} {meth : Method} {c : Code} {Q : State → Prop} {D : va_G} {A : Nat → Prop} {tys : List (ClassId × FieldType)} {cI cL : ClassId} (Z : Zz p m c cL_law 9 s args wsL_law RL D tys A) (X : Xz s A) (htr : l.stackTraces = false) (ht0 : tys[0]? = some (cI, .int)) (ht1 : tys[1]? = some (cL, .long)) {b L : Nat} {xs : Nat → Int32} (hX : va_X b L xs s s.heap) (hbl : b < s.heap.size) (hbA : ¬ A b) {i : Nat} (hi : i + 4 < L) (hL : L ≤ 2560) {cells slots : Nat} (hc : cells + 1 ≤ 1069) (hs : slots + 6 ≤ 10084) {aJ : Nat → Nat} {aO : Nat} {aS : Nat → Nat} {J : Nat → Nat → Nat → Int32} {O : Nat → Int64} {S : Nat → Nat → Int32} (I : Inv J S) (K : ∀ (J2 : Nat → Nat → Nat → Int32) (O2 : Nat → Int64) (S2 : Nat → Nat → Int32), Inv J2 S2 → Yy p l e room_1 s m args below meth c Q D A 9 (cells + 1) (slots + 6) (wL cI cL aJ J2 aO O2 aS S2) [(0, .ref b), (1, .ref (aJ 0)), (2, .ref (aS 0)), (3, .ref aO), (4, .int (nI i))] [] 1756) : Yy p l e room_1 s m args below meth c Q D A 9 cells slots (wL cI cL aJ J aO O aS S) [(0, .ref b), (1, .ref (aJ 0)), (2, .ref (aS 0)), (3, .ref aO), (4, .int (nI i))] [] 1341 := by
  obtain ⟨m_n, m_v, m_c, hr⟩ := c2_firstRed I (xs (i + 1))
  rcases hr with ⟨o_q, c_n, c_stop, he, her, hI⟩ | ⟨hb, he, hI⟩
  · refine y_aload_n Z dL_law_1341 1 rfl rfl ?_
    refine y_aload_n Z dL_law_1342 0 rfl rfl ?_
    refine y_iload Z dL_law_1343 4 rfl ?_
    refine y_iconst (v := 1) Z dL_law_1345 (by decide) ?_
    refine y_iadd Z dL_law_1346 ?_
    refine y_sld Z hX hbl hbA (sx_in hi hL 1 (by decide)).1 (i + 1) (sx_in hi hL 1 (by decide)).2 dL_law_1347 ?_
    refine y_aload_n Z dL_law_1348 3 rfl rfl ?_
    refine y_SWw (rest := []) Z X (k_L_firstRed l htr D ht0 ht1 aJ J aO O (xs (i + 1)) c_n c_stop o_q) (y_cwSW 3 Z ml_RL_165 st_L_firstRed in_L co_L_firstRed rfl rfl hs_L_firstRed ⟨Nat.le_of_ble_eq_true rfl, Nat.le_of_ble_eq_true rfl⟩) List.nil (wMd cI aS S) (by simp only [List.nil_append, List.append_assoc]) rfl rfl (Nat.le_of_ble_eq_true rfl) dL_law_1349 ⟨by show _ ≤ 1069; omega, by show _ ≤ 10084; omega⟩ (wL cI cL aJ (vm_fr J (xs (i + 1))) aO (vp_updL O 0 (Int32.toInt64 (frR J (xs (i + 1))))) aS S) (by simp only [wL, List.nil_append, List.append_assoc]) ?_
    refine y_istore Z [(5, .int 0), (0, .ref b), (1, .ref (aJ 0)), (2, .ref (aS 0)), (3, .ref aO), (4, .int (nI i))] dL_law_1352 (by decide) rfl ?_
    refine y_aload_n Z dL_law_1354 3 rfl rfl ?_
    refine y_aload_n Z dL_law_1355 1 rfl rfl ?_
    refine y_iload Z dL_law_1356 5 rfl ?_
    refine y_iconst (v := 1) Z dL_law_1358 (by decide) ?_
    refine y_iadd Z dL_law_1359 ?_
    refine y_sld Z hX hbl hbA (sx_in hi hL 1 (by decide)).1 (i + 1) (sx_in hi hL 1 (by decide)).2 dL_law_1360 ?_
    refine y_VIw (rest := []) Z (k_X6_firstRed l D ht0 aS S (xs (i + 1)) m_n m_v m_c) (y_cwV 1 Z ml_RL_167 im_X6_firstRed se_X6_firstRed in_X6 co_X6_firstRed rfl rfl hd_X6_firstRed ⟨Nat.le_of_ble_eq_true rfl, Nat.le_of_ble_eq_true rfl⟩) (wVM cI aJ (vm_fr J (xs (i + 1))) ++ wOut cL aO (vp_updL O 0 (Int32.toInt64 (frR J (xs (i + 1)))))) List.nil (by simp only [List.append_assoc, List.append_nil]) 6 0 rfl rfl rfl rfl (Nat.le_of_ble_eq_true rfl) dL_law_1361 ⟨by show _ ≤ 1069; omega, by show _ ≤ 10084; omega⟩ (wL cI cL aJ (vm_fr J (xs (i + 1))) aO (vp_updL O 0 (Int32.toInt64 (frR J (xs (i + 1))))) aS (mc_firstRed S (xs (i + 1)))) (by simp only [wL, mc_firstRed, List.append_assoc, List.append_nil, wMix, wLog, wPic, wRep, wScr, wVM, wMd, sR_eq, sR_ne, sF_eq, sF_ne, upd_eq, upd_ne, gs_eq, gs_ne, gm_4, gm_ne, Nat.reduceBEq]) ?_
    refine y_istore Z [(6, .int (if mv_go (mv_is (xs (i + 1))) 1 1 = 0 then 0 else (ghX (S 3) (S 0 1) (S 0 0) (xs (i + 1)) (S 1) (S 4) (S 0 3)).2.2.2.2.2.1)), (5, .int 0), (0, .ref b), (1, .ref (aJ 0)), (2, .ref (aS 0)), (3, .ref aO), (4, .int (nI i))] dL_law_1364 (by decide) rfl ?_
    refine y_aload_n Z dL_law_1366 4 rfl rfl ?_
    refine y_VIw (rest := []) Z (k_X6_thrown l D ht0 aS (mc_firstRed S (xs (i + 1)))) (y_cwV 0 Z ml_RL_102 im_X6_thrown se_X6_thrown in_X6 co_X6_thrown rfl rfl hd_X6_thrown ⟨Nat.le_of_ble_eq_true rfl, Nat.le_of_ble_eq_true rfl⟩) (wVM cI aJ (vm_fr J (xs (i + 1))) ++ wOut cL aO (vp_updL O 0 (Int32.toInt64 (frR J (xs (i + 1)))))) List.nil (by simp only [List.append_assoc, List.append_nil]) 6 0 rfl rfl rfl rfl (Nat.le_of_ble_eq_true rfl) dL_law_1367 ⟨by show _ ≤ 1069; omega, by show _ ≤ 10084; omega⟩ (wL cI cL aJ (vm_fr J (xs (i + 1))) aO (vp_updL O 0 (Int32.toInt64 (frR J (xs (i + 1))))) aS (mc_firstRed S (xs (i + 1)))) (by simp only [wL, List.append_assoc, List.append_nil]) ?_
    refine y_eq rfl rfl (st' := [.int 0]) (by rw [he]) ?_
    refine y_iload Z dL_law_1370 1 rfl ?_
    refine y_icmp_eq (tgt := 1377) Z dL_law_1372 (by decide) (fun _ => ?_) (fun h => absurd rfl h)
    refine y_iload Z dL_law_1377 1 rfl ?_
    refine y_if_ne (tgt := 1394) Z dL_law_1379 (by decide) (fun h => absurd rfl h) (fun _ => ?_)
    refine y_aload_n Z dL_law_1382 5 rfl rfl ?_
    refine y_iconst (v := 0) Z dL_law_1383 (by decide) ?_
    refine y_lald Z 27 1 rfl ht1 (vpd (by decide) (by decide)) 0 (by decide) dL_law_1384 ?_
    refine y_iload Z dL_law_1385 0 rfl ?_
    refine y_i2l Z dL_law_1387 ?_
    refine y_eq rfl rfl (st' := [.long (Int32.toInt64 (if mv_go (mv_is (xs (i + 1))) 1 1 = 0 then 0 else (ghX (S 3) (S 0 1) (S 0 0) (xs (i + 1)) (S 1) (S 4) (S 0 3)).2.2.2.2.2.1)), .long (Int32.toInt64 (if mv_go (mv_is (xs (i + 1))) 1 1 = 0 then 0 else (ghX (S 3) (S 0 1) (S 0 0) (xs (i + 1)) (S 1) (S 4) (S 0 3)).2.2.2.2.2.1))]) (by rw [← her]; rfl) ?_
    refine y_lcmp Z dL_law_1388 ?_
    refine y_if_eq (tgt := 1394) Z dL_law_1389 (by decide) (fun _ => ?_) (fun h => absurd (lgc_self _) h)
    refine y_goto (tgt := 1756) Z dL_law_1394 (by decide) ?_
    refine y_lv [2, 3, 4, 5, 6] (lv' := [(0, .ref b), (1, .ref (aJ 0)), (2, .ref (aS 0)), (3, .ref aO), (4, .int (nI i))]) rfl ?_
    exact y_wide (k := cells + 1) (n := slots + 6) (by omega) (by omega) (K _ _ _ hI)
  · refine y_aload_n Z dL_law_1341 1 rfl rfl ?_
    refine y_aload_n Z dL_law_1342 0 rfl rfl ?_
    refine y_iload Z dL_law_1343 4 rfl ?_
    refine y_iconst (v := 1) Z dL_law_1345 (by decide) ?_
    refine y_iadd Z dL_law_1346 ?_
    refine y_sld Z hX hbl hbA (sx_in hi hL 1 (by decide)).1 (i + 1) (sx_in hi hL 1 (by decide)).2 dL_law_1347 ?_
    refine y_aload_n Z dL_law_1348 3 rfl rfl ?_
    refine y_SWw (rest := []) Z X (k_L_firstRed_b0 l htr D ht0 ht1 aJ J aO O (xs (i + 1)) hb) (y_cwSW 3 Z ml_RL_165 st_L_firstRed in_L co_L_firstRed rfl rfl hs_L_firstRed ⟨Nat.le_of_ble_eq_true rfl, Nat.le_of_ble_eq_true rfl⟩) List.nil (wMd cI aS S) (by simp only [List.nil_append, List.append_assoc]) rfl rfl (Nat.le_of_ble_eq_true rfl) dL_law_1349 ⟨by show _ ≤ 1069; omega, by show _ ≤ 10084; omega⟩ (wL cI cL aJ J aO O aS S) (by simp only [wL, List.nil_append, List.append_assoc]) ?_
    refine y_istore Z [(5, .int 1), (0, .ref b), (1, .ref (aJ 0)), (2, .ref (aS 0)), (3, .ref aO), (4, .int (nI i))] dL_law_1352 (by decide) rfl ?_
    refine y_aload_n Z dL_law_1354 3 rfl rfl ?_
    refine y_aload_n Z dL_law_1355 1 rfl rfl ?_
    refine y_iload Z dL_law_1356 5 rfl ?_
    refine y_iconst (v := 1) Z dL_law_1358 (by decide) ?_
    refine y_iadd Z dL_law_1359 ?_
    refine y_sld Z hX hbl hbA (sx_in hi hL 1 (by decide)).1 (i + 1) (sx_in hi hL 1 (by decide)).2 dL_law_1360 ?_
    refine y_VIw (rest := []) Z (k_X6_firstRed l D ht0 aS S (xs (i + 1)) m_n m_v m_c) (y_cwV 1 Z ml_RL_167 im_X6_firstRed se_X6_firstRed in_X6 co_X6_firstRed rfl rfl hd_X6_firstRed ⟨Nat.le_of_ble_eq_true rfl, Nat.le_of_ble_eq_true rfl⟩) (wVM cI aJ J ++ wOut cL aO O) List.nil (by simp only [List.append_assoc, List.append_nil]) 6 0 rfl rfl rfl rfl (Nat.le_of_ble_eq_true rfl) dL_law_1361 ⟨by show _ ≤ 1069; omega, by show _ ≤ 10084; omega⟩ (wL cI cL aJ J aO O aS (mc_firstRed S (xs (i + 1)))) (by simp only [wL, mc_firstRed, List.append_assoc, List.append_nil, wMix, wLog, wPic, wRep, wScr, wVM, wMd, sR_eq, sR_ne, sF_eq, sF_ne, upd_eq, upd_ne, gs_eq, gs_ne, gm_4, gm_ne, Nat.reduceBEq]) ?_
    refine y_istore Z [(6, .int (if mv_go (mv_is (xs (i + 1))) 1 1 = 0 then 0 else (ghX (S 3) (S 0 1) (S 0 0) (xs (i + 1)) (S 1) (S 4) (S 0 3)).2.2.2.2.2.1)), (5, .int 1), (0, .ref b), (1, .ref (aJ 0)), (2, .ref (aS 0)), (3, .ref aO), (4, .int (nI i))] dL_law_1364 (by decide) rfl ?_
    refine y_aload_n Z dL_law_1366 4 rfl rfl ?_
    refine y_VIw (rest := []) Z (k_X6_thrown l D ht0 aS (mc_firstRed S (xs (i + 1)))) (y_cwV 0 Z ml_RL_102 im_X6_thrown se_X6_thrown in_X6 co_X6_thrown rfl rfl hd_X6_thrown ⟨Nat.le_of_ble_eq_true rfl, Nat.le_of_ble_eq_true rfl⟩) (wVM cI aJ J ++ wOut cL aO O) List.nil (by simp only [List.append_assoc, List.append_nil]) 6 0 rfl rfl rfl rfl (Nat.le_of_ble_eq_true rfl) dL_law_1367 ⟨by show _ ≤ 1069; omega, by show _ ≤ 10084; omega⟩ (wL cI cL aJ J aO O aS (mc_firstRed S (xs (i + 1)))) (by simp only [wL, List.append_assoc, List.append_nil]) ?_
    refine y_eq rfl rfl (st' := [.int 1]) (by rw [he]) ?_
    refine y_iload Z dL_law_1370 1 rfl ?_
    refine y_icmp_eq (tgt := 1377) Z dL_law_1372 (by decide) (fun _ => ?_) (fun h => absurd rfl h)
    refine y_iload Z dL_law_1377 1 rfl ?_
    refine y_if_ne (tgt := 1394) Z dL_law_1379 (by decide) (fun _ => ?_) (fun h => absurd h (by decide))
    refine y_goto (tgt := 1756) Z dL_law_1394 (by decide) ?_
    refine y_lv [2, 3, 4, 5, 6] (lv' := [(0, .ref b), (1, .ref (aJ 0)), (2, .ref (aS 0)), (3, .ref aO), (4, .int (nI i))]) rfl ?_
    exact y_wide (k := cells + 1) (n := slots + 6) (by omega) (by omega) (K _ _ _ hI)
set_option maxHeartbeats 4000000 in
set_option maxRecDepth 100000 in
theorem lc_act {p : Program} {l : Launch} {e : Env} {s : State} {m : MethodId} {args : Array Value} {below : List Frame} {meth : Method} {c : Code} {Q : State → Prop} {D : va_G} {A : Nat → Prop} {tys : List (ClassId × FieldType)} {cI cL : ClassId} (Z : Zz p m c cL_law 9 s args wsL_law RL D tys A) (X : Xz s A) (htr : l.stackTraces = false) (ht0 : tys[0]? = some (cI, .int)) (ht1 : tys[1]? = some (cL, .long)) {b L : Nat} {xs : Nat → Int32} (hX : va_X b L xs s s.heap) (hbl : b < s.heap.size) (hbA : ¬ A b) {i : Nat} (hi : i + 4 < L) (hL : L ≤ 2560) {cells slots : Nat} (hc : cells + 1 ≤ 1069) (hs : slots + 6 ≤ 10084) {aJ : Nat → Nat} {aO : Nat} {aS : Nat → Nat} {J : Nat → Nat → Nat → Int32} {O : Nat → Int64} {S : Nat → Nat → Int32} (I : Inv J S) (K : ∀ (J2 : Nat → Nat → Nat → Int32) (O2 : Nat → Int64) (S2 : Nat → Nat → Int32), Inv J2 S2 → Yy p l e room_1 s m args below meth c Q D A 9 (cells + 1) (slots + 6) (wL cI cL aJ J2 aO O2 aS S2) [(0, .ref b), (1, .ref (aJ 0)), (2, .ref (aS 0)), (3, .ref aO), (4, .int (nI i))] [] 1756) : Yy p l e room_1 s m args below meth c Q D A 9 cells slots (wL cI cL aJ J aO O aS S) [(0, .ref b), (1, .ref (aJ 0)), (2, .ref (aS 0)), (3, .ref aO), (4, .int (nI i))] [] 1423 := by
  obtain ⟨m_n, hr⟩ := c2_act I (xs (i + 1)) (xs (i + 2))
  rcases hr with ⟨o_a, o_w, he, her, hI⟩ | ⟨hb, he, hI⟩ | ⟨o_a, hb, he, hI⟩
  · refine y_aload_n Z dL_law_1423 1 rfl rfl ?_
    refine y_aload_n Z dL_law_1424 0 rfl rfl ?_
    refine y_iload Z dL_law_1425 4 rfl ?_
    refine y_iconst (v := 1) Z dL_law_1427 (by decide) ?_
    refine y_iadd Z dL_law_1428 ?_
    refine y_sld Z hX hbl hbA (sx_in hi hL 1 (by decide)).1 (i + 1) (sx_in hi hL 1 (by decide)).2 dL_law_1429 ?_
    refine y_aload_n Z dL_law_1430 0 rfl rfl ?_
    refine y_iload Z dL_law_1431 4 rfl ?_
    refine y_iconst (v := 2) Z dL_law_1433 (by decide) ?_
    refine y_iadd Z dL_law_1434 ?_
    refine y_sld Z hX hbl hbA (sx_in hi hL 2 (by decide)).1 (i + 2) (sx_in hi hL 2 (by decide)).2 dL_law_1435 ?_
    refine y_aload_n Z dL_law_1436 3 rfl rfl ?_
    refine y_SWw (rest := []) Z X (k_L_act l htr D ht0 ht1 aJ J aO O (xs (i + 1)) (xs (i + 2)) o_a o_w) (y_cwSW 4 Z ml_RL_176 st_L_act in_L co_L_act rfl rfl hs_L_act ⟨Nat.le_of_ble_eq_true rfl, Nat.le_of_ble_eq_true rfl⟩) List.nil (wMd cI aS S) (by simp only [List.nil_append, List.append_assoc]) rfl rfl (Nat.le_of_ble_eq_true rfl) dL_law_1437 ⟨by show _ ≤ 1069; omega, by show _ ≤ 10084; omega⟩ (wL cI cL aJ J aO (vp_updL O 0 (Int32.toInt64 (lgT (J 3) (xs (i + 1)) (xs (i + 2))))) aS S) (by simp only [wL, List.nil_append, List.append_assoc]) ?_
    refine y_istore Z [(5, .int 0), (0, .ref b), (1, .ref (aJ 0)), (2, .ref (aS 0)), (3, .ref aO), (4, .int (nI i))] dL_law_1440 (by decide) rfl ?_
    refine y_aload_n Z dL_law_1442 3 rfl rfl ?_
    refine y_aload_n Z dL_law_1443 1 rfl rfl ?_
    refine y_iload Z dL_law_1444 5 rfl ?_
    refine y_iconst (v := 1) Z dL_law_1446 (by decide) ?_
    refine y_iadd Z dL_law_1447 ?_
    refine y_sld Z hX hbl hbA (sx_in hi hL 1 (by decide)).1 (i + 1) (sx_in hi hL 1 (by decide)).2 dL_law_1448 ?_
    refine y_aload_n Z dL_law_1449 1 rfl rfl ?_
    refine y_iload Z dL_law_1450 5 rfl ?_
    refine y_iconst (v := 2) Z dL_law_1452 (by decide) ?_
    refine y_iadd Z dL_law_1453 ?_
    refine y_sld Z hX hbl hbA (sx_in hi hL 2 (by decide)).1 (i + 2) (sx_in hi hL 2 (by decide)).2 dL_law_1454 ?_
    refine y_VIw (rest := []) Z (k_X6_act l D ht0 aS S (xs (i + 1)) (xs (i + 2)) m_n) (y_cwV 2 Z ml_RL_178 im_X6_act se_X6_act in_X6 co_X6_act rfl rfl hd_X6_act ⟨Nat.le_of_ble_eq_true rfl, Nat.le_of_ble_eq_true rfl⟩) (wVM cI aJ J ++ wOut cL aO (vp_updL O 0 (Int32.toInt64 (lgT (J 3) (xs (i + 1)) (xs (i + 2)))))) List.nil (by simp only [List.append_assoc, List.append_nil]) 6 0 rfl rfl rfl rfl (Nat.le_of_ble_eq_true rfl) dL_law_1455 ⟨by show _ ≤ 1069; omega, by show _ ≤ 10084; omega⟩ (wL cI cL aJ J aO (vp_updL O 0 (Int32.toInt64 (lgT (J 3) (xs (i + 1)) (xs (i + 2))))) aS (mc_act S (xs (i + 1)) (xs (i + 2)))) (by simp only [wL, mc_act, List.append_assoc, List.append_nil, wMix, wLog, wPic, wRep, wScr, wVM, wMd, sR_eq, sR_ne, sF_eq, sF_ne, upd_eq, upd_ne, gs_eq, gs_ne, gm_4, gm_ne, Nat.reduceBEq]) ?_
    refine y_istore Z [(6, .int (if mv_go (mv_ia (xs (i + 1)) (S 0 1)) (mv_in (Int32.toInt64 (xs (i + 2))) 0 3) 1 = 0 then 0 else (S 3) (cl (6 * (xs (i + 1)) + (xs (i + 2)))))), (5, .int 0), (0, .ref b), (1, .ref (aJ 0)), (2, .ref (aS 0)), (3, .ref aO), (4, .int (nI i))] dL_law_1458 (by decide) rfl ?_
    refine y_aload_n Z dL_law_1460 4 rfl rfl ?_
    refine y_VIw (rest := []) Z (k_X6_thrown l D ht0 aS (mc_act S (xs (i + 1)) (xs (i + 2)))) (y_cwV 0 Z ml_RL_102 im_X6_thrown se_X6_thrown in_X6 co_X6_thrown rfl rfl hd_X6_thrown ⟨Nat.le_of_ble_eq_true rfl, Nat.le_of_ble_eq_true rfl⟩) (wVM cI aJ J ++ wOut cL aO (vp_updL O 0 (Int32.toInt64 (lgT (J 3) (xs (i + 1)) (xs (i + 2)))))) List.nil (by simp only [List.append_assoc, List.append_nil]) 6 0 rfl rfl rfl rfl (Nat.le_of_ble_eq_true rfl) dL_law_1461 ⟨by show _ ≤ 1069; omega, by show _ ≤ 10084; omega⟩ (wL cI cL aJ J aO (vp_updL O 0 (Int32.toInt64 (lgT (J 3) (xs (i + 1)) (xs (i + 2))))) aS (mc_act S (xs (i + 1)) (xs (i + 2)))) (by simp only [wL, List.append_assoc, List.append_nil]) ?_
    refine y_eq rfl rfl (st' := [.int 0]) (by rw [he]) ?_
    refine y_iload Z dL_law_1464 1 rfl ?_
    refine y_icmp_eq (tgt := 1471) Z dL_law_1466 (by decide) (fun _ => ?_) (fun h => absurd rfl h)
    refine y_iload Z dL_law_1471 1 rfl ?_
    refine y_if_ne (tgt := 1488) Z dL_law_1473 (by decide) (fun h => absurd rfl h) (fun _ => ?_)
    refine y_aload_n Z dL_law_1476 5 rfl rfl ?_
    refine y_iconst (v := 0) Z dL_law_1477 (by decide) ?_
    refine y_lald Z 27 1 rfl ht1 (vpd (by decide) (by decide)) 0 (by decide) dL_law_1478 ?_
    refine y_iload Z dL_law_1479 0 rfl ?_
    refine y_i2l Z dL_law_1481 ?_
    refine y_eq rfl rfl (st' := [.long (Int32.toInt64 (if mv_go (mv_ia (xs (i + 1)) (S 0 1)) (mv_in (Int32.toInt64 (xs (i + 2))) 0 3) 1 = 0 then 0 else (S 3) (cl (6 * (xs (i + 1)) + (xs (i + 2)))))), .long (Int32.toInt64 (if mv_go (mv_ia (xs (i + 1)) (S 0 1)) (mv_in (Int32.toInt64 (xs (i + 2))) 0 3) 1 = 0 then 0 else (S 3) (cl (6 * (xs (i + 1)) + (xs (i + 2))))))]) (by rw [← her]; rfl) ?_
    refine y_lcmp Z dL_law_1482 ?_
    refine y_if_eq (tgt := 1488) Z dL_law_1483 (by decide) (fun _ => ?_) (fun h => absurd (lgc_self _) h)
    refine y_goto (tgt := 1756) Z dL_law_1488 (by decide) ?_
    refine y_lv [2, 3, 4, 5, 6] (lv' := [(0, .ref b), (1, .ref (aJ 0)), (2, .ref (aS 0)), (3, .ref aO), (4, .int (nI i))]) rfl ?_
    exact y_wide (k := cells + 1) (n := slots + 6) (by omega) (by omega) (K _ _ _ hI)
  · refine y_aload_n Z dL_law_1423 1 rfl rfl ?_
    refine y_aload_n Z dL_law_1424 0 rfl rfl ?_
    refine y_iload Z dL_law_1425 4 rfl ?_
    refine y_iconst (v := 1) Z dL_law_1427 (by decide) ?_
    refine y_iadd Z dL_law_1428 ?_
    refine y_sld Z hX hbl hbA (sx_in hi hL 1 (by decide)).1 (i + 1) (sx_in hi hL 1 (by decide)).2 dL_law_1429 ?_
    refine y_aload_n Z dL_law_1430 0 rfl rfl ?_
    refine y_iload Z dL_law_1431 4 rfl ?_
    refine y_iconst (v := 2) Z dL_law_1433 (by decide) ?_
    refine y_iadd Z dL_law_1434 ?_
    refine y_sld Z hX hbl hbA (sx_in hi hL 2 (by decide)).1 (i + 2) (sx_in hi hL 2 (by decide)).2 dL_law_1435 ?_
    refine y_aload_n Z dL_law_1436 3 rfl rfl ?_
    refine y_SWw (rest := []) Z X (k_L_act_b0 l htr D ht0 ht1 aJ J aO O (xs (i + 1)) (xs (i + 2)) hb) (y_cwSW 4 Z ml_RL_176 st_L_act in_L co_L_act rfl rfl hs_L_act ⟨Nat.le_of_ble_eq_true rfl, Nat.le_of_ble_eq_true rfl⟩) List.nil (wMd cI aS S) (by simp only [List.nil_append, List.append_assoc]) rfl rfl (Nat.le_of_ble_eq_true rfl) dL_law_1437 ⟨by show _ ≤ 1069; omega, by show _ ≤ 10084; omega⟩ (wL cI cL aJ J aO O aS S) (by simp only [wL, List.nil_append, List.append_assoc]) ?_
    refine y_istore Z [(5, .int 1), (0, .ref b), (1, .ref (aJ 0)), (2, .ref (aS 0)), (3, .ref aO), (4, .int (nI i))] dL_law_1440 (by decide) rfl ?_
    refine y_aload_n Z dL_law_1442 3 rfl rfl ?_
    refine y_aload_n Z dL_law_1443 1 rfl rfl ?_
    refine y_iload Z dL_law_1444 5 rfl ?_
    refine y_iconst (v := 1) Z dL_law_1446 (by decide) ?_
    refine y_iadd Z dL_law_1447 ?_
    refine y_sld Z hX hbl hbA (sx_in hi hL 1 (by decide)).1 (i + 1) (sx_in hi hL 1 (by decide)).2 dL_law_1448 ?_
    refine y_aload_n Z dL_law_1449 1 rfl rfl ?_
    refine y_iload Z dL_law_1450 5 rfl ?_
    refine y_iconst (v := 2) Z dL_law_1452 (by decide) ?_
    refine y_iadd Z dL_law_1453 ?_
    refine y_sld Z hX hbl hbA (sx_in hi hL 2 (by decide)).1 (i + 2) (sx_in hi hL 2 (by decide)).2 dL_law_1454 ?_
    refine y_VIw (rest := []) Z (k_X6_act l D ht0 aS S (xs (i + 1)) (xs (i + 2)) m_n) (y_cwV 2 Z ml_RL_178 im_X6_act se_X6_act in_X6 co_X6_act rfl rfl hd_X6_act ⟨Nat.le_of_ble_eq_true rfl, Nat.le_of_ble_eq_true rfl⟩) (wVM cI aJ J ++ wOut cL aO O) List.nil (by simp only [List.append_assoc, List.append_nil]) 6 0 rfl rfl rfl rfl (Nat.le_of_ble_eq_true rfl) dL_law_1455 ⟨by show _ ≤ 1069; omega, by show _ ≤ 10084; omega⟩ (wL cI cL aJ J aO O aS (mc_act S (xs (i + 1)) (xs (i + 2)))) (by simp only [wL, mc_act, List.append_assoc, List.append_nil, wMix, wLog, wPic, wRep, wScr, wVM, wMd, sR_eq, sR_ne, sF_eq, sF_ne, upd_eq, upd_ne, gs_eq, gs_ne, gm_4, gm_ne, Nat.reduceBEq]) ?_
    refine y_istore Z [(6, .int (if mv_go (mv_ia (xs (i + 1)) (S 0 1)) (mv_in (Int32.toInt64 (xs (i + 2))) 0 3) 1 = 0 then 0 else (S 3) (cl (6 * (xs (i + 1)) + (xs (i + 2)))))), (5, .int 1), (0, .ref b), (1, .ref (aJ 0)), (2, .ref (aS 0)), (3, .ref aO), (4, .int (nI i))] dL_law_1458 (by decide) rfl ?_
    refine y_aload_n Z dL_law_1460 4 rfl rfl ?_
    refine y_VIw (rest := []) Z (k_X6_thrown l D ht0 aS (mc_act S (xs (i + 1)) (xs (i + 2)))) (y_cwV 0 Z ml_RL_102 im_X6_thrown se_X6_thrown in_X6 co_X6_thrown rfl rfl hd_X6_thrown ⟨Nat.le_of_ble_eq_true rfl, Nat.le_of_ble_eq_true rfl⟩) (wVM cI aJ J ++ wOut cL aO O) List.nil (by simp only [List.append_assoc, List.append_nil]) 6 0 rfl rfl rfl rfl (Nat.le_of_ble_eq_true rfl) dL_law_1461 ⟨by show _ ≤ 1069; omega, by show _ ≤ 10084; omega⟩ (wL cI cL aJ J aO O aS (mc_act S (xs (i + 1)) (xs (i + 2)))) (by simp only [wL, List.append_assoc, List.append_nil]) ?_
    refine y_eq rfl rfl (st' := [.int 1]) (by rw [he]) ?_
    refine y_iload Z dL_law_1464 1 rfl ?_
    refine y_icmp_eq (tgt := 1471) Z dL_law_1466 (by decide) (fun _ => ?_) (fun h => absurd rfl h)
    refine y_iload Z dL_law_1471 1 rfl ?_
    refine y_if_ne (tgt := 1488) Z dL_law_1473 (by decide) (fun _ => ?_) (fun h => absurd h (by decide))
    refine y_goto (tgt := 1756) Z dL_law_1488 (by decide) ?_
    refine y_lv [2, 3, 4, 5, 6] (lv' := [(0, .ref b), (1, .ref (aJ 0)), (2, .ref (aS 0)), (3, .ref aO), (4, .int (nI i))]) rfl ?_
    exact y_wide (k := cells + 1) (n := slots + 6) (by omega) (by omega) (K _ _ _ hI)
  · refine y_aload_n Z dL_law_1423 1 rfl rfl ?_
    refine y_aload_n Z dL_law_1424 0 rfl rfl ?_
    refine y_iload Z dL_law_1425 4 rfl ?_
    refine y_iconst (v := 1) Z dL_law_1427 (by decide) ?_
    refine y_iadd Z dL_law_1428 ?_
    refine y_sld Z hX hbl hbA (sx_in hi hL 1 (by decide)).1 (i + 1) (sx_in hi hL 1 (by decide)).2 dL_law_1429 ?_
    refine y_aload_n Z dL_law_1430 0 rfl rfl ?_
    refine y_iload Z dL_law_1431 4 rfl ?_
    refine y_iconst (v := 2) Z dL_law_1433 (by decide) ?_
    refine y_iadd Z dL_law_1434 ?_
    refine y_sld Z hX hbl hbA (sx_in hi hL 2 (by decide)).1 (i + 2) (sx_in hi hL 2 (by decide)).2 dL_law_1435 ?_
    refine y_aload_n Z dL_law_1436 3 rfl rfl ?_
    refine y_SWw (rest := []) Z X (k_L_act_b1 l htr D ht0 ht1 aJ J aO O (xs (i + 1)) (xs (i + 2)) o_a hb) (y_cwSW 4 Z ml_RL_176 st_L_act in_L co_L_act rfl rfl hs_L_act ⟨Nat.le_of_ble_eq_true rfl, Nat.le_of_ble_eq_true rfl⟩) List.nil (wMd cI aS S) (by simp only [List.nil_append, List.append_assoc]) rfl rfl (Nat.le_of_ble_eq_true rfl) dL_law_1437 ⟨by show _ ≤ 1069; omega, by show _ ≤ 10084; omega⟩ (wL cI cL aJ J aO O aS S) (by simp only [wL, List.nil_append, List.append_assoc]) ?_
    refine y_istore Z [(5, .int 2), (0, .ref b), (1, .ref (aJ 0)), (2, .ref (aS 0)), (3, .ref aO), (4, .int (nI i))] dL_law_1440 (by decide) rfl ?_
    refine y_aload_n Z dL_law_1442 3 rfl rfl ?_
    refine y_aload_n Z dL_law_1443 1 rfl rfl ?_
    refine y_iload Z dL_law_1444 5 rfl ?_
    refine y_iconst (v := 1) Z dL_law_1446 (by decide) ?_
    refine y_iadd Z dL_law_1447 ?_
    refine y_sld Z hX hbl hbA (sx_in hi hL 1 (by decide)).1 (i + 1) (sx_in hi hL 1 (by decide)).2 dL_law_1448 ?_
    refine y_aload_n Z dL_law_1449 1 rfl rfl ?_
    refine y_iload Z dL_law_1450 5 rfl ?_
    refine y_iconst (v := 2) Z dL_law_1452 (by decide) ?_
    refine y_iadd Z dL_law_1453 ?_
    refine y_sld Z hX hbl hbA (sx_in hi hL 2 (by decide)).1 (i + 2) (sx_in hi hL 2 (by decide)).2 dL_law_1454 ?_
    refine y_VIw (rest := []) Z (k_X6_act l D ht0 aS S (xs (i + 1)) (xs (i + 2)) m_n) (y_cwV 2 Z ml_RL_178 im_X6_act se_X6_act in_X6 co_X6_act rfl rfl hd_X6_act ⟨Nat.le_of_ble_eq_true rfl, Nat.le_of_ble_eq_true rfl⟩) (wVM cI aJ J ++ wOut cL aO O) List.nil (by simp only [List.append_assoc, List.append_nil]) 6 0 rfl rfl rfl rfl (Nat.le_of_ble_eq_true rfl) dL_law_1455 ⟨by show _ ≤ 1069; omega, by show _ ≤ 10084; omega⟩ (wL cI cL aJ J aO O aS (mc_act S (xs (i + 1)) (xs (i + 2)))) (by simp only [wL, mc_act, List.append_assoc, List.append_nil, wMix, wLog, wPic, wRep, wScr, wVM, wMd, sR_eq, sR_ne, sF_eq, sF_ne, upd_eq, upd_ne, gs_eq, gs_ne, gm_4, gm_ne, Nat.reduceBEq]) ?_
    refine y_istore Z [(6, .int (if mv_go (mv_ia (xs (i + 1)) (S 0 1)) (mv_in (Int32.toInt64 (xs (i + 2))) 0 3) 1 = 0 then 0 else (S 3) (cl (6 * (xs (i + 1)) + (xs (i + 2)))))), (5, .int 2), (0, .ref b), (1, .ref (aJ 0)), (2, .ref (aS 0)), (3, .ref aO), (4, .int (nI i))] dL_law_1458 (by decide) rfl ?_
    refine y_aload_n Z dL_law_1460 4 rfl rfl ?_
    refine y_VIw (rest := []) Z (k_X6_thrown l D ht0 aS (mc_act S (xs (i + 1)) (xs (i + 2)))) (y_cwV 0 Z ml_RL_102 im_X6_thrown se_X6_thrown in_X6 co_X6_thrown rfl rfl hd_X6_thrown ⟨Nat.le_of_ble_eq_true rfl, Nat.le_of_ble_eq_true rfl⟩) (wVM cI aJ J ++ wOut cL aO O) List.nil (by simp only [List.append_assoc, List.append_nil]) 6 0 rfl rfl rfl rfl (Nat.le_of_ble_eq_true rfl) dL_law_1461 ⟨by show _ ≤ 1069; omega, by show _ ≤ 10084; omega⟩ (wL cI cL aJ J aO O aS (mc_act S (xs (i + 1)) (xs (i + 2)))) (by simp only [wL, List.append_assoc, List.append_nil]) ?_
    refine y_eq rfl rfl (st' := [.int 2]) (by rw [he]) ?_
    refine y_iload Z dL_law_1464 1 rfl ?_
    refine y_icmp_eq (tgt := 1471) Z dL_law_1466 (by decide) (fun _ => ?_) (fun h => absurd rfl h)
    refine y_iload Z dL_law_1471 1 rfl ?_
    refine y_if_ne (tgt := 1488) Z dL_law_1473 (by decide) (fun _ => ?_) (fun h => absurd h (by decide))
    refine y_goto (tgt := 1756) Z dL_law_1488 (by decide) ?_
    refine y_lv [2, 3, 4, 5, 6] (lv' := [(0, .ref b), (1, .ref (aJ 0)), (2, .ref (aS 0)), (3, .ref aO), (4, .int (nI i))]) rfl ?_
    exact y_wide (k := cells + 1) (n := slots + 6) (by omega) (by omega) (K _ _ _ hI)
set_option maxHeartbeats 4000000 in
set_option maxRecDepth 100000 in
theorem lc_takeOut {p : Program} {l : Launch} {e : Env} {s : State} {m : MethodId} {args : Array Value} {below : List Frame} {meth : Method} {c : Code} {Q : State → Prop} {D : va_G} {A : Nat → Prop} {tys : List (ClassId × FieldType)} {cI cL : ClassId} (Z : Zz p m c cL_law 9 s args wsL_law RL D tys A) (X : Xz s A) (htr : l.stackTraces = false) (ht0 : tys[0]? = some (cI, .int)) (ht1 : tys[1]? = some (cL, .long)) {b L : Nat} {xs : Nat → Int32} (hX : va_X b L xs s s.heap) (hbl : b < s.heap.size) (hbA : ¬ A b) {i : Nat} (hi : i + 4 < L) (hL : L ≤ 2560) {cells slots : Nat} (hc : cells + 1 ≤ 1069) (hs : slots + 6 ≤ 10084) {aJ : Nat → Nat} {aO : Nat} {aS : Nat → Nat} {J : Nat → Nat → Nat → Int32} {O : Nat → Int64} {S : Nat → Nat → Int32} (I : Inv J S) (K : ∀ (J2 : Nat → Nat → Nat → Int32) (O2 : Nat → Int64) (S2 : Nat → Nat → Int32), Inv J2 S2 → Yy p l e room_1 s m args below meth c Q D A 9 (cells + 1) (slots + 6) (wL cI cL aJ J2 aO O2 aS S2) [(0, .ref b), (1, .ref (aJ 0)), (2, .ref (aS 0)), (3, .ref aO), (4, .int (nI i))] [] 1756) : Yy p l e room_1 s m args below meth c Q D A 9 cells slots (wL cI cL aJ J aO O aS S) [(0, .ref b), (1, .ref (aJ 0)), (2, .ref (aS 0)), (3, .ref aO), (4, .int (nI i))] [] 1491 := by
  obtain ⟨m_a, m_m, m_v2, m_c, hr⟩ := c2_takeOut I (xs (i + 1))
  rcases hr with ⟨o_a, c_n2, c_rs, he, her, hI⟩ | ⟨hb, he, hI⟩
  · refine y_aload_n Z dL_law_1491 1 rfl rfl ?_
    refine y_aload_n Z dL_law_1492 0 rfl rfl ?_
    refine y_iload Z dL_law_1493 4 rfl ?_
    refine y_iconst (v := 1) Z dL_law_1495 (by decide) ?_
    refine y_iadd Z dL_law_1496 ?_
    refine y_sld Z hX hbl hbA (sx_in hi hL 1 (by decide)).1 (i + 1) (sx_in hi hL 1 (by decide)).2 dL_law_1497 ?_
    refine y_aload_n Z dL_law_1498 3 rfl rfl ?_
    refine y_SWw (rest := []) Z X (k_L_takeOut l htr D ht0 ht1 aJ J aO O (xs (i + 1)) c_n2 c_rs o_a) (y_cwSW 3 Z ml_RL_179 st_L_takeOut in_L co_L_takeOut rfl rfl hs_L_takeOut ⟨Nat.le_of_ble_eq_true rfl, Nat.le_of_ble_eq_true rfl⟩) List.nil (wMd cI aS S) (by simp only [List.nil_append, List.append_assoc]) rfl rfl (Nat.le_of_ble_eq_true rfl) dL_law_1499 ⟨by show _ ≤ 1069; omega, by show _ ≤ 10084; omega⟩ (wL cI cL aJ (vm_tk J (xs (i + 1))) aO (vp_updL O 0 (Int32.toInt64 (vm_tk J (xs (i + 1)) 3 0 0))) aS S) (by simp only [wL, List.nil_append, List.append_assoc]) ?_
    refine y_istore Z [(5, .int 0), (0, .ref b), (1, .ref (aJ 0)), (2, .ref (aS 0)), (3, .ref aO), (4, .int (nI i))] dL_law_1502 (by decide) rfl ?_
    refine y_aload_n Z dL_law_1504 3 rfl rfl ?_
    refine y_aload_n Z dL_law_1505 1 rfl rfl ?_
    refine y_iload Z dL_law_1506 5 rfl ?_
    refine y_iconst (v := 1) Z dL_law_1508 (by decide) ?_
    refine y_iadd Z dL_law_1509 ?_
    refine y_sld Z hX hbl hbA (sx_in hi hL 1 (by decide)).1 (i + 1) (sx_in hi hL 1 (by decide)).2 dL_law_1510 ?_
    refine y_VIw (rest := []) Z (k_X6_takeOut l D ht0 aS S (xs (i + 1)) m_a m_m m_v2 m_c) (y_cwV 1 Z ml_RL_181 im_X6_takeOut se_X6_takeOut in_X6 co_X6_takeOut rfl rfl hd_X6_takeOut ⟨Nat.le_of_ble_eq_true rfl, Nat.le_of_ble_eq_true rfl⟩) (wVM cI aJ (vm_tk J (xs (i + 1))) ++ wOut cL aO (vp_updL O 0 (Int32.toInt64 (vm_tk J (xs (i + 1)) 3 0 0)))) List.nil (by simp only [List.append_assoc, List.append_nil]) 6 0 rfl rfl rfl rfl (Nat.le_of_ble_eq_true rfl) dL_law_1511 ⟨by show _ ≤ 1069; omega, by show _ ≤ 10084; omega⟩ (wL cI cL aJ (vm_tk J (xs (i + 1))) aO (vp_updL O 0 (Int32.toInt64 (vm_tk J (xs (i + 1)) 3 0 0))) aS (mc_takeOut S (xs (i + 1)))) (by simp only [wL, mc_takeOut, List.append_assoc, List.append_nil, wMix, wLog, wPic, wRep, wScr, wVM, wMd, sR_eq, sR_ne, sF_eq, sF_ne, upd_eq, upd_ne, gs_eq, gs_ne, gm_4, gm_ne, Nat.reduceBEq]) ?_
    refine y_istore Z [(6, .int (if mv_go (mv_ia (xs (i + 1)) (S 0 1)) 1 1 = 0 then 0 else (S 0 1) - 1)), (5, .int 0), (0, .ref b), (1, .ref (aJ 0)), (2, .ref (aS 0)), (3, .ref aO), (4, .int (nI i))] dL_law_1514 (by decide) rfl ?_
    refine y_aload_n Z dL_law_1516 4 rfl rfl ?_
    refine y_VIw (rest := []) Z (k_X6_thrown l D ht0 aS (mc_takeOut S (xs (i + 1)))) (y_cwV 0 Z ml_RL_102 im_X6_thrown se_X6_thrown in_X6 co_X6_thrown rfl rfl hd_X6_thrown ⟨Nat.le_of_ble_eq_true rfl, Nat.le_of_ble_eq_true rfl⟩) (wVM cI aJ (vm_tk J (xs (i + 1))) ++ wOut cL aO (vp_updL O 0 (Int32.toInt64 (vm_tk J (xs (i + 1)) 3 0 0)))) List.nil (by simp only [List.append_assoc, List.append_nil]) 6 0 rfl rfl rfl rfl (Nat.le_of_ble_eq_true rfl) dL_law_1517 ⟨by show _ ≤ 1069; omega, by show _ ≤ 10084; omega⟩ (wL cI cL aJ (vm_tk J (xs (i + 1))) aO (vp_updL O 0 (Int32.toInt64 (vm_tk J (xs (i + 1)) 3 0 0))) aS (mc_takeOut S (xs (i + 1)))) (by simp only [wL, List.append_assoc, List.append_nil]) ?_
    refine y_eq rfl rfl (st' := [.int 0]) (by rw [he]) ?_
    refine y_iload Z dL_law_1520 1 rfl ?_
    refine y_icmp_eq (tgt := 1527) Z dL_law_1522 (by decide) (fun _ => ?_) (fun h => absurd rfl h)
    refine y_iload Z dL_law_1527 1 rfl ?_
    refine y_if_ne (tgt := 1544) Z dL_law_1529 (by decide) (fun h => absurd rfl h) (fun _ => ?_)
    refine y_aload_n Z dL_law_1532 5 rfl rfl ?_
    refine y_iconst (v := 0) Z dL_law_1533 (by decide) ?_
    refine y_lald Z 27 1 rfl ht1 (vpd (by decide) (by decide)) 0 (by decide) dL_law_1534 ?_
    refine y_iload Z dL_law_1535 0 rfl ?_
    refine y_i2l Z dL_law_1537 ?_
    refine y_eq rfl rfl (st' := [.long (Int32.toInt64 (if mv_go (mv_ia (xs (i + 1)) (S 0 1)) 1 1 = 0 then 0 else (S 0 1) - 1)), .long (Int32.toInt64 (if mv_go (mv_ia (xs (i + 1)) (S 0 1)) 1 1 = 0 then 0 else (S 0 1) - 1))]) (by rw [← her]; rfl) ?_
    refine y_lcmp Z dL_law_1538 ?_
    refine y_if_eq (tgt := 1544) Z dL_law_1539 (by decide) (fun _ => ?_) (fun h => absurd (lgc_self _) h)
    refine y_goto (tgt := 1756) Z dL_law_1544 (by decide) ?_
    refine y_lv [2, 3, 4, 5, 6] (lv' := [(0, .ref b), (1, .ref (aJ 0)), (2, .ref (aS 0)), (3, .ref aO), (4, .int (nI i))]) rfl ?_
    exact y_wide (k := cells + 1) (n := slots + 6) (by omega) (by omega) (K _ _ _ hI)
  · refine y_aload_n Z dL_law_1491 1 rfl rfl ?_
    refine y_aload_n Z dL_law_1492 0 rfl rfl ?_
    refine y_iload Z dL_law_1493 4 rfl ?_
    refine y_iconst (v := 1) Z dL_law_1495 (by decide) ?_
    refine y_iadd Z dL_law_1496 ?_
    refine y_sld Z hX hbl hbA (sx_in hi hL 1 (by decide)).1 (i + 1) (sx_in hi hL 1 (by decide)).2 dL_law_1497 ?_
    refine y_aload_n Z dL_law_1498 3 rfl rfl ?_
    refine y_SWw (rest := []) Z X (k_L_takeOut_b0 l htr D ht0 ht1 aJ J aO O (xs (i + 1)) hb) (y_cwSW 3 Z ml_RL_179 st_L_takeOut in_L co_L_takeOut rfl rfl hs_L_takeOut ⟨Nat.le_of_ble_eq_true rfl, Nat.le_of_ble_eq_true rfl⟩) List.nil (wMd cI aS S) (by simp only [List.nil_append, List.append_assoc]) rfl rfl (Nat.le_of_ble_eq_true rfl) dL_law_1499 ⟨by show _ ≤ 1069; omega, by show _ ≤ 10084; omega⟩ (wL cI cL aJ J aO O aS S) (by simp only [wL, List.nil_append, List.append_assoc]) ?_
    refine y_istore Z [(5, .int 1), (0, .ref b), (1, .ref (aJ 0)), (2, .ref (aS 0)), (3, .ref aO), (4, .int (nI i))] dL_law_1502 (by decide) rfl ?_
    refine y_aload_n Z dL_law_1504 3 rfl rfl ?_
    refine y_aload_n Z dL_law_1505 1 rfl rfl ?_
    refine y_iload Z dL_law_1506 5 rfl ?_
    refine y_iconst (v := 1) Z dL_law_1508 (by decide) ?_
    refine y_iadd Z dL_law_1509 ?_
    refine y_sld Z hX hbl hbA (sx_in hi hL 1 (by decide)).1 (i + 1) (sx_in hi hL 1 (by decide)).2 dL_law_1510 ?_
    refine y_VIw (rest := []) Z (k_X6_takeOut l D ht0 aS S (xs (i + 1)) m_a m_m m_v2 m_c) (y_cwV 1 Z ml_RL_181 im_X6_takeOut se_X6_takeOut in_X6 co_X6_takeOut rfl rfl hd_X6_takeOut ⟨Nat.le_of_ble_eq_true rfl, Nat.le_of_ble_eq_true rfl⟩) (wVM cI aJ J ++ wOut cL aO O) List.nil (by simp only [List.append_assoc, List.append_nil]) 6 0 rfl rfl rfl rfl (Nat.le_of_ble_eq_true rfl) dL_law_1511 ⟨by show _ ≤ 1069; omega, by show _ ≤ 10084; omega⟩ (wL cI cL aJ J aO O aS (mc_takeOut S (xs (i + 1)))) (by simp only [wL, mc_takeOut, List.append_assoc, List.append_nil, wMix, wLog, wPic, wRep, wScr, wVM, wMd, sR_eq, sR_ne, sF_eq, sF_ne, upd_eq, upd_ne, gs_eq, gs_ne, gm_4, gm_ne, Nat.reduceBEq]) ?_
    refine y_istore Z [(6, .int (if mv_go (mv_ia (xs (i + 1)) (S 0 1)) 1 1 = 0 then 0 else (S 0 1) - 1)), (5, .int 1), (0, .ref b), (1, .ref (aJ 0)), (2, .ref (aS 0)), (3, .ref aO), (4, .int (nI i))] dL_law_1514 (by decide) rfl ?_
    refine y_aload_n Z dL_law_1516 4 rfl rfl ?_
    refine y_VIw (rest := []) Z (k_X6_thrown l D ht0 aS (mc_takeOut S (xs (i + 1)))) (y_cwV 0 Z ml_RL_102 im_X6_thrown se_X6_thrown in_X6 co_X6_thrown rfl rfl hd_X6_thrown ⟨Nat.le_of_ble_eq_true rfl, Nat.le_of_ble_eq_true rfl⟩) (wVM cI aJ J ++ wOut cL aO O) List.nil (by simp only [List.append_assoc, List.append_nil]) 6 0 rfl rfl rfl rfl (Nat.le_of_ble_eq_true rfl) dL_law_1517 ⟨by show _ ≤ 1069; omega, by show _ ≤ 10084; omega⟩ (wL cI cL aJ J aO O aS (mc_takeOut S (xs (i + 1)))) (by simp only [wL, List.append_assoc, List.append_nil]) ?_
    refine y_eq rfl rfl (st' := [.int 1]) (by rw [he]) ?_
    refine y_iload Z dL_law_1520 1 rfl ?_
    refine y_icmp_eq (tgt := 1527) Z dL_law_1522 (by decide) (fun _ => ?_) (fun h => absurd rfl h)
    refine y_iload Z dL_law_1527 1 rfl ?_
    refine y_if_ne (tgt := 1544) Z dL_law_1529 (by decide) (fun _ => ?_) (fun h => absurd h (by decide))
    refine y_goto (tgt := 1756) Z dL_law_1544 (by decide) ?_
    refine y_lv [2, 3, 4, 5, 6] (lv' := [(0, .ref b), (1, .ref (aJ 0)), (2, .ref (aS 0)), (3, .ref aO), (4, .int (nI i))]) rfl ?_
    exact y_wide (k := cells + 1) (n := slots + 6) (by omega) (by omega) (K _ _ _ hI)
set_option maxHeartbeats 4000000 in
set_option maxRecDepth 100000 in
theorem lc_undo {p : Program} {l : Launch} {e : Env} {s : State} {m : MethodId} {args : Array Value} {below : List Frame} {meth : Method} {c : Code} {Q : State → Prop} {D : va_G} {A : Nat → Prop} {tys : List (ClassId × FieldType)} {cI cL : ClassId} (Z : Zz p m c cL_law 9 s args wsL_law RL D tys A) (X : Xz s A) (htr : l.stackTraces = false) (ht0 : tys[0]? = some (cI, .int)) (ht1 : tys[1]? = some (cL, .long)) {b L : Nat} {xs : Nat → Int32} (hX : va_X b L xs s s.heap) (hbl : b < s.heap.size) (hbA : ¬ A b) {i : Nat} (hi : i + 4 < L) (hL : L ≤ 2560) {cells slots : Nat} (hc : cells + 1 ≤ 1069) (hs : slots + 6 ≤ 10084) {aJ : Nat → Nat} {aO : Nat} {aS : Nat → Nat} {J : Nat → Nat → Nat → Int32} {O : Nat → Int64} {S : Nat → Nat → Int32} (I : Inv J S) (K : ∀ (J2 : Nat → Nat → Nat → Int32) (O2 : Nat → Int64) (S2 : Nat → Nat → Int32), Inv J2 S2 → Yy p l e room_1 s m args below meth c Q D A 9 (cells + 1) (slots + 6) (wL cI cL aJ J2 aO O2 aS S2) [(0, .ref b), (1, .ref (aJ 0)), (2, .ref (aS 0)), (3, .ref aO), (4, .int (nI i))] [] 1756) : Yy p l e room_1 s m args below meth c Q D A 9 cells slots (wL cI cL aJ J aO O aS S) [(0, .ref b), (1, .ref (aJ 0)), (2, .ref (aS 0)), (3, .ref aO), (4, .int (nI i))] [] 1547 := by
  obtain ⟨m_a, m_m, m_v2, m_c, hr⟩ := c2_undo I 
  rcases hr with ⟨o_u, c_n2, c_rs, he, her, hI⟩ | ⟨hb, he, hI⟩
  · refine y_aload_n Z dL_law_1547 1 rfl rfl ?_
    refine y_aload_n Z dL_law_1548 3 rfl rfl ?_
    refine y_SWw (rest := []) Z X (k_L_undo l htr D ht0 ht1 aJ J aO O  c_n2 c_rs o_u) (y_cwSW 2 Z ml_RL_182 st_L_undo in_L co_L_undo rfl rfl hs_L_undo ⟨Nat.le_of_ble_eq_true rfl, Nat.le_of_ble_eq_true rfl⟩) List.nil (wMd cI aS S) (by simp only [List.nil_append, List.append_assoc]) rfl rfl (Nat.le_of_ble_eq_true rfl) dL_law_1549 ⟨by show _ ≤ 1069; omega, by show _ ≤ 10084; omega⟩ (wL cI cL aJ (vm_tk J (J 3 0 0 - 1)) aO (vp_updL O 0 (Int32.toInt64 (vm_tk J (J 3 0 0 - 1) 3 0 0))) aS S) (by simp only [wL, List.nil_append, List.append_assoc]) ?_
    refine y_istore Z [(5, .int 0), (0, .ref b), (1, .ref (aJ 0)), (2, .ref (aS 0)), (3, .ref aO), (4, .int (nI i))] dL_law_1552 (by decide) rfl ?_
    refine y_aload_n Z dL_law_1554 3 rfl rfl ?_
    refine y_VIw (rest := []) Z (k_X6_undo l D ht0 aS S m_a m_m m_v2 m_c) (y_cwV 0 Z ml_RL_184 im_X6_undo se_X6_undo in_X6 co_X6_undo rfl rfl hd_X6_undo ⟨Nat.le_of_ble_eq_true rfl, Nat.le_of_ble_eq_true rfl⟩) (wVM cI aJ (vm_tk J (J 3 0 0 - 1)) ++ wOut cL aO (vp_updL O 0 (Int32.toInt64 (vm_tk J (J 3 0 0 - 1) 3 0 0)))) List.nil (by simp only [List.append_assoc, List.append_nil]) 6 0 rfl rfl rfl rfl (Nat.le_of_ble_eq_true rfl) dL_law_1555 ⟨by show _ ≤ 1069; omega, by show _ ≤ 10084; omega⟩ (wL cI cL aJ (vm_tk J (J 3 0 0 - 1)) aO (vp_updL O 0 (Int32.toInt64 (vm_tk J (J 3 0 0 - 1) 3 0 0))) aS (mc_undo S)) (by simp only [wL, mc_undo, List.append_assoc, List.append_nil, wMix, wLog, wPic, wRep, wScr, wVM, wMd, sR_eq, sR_ne, sF_eq, sF_ne, upd_eq, upd_ne, gs_eq, gs_ne, gm_4, gm_ne, Nat.reduceBEq]) ?_
    refine y_istore Z [(6, .int (if mv_go (mv_po (S 0 1)) 1 1 = 0 then 0 else (S 0 1) - 1)), (5, .int 0), (0, .ref b), (1, .ref (aJ 0)), (2, .ref (aS 0)), (3, .ref aO), (4, .int (nI i))] dL_law_1558 (by decide) rfl ?_
    refine y_aload_n Z dL_law_1560 4 rfl rfl ?_
    refine y_VIw (rest := []) Z (k_X6_thrown l D ht0 aS (mc_undo S)) (y_cwV 0 Z ml_RL_102 im_X6_thrown se_X6_thrown in_X6 co_X6_thrown rfl rfl hd_X6_thrown ⟨Nat.le_of_ble_eq_true rfl, Nat.le_of_ble_eq_true rfl⟩) (wVM cI aJ (vm_tk J (J 3 0 0 - 1)) ++ wOut cL aO (vp_updL O 0 (Int32.toInt64 (vm_tk J (J 3 0 0 - 1) 3 0 0)))) List.nil (by simp only [List.append_assoc, List.append_nil]) 6 0 rfl rfl rfl rfl (Nat.le_of_ble_eq_true rfl) dL_law_1561 ⟨by show _ ≤ 1069; omega, by show _ ≤ 10084; omega⟩ (wL cI cL aJ (vm_tk J (J 3 0 0 - 1)) aO (vp_updL O 0 (Int32.toInt64 (vm_tk J (J 3 0 0 - 1) 3 0 0))) aS (mc_undo S)) (by simp only [wL, List.append_assoc, List.append_nil]) ?_
    refine y_eq rfl rfl (st' := [.int 0]) (by rw [he]) ?_
    refine y_iload Z dL_law_1564 1 rfl ?_
    refine y_icmp_eq (tgt := 1571) Z dL_law_1566 (by decide) (fun _ => ?_) (fun h => absurd rfl h)
    refine y_iload Z dL_law_1571 1 rfl ?_
    refine y_if_ne (tgt := 1588) Z dL_law_1573 (by decide) (fun h => absurd rfl h) (fun _ => ?_)
    refine y_aload_n Z dL_law_1576 5 rfl rfl ?_
    refine y_iconst (v := 0) Z dL_law_1577 (by decide) ?_
    refine y_lald Z 27 1 rfl ht1 (vpd (by decide) (by decide)) 0 (by decide) dL_law_1578 ?_
    refine y_iload Z dL_law_1579 0 rfl ?_
    refine y_i2l Z dL_law_1581 ?_
    refine y_eq rfl rfl (st' := [.long (Int32.toInt64 (if mv_go (mv_po (S 0 1)) 1 1 = 0 then 0 else (S 0 1) - 1)), .long (Int32.toInt64 (if mv_go (mv_po (S 0 1)) 1 1 = 0 then 0 else (S 0 1) - 1))]) (by rw [← her]; rfl) ?_
    refine y_lcmp Z dL_law_1582 ?_
    refine y_if_eq (tgt := 1588) Z dL_law_1583 (by decide) (fun _ => ?_) (fun h => absurd (lgc_self _) h)
    refine y_goto (tgt := 1756) Z dL_law_1588 (by decide) ?_
    refine y_lv [2, 3, 4, 5, 6] (lv' := [(0, .ref b), (1, .ref (aJ 0)), (2, .ref (aS 0)), (3, .ref aO), (4, .int (nI i))]) rfl ?_
    exact y_wide (k := cells + 1) (n := slots + 6) (by omega) (by omega) (K _ _ _ hI)
  · refine y_aload_n Z dL_law_1547 1 rfl rfl ?_
    refine y_aload_n Z dL_law_1548 3 rfl rfl ?_
    refine y_SWw (rest := []) Z X (k_L_undo_b0 l htr D ht0 ht1 aJ J aO O  hb) (y_cwSW 2 Z ml_RL_182 st_L_undo in_L co_L_undo rfl rfl hs_L_undo ⟨Nat.le_of_ble_eq_true rfl, Nat.le_of_ble_eq_true rfl⟩) List.nil (wMd cI aS S) (by simp only [List.nil_append, List.append_assoc]) rfl rfl (Nat.le_of_ble_eq_true rfl) dL_law_1549 ⟨by show _ ≤ 1069; omega, by show _ ≤ 10084; omega⟩ (wL cI cL aJ J aO O aS S) (by simp only [wL, List.nil_append, List.append_assoc]) ?_
    refine y_istore Z [(5, .int 1), (0, .ref b), (1, .ref (aJ 0)), (2, .ref (aS 0)), (3, .ref aO), (4, .int (nI i))] dL_law_1552 (by decide) rfl ?_
    refine y_aload_n Z dL_law_1554 3 rfl rfl ?_
    refine y_VIw (rest := []) Z (k_X6_undo l D ht0 aS S m_a m_m m_v2 m_c) (y_cwV 0 Z ml_RL_184 im_X6_undo se_X6_undo in_X6 co_X6_undo rfl rfl hd_X6_undo ⟨Nat.le_of_ble_eq_true rfl, Nat.le_of_ble_eq_true rfl⟩) (wVM cI aJ J ++ wOut cL aO O) List.nil (by simp only [List.append_assoc, List.append_nil]) 6 0 rfl rfl rfl rfl (Nat.le_of_ble_eq_true rfl) dL_law_1555 ⟨by show _ ≤ 1069; omega, by show _ ≤ 10084; omega⟩ (wL cI cL aJ J aO O aS (mc_undo S)) (by simp only [wL, mc_undo, List.append_assoc, List.append_nil, wMix, wLog, wPic, wRep, wScr, wVM, wMd, sR_eq, sR_ne, sF_eq, sF_ne, upd_eq, upd_ne, gs_eq, gs_ne, gm_4, gm_ne, Nat.reduceBEq]) ?_
    refine y_istore Z [(6, .int (if mv_go (mv_po (S 0 1)) 1 1 = 0 then 0 else (S 0 1) - 1)), (5, .int 1), (0, .ref b), (1, .ref (aJ 0)), (2, .ref (aS 0)), (3, .ref aO), (4, .int (nI i))] dL_law_1558 (by decide) rfl ?_
    refine y_aload_n Z dL_law_1560 4 rfl rfl ?_
    refine y_VIw (rest := []) Z (k_X6_thrown l D ht0 aS (mc_undo S)) (y_cwV 0 Z ml_RL_102 im_X6_thrown se_X6_thrown in_X6 co_X6_thrown rfl rfl hd_X6_thrown ⟨Nat.le_of_ble_eq_true rfl, Nat.le_of_ble_eq_true rfl⟩) (wVM cI aJ J ++ wOut cL aO O) List.nil (by simp only [List.append_assoc, List.append_nil]) 6 0 rfl rfl rfl rfl (Nat.le_of_ble_eq_true rfl) dL_law_1561 ⟨by show _ ≤ 1069; omega, by show _ ≤ 10084; omega⟩ (wL cI cL aJ J aO O aS (mc_undo S)) (by simp only [wL, List.append_assoc, List.append_nil]) ?_
    refine y_eq rfl rfl (st' := [.int 1]) (by rw [he]) ?_
    refine y_iload Z dL_law_1564 1 rfl ?_
    refine y_icmp_eq (tgt := 1571) Z dL_law_1566 (by decide) (fun _ => ?_) (fun h => absurd rfl h)
    refine y_iload Z dL_law_1571 1 rfl ?_
    refine y_if_ne (tgt := 1588) Z dL_law_1573 (by decide) (fun _ => ?_) (fun h => absurd h (by decide))
    refine y_goto (tgt := 1756) Z dL_law_1588 (by decide) ?_
    refine y_lv [2, 3, 4, 5, 6] (lv' := [(0, .ref b), (1, .ref (aJ 0)), (2, .ref (aS 0)), (3, .ref aO), (4, .int (nI i))]) rfl ?_
    exact y_wide (k := cells + 1) (n := slots + 6) (by omega) (by omega) (K _ _ _ hI)
set_option maxHeartbeats 4000000 in
set_option maxRecDepth 100000 in
theorem lc_redWithout {p : Program} {l : Launch} {e : Env} {s : State} {m : MethodId} {args : Array Value} {below : List Frame} {meth : Method} {c : Code} {Q : State → Prop} {D : va_G} {A : Nat → Prop} {tys : List (ClassId × FieldType)} {cI cL : ClassId} (Z : Zz p m c cL_law 9 s args wsL_law RL D tys A) (X : Xz s A) (htr : l.stackTraces = false) (ht0 : tys[0]? = some (cI, .int)) (ht1 : tys[1]? = some (cL, .long)) {b L : Nat} {xs : Nat → Int32} (hX : va_X b L xs s s.heap) (hbl : b < s.heap.size) (hbA : ¬ A b) {i : Nat} (hi : i + 4 < L) (hL : L ≤ 2560) {cells slots : Nat} (hc : cells + 1 ≤ 1069) (hs : slots + 6 ≤ 10084) {aJ : Nat → Nat} {aO : Nat} {aS : Nat → Nat} {J : Nat → Nat → Nat → Int32} {O : Nat → Int64} {S : Nat → Nat → Int32} (I : Inv J S) (K : ∀ (J2 : Nat → Nat → Nat → Int32) (O2 : Nat → Int64) (S2 : Nat → Nat → Int32), Inv J2 S2 → Yy p l e room_1 s m args below meth c Q D A 9 (cells + 1) (slots + 6) (wL cI cL aJ J2 aO O2 aS S2) [(0, .ref b), (1, .ref (aJ 0)), (2, .ref (aS 0)), (3, .ref aO), (4, .int (nI i))] [] 1756) : Yy p l e room_1 s m args below meth c Q D A 9 cells slots (wL cI cL aJ J aO O aS S) [(0, .ref b), (1, .ref (aJ 0)), (2, .ref (aS 0)), (3, .ref aO), (4, .int (nI i))] [] 1591 := by
  obtain ⟨m_n, m_v, m_c, hr⟩ := c2_redWithout I (xs (i + 1))
  rcases hr with ⟨o_a, c_n, he, her, hI⟩ | ⟨hb, he, hI⟩
  · refine y_aload_n Z dL_law_1591 1 rfl rfl ?_
    refine y_aload_n Z dL_law_1592 0 rfl rfl ?_
    refine y_iload Z dL_law_1593 4 rfl ?_
    refine y_iconst (v := 1) Z dL_law_1595 (by decide) ?_
    refine y_iadd Z dL_law_1596 ?_
    refine y_sld Z hX hbl hbA (sx_in hi hL 1 (by decide)).1 (i + 1) (sx_in hi hL 1 (by decide)).2 dL_law_1597 ?_
    refine y_aload_n Z dL_law_1598 3 rfl rfl ?_
    refine y_SWw (rest := []) Z X (k_L_redWithout l htr D ht0 ht1 aJ J aO O (xs (i + 1)) c_n o_a) (y_cwSW 3 Z ml_RL_185 st_L_redWithout in_L co_L_redWithout rfl rfl hs_L_redWithout ⟨Nat.le_of_ble_eq_true rfl, Nat.le_of_ble_eq_true rfl⟩) List.nil (wMd cI aS S) (by simp only [List.nil_append, List.append_assoc]) rfl rfl (Nat.le_of_ble_eq_true rfl) dL_law_1599 ⟨by show _ ≤ 1069; omega, by show _ ≤ 10084; omega⟩ (wL cI cL aJ (vm_rp J (J 0 0 7) (xs (i + 1))) aO (vp_updL O 0 (Int32.toInt64 (rdF (vm_rp J (J 0 0 7) (xs (i + 1)) 6)))) aS S) (by simp only [wL, List.nil_append, List.append_assoc]) ?_
    refine y_istore Z [(5, .int 0), (0, .ref b), (1, .ref (aJ 0)), (2, .ref (aS 0)), (3, .ref aO), (4, .int (nI i))] dL_law_1602 (by decide) rfl ?_
    refine y_aload_n Z dL_law_1604 3 rfl rfl ?_
    refine y_aload_n Z dL_law_1605 1 rfl rfl ?_
    refine y_iload Z dL_law_1606 5 rfl ?_
    refine y_iconst (v := 1) Z dL_law_1608 (by decide) ?_
    refine y_iadd Z dL_law_1609 ?_
    refine y_sld Z hX hbl hbA (sx_in hi hL 1 (by decide)).1 (i + 1) (sx_in hi hL 1 (by decide)).2 dL_law_1610 ?_
    refine y_VIw (rest := []) Z (k_X6_redWithout l D ht0 aS S (xs (i + 1)) m_n m_v m_c) (y_cwV 1 Z ml_RL_187 im_X6_redWithout se_X6_redWithout in_X6 co_X6_redWithout rfl rfl hd_X6_redWithout ⟨Nat.le_of_ble_eq_true rfl, Nat.le_of_ble_eq_true rfl⟩) (wVM cI aJ (vm_rp J (J 0 0 7) (xs (i + 1))) ++ wOut cL aO (vp_updL O 0 (Int32.toInt64 (rdF (vm_rp J (J 0 0 7) (xs (i + 1)) 6))))) List.nil (by simp only [List.append_assoc, List.append_nil]) 6 0 rfl rfl rfl rfl (Nat.le_of_ble_eq_true rfl) dL_law_1611 ⟨by show _ ≤ 1069; omega, by show _ ≤ 10084; omega⟩ (wL cI cL aJ (vm_rp J (J 0 0 7) (xs (i + 1))) aO (vp_updL O 0 (Int32.toInt64 (rdF (vm_rp J (J 0 0 7) (xs (i + 1)) 6)))) aS (mc_redWithout S (xs (i + 1)))) (by simp only [wL, mc_redWithout, List.append_assoc, List.append_nil, wMix, wLog, wPic, wRep, wScr, wVM, wMd, sR_eq, sR_ne, sF_eq, sF_ne, upd_eq, upd_ne, gs_eq, gs_ne, gm_4, gm_ne, Nat.reduceBEq]) ?_
    refine y_istore Z [(6, .int (if mv_go (mv_ia (xs (i + 1)) (S 0 1)) 1 1 = 0 then 0 else mv_rd (mr_ls (gtX (S 3) (S 0 1) (S 0 0) (xs (i + 1)) (S 1)).1 (S 4)))), (5, .int 0), (0, .ref b), (1, .ref (aJ 0)), (2, .ref (aS 0)), (3, .ref aO), (4, .int (nI i))] dL_law_1614 (by decide) rfl ?_
    refine y_aload_n Z dL_law_1616 4 rfl rfl ?_
    refine y_VIw (rest := []) Z (k_X6_thrown l D ht0 aS (mc_redWithout S (xs (i + 1)))) (y_cwV 0 Z ml_RL_102 im_X6_thrown se_X6_thrown in_X6 co_X6_thrown rfl rfl hd_X6_thrown ⟨Nat.le_of_ble_eq_true rfl, Nat.le_of_ble_eq_true rfl⟩) (wVM cI aJ (vm_rp J (J 0 0 7) (xs (i + 1))) ++ wOut cL aO (vp_updL O 0 (Int32.toInt64 (rdF (vm_rp J (J 0 0 7) (xs (i + 1)) 6))))) List.nil (by simp only [List.append_assoc, List.append_nil]) 6 0 rfl rfl rfl rfl (Nat.le_of_ble_eq_true rfl) dL_law_1617 ⟨by show _ ≤ 1069; omega, by show _ ≤ 10084; omega⟩ (wL cI cL aJ (vm_rp J (J 0 0 7) (xs (i + 1))) aO (vp_updL O 0 (Int32.toInt64 (rdF (vm_rp J (J 0 0 7) (xs (i + 1)) 6)))) aS (mc_redWithout S (xs (i + 1)))) (by simp only [wL, List.append_assoc, List.append_nil]) ?_
    refine y_eq rfl rfl (st' := [.int 0]) (by rw [he]) ?_
    refine y_iload Z dL_law_1620 1 rfl ?_
    refine y_icmp_eq (tgt := 1627) Z dL_law_1622 (by decide) (fun _ => ?_) (fun h => absurd rfl h)
    refine y_iload Z dL_law_1627 1 rfl ?_
    refine y_if_ne (tgt := 1644) Z dL_law_1629 (by decide) (fun h => absurd rfl h) (fun _ => ?_)
    refine y_aload_n Z dL_law_1632 5 rfl rfl ?_
    refine y_iconst (v := 0) Z dL_law_1633 (by decide) ?_
    refine y_lald Z 27 1 rfl ht1 (vpd (by decide) (by decide)) 0 (by decide) dL_law_1634 ?_
    refine y_iload Z dL_law_1635 0 rfl ?_
    refine y_i2l Z dL_law_1637 ?_
    refine y_eq rfl rfl (st' := [.long (Int32.toInt64 (if mv_go (mv_ia (xs (i + 1)) (S 0 1)) 1 1 = 0 then 0 else mv_rd (mr_ls (gtX (S 3) (S 0 1) (S 0 0) (xs (i + 1)) (S 1)).1 (S 4)))), .long (Int32.toInt64 (if mv_go (mv_ia (xs (i + 1)) (S 0 1)) 1 1 = 0 then 0 else mv_rd (mr_ls (gtX (S 3) (S 0 1) (S 0 0) (xs (i + 1)) (S 1)).1 (S 4))))]) (by rw [← her]; rfl) ?_
    refine y_lcmp Z dL_law_1638 ?_
    refine y_if_eq (tgt := 1644) Z dL_law_1639 (by decide) (fun _ => ?_) (fun h => absurd (lgc_self _) h)
    refine y_goto (tgt := 1756) Z dL_law_1644 (by decide) ?_
    refine y_lv [2, 3, 4, 5, 6] (lv' := [(0, .ref b), (1, .ref (aJ 0)), (2, .ref (aS 0)), (3, .ref aO), (4, .int (nI i))]) rfl ?_
    exact y_wide (k := cells + 1) (n := slots + 6) (by omega) (by omega) (K _ _ _ hI)
  · refine y_aload_n Z dL_law_1591 1 rfl rfl ?_
    refine y_aload_n Z dL_law_1592 0 rfl rfl ?_
    refine y_iload Z dL_law_1593 4 rfl ?_
    refine y_iconst (v := 1) Z dL_law_1595 (by decide) ?_
    refine y_iadd Z dL_law_1596 ?_
    refine y_sld Z hX hbl hbA (sx_in hi hL 1 (by decide)).1 (i + 1) (sx_in hi hL 1 (by decide)).2 dL_law_1597 ?_
    refine y_aload_n Z dL_law_1598 3 rfl rfl ?_
    refine y_SWw (rest := []) Z X (k_L_redWithout_b0 l htr D ht0 ht1 aJ J aO O (xs (i + 1)) hb) (y_cwSW 3 Z ml_RL_185 st_L_redWithout in_L co_L_redWithout rfl rfl hs_L_redWithout ⟨Nat.le_of_ble_eq_true rfl, Nat.le_of_ble_eq_true rfl⟩) List.nil (wMd cI aS S) (by simp only [List.nil_append, List.append_assoc]) rfl rfl (Nat.le_of_ble_eq_true rfl) dL_law_1599 ⟨by show _ ≤ 1069; omega, by show _ ≤ 10084; omega⟩ (wL cI cL aJ J aO O aS S) (by simp only [wL, List.nil_append, List.append_assoc]) ?_
    refine y_istore Z [(5, .int 1), (0, .ref b), (1, .ref (aJ 0)), (2, .ref (aS 0)), (3, .ref aO), (4, .int (nI i))] dL_law_1602 (by decide) rfl ?_
    refine y_aload_n Z dL_law_1604 3 rfl rfl ?_
    refine y_aload_n Z dL_law_1605 1 rfl rfl ?_
    refine y_iload Z dL_law_1606 5 rfl ?_
    refine y_iconst (v := 1) Z dL_law_1608 (by decide) ?_
    refine y_iadd Z dL_law_1609 ?_
    refine y_sld Z hX hbl hbA (sx_in hi hL 1 (by decide)).1 (i + 1) (sx_in hi hL 1 (by decide)).2 dL_law_1610 ?_
    refine y_VIw (rest := []) Z (k_X6_redWithout l D ht0 aS S (xs (i + 1)) m_n m_v m_c) (y_cwV 1 Z ml_RL_187 im_X6_redWithout se_X6_redWithout in_X6 co_X6_redWithout rfl rfl hd_X6_redWithout ⟨Nat.le_of_ble_eq_true rfl, Nat.le_of_ble_eq_true rfl⟩) (wVM cI aJ J ++ wOut cL aO O) List.nil (by simp only [List.append_assoc, List.append_nil]) 6 0 rfl rfl rfl rfl (Nat.le_of_ble_eq_true rfl) dL_law_1611 ⟨by show _ ≤ 1069; omega, by show _ ≤ 10084; omega⟩ (wL cI cL aJ J aO O aS (mc_redWithout S (xs (i + 1)))) (by simp only [wL, mc_redWithout, List.append_assoc, List.append_nil, wMix, wLog, wPic, wRep, wScr, wVM, wMd, sR_eq, sR_ne, sF_eq, sF_ne, upd_eq, upd_ne, gs_eq, gs_ne, gm_4, gm_ne, Nat.reduceBEq]) ?_
    refine y_istore Z [(6, .int (if mv_go (mv_ia (xs (i + 1)) (S 0 1)) 1 1 = 0 then 0 else mv_rd (mr_ls (gtX (S 3) (S 0 1) (S 0 0) (xs (i + 1)) (S 1)).1 (S 4)))), (5, .int 1), (0, .ref b), (1, .ref (aJ 0)), (2, .ref (aS 0)), (3, .ref aO), (4, .int (nI i))] dL_law_1614 (by decide) rfl ?_
    refine y_aload_n Z dL_law_1616 4 rfl rfl ?_
    refine y_VIw (rest := []) Z (k_X6_thrown l D ht0 aS (mc_redWithout S (xs (i + 1)))) (y_cwV 0 Z ml_RL_102 im_X6_thrown se_X6_thrown in_X6 co_X6_thrown rfl rfl hd_X6_thrown ⟨Nat.le_of_ble_eq_true rfl, Nat.le_of_ble_eq_true rfl⟩) (wVM cI aJ J ++ wOut cL aO O) List.nil (by simp only [List.append_assoc, List.append_nil]) 6 0 rfl rfl rfl rfl (Nat.le_of_ble_eq_true rfl) dL_law_1617 ⟨by show _ ≤ 1069; omega, by show _ ≤ 10084; omega⟩ (wL cI cL aJ J aO O aS (mc_redWithout S (xs (i + 1)))) (by simp only [wL, List.append_assoc, List.append_nil]) ?_
    refine y_eq rfl rfl (st' := [.int 1]) (by rw [he]) ?_
    refine y_iload Z dL_law_1620 1 rfl ?_
    refine y_icmp_eq (tgt := 1627) Z dL_law_1622 (by decide) (fun _ => ?_) (fun h => absurd rfl h)
    refine y_iload Z dL_law_1627 1 rfl ?_
    refine y_if_ne (tgt := 1644) Z dL_law_1629 (by decide) (fun _ => ?_) (fun h => absurd h (by decide))
    refine y_goto (tgt := 1756) Z dL_law_1644 (by decide) ?_
    refine y_lv [2, 3, 4, 5, 6] (lv' := [(0, .ref b), (1, .ref (aJ 0)), (2, .ref (aS 0)), (3, .ref aO), (4, .int (nI i))]) rfl ?_
    exact y_wide (k := cells + 1) (n := slots + 6) (by omega) (by omega) (K _ _ _ hI)
set_option maxHeartbeats 4000000 in
set_option maxRecDepth 100000 in
theorem lc_append {p : Program} {l : Launch} {e : Env} {s : State} {m : MethodId} {args : Array Value} {below : List Frame} {meth : Method} {c : Code} {Q : State → Prop} {D : va_G} {A : Nat → Prop} {tys : List (ClassId × FieldType)} {cI cL : ClassId} (Z : Zz p m c cL_law 9 s args wsL_law RL D tys A) (X : Xz s A) (htr : l.stackTraces = false) (ht0 : tys[0]? = some (cI, .int)) (ht1 : tys[1]? = some (cL, .long)) {b L : Nat} {xs : Nat → Int32} (hX : va_X b L xs s s.heap) (hbl : b < s.heap.size) (hbA : ¬ A b) {i : Nat} (hi : i + 4 < L) (hL : L ≤ 2560) {cells slots : Nat} (hc : cells + 1 ≤ 1069) (hs : slots + 6 ≤ 10084) {aJ : Nat → Nat} {aO : Nat} {aS : Nat → Nat} {J : Nat → Nat → Nat → Int32} {O : Nat → Int64} {S : Nat → Nat → Int32} (I : Inv J S) (K : ∀ (J2 : Nat → Nat → Nat → Int32) (O2 : Nat → Int64) (S2 : Nat → Nat → Int32), Inv J2 S2 → Yy p l e room_1 s m args below meth c Q D A 9 (cells + 1) (slots + 6) (wL cI cL aJ J2 aO O2 aS S2) [(0, .ref b), (1, .ref (aJ 0)), (2, .ref (aS 0)), (3, .ref aO), (4, .int (nI i))] [] 1756) : Yy p l e room_1 s m args below meth c Q D A 9 cells slots (wL cI cL aJ J aO O aS S) [(0, .ref b), (1, .ref (aJ 0)), (2, .ref (aS 0)), (3, .ref aO), (4, .int (nI i))] [] 1660 := by
  obtain ⟨m_nn, hr⟩ := c2_append I (xs (i + 1))
  rcases hr with ⟨o_v, o_w, he, her, hI⟩ | ⟨hb, he, hI⟩ | ⟨o_v, hb, he, hI⟩
  · refine y_aload_n Z dL_law_1660 1 rfl rfl ?_
    refine y_aload_n Z dL_law_1661 0 rfl rfl ?_
    refine y_iload Z dL_law_1662 4 rfl ?_
    refine y_iconst (v := 1) Z dL_law_1664 (by decide) ?_
    refine y_iadd Z dL_law_1665 ?_
    refine y_sld Z hX hbl hbA (sx_in hi hL 1 (by decide)).1 (i + 1) (sx_in hi hL 1 (by decide)).2 dL_law_1666 ?_
    refine y_aload_n Z dL_law_1667 3 rfl rfl ?_
    refine y_SWw (rest := []) Z X (k_L_append l htr D ht0 ht1 aJ J aO O (xs (i + 1)) o_v o_w) (y_cwSW 3 Z ml_RL_192 st_L_append in_L co_L_append rfl rfl hs_L_append ⟨Nat.le_of_ble_eq_true rfl, Nat.le_of_ble_eq_true rfl⟩) List.nil (wMd cI aS S) (by simp only [List.nil_append, List.append_assoc]) rfl rfl (Nat.le_of_ble_eq_true rfl) dL_law_1668 ⟨by show _ ≤ 1069; omega, by show _ ≤ 10084; omega⟩ (wL cI cL aJ (vm_ap J (xs (i + 1))) aO (vp_updL O 0 (Int32.toInt64 (gt_sadd (J 7) (xs (i + 1)) 0 0))) aS S) (by simp only [wL, List.nil_append, List.append_assoc]) ?_
    refine y_istore Z [(5, .int 0), (0, .ref b), (1, .ref (aJ 0)), (2, .ref (aS 0)), (3, .ref aO), (4, .int (nI i))] dL_law_1671 (by decide) rfl ?_
    refine y_aload_n Z dL_law_1673 3 rfl rfl ?_
    refine y_aload_n Z dL_law_1674 1 rfl rfl ?_
    refine y_iload Z dL_law_1675 5 rfl ?_
    refine y_iconst (v := 1) Z dL_law_1677 (by decide) ?_
    refine y_iadd Z dL_law_1678 ?_
    refine y_sld Z hX hbl hbA (sx_in hi hL 1 (by decide)).1 (i + 1) (sx_in hi hL 1 (by decide)).2 dL_law_1679 ?_
    refine y_VIw (rest := []) Z (k_X6_append l D ht0 aS S (xs (i + 1)) m_nn) (y_cwV 1 Z ml_RL_194 im_X6_append se_X6_append in_X6 co_X6_append rfl rfl hd_X6_append ⟨Nat.le_of_ble_eq_true rfl, Nat.le_of_ble_eq_true rfl⟩) (wVM cI aJ (vm_ap J (xs (i + 1))) ++ wOut cL aO (vp_updL O 0 (Int32.toInt64 (gt_sadd (J 7) (xs (i + 1)) 0 0)))) List.nil (by simp only [List.append_assoc, List.append_nil]) 6 0 rfl rfl rfl rfl (Nat.le_of_ble_eq_true rfl) dL_law_1680 ⟨by show _ ≤ 1069; omega, by show _ ≤ 10084; omega⟩ (wL cI cL aJ (vm_ap J (xs (i + 1))) aO (vp_updL O 0 (Int32.toInt64 (gt_sadd (J 7) (xs (i + 1)) 0 0))) aS (mc_append S (xs (i + 1)))) (by simp only [wL, mc_append, List.append_assoc, List.append_nil, wMix, wLog, wPic, wRep, wScr, wVM, wMd, sR_eq, sR_ne, sF_eq, sF_ne, upd_eq, upd_ne, gs_eq, gs_ne, gm_4, gm_ne, Nat.reduceBEq]) ?_
    refine y_istore Z [(6, .int (if mv_go (mv_in (Int32.toInt64 (xs (i + 1))) 0 127) (mv_tl (S 0 8)) 1 = 0 then 0 else (S 0 8) + 1)), (5, .int 0), (0, .ref b), (1, .ref (aJ 0)), (2, .ref (aS 0)), (3, .ref aO), (4, .int (nI i))] dL_law_1683 (by decide) rfl ?_
    refine y_aload_n Z dL_law_1685 4 rfl rfl ?_
    refine y_VIw (rest := []) Z (k_X6_thrown l D ht0 aS (mc_append S (xs (i + 1)))) (y_cwV 0 Z ml_RL_102 im_X6_thrown se_X6_thrown in_X6 co_X6_thrown rfl rfl hd_X6_thrown ⟨Nat.le_of_ble_eq_true rfl, Nat.le_of_ble_eq_true rfl⟩) (wVM cI aJ (vm_ap J (xs (i + 1))) ++ wOut cL aO (vp_updL O 0 (Int32.toInt64 (gt_sadd (J 7) (xs (i + 1)) 0 0)))) List.nil (by simp only [List.append_assoc, List.append_nil]) 6 0 rfl rfl rfl rfl (Nat.le_of_ble_eq_true rfl) dL_law_1686 ⟨by show _ ≤ 1069; omega, by show _ ≤ 10084; omega⟩ (wL cI cL aJ (vm_ap J (xs (i + 1))) aO (vp_updL O 0 (Int32.toInt64 (gt_sadd (J 7) (xs (i + 1)) 0 0))) aS (mc_append S (xs (i + 1)))) (by simp only [wL, List.append_assoc, List.append_nil]) ?_
    refine y_eq rfl rfl (st' := [.int 0]) (by rw [he]) ?_
    refine y_iload Z dL_law_1689 1 rfl ?_
    refine y_icmp_eq (tgt := 1696) Z dL_law_1691 (by decide) (fun _ => ?_) (fun h => absurd rfl h)
    refine y_iload Z dL_law_1696 1 rfl ?_
    refine y_if_ne (tgt := 1713) Z dL_law_1698 (by decide) (fun h => absurd rfl h) (fun _ => ?_)
    refine y_aload_n Z dL_law_1701 5 rfl rfl ?_
    refine y_iconst (v := 0) Z dL_law_1702 (by decide) ?_
    refine y_lald Z 27 1 rfl ht1 (vpd (by decide) (by decide)) 0 (by decide) dL_law_1703 ?_
    refine y_iload Z dL_law_1704 0 rfl ?_
    refine y_i2l Z dL_law_1706 ?_
    refine y_eq rfl rfl (st' := [.long (Int32.toInt64 (if mv_go (mv_in (Int32.toInt64 (xs (i + 1))) 0 127) (mv_tl (S 0 8)) 1 = 0 then 0 else (S 0 8) + 1)), .long (Int32.toInt64 (if mv_go (mv_in (Int32.toInt64 (xs (i + 1))) 0 127) (mv_tl (S 0 8)) 1 = 0 then 0 else (S 0 8) + 1))]) (by rw [← her]; rfl) ?_
    refine y_lcmp Z dL_law_1707 ?_
    refine y_if_eq (tgt := 1713) Z dL_law_1708 (by decide) (fun _ => ?_) (fun h => absurd (lgc_self _) h)
    refine y_goto (tgt := 1756) Z dL_law_1713 (by decide) ?_
    refine y_lv [2, 3, 4, 5, 6] (lv' := [(0, .ref b), (1, .ref (aJ 0)), (2, .ref (aS 0)), (3, .ref aO), (4, .int (nI i))]) rfl ?_
    exact y_wide (k := cells + 1) (n := slots + 6) (by omega) (by omega) (K _ _ _ hI)
  · refine y_aload_n Z dL_law_1660 1 rfl rfl ?_
    refine y_aload_n Z dL_law_1661 0 rfl rfl ?_
    refine y_iload Z dL_law_1662 4 rfl ?_
    refine y_iconst (v := 1) Z dL_law_1664 (by decide) ?_
    refine y_iadd Z dL_law_1665 ?_
    refine y_sld Z hX hbl hbA (sx_in hi hL 1 (by decide)).1 (i + 1) (sx_in hi hL 1 (by decide)).2 dL_law_1666 ?_
    refine y_aload_n Z dL_law_1667 3 rfl rfl ?_
    refine y_SWw (rest := []) Z X (k_L_append_b0 l htr D ht0 ht1 aJ J aO O (xs (i + 1)) hb) (y_cwSW 3 Z ml_RL_192 st_L_append in_L co_L_append rfl rfl hs_L_append ⟨Nat.le_of_ble_eq_true rfl, Nat.le_of_ble_eq_true rfl⟩) List.nil (wMd cI aS S) (by simp only [List.nil_append, List.append_assoc]) rfl rfl (Nat.le_of_ble_eq_true rfl) dL_law_1668 ⟨by show _ ≤ 1069; omega, by show _ ≤ 10084; omega⟩ (wL cI cL aJ J aO O aS S) (by simp only [wL, List.nil_append, List.append_assoc]) ?_
    refine y_istore Z [(5, .int 1), (0, .ref b), (1, .ref (aJ 0)), (2, .ref (aS 0)), (3, .ref aO), (4, .int (nI i))] dL_law_1671 (by decide) rfl ?_
    refine y_aload_n Z dL_law_1673 3 rfl rfl ?_
    refine y_aload_n Z dL_law_1674 1 rfl rfl ?_
    refine y_iload Z dL_law_1675 5 rfl ?_
    refine y_iconst (v := 1) Z dL_law_1677 (by decide) ?_
    refine y_iadd Z dL_law_1678 ?_
    refine y_sld Z hX hbl hbA (sx_in hi hL 1 (by decide)).1 (i + 1) (sx_in hi hL 1 (by decide)).2 dL_law_1679 ?_
    refine y_VIw (rest := []) Z (k_X6_append l D ht0 aS S (xs (i + 1)) m_nn) (y_cwV 1 Z ml_RL_194 im_X6_append se_X6_append in_X6 co_X6_append rfl rfl hd_X6_append ⟨Nat.le_of_ble_eq_true rfl, Nat.le_of_ble_eq_true rfl⟩) (wVM cI aJ J ++ wOut cL aO O) List.nil (by simp only [List.append_assoc, List.append_nil]) 6 0 rfl rfl rfl rfl (Nat.le_of_ble_eq_true rfl) dL_law_1680 ⟨by show _ ≤ 1069; omega, by show _ ≤ 10084; omega⟩ (wL cI cL aJ J aO O aS (mc_append S (xs (i + 1)))) (by simp only [wL, mc_append, List.append_assoc, List.append_nil, wMix, wLog, wPic, wRep, wScr, wVM, wMd, sR_eq, sR_ne, sF_eq, sF_ne, upd_eq, upd_ne, gs_eq, gs_ne, gm_4, gm_ne, Nat.reduceBEq]) ?_
    refine y_istore Z [(6, .int (if mv_go (mv_in (Int32.toInt64 (xs (i + 1))) 0 127) (mv_tl (S 0 8)) 1 = 0 then 0 else (S 0 8) + 1)), (5, .int 1), (0, .ref b), (1, .ref (aJ 0)), (2, .ref (aS 0)), (3, .ref aO), (4, .int (nI i))] dL_law_1683 (by decide) rfl ?_
    refine y_aload_n Z dL_law_1685 4 rfl rfl ?_
    refine y_VIw (rest := []) Z (k_X6_thrown l D ht0 aS (mc_append S (xs (i + 1)))) (y_cwV 0 Z ml_RL_102 im_X6_thrown se_X6_thrown in_X6 co_X6_thrown rfl rfl hd_X6_thrown ⟨Nat.le_of_ble_eq_true rfl, Nat.le_of_ble_eq_true rfl⟩) (wVM cI aJ J ++ wOut cL aO O) List.nil (by simp only [List.append_assoc, List.append_nil]) 6 0 rfl rfl rfl rfl (Nat.le_of_ble_eq_true rfl) dL_law_1686 ⟨by show _ ≤ 1069; omega, by show _ ≤ 10084; omega⟩ (wL cI cL aJ J aO O aS (mc_append S (xs (i + 1)))) (by simp only [wL, List.append_assoc, List.append_nil]) ?_
    refine y_eq rfl rfl (st' := [.int 1]) (by rw [he]) ?_
    refine y_iload Z dL_law_1689 1 rfl ?_
    refine y_icmp_eq (tgt := 1696) Z dL_law_1691 (by decide) (fun _ => ?_) (fun h => absurd rfl h)
    refine y_iload Z dL_law_1696 1 rfl ?_
    refine y_if_ne (tgt := 1713) Z dL_law_1698 (by decide) (fun _ => ?_) (fun h => absurd h (by decide))
    refine y_goto (tgt := 1756) Z dL_law_1713 (by decide) ?_
    refine y_lv [2, 3, 4, 5, 6] (lv' := [(0, .ref b), (1, .ref (aJ 0)), (2, .ref (aS 0)), (3, .ref aO), (4, .int (nI i))]) rfl ?_
    exact y_wide (k := cells + 1) (n := slots + 6) (by omega) (by omega) (K _ _ _ hI)
  · refine y_aload_n Z dL_law_1660 1 rfl rfl ?_
    refine y_aload_n Z dL_law_1661 0 rfl rfl ?_
    refine y_iload Z dL_law_1662 4 rfl ?_
    refine y_iconst (v := 1) Z dL_law_1664 (by decide) ?_
    refine y_iadd Z dL_law_1665 ?_
    refine y_sld Z hX hbl hbA (sx_in hi hL 1 (by decide)).1 (i + 1) (sx_in hi hL 1 (by decide)).2 dL_law_1666 ?_
    refine y_aload_n Z dL_law_1667 3 rfl rfl ?_
    refine y_SWw (rest := []) Z X (k_L_append_b1 l htr D ht0 ht1 aJ J aO O (xs (i + 1)) o_v hb) (y_cwSW 3 Z ml_RL_192 st_L_append in_L co_L_append rfl rfl hs_L_append ⟨Nat.le_of_ble_eq_true rfl, Nat.le_of_ble_eq_true rfl⟩) List.nil (wMd cI aS S) (by simp only [List.nil_append, List.append_assoc]) rfl rfl (Nat.le_of_ble_eq_true rfl) dL_law_1668 ⟨by show _ ≤ 1069; omega, by show _ ≤ 10084; omega⟩ (wL cI cL aJ J aO O aS S) (by simp only [wL, List.nil_append, List.append_assoc]) ?_
    refine y_istore Z [(5, .int 2), (0, .ref b), (1, .ref (aJ 0)), (2, .ref (aS 0)), (3, .ref aO), (4, .int (nI i))] dL_law_1671 (by decide) rfl ?_
    refine y_aload_n Z dL_law_1673 3 rfl rfl ?_
    refine y_aload_n Z dL_law_1674 1 rfl rfl ?_
    refine y_iload Z dL_law_1675 5 rfl ?_
    refine y_iconst (v := 1) Z dL_law_1677 (by decide) ?_
    refine y_iadd Z dL_law_1678 ?_
    refine y_sld Z hX hbl hbA (sx_in hi hL 1 (by decide)).1 (i + 1) (sx_in hi hL 1 (by decide)).2 dL_law_1679 ?_
    refine y_VIw (rest := []) Z (k_X6_append l D ht0 aS S (xs (i + 1)) m_nn) (y_cwV 1 Z ml_RL_194 im_X6_append se_X6_append in_X6 co_X6_append rfl rfl hd_X6_append ⟨Nat.le_of_ble_eq_true rfl, Nat.le_of_ble_eq_true rfl⟩) (wVM cI aJ J ++ wOut cL aO O) List.nil (by simp only [List.append_assoc, List.append_nil]) 6 0 rfl rfl rfl rfl (Nat.le_of_ble_eq_true rfl) dL_law_1680 ⟨by show _ ≤ 1069; omega, by show _ ≤ 10084; omega⟩ (wL cI cL aJ J aO O aS (mc_append S (xs (i + 1)))) (by simp only [wL, mc_append, List.append_assoc, List.append_nil, wMix, wLog, wPic, wRep, wScr, wVM, wMd, sR_eq, sR_ne, sF_eq, sF_ne, upd_eq, upd_ne, gs_eq, gs_ne, gm_4, gm_ne, Nat.reduceBEq]) ?_
    refine y_istore Z [(6, .int (if mv_go (mv_in (Int32.toInt64 (xs (i + 1))) 0 127) (mv_tl (S 0 8)) 1 = 0 then 0 else (S 0 8) + 1)), (5, .int 2), (0, .ref b), (1, .ref (aJ 0)), (2, .ref (aS 0)), (3, .ref aO), (4, .int (nI i))] dL_law_1683 (by decide) rfl ?_
    refine y_aload_n Z dL_law_1685 4 rfl rfl ?_
    refine y_VIw (rest := []) Z (k_X6_thrown l D ht0 aS (mc_append S (xs (i + 1)))) (y_cwV 0 Z ml_RL_102 im_X6_thrown se_X6_thrown in_X6 co_X6_thrown rfl rfl hd_X6_thrown ⟨Nat.le_of_ble_eq_true rfl, Nat.le_of_ble_eq_true rfl⟩) (wVM cI aJ J ++ wOut cL aO O) List.nil (by simp only [List.append_assoc, List.append_nil]) 6 0 rfl rfl rfl rfl (Nat.le_of_ble_eq_true rfl) dL_law_1686 ⟨by show _ ≤ 1069; omega, by show _ ≤ 10084; omega⟩ (wL cI cL aJ J aO O aS (mc_append S (xs (i + 1)))) (by simp only [wL, List.append_assoc, List.append_nil]) ?_
    refine y_eq rfl rfl (st' := [.int 2]) (by rw [he]) ?_
    refine y_iload Z dL_law_1689 1 rfl ?_
    refine y_icmp_eq (tgt := 1696) Z dL_law_1691 (by decide) (fun _ => ?_) (fun h => absurd rfl h)
    refine y_iload Z dL_law_1696 1 rfl ?_
    refine y_if_ne (tgt := 1713) Z dL_law_1698 (by decide) (fun _ => ?_) (fun h => absurd h (by decide))
    refine y_goto (tgt := 1756) Z dL_law_1713 (by decide) ?_
    refine y_lv [2, 3, 4, 5, 6] (lv' := [(0, .ref b), (1, .ref (aJ 0)), (2, .ref (aS 0)), (3, .ref aO), (4, .int (nI i))]) rfl ?_
    exact y_wide (k := cells + 1) (n := slots + 6) (by omega) (by omega) (K _ _ _ hI)
set_option maxHeartbeats 4000000 in
set_option maxRecDepth 100000 in
theorem lc_longestShot {p : Program} {l : Launch} {e : Env} {s : State} {m : MethodId} {args : Array Value} {below : List Frame} {meth : Method} {c : Code} {Q : State → Prop} {D : va_G} {A : Nat → Prop} {tys : List (ClassId × FieldType)} {cI cL : ClassId} (Z : Zz p m c cL_law 9 s args wsL_law RL D tys A) (X : Xz s A) (htr : l.stackTraces = false) (ht0 : tys[0]? = some (cI, .int)) (ht1 : tys[1]? = some (cL, .long)) {b L : Nat} {xs : Nat → Int32} (hX : va_X b L xs s s.heap) (hbl : b < s.heap.size) (hbA : ¬ A b) {i : Nat} (hi : i + 4 < L) (hL : L ≤ 2560) {cells slots : Nat} (hc : cells + 1 ≤ 1069) (hs : slots + 6 ≤ 10084) {aJ : Nat → Nat} {aO : Nat} {aS : Nat → Nat} {J : Nat → Nat → Nat → Int32} {O : Nat → Int64} {S : Nat → Nat → Int32} (I : Inv J S) (K : ∀ (J2 : Nat → Nat → Nat → Int32) (O2 : Nat → Int64) (S2 : Nat → Nat → Int32), Inv J2 S2 → Yy p l e room_1 s m args below meth c Q D A 9 (cells + 1) (slots + 6) (wL cI cL aJ J2 aO O2 aS S2) [(0, .ref b), (1, .ref (aJ 0)), (2, .ref (aS 0)), (3, .ref aO), (4, .int (nI i))] [] 1756) : Yy p l e room_1 s m args below meth c Q D A 9 cells slots (wL cI cL aJ J aO O aS S) [(0, .ref b), (1, .ref (aJ 0)), (2, .ref (aS 0)), (3, .ref aO), (4, .int (nI i))] [] 1397 := by
  obtain ⟨m_n, m_v, m_c, c_n, c_stop, her, hI⟩ := c2_longestShot I
  refine y_aload_n Z dL_law_1397 1 rfl rfl ?_
  refine y_VIw (rest := []) Z (k_X5_longestShot l D ht0 aJ J c_n c_stop) (y_cwV 0 Z ml_RL_168 im_X5_longestShot se_X5_longestShot in_X5 co_X5_longestShot rfl rfl hd_X5_longestShot ⟨Nat.le_of_ble_eq_true rfl, Nat.le_of_ble_eq_true rfl⟩) List.nil (wOut cL aO O ++ wMd cI aS S) rfl 5 0 rfl rfl rfl rfl (Nat.le_of_ble_eq_true rfl) dL_law_1398 ⟨by show _ ≤ 1069; omega, by show _ ≤ 10084; omega⟩ (wL cI cL aJ (vm_46 J (lsX J).1 (lsX J).2.1) aO O aS S) rfl ?_
  refine y_aload_n Z dL_law_1401 2 rfl rfl ?_
  refine y_VIw (rest := [.int ((lsX J).2.2.1)]) Z (k_X6_longestShot l D ht0 aS S m_n m_v m_c) (y_cwV 0 Z ml_RL_171 im_X6_longestShot se_X6_longestShot in_X6 co_X6_longestShot rfl rfl hd_X6_longestShot ⟨Nat.le_of_ble_eq_true rfl, Nat.le_of_ble_eq_true rfl⟩) (wVM cI aJ (vm_46 J (lsX J).1 (lsX J).2.1) ++ wOut cL aO O) List.nil (by simp only [List.append_assoc, List.append_nil]) 6 0 rfl rfl rfl rfl (Nat.le_of_ble_eq_true rfl) dL_law_1402 ⟨by show _ ≤ 1069; omega, by show _ ≤ 10084; omega⟩ (wL cI cL aJ (vm_46 J (lsX J).1 (lsX J).2.1) aO O aS (mc_longestShot S)) (by simp only [wL, mc_longestShot, List.append_assoc, List.append_nil, wMix, wLog, wPic, wRep, wScr, wVM, wMd, sR_eq, sR_ne, sF_eq, sF_ne, upd_eq, upd_ne, gs_eq, gs_ne, gm_4, gm_ne, Nat.reduceBEq]) ?_
  refine y_icmp_eq (tgt := 1756) Z dL_law_1405 (by decide) (fun _ => ?_) (fun h => absurd her h)
  refine y_lv [0, 1, 2, 3, 4] (lv' := [(0, .ref b), (1, .ref (aJ 0)), (2, .ref (aS 0)), (3, .ref aO), (4, .int (nI i))]) rfl ?_
  exact y_wide (k := cells + 1) (n := slots + 6) (by omega) (by omega) (K _ _ _ hI)
set_option maxHeartbeats 4000000 in
set_option maxRecDepth 100000 in
theorem lc_runs {p : Program} {l : Launch} {e : Env} {s : State} {m : MethodId} {args : Array Value} {below : List Frame} {meth : Method} {c : Code} {Q : State → Prop} {D : va_G} {A : Nat → Prop} {tys : List (ClassId × FieldType)} {cI cL : ClassId} (Z : Zz p m c cL_law 9 s args wsL_law RL D tys A) (X : Xz s A) (htr : l.stackTraces = false) (ht0 : tys[0]? = some (cI, .int)) (ht1 : tys[1]? = some (cL, .long)) {b L : Nat} {xs : Nat → Int32} (hX : va_X b L xs s s.heap) (hbl : b < s.heap.size) (hbA : ¬ A b) {i : Nat} (hi : i + 4 < L) (hL : L ≤ 2560) {cells slots : Nat} (hc : cells + 1 ≤ 1069) (hs : slots + 6 ≤ 10084) {aJ : Nat → Nat} {aO : Nat} {aS : Nat → Nat} {J : Nat → Nat → Nat → Int32} {O : Nat → Int64} {S : Nat → Nat → Int32} (I : Inv J S) (K : ∀ (J2 : Nat → Nat → Nat → Int32) (O2 : Nat → Int64) (S2 : Nat → Nat → Int32), Inv J2 S2 → Yy p l e room_1 s m args below meth c Q D A 9 (cells + 1) (slots + 6) (wL cI cL aJ J2 aO O2 aS S2) [(0, .ref b), (1, .ref (aJ 0)), (2, .ref (aS 0)), (3, .ref aO), (4, .int (nI i))] [] 1756) : Yy p l e room_1 s m args below meth c Q D A 9 cells slots (wL cI cL aJ J aO O aS S) [(0, .ref b), (1, .ref (aJ 0)), (2, .ref (aS 0)), (3, .ref aO), (4, .int (nI i))] [] 1410 := by
  obtain ⟨m_n, m_v, m_c, c_n, her, hI⟩ := c2_runs I
  refine y_aload_n Z dL_law_1410 1 rfl rfl ?_
  refine y_VIw (rest := []) Z (k_X5_runs l D ht0 aJ J c_n) (y_cwV 0 Z ml_RL_172 im_X5_runs se_X5_runs in_X5 co_X5_runs rfl rfl hd_X5_runs ⟨Nat.le_of_ble_eq_true rfl, Nat.le_of_ble_eq_true rfl⟩) List.nil (wOut cL aO O ++ wMd cI aS S) rfl 5 0 rfl rfl rfl rfl (Nat.le_of_ble_eq_true rfl) dL_law_1411 ⟨by show _ ≤ 1069; omega, by show _ ≤ 10084; omega⟩ (wL cI cL aJ (vm_replay J (J 0 0 7) (-1)) aO O aS S) rfl ?_
  refine y_aload_n Z dL_law_1414 2 rfl rfl ?_
  refine y_VIw (rest := [.int (vm_replay J (J 0 0 7) (-1) 4 0 8)]) Z (k_X6_runs l D ht0 aS S m_n m_v m_c) (y_cwV 0 Z ml_RL_175 im_X6_runs se_X6_runs in_X6 co_X6_runs rfl rfl hd_X6_runs ⟨Nat.le_of_ble_eq_true rfl, Nat.le_of_ble_eq_true rfl⟩) (wVM cI aJ (vm_replay J (J 0 0 7) (-1)) ++ wOut cL aO O) List.nil (by simp only [List.append_assoc, List.append_nil]) 6 0 rfl rfl rfl rfl (Nat.le_of_ble_eq_true rfl) dL_law_1415 ⟨by show _ ≤ 1069; omega, by show _ ≤ 10084; omega⟩ (wL cI cL aJ (vm_replay J (J 0 0 7) (-1)) aO O aS (mc_runs S)) (by simp only [wL, mc_runs, List.append_assoc, List.append_nil, wMix, wLog, wPic, wRep, wScr, wVM, wMd, sR_eq, sR_ne, sF_eq, sF_ne, upd_eq, upd_ne, gs_eq, gs_ne, gm_4, gm_ne, Nat.reduceBEq]) ?_
  refine y_icmp_eq (tgt := 1756) Z dL_law_1418 (by decide) (fun _ => ?_) (fun h => absurd her h)
  refine y_lv [0, 1, 2, 3, 4] (lv' := [(0, .ref b), (1, .ref (aJ 0)), (2, .ref (aS 0)), (3, .ref aO), (4, .int (nI i))]) rfl ?_
  exact y_wide (k := cells + 1) (n := slots + 6) (by omega) (by omega) (K _ _ _ hI)
set_option maxHeartbeats 4000000 in
set_option maxRecDepth 100000 in
theorem lc_idle {p : Program} {l : Launch} {e : Env} {s : State} {m : MethodId} {args : Array Value} {below : List Frame} {meth : Method} {c : Code} {Q : State → Prop} {D : va_G} {A : Nat → Prop} {tys : List (ClassId × FieldType)} {cI cL : ClassId} (Z : Zz p m c cL_law 9 s args wsL_law RL D tys A) (X : Xz s A) (htr : l.stackTraces = false) (ht0 : tys[0]? = some (cI, .int)) (ht1 : tys[1]? = some (cL, .long)) {b L : Nat} {xs : Nat → Int32} (hX : va_X b L xs s s.heap) (hbl : b < s.heap.size) (hbA : ¬ A b) {i : Nat} (hi : i + 4 < L) (hL : L ≤ 2560) {cells slots : Nat} (hc : cells + 1 ≤ 1069) (hs : slots + 6 ≤ 10084) {aJ : Nat → Nat} {aO : Nat} {aS : Nat → Nat} {J : Nat → Nat → Nat → Int32} {O : Nat → Int64} {S : Nat → Nat → Int32} (I : Inv J S) (K : ∀ (J2 : Nat → Nat → Nat → Int32) (O2 : Nat → Int64) (S2 : Nat → Nat → Int32), Inv J2 S2 → Yy p l e room_1 s m args below meth c Q D A 9 (cells + 1) (slots + 6) (wL cI cL aJ J2 aO O2 aS S2) [(0, .ref b), (1, .ref (aJ 0)), (2, .ref (aS 0)), (3, .ref aO), (4, .int (nI i))] [] 1756) : Yy p l e room_1 s m args below meth c Q D A 9 cells slots (wL cI cL aJ J aO O aS S) [(0, .ref b), (1, .ref (aJ 0)), (2, .ref (aS 0)), (3, .ref aO), (4, .int (nI i))] [] 1647 := by
  obtain ⟨m_n, m_v, m_c, m_o, c_n, c_stop, her, hI⟩ := c2_idle I
  refine y_aload_n Z dL_law_1647 1 rfl rfl ?_
  refine y_VIw (rest := []) Z (k_X5_idle l D ht0 aJ J c_n c_stop) (y_cwV 0 Z ml_RL_188 im_X5_idle se_X5_idle in_X5 co_X5_idle rfl rfl hd_X5_idle ⟨Nat.le_of_ble_eq_true rfl, Nat.le_of_ble_eq_true rfl⟩) List.nil (wOut cL aO O ++ wMd cI aS S) rfl 5 0 rfl rfl rfl rfl (Nat.le_of_ble_eq_true rfl) dL_law_1648 ⟨by show _ ≤ 1069; omega, by show _ ≤ 10084; omega⟩ (wL cI cL aJ (vm_id J) aO O aS S) rfl ?_
  refine y_aload_n Z dL_law_1651 2 rfl rfl ?_
  refine y_VIw (rest := [.int ((idX J).2.2.1)]) Z (k_X6_idle l D ht0 aS S m_n m_v m_c m_o) (y_cwV 0 Z ml_RL_191 im_X6_idle se_X6_idle in_X6 co_X6_idle rfl rfl hd_X6_idle ⟨Nat.le_of_ble_eq_true rfl, Nat.le_of_ble_eq_true rfl⟩) (wVM cI aJ (vm_id J) ++ wOut cL aO O) List.nil (by simp only [List.append_assoc, List.append_nil]) 6 0 rfl rfl rfl rfl (Nat.le_of_ble_eq_true rfl) dL_law_1652 ⟨by show _ ≤ 1069; omega, by show _ ≤ 10084; omega⟩ (wL cI cL aJ (vm_id J) aO O aS (mc_idle S)) (by simp only [wL, mc_idle, List.append_assoc, List.append_nil, wMix, wLog, wPic, wRep, wScr, wVM, wMd, sR_eq, sR_ne, sF_eq, sF_ne, upd_eq, upd_ne, gs_eq, gs_ne, gm_4, gm_ne, Nat.reduceBEq]) ?_
  refine y_icmp_eq (tgt := 1756) Z dL_law_1655 (by decide) (fun _ => ?_) (fun h => absurd her h)
  refine y_lv [0, 1, 2, 3, 4] (lv' := [(0, .ref b), (1, .ref (aJ 0)), (2, .ref (aS 0)), (3, .ref aO), (4, .int (nI i))]) rfl ?_
  exact y_wide (k := cells + 1) (n := slots + 6) (by omega) (by omega) (K _ _ _ hI)
set_option maxHeartbeats 4000000 in
set_option maxRecDepth 100000 in
theorem lc_clearText {p : Program} {l : Launch} {e : Env} {s : State} {m : MethodId} {args : Array Value} {below : List Frame} {meth : Method} {c : Code} {Q : State → Prop} {D : va_G} {A : Nat → Prop} {tys : List (ClassId × FieldType)} {cI cL : ClassId} (Z : Zz p m c cL_law 9 s args wsL_law RL D tys A) (X : Xz s A) (htr : l.stackTraces = false) (ht0 : tys[0]? = some (cI, .int)) (ht1 : tys[1]? = some (cL, .long)) {b L : Nat} {xs : Nat → Int32} (hX : va_X b L xs s s.heap) (hbl : b < s.heap.size) (hbA : ¬ A b) {i : Nat} (hi : i + 4 < L) (hL : L ≤ 2560) {cells slots : Nat} (hc : cells + 1 ≤ 1069) (hs : slots + 6 ≤ 10084) {aJ : Nat → Nat} {aO : Nat} {aS : Nat → Nat} {J : Nat → Nat → Nat → Int32} {O : Nat → Int64} {S : Nat → Nat → Int32} (I : Inv J S) (K : ∀ (J2 : Nat → Nat → Nat → Int32) (O2 : Nat → Int64) (S2 : Nat → Nat → Int32), Inv J2 S2 → Yy p l e room_1 s m args below meth c Q D A 9 (cells + 1) (slots + 6) (wL cI cL aJ J2 aO O2 aS S2) [(0, .ref b), (1, .ref (aJ 0)), (2, .ref (aS 0)), (3, .ref aO), (4, .int (nI i))] [] 1756) : Yy p l e room_1 s m args below meth c Q D A 9 cells slots (wL cI cL aJ J aO O aS S) [(0, .ref b), (1, .ref (aJ 0)), (2, .ref (aS 0)), (3, .ref aO), (4, .int (nI i))] [] 1716 := by
  obtain ⟨her, hI⟩ := c2_clearText I
  refine y_aload_n Z dL_law_1716 1 rfl rfl ?_
  refine y_VIw (rest := []) Z (k_X5_clearText l D ht0 aJ J ) (y_cwV 0 Z ml_RL_195 im_X5_clearText se_X5_clearText in_X5 co_X5_clearText rfl rfl hd_X5_clearText ⟨Nat.le_of_ble_eq_true rfl, Nat.le_of_ble_eq_true rfl⟩) List.nil (wOut cL aO O ++ wMd cI aS S) rfl 5 0 rfl rfl rfl rfl (Nat.le_of_ble_eq_true rfl) dL_law_1717 ⟨by show _ ≤ 1069; omega, by show _ ≤ 10084; omega⟩ (wL cI cL aJ (vm_cl J) aO O aS S) rfl ?_
  refine y_aload_n Z dL_law_1720 2 rfl rfl ?_
  refine y_VIw (rest := [.int (J 7 0 0)]) Z (k_X6_clearText l D ht0 aS S) (y_cwV 0 Z ml_RL_198 im_X6_clearText se_X6_clearText in_X6 co_X6_clearText rfl rfl hd_X6_clearText ⟨Nat.le_of_ble_eq_true rfl, Nat.le_of_ble_eq_true rfl⟩) (wVM cI aJ (vm_cl J) ++ wOut cL aO O) List.nil (by simp only [List.append_assoc, List.append_nil]) 6 0 rfl rfl rfl rfl (Nat.le_of_ble_eq_true rfl) dL_law_1721 ⟨by show _ ≤ 1069; omega, by show _ ≤ 10084; omega⟩ (wL cI cL aJ (vm_cl J) aO O aS (mc_clearText S)) (by simp only [wL, mc_clearText, List.append_assoc, List.append_nil, wMix, wLog, wPic, wRep, wScr, wVM, wMd, sR_eq, sR_ne, sF_eq, sF_ne, upd_eq, upd_ne, gs_eq, gs_ne, gm_4, gm_ne, Nat.reduceBEq]) ?_
  refine y_icmp_eq (tgt := 1756) Z dL_law_1724 (by decide) (fun _ => ?_) (fun h => absurd her h)
  refine y_lv [0, 1, 2, 3, 4] (lv' := [(0, .ref b), (1, .ref (aJ 0)), (2, .ref (aS 0)), (3, .ref aO), (4, .int (nI i))]) rfl ?_
  exact y_wide (k := cells + 1) (n := slots + 6) (by omega) (by omega) (K _ _ _ hI)
set_option maxHeartbeats 4000000 in
set_option maxRecDepth 100000 in
theorem lc_carryOut {p : Program} {l : Launch} {e : Env} {s : State} {m : MethodId} {args : Array Value} {below : List Frame} {meth : Method} {c : Code} {Q : State → Prop} {D : va_G} {A : Nat → Prop} {tys : List (ClassId × FieldType)} {cI cL : ClassId} (Z : Zz p m c cL_law 9 s args wsL_law RL D tys A) (X : Xz s A) (htr : l.stackTraces = false) (ht0 : tys[0]? = some (cI, .int)) (ht1 : tys[1]? = some (cL, .long)) {b L : Nat} {xs : Nat → Int32} (hX : va_X b L xs s s.heap) (hbl : b < s.heap.size) (hbA : ¬ A b) {i : Nat} (hi : i + 4 < L) (hL : L ≤ 2560) {cells slots : Nat} (hc : cells + 1 ≤ 1069) (hs : slots + 6 ≤ 10084) {aJ : Nat → Nat} {aO : Nat} {aS : Nat → Nat} {J : Nat → Nat → Nat → Int32} {O : Nat → Int64} {S : Nat → Nat → Int32} (I : Inv J S) (K : ∀ (J2 : Nat → Nat → Nat → Int32) (O2 : Nat → Int64) (S2 : Nat → Nat → Int32), Inv J2 S2 → Yy p l e room_1 s m args below meth c Q D A 9 (cells + 1) (slots + 6) (wL cI cL aJ J2 aO O2 aS S2) [(0, .ref b), (1, .ref (aJ 0)), (2, .ref (aS 0)), (3, .ref aO), (4, .int (nI i))] [] 1756) : Yy p l e room_1 s m args below meth c Q D A 9 cells slots (wL cI cL aJ J aO O aS S) [(0, .ref b), (1, .ref (aJ 0)), (2, .ref (aS 0)), (3, .ref aO), (4, .int (nI i))] [] 1729 := by
  obtain ⟨m_l, m_ln, m_nn, m_r, m_fs, m_cs, m_n2, m_c2, m_v2, c_cs, her, hI⟩ := c2_carryOut I
  refine y_aload_n Z dL_law_1729 1 rfl rfl ?_
  refine y_VIw (rest := []) Z (k_X5_carryOut l D ht0 aJ J c_cs) (y_cwV 0 Z ml_RL_199 im_X5_carryOut se_X5_carryOut in_X5 co_X5_carryOut rfl rfl hd_X5_carryOut ⟨Nat.le_of_ble_eq_true rfl, Nat.le_of_ble_eq_true rfl⟩) List.nil (wOut cL aO O ++ wMd cI aS S) rfl 5 0 rfl rfl rfl rfl (Nat.le_of_ble_eq_true rfl) dL_law_1730 ⟨by show _ ≤ 1069; omega, by show _ ≤ 10084; omega⟩ (wL cI cL aJ (vcS J) aO O aS S) rfl ?_
  refine y_aload_n Z dL_law_1733 2 rfl rfl ?_
  refine y_VIw (rest := [.int (vcR J)]) Z (k_X6_carryOut l D ht0 aS S m_l m_ln m_nn m_r m_fs m_cs m_n2 m_c2 m_v2) (y_cwV 0 Z ml_RL_202 im_X6_carryOut se_X6_carryOut in_X6 co_X6_carryOut rfl rfl hd_X6_carryOut ⟨Nat.le_of_ble_eq_true rfl, Nat.le_of_ble_eq_true rfl⟩) (wVM cI aJ (vcS J) ++ wOut cL aO O) List.nil (by simp only [List.append_assoc, List.append_nil]) 6 0 rfl rfl rfl rfl (Nat.le_of_ble_eq_true rfl) dL_law_1734 ⟨by show _ ≤ 1069; omega, by show _ ≤ 10084; omega⟩ (wL cI cL aJ (vcS J) aO O aS (mc_carryOut S)) (by simp only [wL, mc_carryOut, List.append_assoc, List.append_nil, wMix, wLog, wPic, wRep, wScr, wVM, wMd, sR_eq, sR_ne, sF_eq, sF_ne, upd_eq, upd_ne, gs_eq, gs_ne, gm_4, gm_ne, Nat.reduceBEq]) ?_
  refine y_icmp_eq (tgt := 1756) Z dL_law_1737 (by decide) (fun _ => ?_) (fun h => absurd her h)
  refine y_lv [0, 1, 2, 3, 4] (lv' := [(0, .ref b), (1, .ref (aJ 0)), (2, .ref (aS 0)), (3, .ref aO), (4, .int (nI i))]) rfl ?_
  exact y_wide (k := cells + 1) (n := slots + 6) (by omega) (by omega) (K _ _ _ hI)
set_option maxHeartbeats 4000000 in
set_option maxRecDepth 100000 in
theorem lc_digest {p : Program} {l : Launch} {e : Env} {s : State} {m : MethodId} {args : Array Value} {below : List Frame} {meth : Method} {c : Code} {Q : State → Prop} {D : va_G} {A : Nat → Prop} {tys : List (ClassId × FieldType)} {cI cL : ClassId} (Z : Zz p m c cL_law 9 s args wsL_law RL D tys A) (X : Xz s A) (htr : l.stackTraces = false) (ht0 : tys[0]? = some (cI, .int)) (ht1 : tys[1]? = some (cL, .long)) {b L : Nat} {xs : Nat → Int32} (hX : va_X b L xs s s.heap) (hbl : b < s.heap.size) (hbA : ¬ A b) {i : Nat} (hi : i + 4 < L) (hL : L ≤ 2560) {cells slots : Nat} (hc : cells + 1 ≤ 1069) (hs : slots + 6 ≤ 10084) {aJ : Nat → Nat} {aO : Nat} {aS : Nat → Nat} {J : Nat → Nat → Nat → Int32} {O : Nat → Int64} {S : Nat → Nat → Int32} (I : Inv J S) (K : ∀ (J2 : Nat → Nat → Nat → Int32) (O2 : Nat → Int64) (S2 : Nat → Nat → Int32), Inv J2 S2 → Yy p l e room_1 s m args below meth c Q D A 9 (cells + 1) (slots + 6) (wL cI cL aJ J2 aO O2 aS S2) [(0, .ref b), (1, .ref (aJ 0)), (2, .ref (aS 0)), (3, .ref aO), (4, .int (nI i))] [] 1756) : Yy p l e room_1 s m args below meth c Q D A 9 cells slots (wL cI cL aJ J aO O aS S) [(0, .ref b), (1, .ref (aJ 0)), (2, .ref (aS 0)), (3, .ref aO), (4, .int (nI i))] [] 1742 := by
  obtain ⟨m_n, m_o, c_stop, her, hI⟩ := c2_digest I
  refine y_aload_n Z dL_law_1742 1 rfl rfl ?_
  refine y_VLw (rest := []) Z (k_X5_digest l D ht0 aJ J c_stop) (y_cwV 0 Z ml_RL_203 im_X5_digest se_X5_digest in_X5 co_X5_digest rfl rfl hd_X5_digest ⟨Nat.le_of_ble_eq_true rfl, Nat.le_of_ble_eq_true rfl⟩) List.nil (wOut cL aO O ++ wMd cI aS S) rfl 5 0 rfl rfl rfl rfl (Nat.le_of_ble_eq_true rfl) dL_law_1743 ⟨by show _ ≤ 1069; omega, by show _ ≤ 10084; omega⟩ (wL cI cL aJ (vm_tal J) aO O aS S) rfl ?_
  refine y_aload_n Z dL_law_1746 2 rfl rfl ?_
  refine y_VLw (rest := [.long ((haX (J 3) (dgH J)).1)]) Z (k_X6_digest l D ht0 aS S m_n m_o) (y_cwV 0 Z ml_RL_207 im_X6_digest se_X6_digest in_X6 co_X6_digest rfl rfl hd_X6_digest ⟨Nat.le_of_ble_eq_true rfl, Nat.le_of_ble_eq_true rfl⟩) (wVM cI aJ (vm_tal J) ++ wOut cL aO O) List.nil (by simp only [List.append_assoc, List.append_nil]) 6 0 rfl rfl rfl rfl (Nat.le_of_ble_eq_true rfl) dL_law_1747 ⟨by show _ ≤ 1069; omega, by show _ ≤ 10084; omega⟩ (wL cI cL aJ (vm_tal J) aO O aS (mc_digest S)) (by simp only [wL, mc_digest, List.append_assoc, List.append_nil, wMix, wLog, wPic, wRep, wScr, wVM, wMd, sR_eq, sR_ne, sF_eq, sF_ne, upd_eq, upd_ne, gs_eq, gs_ne, gm_4, gm_ne, Nat.reduceBEq]) ?_
  refine y_eq rfl rfl (st' := [.long ((hd4X (S 3) (S 0 1) (hd3X (S 1) (S 2) (S 4) (S 0 0) (S 0 1) (S 0 8) 10).2.2.2).1), .long ((hd4X (S 3) (S 0 1) (hd3X (S 1) (S 2) (S 4) (S 0 0) (S 0 1) (S 0 8) 10).2.2.2).1)]) (by rw [her]) ?_
  refine y_lcmp Z dL_law_1750 ?_
  refine y_if_eq (tgt := 1756) Z dL_law_1751 (by decide) (fun _ => ?_) (fun h => absurd (lgc_self _) h)
  refine y_lv [0, 1, 2, 3, 4] (lv' := [(0, .ref b), (1, .ref (aJ 0)), (2, .ref (aS 0)), (3, .ref aO), (4, .int (nI i))]) rfl ?_
  exact y_wide (k := cells + 1) (n := slots + 6) (by omega) (by omega) (K _ _ _ hI)
set_option maxHeartbeats 4000000 in
set_option maxRecDepth 100000 in
theorem lc_faulty {p : Program} {l : Launch} {e : Env} {s : State} {m : MethodId} {args : Array Value} {below : List Frame} {meth : Method} {c : Code} {Q : State → Prop} {D : va_G} {A : Nat → Prop} {tys : List (ClassId × FieldType)} {cI cL : ClassId} (Z : Zz p m c cL_law 9 s args wsL_law RL D tys A) (X : Xz s A) (htr : l.stackTraces = false) (ht0 : tys[0]? = some (cI, .int)) (ht1 : tys[1]? = some (cL, .long)) {b L : Nat} {xs : Nat → Int32} (hX : va_X b L xs s s.heap) (hbl : b < s.heap.size) (hbA : ¬ A b) {i : Nat} (hi : i + 4 < L) (hL : L ≤ 2560) {cells slots : Nat} (hc : cells + 1 ≤ 1069) (hs : slots + 6 ≤ 10084) {aJ : Nat → Nat} {aO : Nat} {aS : Nat → Nat} {J : Nat → Nat → Nat → Int32} {O : Nat → Int64} {S : Nat → Nat → Int32} (I : Inv J S) (K : ∀ (J2 : Nat → Nat → Nat → Int32) (O2 : Nat → Int64) (S2 : Nat → Nat → Int32), Inv J2 S2 → Yy p l e room_1 s m args below meth c Q D A 9 (cells + 1) (slots + 6) (wL cI cL aJ J2 aO O2 aS S2) [(0, .ref b), (1, .ref (aJ 0)), (2, .ref (aS 0)), (3, .ref aO), (4, .int (nI i))] [] 1756) : Yy p l e room_1 s m args below meth c Q D A 9 cells slots (wL cI cL aJ J aO O aS S) [(0, .ref b), (1, .ref (aJ 0)), (2, .ref (aS 0)), (3, .ref aO), (4, .int (nI i))] [] 1108 := by
  obtain ⟨m_o, her, hI⟩ := c2_faulty I
  refine y_aload_n Z dL_law_1108 1 rfl rfl ?_
  refine y_VDw (rest := []) Z (k_X5_faulty l D ht0 aJ J ) (y_cwV 0 Z ml_RL_151 im_X5_faulty se_X5_faulty in_X5 co_X5_faulty rfl rfl hd_X5_faulty ⟨Nat.le_of_ble_eq_true rfl, Nat.le_of_ble_eq_true rfl⟩) List.nil (wOut cL aO O ++ wMd cI aS S) rfl 5 0 rfl rfl rfl rfl (Nat.le_of_ble_eq_true rfl) dL_law_1109 ⟨by show _ ≤ 1069; omega, by show _ ≤ 10084; omega⟩ (wL cI cL aJ (vm_pP J) aO O aS S) rfl ?_
  refine y_dstore Z [(5, .double (fyF (fpF (gt_paint (J 0) (J 5)) (J 0 0 9)))), (0, .ref b), (1, .ref (aJ 0)), (2, .ref (aS 0)), (3, .ref aO), (4, .int (nI i))] dL_law_1112 (by decide) rfl ?_
  refine y_aload_n Z dL_law_1114 3 rfl rfl ?_
  refine y_VDw (rest := []) Z (k_X6_faulty l D ht0 aS S m_o) (y_cwV 0 Z ml_RL_155 im_X6_faulty se_X6_faulty in_X6 co_X6_faulty rfl rfl hd_X6_faulty ⟨Nat.le_of_ble_eq_true rfl, Nat.le_of_ble_eq_true rfl⟩) (wVM cI aJ (vm_pP J) ++ wOut cL aO O) List.nil (by simp only [List.append_assoc, List.append_nil]) 6 0 rfl rfl rfl rfl (Nat.le_of_ble_eq_true rfl) dL_law_1115 ⟨by show _ ≤ 1069; omega, by show _ ≤ 10084; omega⟩ (wL cI cL aJ (vm_pP J) aO O aS (mc_faulty S)) (by simp only [wL, mc_faulty, List.append_assoc, List.append_nil, wMix, wLog, wPic, wRep, wScr, wVM, wMd, sR_eq, sR_ne, sF_eq, sF_ne, upd_eq, upd_ne, gs_eq, gs_ne, gm_4, gm_ne, Nat.reduceBEq]) ?_
  refine y_dstore Z [(7, .double (fyF (mv_fy (S 1) (mr_ls (S 1) (S 4))))), (5, .double (fyF (fpF (gt_paint (J 0) (J 5)) (J 0 0 9)))), (0, .ref b), (1, .ref (aJ 0)), (2, .ref (aS 0)), (3, .ref aO), (4, .int (nI i))] dL_law_1118 (by decide) rfl ?_
  refine y_dload Z dL_law_1120 1 rfl ?_
  refine y_dload Z dL_law_1122 0 rfl ?_
  refine y_eq rfl rfl (st' := [.double (fyF (mv_fy (S 1) (mr_ls (S 1) (S 4)))), .double (fyF (mv_fy (S 1) (mr_ls (S 1) (S 4))))]) (by rw [her]) ?_
  refine y_dcmp Z dL_law_1124 ?_
  refine y_eq rfl rfl (st' := [.int 0]) (by rw [fy_cmp]; rfl) ?_
  refine y_if_eq (tgt := 1146) Z dL_law_1125 (by decide) (fun _ => ?_) (fun h => absurd rfl h)
  refine y_goto (tgt := 1756) Z dL_law_1146 (by decide) ?_
  refine y_lv [2, 3, 4, 5, 6] (lv' := [(0, .ref b), (1, .ref (aJ 0)), (2, .ref (aS 0)), (3, .ref aO), (4, .int (nI i))]) rfl ?_
  exact y_wide (k := cells + 1) (n := slots + 6) (by omega) (by omega) (K _ _ _ hI)
