set_option maxHeartbeats 4000000 in
set_option maxRecDepth 100000 in
theorem k_L_isStep_0 (l : Launch) (D : va_G) {cI : ClassId} {tys : List (ClassId × FieldType)} (ht0 : tys[0]? = some (cI, .int)) (aJ : Nat → Nat) (J : Nat → Nat → Nat → Int32) (aN : Nat → Nat) (N : Nat → Nat → Nat → Int32) (x : Int32) {n τ : Nat} (h_R : RR J N n τ) (h_n : n < 100) (h_t : τ + 30 ≤ 5000) (h_w : upF x 11 = 0) (sz : Nat) : kI l yL_isStep cL_isStep 5 (some .boolean) { frames := 9, cells := 0, slots := 0, locals := 152 } D tys [.ref (aJ 0), .ref (aN 0), .int x] (wVM cI aJ J ++ (wVM cI aN N)) (wVM cI aJ (vm_enact J 0 (upF (x >>> (4 &&& 31)) 10) (-1) (-1) (-1)) ++ (wVM cI aN (vm_enact N 0 (otF (upF (x >>> (4 &&& 31)) 10)) (-1) (-1) (-1)))) 1 0 0 sz := by
  refine y_enterI (cc := cL_isStep) (maxL := 5) (ret := (some .boolean)) (own := RL) (by decide) rfl (lv0 := [(0, .ref (aJ 0)), (1, .ref (aN 0)), (2, .int x)]) rfl (Nat.le_of_ble_eq_true rfl) ?_
  intro p e s m args below meth c A Z hr hlk _
  have hR := h_R
  refine y_iload_n Z dL_isStep_0 2 rfl rfl ?_
  refine y_iconst (v := 4) Z dL_isStep_1 (by decide) ?_
  refine y_ishr Z dL_isStep_2 ?_
  refine y_bipush (v := 10) Z dL_isStep_3 (by decide) ?_
  refine y_SI Z (k_L_up l D ht0 (x >>> (4 &&& 31)) 10 (by decide)) (y_cwS 2 Z ml_RL_15 st_L_up in_L co_L_up rfl rfl hs_L_up ⟨Nat.le_of_ble_eq_true rfl, Nat.le_of_ble_eq_true rfl⟩) [] rfl (by decide) rfl rfl (Nat.le_of_ble_eq_true rfl) dL_isStep_5 ⟨Nat.le_of_ble_eq_true rfl, Nat.le_of_ble_eq_true rfl⟩ [] rfl rfl (wVM cI aJ J ++ (wVM cI aN N)) rfl ?_
  refine y_istore_n Z [(3, .int (upF (x >>> (4 &&& 31)) 10)), (0, .ref (aJ 0)), (1, .ref (aN 0)), (2, .int x)] dL_isStep_8 rfl (by decide) rfl ?_
  refine y_iload_n Z dL_isStep_9 3 rfl rfl ?_
  refine y_iconst (v := 4) Z dL_isStep_10 (by decide) ?_
  refine y_ishr Z dL_isStep_11 ?_
  refine y_iconst (v := 3) Z dL_isStep_12 (by decide) ?_
  refine y_SI Z (k_L_up l D ht0 (x >>> (4 &&& 31)) 3 (by decide)) (y_cwS 2 Z ml_RL_15 st_L_up in_L co_L_up rfl rfl hs_L_up ⟨Nat.le_of_ble_eq_true rfl, Nat.le_of_ble_eq_true rfl⟩) [] rfl (by decide) rfl rfl (Nat.le_of_ble_eq_true rfl) dL_isStep_13 ⟨Nat.le_of_ble_eq_true rfl, Nat.le_of_ble_eq_true rfl⟩ [] rfl rfl (wVM cI aJ J ++ (wVM cI aN N)) rfl ?_
  refine y_istore Z [(4, .int (upF (x >>> (4 &&& 31)) 3)), (3, .int (upF (x >>> (4 &&& 31)) 10)), (0, .ref (aJ 0)), (1, .ref (aN 0)), (2, .int x)] dL_isStep_16 (by decide) rfl ?_
  refine y_iload_n Z dL_isStep_18 4 rfl rfl ?_
  refine y_bipush (v := 11) Z dL_isStep_19 (by decide) ?_
  refine y_SI Z (k_L_up l D ht0 x 11 (by decide)) (y_cwS 2 Z ml_RL_15 st_L_up in_L co_L_up rfl rfl hs_L_up ⟨Nat.le_of_ble_eq_true rfl, Nat.le_of_ble_eq_true rfl⟩) [] rfl (by decide) rfl rfl (Nat.le_of_ble_eq_true rfl) dL_isStep_21 ⟨Nat.le_of_ble_eq_true rfl, Nat.le_of_ble_eq_true rfl⟩ [] rfl rfl (wVM cI aJ J ++ (wVM cI aN N)) rfl ?_
  refine y_tableIn (tgt := 80) (off := 56) Z dL_isStep_24 (by rw [h_w]; decide) (by rw [h_w]; decide) (by rw [h_w]; rfl) (by decide) ?_
  refine y_aload_n Z dL_isStep_80 2 rfl rfl ?_
  refine y_iload_n Z dL_isStep_81 1 rfl rfl ?_
  refine y_VIw Z (k_X5_program l D ht0 aJ J (upF (x >>> (4 &&& 31)) 10) (up_S _) (rr_okM hR h_n 0 (by decide) (by decide) (by decide)).1) (y_cwV 1 Z ml_RL_21 im_X5_program se_X5_program in_X5 co_X5_program rfl rfl hd_X5_program ⟨Nat.le_of_ble_eq_true rfl, Nat.le_of_ble_eq_true rfl⟩) List.nil (wVM cI aN N) (by first | with_reducible rfl | simp only [List.nil_append, List.append_nil] | simp only [List.nil_append, List.append_nil, wMix, wLog, wPic, wRep, wScr, wVM, wMd, sR_eq, sR_ne, sF_eq, sF_ne, upd_eq, upd_ne, gs_eq, gs_ne, gm_4, gm_ne, Nat.reduceBEq]) 5 0 rfl rfl rfl rfl (Nat.le_of_ble_eq_true rfl) dL_isStep_82 ⟨Nat.le_of_ble_eq_true rfl, Nat.le_of_ble_eq_true rfl⟩ (wVM cI aJ (vm_enact J 0 (upF (x >>> (4 &&& 31)) 10) (-1) (-1) (-1)) ++ (wVM cI aN N)) (by first | with_reducible rfl | simp only [List.nil_append, List.append_nil] | simp only [List.nil_append, List.append_nil, wMix, wLog, wPic, wRep, wScr, wVM, wMd, sR_eq, sR_ne, sF_eq, sF_ne, upd_eq, upd_ne, gs_eq, gs_ne, gm_4, gm_ne, Nat.reduceBEq]) ?_
  refine y_SI Z (k_L_other l D ht0 (perfR (J 0) 0 (upF (x >>> (4 &&& 31)) 10) (-1) (-1) (-1))) (y_cwS 1 Z ml_RL_24 st_L_other in_L co_L_other rfl rfl hs_L_other ⟨Nat.le_of_ble_eq_true rfl, Nat.le_of_ble_eq_true rfl⟩) [] rfl (by decide) rfl rfl (Nat.le_of_ble_eq_true rfl) dL_isStep_85 ⟨Nat.le_of_ble_eq_true rfl, Nat.le_of_ble_eq_true rfl⟩ [] rfl rfl (wVM cI aJ (vm_enact J 0 (upF (x >>> (4 &&& 31)) 10) (-1) (-1) (-1)) ++ (wVM cI aN N)) rfl ?_
  refine y_aload_n Z dL_isStep_88 3 rfl rfl ?_
  refine y_iload_n Z dL_isStep_89 1 rfl rfl ?_
  refine y_SI Z (k_L_other l D ht0 (upF (x >>> (4 &&& 31)) 10)) (y_cwS 1 Z ml_RL_24 st_L_other in_L co_L_other rfl rfl hs_L_other ⟨Nat.le_of_ble_eq_true rfl, Nat.le_of_ble_eq_true rfl⟩) [] rfl (by decide) rfl rfl (Nat.le_of_ble_eq_true rfl) dL_isStep_90 ⟨Nat.le_of_ble_eq_true rfl, Nat.le_of_ble_eq_true rfl⟩ [] rfl rfl (wVM cI aJ (vm_enact J 0 (upF (x >>> (4 &&& 31)) 10) (-1) (-1) (-1)) ++ (wVM cI aN N)) rfl ?_
  refine y_VIw Z (k_X5_program l D ht0 aN N (otF (upF (x >>> (4 &&& 31)) 10)) (up_oS _) (rr_okM hR h_n 0 (by decide) (by decide) (by decide)).2) (y_cwV 1 Z ml_RL_21 im_X5_program se_X5_program in_X5 co_X5_program rfl rfl hd_X5_program ⟨Nat.le_of_ble_eq_true rfl, Nat.le_of_ble_eq_true rfl⟩) (wVM cI aJ (vm_enact J 0 (upF (x >>> (4 &&& 31)) 10) (-1) (-1) (-1))) List.nil (by first | with_reducible rfl | simp only [List.nil_append, List.append_nil] | simp only [List.nil_append, List.append_nil, wMix, wLog, wPic, wRep, wScr, wVM, wMd, sR_eq, sR_ne, sF_eq, sF_ne, upd_eq, upd_ne, gs_eq, gs_ne, gm_4, gm_ne, Nat.reduceBEq]) 5 0 rfl rfl rfl rfl (Nat.le_of_ble_eq_true rfl) dL_isStep_93 ⟨Nat.le_of_ble_eq_true rfl, Nat.le_of_ble_eq_true rfl⟩ (wVM cI aJ (vm_enact J 0 (upF (x >>> (4 &&& 31)) 10) (-1) (-1) (-1)) ++ (wVM cI aN (vm_enact N 0 (otF (upF (x >>> (4 &&& 31)) 10)) (-1) (-1) (-1)))) (by first | with_reducible rfl | simp only [List.nil_append, List.append_nil] | simp only [List.nil_append, List.append_nil, wMix, wLog, wPic, wRep, wScr, wVM, wMd, sR_eq, sR_ne, sF_eq, sF_ne, upd_eq, upd_ne, gs_eq, gs_ne, gm_4, gm_ne, Nat.reduceBEq]) ?_
  refine y_icmp_ne (tgt := 103) Z dL_isStep_96 (by decide) (fun h2 => ?_) (fun h3 => ?_)
  · exact absurd (rr_v0 hR _) h2
  · refine y_iconst (v := 1) Z dL_isStep_99 (by decide) ?_
    refine y_goto (tgt := 104) Z dL_isStep_100 (by decide) ?_
    exact y_retZ Z hr hlk (by decide) dL_isStep_104 (by first | (simp only [eq_true h3, if_true, if_false, not_false_eq_true, not_true_eq_false, ↓reduceIte]; done) | (simp only [eq_true h3, if_true, if_false, not_false_eq_true, not_true_eq_false, ↓reduceIte, wMix, wLog, wPic, wRep, wScr, wVM, wMd, sR_eq, sR_ne, sF_eq, sF_ne, upd_eq, upd_ne, gs_eq, gs_ne, gm_4, gm_ne, Nat.reduceBEq]; done) | (with_reducible rfl) | contradiction | (simp only [eq_true h3, if_true, if_false, not_false_eq_true, not_true_eq_false, ↓reduceIte]; rfl) | rfl) (by first | (simp only [eq_true h3, if_true, if_false, not_false_eq_true, not_true_eq_false, ↓reduceIte]; done) | (simp only [eq_true h3, if_true, if_false, not_false_eq_true, not_true_eq_false, ↓reduceIte, wMix, wLog, wPic, wRep, wScr, wVM, wMd, sR_eq, sR_ne, sF_eq, sF_ne, upd_eq, upd_ne, gs_eq, gs_ne, gm_4, gm_ne, Nat.reduceBEq]; done) | (with_reducible rfl) | contradiction | (simp only [eq_true h3, if_true, if_false, not_false_eq_true, not_true_eq_false, ↓reduceIte]; rfl) | rfl)
set_option maxHeartbeats 4000000 in
set_option maxRecDepth 100000 in
theorem k_L_isStep_1 (l : Launch) (D : va_G) {cI : ClassId} {tys : List (ClassId × FieldType)} (ht0 : tys[0]? = some (cI, .int)) (aJ : Nat → Nat) (J : Nat → Nat → Nat → Int32) (aN : Nat → Nat) (N : Nat → Nat → Nat → Int32) (x : Int32) {n τ : Nat} (h_R : RR J N n τ) (h_n : n < 100) (h_t : τ + 30 ≤ 5000) (h_w : upF x 11 = 1) (sz : Nat) : kI l yL_isStep cL_isStep 5 (some .boolean) { frames := 9, cells := 0, slots := 0, locals := 152 } D tys [.ref (aJ 0), .ref (aN 0), .int x] (wVM cI aJ J ++ (wVM cI aN N)) (wVM cI aJ (vm_enact J 1 (upF (x >>> (4 &&& 31)) 10) (-1) (-1) (-1)) ++ (wVM cI aN (vm_enact N 1 (otF (upF (x >>> (4 &&& 31)) 10)) (-1) (-1) (-1)))) 1 0 0 sz := by
  refine y_enterI (cc := cL_isStep) (maxL := 5) (ret := (some .boolean)) (own := RL) (by decide) rfl (lv0 := [(0, .ref (aJ 0)), (1, .ref (aN 0)), (2, .int x)]) rfl (Nat.le_of_ble_eq_true rfl) ?_
  intro p e s m args below meth c A Z hr hlk _
  have hR := h_R
  refine y_iload_n Z dL_isStep_0 2 rfl rfl ?_
  refine y_iconst (v := 4) Z dL_isStep_1 (by decide) ?_
  refine y_ishr Z dL_isStep_2 ?_
  refine y_bipush (v := 10) Z dL_isStep_3 (by decide) ?_
  refine y_SI Z (k_L_up l D ht0 (x >>> (4 &&& 31)) 10 (by decide)) (y_cwS 2 Z ml_RL_15 st_L_up in_L co_L_up rfl rfl hs_L_up ⟨Nat.le_of_ble_eq_true rfl, Nat.le_of_ble_eq_true rfl⟩) [] rfl (by decide) rfl rfl (Nat.le_of_ble_eq_true rfl) dL_isStep_5 ⟨Nat.le_of_ble_eq_true rfl, Nat.le_of_ble_eq_true rfl⟩ [] rfl rfl (wVM cI aJ J ++ (wVM cI aN N)) rfl ?_
  refine y_istore_n Z [(3, .int (upF (x >>> (4 &&& 31)) 10)), (0, .ref (aJ 0)), (1, .ref (aN 0)), (2, .int x)] dL_isStep_8 rfl (by decide) rfl ?_
  refine y_iload_n Z dL_isStep_9 3 rfl rfl ?_
  refine y_iconst (v := 4) Z dL_isStep_10 (by decide) ?_
  refine y_ishr Z dL_isStep_11 ?_
  refine y_iconst (v := 3) Z dL_isStep_12 (by decide) ?_
  refine y_SI Z (k_L_up l D ht0 (x >>> (4 &&& 31)) 3 (by decide)) (y_cwS 2 Z ml_RL_15 st_L_up in_L co_L_up rfl rfl hs_L_up ⟨Nat.le_of_ble_eq_true rfl, Nat.le_of_ble_eq_true rfl⟩) [] rfl (by decide) rfl rfl (Nat.le_of_ble_eq_true rfl) dL_isStep_13 ⟨Nat.le_of_ble_eq_true rfl, Nat.le_of_ble_eq_true rfl⟩ [] rfl rfl (wVM cI aJ J ++ (wVM cI aN N)) rfl ?_
  refine y_istore Z [(4, .int (upF (x >>> (4 &&& 31)) 3)), (3, .int (upF (x >>> (4 &&& 31)) 10)), (0, .ref (aJ 0)), (1, .ref (aN 0)), (2, .int x)] dL_isStep_16 (by decide) rfl ?_
  refine y_iload_n Z dL_isStep_18 4 rfl rfl ?_
  refine y_bipush (v := 11) Z dL_isStep_19 (by decide) ?_
  refine y_SI Z (k_L_up l D ht0 x 11 (by decide)) (y_cwS 2 Z ml_RL_15 st_L_up in_L co_L_up rfl rfl hs_L_up ⟨Nat.le_of_ble_eq_true rfl, Nat.le_of_ble_eq_true rfl⟩) [] rfl (by decide) rfl rfl (Nat.le_of_ble_eq_true rfl) dL_isStep_21 ⟨Nat.le_of_ble_eq_true rfl, Nat.le_of_ble_eq_true rfl⟩ [] rfl rfl (wVM cI aJ J ++ (wVM cI aN N)) rfl ?_
  refine y_tableIn (tgt := 105) (off := 81) Z dL_isStep_24 (by rw [h_w]; decide) (by rw [h_w]; decide) (by rw [h_w]; rfl) (by decide) ?_
  refine y_aload_n Z dL_isStep_105 2 rfl rfl ?_
  refine y_iload_n Z dL_isStep_106 1 rfl rfl ?_
  refine y_VIw Z (k_X5_preview l D ht0 aJ J (upF (x >>> (4 &&& 31)) 10) (up_S _) (rr_okM hR h_n 1 (by decide) (by decide) (by decide)).1) (y_cwV 1 Z ml_RL_27 im_X5_preview se_X5_preview in_X5 co_X5_preview rfl rfl hd_X5_preview ⟨Nat.le_of_ble_eq_true rfl, Nat.le_of_ble_eq_true rfl⟩) List.nil (wVM cI aN N) (by first | with_reducible rfl | simp only [List.nil_append, List.append_nil] | simp only [List.nil_append, List.append_nil, wMix, wLog, wPic, wRep, wScr, wVM, wMd, sR_eq, sR_ne, sF_eq, sF_ne, upd_eq, upd_ne, gs_eq, gs_ne, gm_4, gm_ne, Nat.reduceBEq]) 5 0 rfl rfl rfl rfl (Nat.le_of_ble_eq_true rfl) dL_isStep_107 ⟨Nat.le_of_ble_eq_true rfl, Nat.le_of_ble_eq_true rfl⟩ (wVM cI aJ (vm_enact J 1 (upF (x >>> (4 &&& 31)) 10) (-1) (-1) (-1)) ++ (wVM cI aN N)) (by first | with_reducible rfl | simp only [List.nil_append, List.append_nil] | simp only [List.nil_append, List.append_nil, wMix, wLog, wPic, wRep, wScr, wVM, wMd, sR_eq, sR_ne, sF_eq, sF_ne, upd_eq, upd_ne, gs_eq, gs_ne, gm_4, gm_ne, Nat.reduceBEq]) ?_
  refine y_SI Z (k_L_other l D ht0 (perfR (J 0) 1 (upF (x >>> (4 &&& 31)) 10) (-1) (-1) (-1))) (y_cwS 1 Z ml_RL_24 st_L_other in_L co_L_other rfl rfl hs_L_other ⟨Nat.le_of_ble_eq_true rfl, Nat.le_of_ble_eq_true rfl⟩) [] rfl (by decide) rfl rfl (Nat.le_of_ble_eq_true rfl) dL_isStep_110 ⟨Nat.le_of_ble_eq_true rfl, Nat.le_of_ble_eq_true rfl⟩ [] rfl rfl (wVM cI aJ (vm_enact J 1 (upF (x >>> (4 &&& 31)) 10) (-1) (-1) (-1)) ++ (wVM cI aN N)) rfl ?_
  refine y_aload_n Z dL_isStep_113 3 rfl rfl ?_
  refine y_iload_n Z dL_isStep_114 1 rfl rfl ?_
  refine y_SI Z (k_L_other l D ht0 (upF (x >>> (4 &&& 31)) 10)) (y_cwS 1 Z ml_RL_24 st_L_other in_L co_L_other rfl rfl hs_L_other ⟨Nat.le_of_ble_eq_true rfl, Nat.le_of_ble_eq_true rfl⟩) [] rfl (by decide) rfl rfl (Nat.le_of_ble_eq_true rfl) dL_isStep_115 ⟨Nat.le_of_ble_eq_true rfl, Nat.le_of_ble_eq_true rfl⟩ [] rfl rfl (wVM cI aJ (vm_enact J 1 (upF (x >>> (4 &&& 31)) 10) (-1) (-1) (-1)) ++ (wVM cI aN N)) rfl ?_
  refine y_VIw Z (k_X5_preview l D ht0 aN N (otF (upF (x >>> (4 &&& 31)) 10)) (up_oS _) (rr_okM hR h_n 1 (by decide) (by decide) (by decide)).2) (y_cwV 1 Z ml_RL_27 im_X5_preview se_X5_preview in_X5 co_X5_preview rfl rfl hd_X5_preview ⟨Nat.le_of_ble_eq_true rfl, Nat.le_of_ble_eq_true rfl⟩) (wVM cI aJ (vm_enact J 1 (upF (x >>> (4 &&& 31)) 10) (-1) (-1) (-1))) List.nil (by first | with_reducible rfl | simp only [List.nil_append, List.append_nil] | simp only [List.nil_append, List.append_nil, wMix, wLog, wPic, wRep, wScr, wVM, wMd, sR_eq, sR_ne, sF_eq, sF_ne, upd_eq, upd_ne, gs_eq, gs_ne, gm_4, gm_ne, Nat.reduceBEq]) 5 0 rfl rfl rfl rfl (Nat.le_of_ble_eq_true rfl) dL_isStep_118 ⟨Nat.le_of_ble_eq_true rfl, Nat.le_of_ble_eq_true rfl⟩ (wVM cI aJ (vm_enact J 1 (upF (x >>> (4 &&& 31)) 10) (-1) (-1) (-1)) ++ (wVM cI aN (vm_enact N 1 (otF (upF (x >>> (4 &&& 31)) 10)) (-1) (-1) (-1)))) (by first | with_reducible rfl | simp only [List.nil_append, List.append_nil] | simp only [List.nil_append, List.append_nil, wMix, wLog, wPic, wRep, wScr, wVM, wMd, sR_eq, sR_ne, sF_eq, sF_ne, upd_eq, upd_ne, gs_eq, gs_ne, gm_4, gm_ne, Nat.reduceBEq]) ?_
  refine y_icmp_ne (tgt := 128) Z dL_isStep_121 (by decide) (fun h2 => ?_) (fun h3 => ?_)
  · exact absurd (rr_v1 hR _) h2
  · refine y_iconst (v := 1) Z dL_isStep_124 (by decide) ?_
    refine y_goto (tgt := 129) Z dL_isStep_125 (by decide) ?_
    exact y_retZ Z hr hlk (by decide) dL_isStep_129 (by first | (simp only [eq_true h3, if_true, if_false, not_false_eq_true, not_true_eq_false, ↓reduceIte]; done) | (simp only [eq_true h3, if_true, if_false, not_false_eq_true, not_true_eq_false, ↓reduceIte, wMix, wLog, wPic, wRep, wScr, wVM, wMd, sR_eq, sR_ne, sF_eq, sF_ne, upd_eq, upd_ne, gs_eq, gs_ne, gm_4, gm_ne, Nat.reduceBEq]; done) | (with_reducible rfl) | contradiction | (simp only [eq_true h3, if_true, if_false, not_false_eq_true, not_true_eq_false, ↓reduceIte]; rfl) | rfl) (by first | (simp only [eq_true h3, if_true, if_false, not_false_eq_true, not_true_eq_false, ↓reduceIte]; done) | (simp only [eq_true h3, if_true, if_false, not_false_eq_true, not_true_eq_false, ↓reduceIte, wMix, wLog, wPic, wRep, wScr, wVM, wMd, sR_eq, sR_ne, sF_eq, sF_ne, upd_eq, upd_ne, gs_eq, gs_ne, gm_4, gm_ne, Nat.reduceBEq]; done) | (with_reducible rfl) | contradiction | (simp only [eq_true h3, if_true, if_false, not_false_eq_true, not_true_eq_false, ↓reduceIte]; rfl) | rfl)
set_option maxHeartbeats 4000000 in
set_option maxRecDepth 100000 in
theorem k_L_isStep_2 (l : Launch) (D : va_G) {cI : ClassId} {tys : List (ClassId × FieldType)} (ht0 : tys[0]? = some (cI, .int)) (aJ : Nat → Nat) (J : Nat → Nat → Nat → Int32) (aN : Nat → Nat) (N : Nat → Nat → Nat → Int32) (x : Int32) {n τ : Nat} (h_R : RR J N n τ) (h_n : n < 100) (h_t : τ + 30 ≤ 5000) (h_w : upF x 11 = 2) (sz : Nat) : kI l yL_isStep cL_isStep 5 (some .boolean) { frames := 9, cells := 0, slots := 0, locals := 152 } D tys [.ref (aJ 0), .ref (aN 0), .int x] (wVM cI aJ J ++ (wVM cI aN N)) (wVM cI aJ (vm_enact J 2 (upF (x >>> (4 &&& 31)) 3) ((1 : Int32) + (upF (x >>> (6 &&& 31)) 40)) (-1) (-1)) ++ (wVM cI aN (vm_enact N 2 (upF (x >>> (4 &&& 31)) 3) ((1 : Int32) + (upF (x >>> (6 &&& 31)) 40)) (-1) (-1)))) 1 0 0 sz := by
  refine y_enterI (cc := cL_isStep) (maxL := 5) (ret := (some .boolean)) (own := RL) (by decide) rfl (lv0 := [(0, .ref (aJ 0)), (1, .ref (aN 0)), (2, .int x)]) rfl (Nat.le_of_ble_eq_true rfl) ?_
  intro p e s m args below meth c A Z hr hlk _
  have hR := h_R
  refine y_iload_n Z dL_isStep_0 2 rfl rfl ?_
  refine y_iconst (v := 4) Z dL_isStep_1 (by decide) ?_
  refine y_ishr Z dL_isStep_2 ?_
  refine y_bipush (v := 10) Z dL_isStep_3 (by decide) ?_
  refine y_SI Z (k_L_up l D ht0 (x >>> (4 &&& 31)) 10 (by decide)) (y_cwS 2 Z ml_RL_15 st_L_up in_L co_L_up rfl rfl hs_L_up ⟨Nat.le_of_ble_eq_true rfl, Nat.le_of_ble_eq_true rfl⟩) [] rfl (by decide) rfl rfl (Nat.le_of_ble_eq_true rfl) dL_isStep_5 ⟨Nat.le_of_ble_eq_true rfl, Nat.le_of_ble_eq_true rfl⟩ [] rfl rfl (wVM cI aJ J ++ (wVM cI aN N)) rfl ?_
  refine y_istore_n Z [(3, .int (upF (x >>> (4 &&& 31)) 10)), (0, .ref (aJ 0)), (1, .ref (aN 0)), (2, .int x)] dL_isStep_8 rfl (by decide) rfl ?_
  refine y_iload_n Z dL_isStep_9 3 rfl rfl ?_
  refine y_iconst (v := 4) Z dL_isStep_10 (by decide) ?_
  refine y_ishr Z dL_isStep_11 ?_
  refine y_iconst (v := 3) Z dL_isStep_12 (by decide) ?_
  refine y_SI Z (k_L_up l D ht0 (x >>> (4 &&& 31)) 3 (by decide)) (y_cwS 2 Z ml_RL_15 st_L_up in_L co_L_up rfl rfl hs_L_up ⟨Nat.le_of_ble_eq_true rfl, Nat.le_of_ble_eq_true rfl⟩) [] rfl (by decide) rfl rfl (Nat.le_of_ble_eq_true rfl) dL_isStep_13 ⟨Nat.le_of_ble_eq_true rfl, Nat.le_of_ble_eq_true rfl⟩ [] rfl rfl (wVM cI aJ J ++ (wVM cI aN N)) rfl ?_
  refine y_istore Z [(4, .int (upF (x >>> (4 &&& 31)) 3)), (3, .int (upF (x >>> (4 &&& 31)) 10)), (0, .ref (aJ 0)), (1, .ref (aN 0)), (2, .int x)] dL_isStep_16 (by decide) rfl ?_
  refine y_iload_n Z dL_isStep_18 4 rfl rfl ?_
  refine y_bipush (v := 11) Z dL_isStep_19 (by decide) ?_
  refine y_SI Z (k_L_up l D ht0 x 11 (by decide)) (y_cwS 2 Z ml_RL_15 st_L_up in_L co_L_up rfl rfl hs_L_up ⟨Nat.le_of_ble_eq_true rfl, Nat.le_of_ble_eq_true rfl⟩) [] rfl (by decide) rfl rfl (Nat.le_of_ble_eq_true rfl) dL_isStep_21 ⟨Nat.le_of_ble_eq_true rfl, Nat.le_of_ble_eq_true rfl⟩ [] rfl rfl (wVM cI aJ J ++ (wVM cI aN N)) rfl ?_
  refine y_tableIn (tgt := 130) (off := 106) Z dL_isStep_24 (by rw [h_w]; decide) (by rw [h_w]; decide) (by rw [h_w]; rfl) (by decide) ?_
  refine y_aload_n Z dL_isStep_130 2 rfl rfl ?_
  refine y_iload Z dL_isStep_131 0 rfl ?_
  refine y_iconst (v := 1) Z dL_isStep_133 (by decide) ?_
  refine y_iload_n Z dL_isStep_134 4 rfl rfl ?_
  refine y_bipush (v := 6) Z dL_isStep_135 (by decide) ?_
  refine y_ishr Z dL_isStep_137 ?_
  refine y_bipush (v := 40) Z dL_isStep_138 (by decide) ?_
  refine y_SI Z (k_L_up l D ht0 (x >>> (6 &&& 31)) 40 (by decide)) (y_cwS 2 Z ml_RL_15 st_L_up in_L co_L_up rfl rfl hs_L_up ⟨Nat.le_of_ble_eq_true rfl, Nat.le_of_ble_eq_true rfl⟩) [] rfl (by decide) rfl rfl (Nat.le_of_ble_eq_true rfl) dL_isStep_140 ⟨Nat.le_of_ble_eq_true rfl, Nat.le_of_ble_eq_true rfl⟩ [] rfl rfl (wVM cI aJ J ++ (wVM cI aN N)) rfl ?_
  refine y_iadd Z dL_isStep_143 ?_
  refine y_VIw Z (k_X5_transition l D ht0 aJ J (upF (x >>> (4 &&& 31)) 3) ((1 : Int32) + upF (x >>> (6 &&& 31)) 40) (up_R0 (m := 3) (h := 2) _ (by decide) (by decide) (by decide)) (up_R1 (m := 40) (h := 100) _ (by decide) (by decide) (by decide)) (rr_okM hR h_n 2 (by decide) (by decide) (by decide)).1) (y_cwV 2 Z ml_RL_30 im_X5_transition se_X5_transition in_X5 co_X5_transition rfl rfl hd_X5_transition ⟨Nat.le_of_ble_eq_true rfl, Nat.le_of_ble_eq_true rfl⟩) List.nil (wVM cI aN N) (by first | with_reducible rfl | simp only [List.nil_append, List.append_nil] | simp only [List.nil_append, List.append_nil, wMix, wLog, wPic, wRep, wScr, wVM, wMd, sR_eq, sR_ne, sF_eq, sF_ne, upd_eq, upd_ne, gs_eq, gs_ne, gm_4, gm_ne, Nat.reduceBEq]) 5 0 rfl rfl rfl rfl (Nat.le_of_ble_eq_true rfl) dL_isStep_144 ⟨Nat.le_of_ble_eq_true rfl, Nat.le_of_ble_eq_true rfl⟩ (wVM cI aJ (vm_enact J 2 (upF (x >>> (4 &&& 31)) 3) ((1 : Int32) + upF (x >>> (6 &&& 31)) 40) (-1) (-1)) ++ (wVM cI aN N)) (by first | with_reducible rfl | simp only [List.nil_append, List.append_nil] | simp only [List.nil_append, List.append_nil, wMix, wLog, wPic, wRep, wScr, wVM, wMd, sR_eq, sR_ne, sF_eq, sF_ne, upd_eq, upd_ne, gs_eq, gs_ne, gm_4, gm_ne, Nat.reduceBEq]) ?_
  refine y_aload_n Z dL_isStep_147 3 rfl rfl ?_
  refine y_iload Z dL_isStep_148 0 rfl ?_
  refine y_iconst (v := 1) Z dL_isStep_150 (by decide) ?_
  refine y_iload_n Z dL_isStep_151 4 rfl rfl ?_
  refine y_bipush (v := 6) Z dL_isStep_152 (by decide) ?_
  refine y_ishr Z dL_isStep_154 ?_
  refine y_bipush (v := 40) Z dL_isStep_155 (by decide) ?_
  refine y_SI Z (k_L_up l D ht0 (x >>> (6 &&& 31)) 40 (by decide)) (y_cwS 2 Z ml_RL_15 st_L_up in_L co_L_up rfl rfl hs_L_up ⟨Nat.le_of_ble_eq_true rfl, Nat.le_of_ble_eq_true rfl⟩) [] rfl (by decide) rfl rfl (Nat.le_of_ble_eq_true rfl) dL_isStep_157 ⟨Nat.le_of_ble_eq_true rfl, Nat.le_of_ble_eq_true rfl⟩ [] rfl rfl (wVM cI aJ (vm_enact J 2 (upF (x >>> (4 &&& 31)) 3) ((1 : Int32) + upF (x >>> (6 &&& 31)) 40) (-1) (-1)) ++ (wVM cI aN N)) rfl ?_
  refine y_iadd Z dL_isStep_160 ?_
  refine y_VIw Z (k_X5_transition l D ht0 aN N (upF (x >>> (4 &&& 31)) 3) ((1 : Int32) + upF (x >>> (6 &&& 31)) 40) (up_R0 (m := 3) (h := 2) _ (by decide) (by decide) (by decide)) (up_R1 (m := 40) (h := 100) _ (by decide) (by decide) (by decide)) (rr_okM hR h_n 2 (by decide) (by decide) (by decide)).2) (y_cwV 2 Z ml_RL_30 im_X5_transition se_X5_transition in_X5 co_X5_transition rfl rfl hd_X5_transition ⟨Nat.le_of_ble_eq_true rfl, Nat.le_of_ble_eq_true rfl⟩) (wVM cI aJ (vm_enact J 2 (upF (x >>> (4 &&& 31)) 3) ((1 : Int32) + upF (x >>> (6 &&& 31)) 40) (-1) (-1))) List.nil (by first | with_reducible rfl | simp only [List.nil_append, List.append_nil] | simp only [List.nil_append, List.append_nil, wMix, wLog, wPic, wRep, wScr, wVM, wMd, sR_eq, sR_ne, sF_eq, sF_ne, upd_eq, upd_ne, gs_eq, gs_ne, gm_4, gm_ne, Nat.reduceBEq]) 5 0 rfl rfl rfl rfl (Nat.le_of_ble_eq_true rfl) dL_isStep_161 ⟨Nat.le_of_ble_eq_true rfl, Nat.le_of_ble_eq_true rfl⟩ (wVM cI aJ (vm_enact J 2 (upF (x >>> (4 &&& 31)) 3) ((1 : Int32) + upF (x >>> (6 &&& 31)) 40) (-1) (-1)) ++ (wVM cI aN (vm_enact N 2 (upF (x >>> (4 &&& 31)) 3) ((1 : Int32) + upF (x >>> (6 &&& 31)) 40) (-1) (-1)))) (by first | with_reducible rfl | simp only [List.nil_append, List.append_nil] | simp only [List.nil_append, List.append_nil, wMix, wLog, wPic, wRep, wScr, wVM, wMd, sR_eq, sR_ne, sF_eq, sF_ne, upd_eq, upd_ne, gs_eq, gs_ne, gm_4, gm_ne, Nat.reduceBEq]) ?_
  refine y_icmp_ne (tgt := 171) Z dL_isStep_164 (by decide) (fun h2 => ?_) (fun h3 => ?_)
  · exact absurd (rr_v2 hR _ _) h2
  · refine y_iconst (v := 1) Z dL_isStep_167 (by decide) ?_
    refine y_goto (tgt := 172) Z dL_isStep_168 (by decide) ?_
    exact y_retZ Z hr hlk (by decide) dL_isStep_172 (by first | (simp only [eq_true h3, if_true, if_false, not_false_eq_true, not_true_eq_false, ↓reduceIte]; done) | (simp only [eq_true h3, if_true, if_false, not_false_eq_true, not_true_eq_false, ↓reduceIte, wMix, wLog, wPic, wRep, wScr, wVM, wMd, sR_eq, sR_ne, sF_eq, sF_ne, upd_eq, upd_ne, gs_eq, gs_ne, gm_4, gm_ne, Nat.reduceBEq]; done) | (with_reducible rfl) | contradiction | (simp only [eq_true h3, if_true, if_false, not_false_eq_true, not_true_eq_false, ↓reduceIte]; rfl) | rfl) (by first | (simp only [eq_true h3, if_true, if_false, not_false_eq_true, not_true_eq_false, ↓reduceIte]; done) | (simp only [eq_true h3, if_true, if_false, not_false_eq_true, not_true_eq_false, ↓reduceIte, wMix, wLog, wPic, wRep, wScr, wVM, wMd, sR_eq, sR_ne, sF_eq, sF_ne, upd_eq, upd_ne, gs_eq, gs_ne, gm_4, gm_ne, Nat.reduceBEq]; done) | (with_reducible rfl) | contradiction | (simp only [eq_true h3, if_true, if_false, not_false_eq_true, not_true_eq_false, ↓reduceIte]; rfl) | rfl)
set_option maxHeartbeats 4000000 in
set_option maxRecDepth 100000 in
theorem k_L_isStep_3 (l : Launch) (D : va_G) {cI : ClassId} {tys : List (ClassId × FieldType)} (ht0 : tys[0]? = some (cI, .int)) (aJ : Nat → Nat) (J : Nat → Nat → Nat → Int32) (aN : Nat → Nat) (N : Nat → Nat → Nat → Int32) (x : Int32) {n τ : Nat} (h_R : RR J N n τ) (h_n : n < 100) (h_t : τ + 30 ≤ 5000) (h_w : upF x 11 = 3) (sz : Nat) : kI l yL_isStep cL_isStep 5 (some .boolean) { frames := 9, cells := 0, slots := 0, locals := 152 } D tys [.ref (aJ 0), .ref (aN 0), .int x] (wVM cI aJ J ++ (wVM cI aN N)) (wVM cI aJ (if stF0 J = 0 then J else (vm_enact J 3 (upF (x >>> (4 &&& 31)) 16) (-1) (-1) (-1))) ++ (wVM cI aN (if stF0 J = 0 then N else (vm_enact N 3 (upF (x >>> (4 &&& 31)) 16) (-1) (-1) (-1))))) 1 0 0 sz := by
  refine y_enterI (cc := cL_isStep) (maxL := 5) (ret := (some .boolean)) (own := RL) (by decide) rfl (lv0 := [(0, .ref (aJ 0)), (1, .ref (aN 0)), (2, .int x)]) rfl (Nat.le_of_ble_eq_true rfl) ?_
  intro p e s m args below meth c A Z hr hlk _
  have hR := h_R
  refine y_iload_n Z dL_isStep_0 2 rfl rfl ?_
  refine y_iconst (v := 4) Z dL_isStep_1 (by decide) ?_
  refine y_ishr Z dL_isStep_2 ?_
  refine y_bipush (v := 10) Z dL_isStep_3 (by decide) ?_
  refine y_SI Z (k_L_up l D ht0 (x >>> (4 &&& 31)) 10 (by decide)) (y_cwS 2 Z ml_RL_15 st_L_up in_L co_L_up rfl rfl hs_L_up ⟨Nat.le_of_ble_eq_true rfl, Nat.le_of_ble_eq_true rfl⟩) [] rfl (by decide) rfl rfl (Nat.le_of_ble_eq_true rfl) dL_isStep_5 ⟨Nat.le_of_ble_eq_true rfl, Nat.le_of_ble_eq_true rfl⟩ [] rfl rfl (wVM cI aJ J ++ (wVM cI aN N)) rfl ?_
  refine y_istore_n Z [(3, .int (upF (x >>> (4 &&& 31)) 10)), (0, .ref (aJ 0)), (1, .ref (aN 0)), (2, .int x)] dL_isStep_8 rfl (by decide) rfl ?_
  refine y_iload_n Z dL_isStep_9 3 rfl rfl ?_
  refine y_iconst (v := 4) Z dL_isStep_10 (by decide) ?_
  refine y_ishr Z dL_isStep_11 ?_
  refine y_iconst (v := 3) Z dL_isStep_12 (by decide) ?_
  refine y_SI Z (k_L_up l D ht0 (x >>> (4 &&& 31)) 3 (by decide)) (y_cwS 2 Z ml_RL_15 st_L_up in_L co_L_up rfl rfl hs_L_up ⟨Nat.le_of_ble_eq_true rfl, Nat.le_of_ble_eq_true rfl⟩) [] rfl (by decide) rfl rfl (Nat.le_of_ble_eq_true rfl) dL_isStep_13 ⟨Nat.le_of_ble_eq_true rfl, Nat.le_of_ble_eq_true rfl⟩ [] rfl rfl (wVM cI aJ J ++ (wVM cI aN N)) rfl ?_
  refine y_istore Z [(4, .int (upF (x >>> (4 &&& 31)) 3)), (3, .int (upF (x >>> (4 &&& 31)) 10)), (0, .ref (aJ 0)), (1, .ref (aN 0)), (2, .int x)] dL_isStep_16 (by decide) rfl ?_
  refine y_iload_n Z dL_isStep_18 4 rfl rfl ?_
  refine y_bipush (v := 11) Z dL_isStep_19 (by decide) ?_
  refine y_SI Z (k_L_up l D ht0 x 11 (by decide)) (y_cwS 2 Z ml_RL_15 st_L_up in_L co_L_up rfl rfl hs_L_up ⟨Nat.le_of_ble_eq_true rfl, Nat.le_of_ble_eq_true rfl⟩) [] rfl (by decide) rfl rfl (Nat.le_of_ble_eq_true rfl) dL_isStep_21 ⟨Nat.le_of_ble_eq_true rfl, Nat.le_of_ble_eq_true rfl⟩ [] rfl rfl (wVM cI aJ J ++ (wVM cI aN N)) rfl ?_
  refine y_tableIn (tgt := 173) (off := 149) Z dL_isStep_24 (by rw [h_w]; decide) (by rw [h_w]; decide) (by rw [h_w]; rfl) (by decide) ?_
  refine y_aload_n Z dL_isStep_173 2 rfl rfl ?_
  refine y_SIw Z (k_L_isStill l D ht0 aJ J) (y_cwS 1 Z ml_RL_33 st_L_isStill in_L co_L_isStill rfl rfl hs_L_isStill ⟨Nat.le_of_ble_eq_true rfl, Nat.le_of_ble_eq_true rfl⟩) List.nil (wVM cI aN N) (by first | with_reducible rfl | simp only [List.nil_append, List.append_nil] | simp only [List.nil_append, List.append_nil, wMix, wLog, wPic, wRep, wScr, wVM, wMd, sR_eq, sR_ne, sF_eq, sF_ne, upd_eq, upd_ne, gs_eq, gs_ne, gm_4, gm_ne, Nat.reduceBEq]) rfl rfl (Nat.le_of_ble_eq_true rfl) dL_isStep_174 ⟨Nat.le_of_ble_eq_true rfl, Nat.le_of_ble_eq_true rfl⟩ (wVM cI aJ J ++ (wVM cI aN N)) (by first | with_reducible rfl | simp only [List.nil_append, List.append_nil] | simp only [List.nil_append, List.append_nil, wMix, wLog, wPic, wRep, wScr, wVM, wMd, sR_eq, sR_ne, sF_eq, sF_ne, upd_eq, upd_ne, gs_eq, gs_ne, gm_4, gm_ne, Nat.reduceBEq]) ?_
  refine y_if_eq (tgt := 207) Z dL_isStep_177 (by decide) (fun h2 => ?_) (fun h3 => ?_)
  · refine y_iconst (v := 1) Z dL_isStep_207 (by decide) ?_
    refine y_goto (tgt := 212) Z dL_isStep_208 (by decide) ?_
    exact y_retZ Z hr hlk (by decide) dL_isStep_212 (by first | (simp only [eq_true h2, if_true, if_false, not_false_eq_true, not_true_eq_false, ↓reduceIte]; done) | (simp only [eq_true h2, if_true, if_false, not_false_eq_true, not_true_eq_false, ↓reduceIte, wMix, wLog, wPic, wRep, wScr, wVM, wMd, sR_eq, sR_ne, sF_eq, sF_ne, upd_eq, upd_ne, gs_eq, gs_ne, gm_4, gm_ne, Nat.reduceBEq]; done) | (with_reducible rfl) | contradiction | (simp only [eq_true h2, if_true, if_false, not_false_eq_true, not_true_eq_false, ↓reduceIte]; rfl) | rfl) (by first | (simp only [eq_true h2, if_true, if_false, not_false_eq_true, not_true_eq_false, ↓reduceIte]; done) | (simp only [eq_true h2, if_true, if_false, not_false_eq_true, not_true_eq_false, ↓reduceIte, wMix, wLog, wPic, wRep, wScr, wVM, wMd, sR_eq, sR_ne, sF_eq, sF_ne, upd_eq, upd_ne, gs_eq, gs_ne, gm_4, gm_ne, Nat.reduceBEq]; done) | (with_reducible rfl) | contradiction | (simp only [eq_true h2, if_true, if_false, not_false_eq_true, not_true_eq_false, ↓reduceIte]; rfl) | rfl)
  · refine y_aload_n Z dL_isStep_180 2 rfl rfl ?_
    refine y_iload_n Z dL_isStep_181 4 rfl rfl ?_
    refine y_iconst (v := 4) Z dL_isStep_182 (by decide) ?_
    refine y_ishr Z dL_isStep_183 ?_
    refine y_bipush (v := 16) Z dL_isStep_184 (by decide) ?_
    refine y_SI Z (k_L_up l D ht0 (x >>> (4 &&& 31)) 16 (by decide)) (y_cwS 2 Z ml_RL_15 st_L_up in_L co_L_up rfl rfl hs_L_up ⟨Nat.le_of_ble_eq_true rfl, Nat.le_of_ble_eq_true rfl⟩) [] rfl (by decide) rfl rfl (Nat.le_of_ble_eq_true rfl) dL_isStep_186 ⟨Nat.le_of_ble_eq_true rfl, Nat.le_of_ble_eq_true rfl⟩ [] rfl rfl (wVM cI aJ J ++ (wVM cI aN N)) rfl ?_
    refine y_VIw Z (k_X5_next l D ht0 aJ J (upF (x >>> (4 &&& 31)) 16) (up_R0 (m := 16) (h := 15) _ (by decide) (by decide) (by decide)) (rr_ok3 hR h_n h3).1) (y_cwV 1 Z ml_RL_37 im_X5_next se_X5_next in_X5 co_X5_next rfl rfl hd_X5_next ⟨Nat.le_of_ble_eq_true rfl, Nat.le_of_ble_eq_true rfl⟩) List.nil (wVM cI aN N) (by first | with_reducible rfl | simp only [List.nil_append, List.append_nil] | simp only [List.nil_append, List.append_nil, wMix, wLog, wPic, wRep, wScr, wVM, wMd, sR_eq, sR_ne, sF_eq, sF_ne, upd_eq, upd_ne, gs_eq, gs_ne, gm_4, gm_ne, Nat.reduceBEq]) 5 0 rfl rfl rfl rfl (Nat.le_of_ble_eq_true rfl) dL_isStep_189 ⟨Nat.le_of_ble_eq_true rfl, Nat.le_of_ble_eq_true rfl⟩ (wVM cI aJ (vm_enact J 3 (upF (x >>> (4 &&& 31)) 16) (-1) (-1) (-1)) ++ (wVM cI aN N)) (by first | with_reducible rfl | simp only [List.nil_append, List.append_nil] | simp only [List.nil_append, List.append_nil, wMix, wLog, wPic, wRep, wScr, wVM, wMd, sR_eq, sR_ne, sF_eq, sF_ne, upd_eq, upd_ne, gs_eq, gs_ne, gm_4, gm_ne, Nat.reduceBEq]) ?_
    refine y_aload_n Z dL_isStep_192 3 rfl rfl ?_
    refine y_iload_n Z dL_isStep_193 4 rfl rfl ?_
    refine y_iconst (v := 4) Z dL_isStep_194 (by decide) ?_
    refine y_ishr Z dL_isStep_195 ?_
    refine y_bipush (v := 16) Z dL_isStep_196 (by decide) ?_
    refine y_SI Z (k_L_up l D ht0 (x >>> (4 &&& 31)) 16 (by decide)) (y_cwS 2 Z ml_RL_15 st_L_up in_L co_L_up rfl rfl hs_L_up ⟨Nat.le_of_ble_eq_true rfl, Nat.le_of_ble_eq_true rfl⟩) [] rfl (by decide) rfl rfl (Nat.le_of_ble_eq_true rfl) dL_isStep_198 ⟨Nat.le_of_ble_eq_true rfl, Nat.le_of_ble_eq_true rfl⟩ [] rfl rfl (wVM cI aJ (vm_enact J 3 (upF (x >>> (4 &&& 31)) 16) (-1) (-1) (-1)) ++ (wVM cI aN N)) rfl ?_
    refine y_VIw Z (k_X5_next l D ht0 aN N (upF (x >>> (4 &&& 31)) 16) (up_R0 (m := 16) (h := 15) _ (by decide) (by decide) (by decide)) (rr_ok3 hR h_n h3).2) (y_cwV 1 Z ml_RL_37 im_X5_next se_X5_next in_X5 co_X5_next rfl rfl hd_X5_next ⟨Nat.le_of_ble_eq_true rfl, Nat.le_of_ble_eq_true rfl⟩) (wVM cI aJ (vm_enact J 3 (upF (x >>> (4 &&& 31)) 16) (-1) (-1) (-1))) List.nil (by first | with_reducible rfl | simp only [List.nil_append, List.append_nil] | simp only [List.nil_append, List.append_nil, wMix, wLog, wPic, wRep, wScr, wVM, wMd, sR_eq, sR_ne, sF_eq, sF_ne, upd_eq, upd_ne, gs_eq, gs_ne, gm_4, gm_ne, Nat.reduceBEq]) 5 0 rfl rfl rfl rfl (Nat.le_of_ble_eq_true rfl) dL_isStep_201 ⟨Nat.le_of_ble_eq_true rfl, Nat.le_of_ble_eq_true rfl⟩ (wVM cI aJ (vm_enact J 3 (upF (x >>> (4 &&& 31)) 16) (-1) (-1) (-1)) ++ (wVM cI aN (vm_enact N 3 (upF (x >>> (4 &&& 31)) 16) (-1) (-1) (-1)))) (by first | with_reducible rfl | simp only [List.nil_append, List.append_nil] | simp only [List.nil_append, List.append_nil, wMix, wLog, wPic, wRep, wScr, wVM, wMd, sR_eq, sR_ne, sF_eq, sF_ne, upd_eq, upd_ne, gs_eq, gs_ne, gm_4, gm_ne, Nat.reduceBEq]) ?_
    refine y_icmp_ne (tgt := 211) Z dL_isStep_204 (by decide) (fun h4 => ?_) (fun h5 => ?_)
    · exact absurd (rr_v3 hR _) h4
    · refine y_iconst (v := 1) Z dL_isStep_207 (by decide) ?_
      refine y_goto (tgt := 212) Z dL_isStep_208 (by decide) ?_
      exact y_retZ Z hr hlk (by decide) dL_isStep_212 (by first | (simp only [h3, eq_true h5, if_true, if_false, not_false_eq_true, not_true_eq_false, ↓reduceIte]; done) | (simp only [h3, eq_true h5, if_true, if_false, not_false_eq_true, not_true_eq_false, ↓reduceIte, wMix, wLog, wPic, wRep, wScr, wVM, wMd, sR_eq, sR_ne, sF_eq, sF_ne, upd_eq, upd_ne, gs_eq, gs_ne, gm_4, gm_ne, Nat.reduceBEq]; done) | (with_reducible rfl) | contradiction | (simp only [h3, eq_true h5, if_true, if_false, not_false_eq_true, not_true_eq_false, ↓reduceIte]; rfl) | rfl) (by first | (simp only [h3, eq_true h5, if_true, if_false, not_false_eq_true, not_true_eq_false, ↓reduceIte]; done) | (simp only [h3, eq_true h5, if_true, if_false, not_false_eq_true, not_true_eq_false, ↓reduceIte, wMix, wLog, wPic, wRep, wScr, wVM, wMd, sR_eq, sR_ne, sF_eq, sF_ne, upd_eq, upd_ne, gs_eq, gs_ne, gm_4, gm_ne, Nat.reduceBEq]; done) | (with_reducible rfl) | contradiction | (simp only [h3, eq_true h5, if_true, if_false, not_false_eq_true, not_true_eq_false, ↓reduceIte]; rfl) | rfl)
set_option maxHeartbeats 4000000 in
set_option maxRecDepth 100000 in
theorem k_L_isStep_4 (l : Launch) (D : va_G) {cI : ClassId} {tys : List (ClassId × FieldType)} (ht0 : tys[0]? = some (cI, .int)) (aJ : Nat → Nat) (J : Nat → Nat → Nat → Int32) (aN : Nat → Nat) (N : Nat → Nat → Nat → Int32) (x : Int32) {n τ : Nat} (h_R : RR J N n τ) (h_n : n < 100) (h_t : τ + 30 ≤ 5000) (h_w : upF x 11 = 4) (sz : Nat) : kI l yL_isStep cL_isStep 5 (some .boolean) { frames := 9, cells := 0, slots := 0, locals := 152 } D tys [.ref (aJ 0), .ref (aN 0), .int x] (wVM cI aJ J ++ (wVM cI aN N)) (wVM cI aJ (vm_enact J 4 (upF (x >>> (4 &&& 31)) 3) (upF (x >>> (6 &&& 31)) 10) (upF (x >>> (10 &&& 31)) 101) ((1 : Int32) + (upF (x >>> (12 &&& 31)) 100))) ++ (wVM cI aN (vm_enact N 4 (upF (x >>> (4 &&& 31)) 3) (otF (upF (x >>> (6 &&& 31)) 10)) (upF (x >>> (10 &&& 31)) 101) ((1 : Int32) + (upF (x >>> (12 &&& 31)) 100))))) 1 0 0 sz := by
  refine y_enterI (cc := cL_isStep) (maxL := 5) (ret := (some .boolean)) (own := RL) (by decide) rfl (lv0 := [(0, .ref (aJ 0)), (1, .ref (aN 0)), (2, .int x)]) rfl (Nat.le_of_ble_eq_true rfl) ?_
  intro p e s m args below meth c A Z hr hlk _
  have hR := h_R
  refine y_iload_n Z dL_isStep_0 2 rfl rfl ?_
  refine y_iconst (v := 4) Z dL_isStep_1 (by decide) ?_
  refine y_ishr Z dL_isStep_2 ?_
  refine y_bipush (v := 10) Z dL_isStep_3 (by decide) ?_
  refine y_SI Z (k_L_up l D ht0 (x >>> (4 &&& 31)) 10 (by decide)) (y_cwS 2 Z ml_RL_15 st_L_up in_L co_L_up rfl rfl hs_L_up ⟨Nat.le_of_ble_eq_true rfl, Nat.le_of_ble_eq_true rfl⟩) [] rfl (by decide) rfl rfl (Nat.le_of_ble_eq_true rfl) dL_isStep_5 ⟨Nat.le_of_ble_eq_true rfl, Nat.le_of_ble_eq_true rfl⟩ [] rfl rfl (wVM cI aJ J ++ (wVM cI aN N)) rfl ?_
  refine y_istore_n Z [(3, .int (upF (x >>> (4 &&& 31)) 10)), (0, .ref (aJ 0)), (1, .ref (aN 0)), (2, .int x)] dL_isStep_8 rfl (by decide) rfl ?_
  refine y_iload_n Z dL_isStep_9 3 rfl rfl ?_
  refine y_iconst (v := 4) Z dL_isStep_10 (by decide) ?_
  refine y_ishr Z dL_isStep_11 ?_
  refine y_iconst (v := 3) Z dL_isStep_12 (by decide) ?_
  refine y_SI Z (k_L_up l D ht0 (x >>> (4 &&& 31)) 3 (by decide)) (y_cwS 2 Z ml_RL_15 st_L_up in_L co_L_up rfl rfl hs_L_up ⟨Nat.le_of_ble_eq_true rfl, Nat.le_of_ble_eq_true rfl⟩) [] rfl (by decide) rfl rfl (Nat.le_of_ble_eq_true rfl) dL_isStep_13 ⟨Nat.le_of_ble_eq_true rfl, Nat.le_of_ble_eq_true rfl⟩ [] rfl rfl (wVM cI aJ J ++ (wVM cI aN N)) rfl ?_
  refine y_istore Z [(4, .int (upF (x >>> (4 &&& 31)) 3)), (3, .int (upF (x >>> (4 &&& 31)) 10)), (0, .ref (aJ 0)), (1, .ref (aN 0)), (2, .int x)] dL_isStep_16 (by decide) rfl ?_
  refine y_iload_n Z dL_isStep_18 4 rfl rfl ?_
  refine y_bipush (v := 11) Z dL_isStep_19 (by decide) ?_
  refine y_SI Z (k_L_up l D ht0 x 11 (by decide)) (y_cwS 2 Z ml_RL_15 st_L_up in_L co_L_up rfl rfl hs_L_up ⟨Nat.le_of_ble_eq_true rfl, Nat.le_of_ble_eq_true rfl⟩) [] rfl (by decide) rfl rfl (Nat.le_of_ble_eq_true rfl) dL_isStep_21 ⟨Nat.le_of_ble_eq_true rfl, Nat.le_of_ble_eq_true rfl⟩ [] rfl rfl (wVM cI aJ J ++ (wVM cI aN N)) rfl ?_
  refine y_tableIn (tgt := 213) (off := 189) Z dL_isStep_24 (by rw [h_w]; decide) (by rw [h_w]; decide) (by rw [h_w]; rfl) (by decide) ?_
  refine y_aload_n Z dL_isStep_213 2 rfl rfl ?_
  refine y_iload Z dL_isStep_214 0 rfl ?_
  refine y_iload_n Z dL_isStep_216 4 rfl rfl ?_
  refine y_bipush (v := 6) Z dL_isStep_217 (by decide) ?_
  refine y_ishr Z dL_isStep_219 ?_
  refine y_bipush (v := 10) Z dL_isStep_220 (by decide) ?_
  refine y_SI Z (k_L_up l D ht0 (x >>> (6 &&& 31)) 10 (by decide)) (y_cwS 2 Z ml_RL_15 st_L_up in_L co_L_up rfl rfl hs_L_up ⟨Nat.le_of_ble_eq_true rfl, Nat.le_of_ble_eq_true rfl⟩) [] rfl (by decide) rfl rfl (Nat.le_of_ble_eq_true rfl) dL_isStep_222 ⟨Nat.le_of_ble_eq_true rfl, Nat.le_of_ble_eq_true rfl⟩ [] rfl rfl (wVM cI aJ J ++ (wVM cI aN N)) rfl ?_
  refine y_iload_n Z dL_isStep_225 4 rfl rfl ?_
  refine y_bipush (v := 10) Z dL_isStep_226 (by decide) ?_
  refine y_ishr Z dL_isStep_228 ?_
  refine y_bipush (v := 101) Z dL_isStep_229 (by decide) ?_
  refine y_SI Z (k_L_up l D ht0 (x >>> (10 &&& 31)) 101 (by decide)) (y_cwS 2 Z ml_RL_15 st_L_up in_L co_L_up rfl rfl hs_L_up ⟨Nat.le_of_ble_eq_true rfl, Nat.le_of_ble_eq_true rfl⟩) [] rfl (by decide) rfl rfl (Nat.le_of_ble_eq_true rfl) dL_isStep_231 ⟨Nat.le_of_ble_eq_true rfl, Nat.le_of_ble_eq_true rfl⟩ [] rfl rfl (wVM cI aJ J ++ (wVM cI aN N)) rfl ?_
  refine y_iconst (v := 1) Z dL_isStep_234 (by decide) ?_
  refine y_iload_n Z dL_isStep_235 4 rfl rfl ?_
  refine y_bipush (v := 12) Z dL_isStep_236 (by decide) ?_
  refine y_ishr Z dL_isStep_238 ?_
  refine y_bipush (v := 100) Z dL_isStep_239 (by decide) ?_
  refine y_SI Z (k_L_up l D ht0 (x >>> (12 &&& 31)) 100 (by decide)) (y_cwS 2 Z ml_RL_15 st_L_up in_L co_L_up rfl rfl hs_L_up ⟨Nat.le_of_ble_eq_true rfl, Nat.le_of_ble_eq_true rfl⟩) [] rfl (by decide) rfl rfl (Nat.le_of_ble_eq_true rfl) dL_isStep_241 ⟨Nat.le_of_ble_eq_true rfl, Nat.le_of_ble_eq_true rfl⟩ [] rfl rfl (wVM cI aJ J ++ (wVM cI aN N)) rfl ?_
  refine y_iadd Z dL_isStep_244 ?_
  refine y_VIw Z (k_X5_key l D ht0 aJ J (upF (x >>> (4 &&& 31)) 3) (upF (x >>> (6 &&& 31)) 10) (upF (x >>> (10 &&& 31)) 101) ((1 : Int32) + upF (x >>> (12 &&& 31)) 100) (up_K _) (up_S _) (up_R0 (m := 101) (h := 100) _ (by decide) (by decide) (by decide)) (up_R1 (m := 100) (h := 100) _ (by decide) (by decide) (by decide)) (rr_okM hR h_n 4 (by decide) (by decide) (by decide)).1) (y_cwV 4 Z ml_RL_40 im_X5_key se_X5_key in_X5 co_X5_key rfl rfl hd_X5_key ⟨Nat.le_of_ble_eq_true rfl, Nat.le_of_ble_eq_true rfl⟩) List.nil (wVM cI aN N) (by first | with_reducible rfl | simp only [List.nil_append, List.append_nil] | simp only [List.nil_append, List.append_nil, wMix, wLog, wPic, wRep, wScr, wVM, wMd, sR_eq, sR_ne, sF_eq, sF_ne, upd_eq, upd_ne, gs_eq, gs_ne, gm_4, gm_ne, Nat.reduceBEq]) 5 0 rfl rfl rfl rfl (Nat.le_of_ble_eq_true rfl) dL_isStep_245 ⟨Nat.le_of_ble_eq_true rfl, Nat.le_of_ble_eq_true rfl⟩ (wVM cI aJ (vm_enact J 4 (upF (x >>> (4 &&& 31)) 3) (upF (x >>> (6 &&& 31)) 10) (upF (x >>> (10 &&& 31)) 101) ((1 : Int32) + upF (x >>> (12 &&& 31)) 100)) ++ (wVM cI aN N)) (by first | with_reducible rfl | simp only [List.nil_append, List.append_nil] | simp only [List.nil_append, List.append_nil, wMix, wLog, wPic, wRep, wScr, wVM, wMd, sR_eq, sR_ne, sF_eq, sF_ne, upd_eq, upd_ne, gs_eq, gs_ne, gm_4, gm_ne, Nat.reduceBEq]) ?_
  refine y_SI Z (k_L_other l D ht0 (perfR (J 0) 4 (upF (x >>> (4 &&& 31)) 3) (upF (x >>> (6 &&& 31)) 10) (upF (x >>> (10 &&& 31)) 101) ((1 : Int32) + upF (x >>> (12 &&& 31)) 100))) (y_cwS 1 Z ml_RL_24 st_L_other in_L co_L_other rfl rfl hs_L_other ⟨Nat.le_of_ble_eq_true rfl, Nat.le_of_ble_eq_true rfl⟩) [] rfl (by decide) rfl rfl (Nat.le_of_ble_eq_true rfl) dL_isStep_248 ⟨Nat.le_of_ble_eq_true rfl, Nat.le_of_ble_eq_true rfl⟩ [] rfl rfl (wVM cI aJ (vm_enact J 4 (upF (x >>> (4 &&& 31)) 3) (upF (x >>> (6 &&& 31)) 10) (upF (x >>> (10 &&& 31)) 101) ((1 : Int32) + upF (x >>> (12 &&& 31)) 100)) ++ (wVM cI aN N)) rfl ?_
  refine y_aload_n Z dL_isStep_251 3 rfl rfl ?_
  refine y_iload Z dL_isStep_252 0 rfl ?_
  refine y_iload_n Z dL_isStep_254 4 rfl rfl ?_
  refine y_bipush (v := 6) Z dL_isStep_255 (by decide) ?_
  refine y_ishr Z dL_isStep_257 ?_
  refine y_bipush (v := 10) Z dL_isStep_258 (by decide) ?_
  refine y_SI Z (k_L_up l D ht0 (x >>> (6 &&& 31)) 10 (by decide)) (y_cwS 2 Z ml_RL_15 st_L_up in_L co_L_up rfl rfl hs_L_up ⟨Nat.le_of_ble_eq_true rfl, Nat.le_of_ble_eq_true rfl⟩) [] rfl (by decide) rfl rfl (Nat.le_of_ble_eq_true rfl) dL_isStep_260 ⟨Nat.le_of_ble_eq_true rfl, Nat.le_of_ble_eq_true rfl⟩ [] rfl rfl (wVM cI aJ (vm_enact J 4 (upF (x >>> (4 &&& 31)) 3) (upF (x >>> (6 &&& 31)) 10) (upF (x >>> (10 &&& 31)) 101) ((1 : Int32) + upF (x >>> (12 &&& 31)) 100)) ++ (wVM cI aN N)) rfl ?_
  refine y_SI Z (k_L_other l D ht0 (upF (x >>> (6 &&& 31)) 10)) (y_cwS 1 Z ml_RL_24 st_L_other in_L co_L_other rfl rfl hs_L_other ⟨Nat.le_of_ble_eq_true rfl, Nat.le_of_ble_eq_true rfl⟩) [] rfl (by decide) rfl rfl (Nat.le_of_ble_eq_true rfl) dL_isStep_263 ⟨Nat.le_of_ble_eq_true rfl, Nat.le_of_ble_eq_true rfl⟩ [] rfl rfl (wVM cI aJ (vm_enact J 4 (upF (x >>> (4 &&& 31)) 3) (upF (x >>> (6 &&& 31)) 10) (upF (x >>> (10 &&& 31)) 101) ((1 : Int32) + upF (x >>> (12 &&& 31)) 100)) ++ (wVM cI aN N)) rfl ?_
  refine y_iload_n Z dL_isStep_266 4 rfl rfl ?_
  refine y_bipush (v := 10) Z dL_isStep_267 (by decide) ?_
  refine y_ishr Z dL_isStep_269 ?_
  refine y_bipush (v := 101) Z dL_isStep_270 (by decide) ?_
  refine y_SI Z (k_L_up l D ht0 (x >>> (10 &&& 31)) 101 (by decide)) (y_cwS 2 Z ml_RL_15 st_L_up in_L co_L_up rfl rfl hs_L_up ⟨Nat.le_of_ble_eq_true rfl, Nat.le_of_ble_eq_true rfl⟩) [] rfl (by decide) rfl rfl (Nat.le_of_ble_eq_true rfl) dL_isStep_272 ⟨Nat.le_of_ble_eq_true rfl, Nat.le_of_ble_eq_true rfl⟩ [] rfl rfl (wVM cI aJ (vm_enact J 4 (upF (x >>> (4 &&& 31)) 3) (upF (x >>> (6 &&& 31)) 10) (upF (x >>> (10 &&& 31)) 101) ((1 : Int32) + upF (x >>> (12 &&& 31)) 100)) ++ (wVM cI aN N)) rfl ?_
  refine y_iconst (v := 1) Z dL_isStep_275 (by decide) ?_
  refine y_iload_n Z dL_isStep_276 4 rfl rfl ?_
  refine y_bipush (v := 12) Z dL_isStep_277 (by decide) ?_
  refine y_ishr Z dL_isStep_279 ?_
  refine y_bipush (v := 100) Z dL_isStep_280 (by decide) ?_
  refine y_SI Z (k_L_up l D ht0 (x >>> (12 &&& 31)) 100 (by decide)) (y_cwS 2 Z ml_RL_15 st_L_up in_L co_L_up rfl rfl hs_L_up ⟨Nat.le_of_ble_eq_true rfl, Nat.le_of_ble_eq_true rfl⟩) [] rfl (by decide) rfl rfl (Nat.le_of_ble_eq_true rfl) dL_isStep_282 ⟨Nat.le_of_ble_eq_true rfl, Nat.le_of_ble_eq_true rfl⟩ [] rfl rfl (wVM cI aJ (vm_enact J 4 (upF (x >>> (4 &&& 31)) 3) (upF (x >>> (6 &&& 31)) 10) (upF (x >>> (10 &&& 31)) 101) ((1 : Int32) + upF (x >>> (12 &&& 31)) 100)) ++ (wVM cI aN N)) rfl ?_
  refine y_iadd Z dL_isStep_285 ?_
  refine y_VIw Z (k_X5_key l D ht0 aN N (upF (x >>> (4 &&& 31)) 3) (otF (upF (x >>> (6 &&& 31)) 10)) (upF (x >>> (10 &&& 31)) 101) ((1 : Int32) + upF (x >>> (12 &&& 31)) 100) (up_K _) (up_oS _) (up_R0 (m := 101) (h := 100) _ (by decide) (by decide) (by decide)) (up_R1 (m := 100) (h := 100) _ (by decide) (by decide) (by decide)) (rr_okM hR h_n 4 (by decide) (by decide) (by decide)).2) (y_cwV 4 Z ml_RL_40 im_X5_key se_X5_key in_X5 co_X5_key rfl rfl hd_X5_key ⟨Nat.le_of_ble_eq_true rfl, Nat.le_of_ble_eq_true rfl⟩) (wVM cI aJ (vm_enact J 4 (upF (x >>> (4 &&& 31)) 3) (upF (x >>> (6 &&& 31)) 10) (upF (x >>> (10 &&& 31)) 101) ((1 : Int32) + upF (x >>> (12 &&& 31)) 100))) List.nil (by first | with_reducible rfl | simp only [List.nil_append, List.append_nil] | simp only [List.nil_append, List.append_nil, wMix, wLog, wPic, wRep, wScr, wVM, wMd, sR_eq, sR_ne, sF_eq, sF_ne, upd_eq, upd_ne, gs_eq, gs_ne, gm_4, gm_ne, Nat.reduceBEq]) 5 0 rfl rfl rfl rfl (Nat.le_of_ble_eq_true rfl) dL_isStep_286 ⟨Nat.le_of_ble_eq_true rfl, Nat.le_of_ble_eq_true rfl⟩ (wVM cI aJ (vm_enact J 4 (upF (x >>> (4 &&& 31)) 3) (upF (x >>> (6 &&& 31)) 10) (upF (x >>> (10 &&& 31)) 101) ((1 : Int32) + upF (x >>> (12 &&& 31)) 100)) ++ (wVM cI aN (vm_enact N 4 (upF (x >>> (4 &&& 31)) 3) (otF (upF (x >>> (6 &&& 31)) 10)) (upF (x >>> (10 &&& 31)) 101) ((1 : Int32) + upF (x >>> (12 &&& 31)) 100)))) (by first | with_reducible rfl | simp only [List.nil_append, List.append_nil] | simp only [List.nil_append, List.append_nil, wMix, wLog, wPic, wRep, wScr, wVM, wMd, sR_eq, sR_ne, sF_eq, sF_ne, upd_eq, upd_ne, gs_eq, gs_ne, gm_4, gm_ne, Nat.reduceBEq]) ?_
  refine y_icmp_ne (tgt := 296) Z dL_isStep_289 (by decide) (fun h2 => ?_) (fun h3 => ?_)
  · exact absurd (rr_v4 hR (up_K _) _ _ _) h2
  · refine y_iconst (v := 1) Z dL_isStep_292 (by decide) ?_
    refine y_goto (tgt := 297) Z dL_isStep_293 (by decide) ?_
    exact y_retZ Z hr hlk (by decide) dL_isStep_297 (by first | (simp only [eq_true h3, if_true, if_false, not_false_eq_true, not_true_eq_false, ↓reduceIte]; done) | (simp only [eq_true h3, if_true, if_false, not_false_eq_true, not_true_eq_false, ↓reduceIte, wMix, wLog, wPic, wRep, wScr, wVM, wMd, sR_eq, sR_ne, sF_eq, sF_ne, upd_eq, upd_ne, gs_eq, gs_ne, gm_4, gm_ne, Nat.reduceBEq]; done) | (with_reducible rfl) | contradiction | (simp only [eq_true h3, if_true, if_false, not_false_eq_true, not_true_eq_false, ↓reduceIte]; rfl) | rfl) (by first | (simp only [eq_true h3, if_true, if_false, not_false_eq_true, not_true_eq_false, ↓reduceIte]; done) | (simp only [eq_true h3, if_true, if_false, not_false_eq_true, not_true_eq_false, ↓reduceIte, wMix, wLog, wPic, wRep, wScr, wVM, wMd, sR_eq, sR_ne, sF_eq, sF_ne, upd_eq, upd_ne, gs_eq, gs_ne, gm_4, gm_ne, Nat.reduceBEq]; done) | (with_reducible rfl) | contradiction | (simp only [eq_true h3, if_true, if_false, not_false_eq_true, not_true_eq_false, ↓reduceIte]; rfl) | rfl)
set_option maxHeartbeats 4000000 in
set_option maxRecDepth 100000 in
theorem k_L_isStep_5 (l : Launch) (D : va_G) {cI : ClassId} {tys : List (ClassId × FieldType)} (ht0 : tys[0]? = some (cI, .int)) (aJ : Nat → Nat) (J : Nat → Nat → Nat → Int32) (aN : Nat → Nat) (N : Nat → Nat → Nat → Int32) (x : Int32) {n τ : Nat} (h_R : RR J N n τ) (h_n : n < 100) (h_t : τ + 30 ≤ 5000) (h_w : upF x 11 = 5) (sz : Nat) : kI l yL_isStep cL_isStep 5 (some .boolean) { frames := 9, cells := 0, slots := 0, locals := 152 } D tys [.ref (aJ 0), .ref (aN 0), .int x] (wVM cI aJ J ++ (wVM cI aN N)) (wVM cI aJ (vm_enact J 5 (upF (x >>> (4 &&& 31)) 3) (-1) (-1) (-1)) ++ (wVM cI aN (vm_enact N 5 (upF (x >>> (4 &&& 31)) 3) (-1) (-1) (-1)))) 1 0 0 sz := by
  refine y_enterI (cc := cL_isStep) (maxL := 5) (ret := (some .boolean)) (own := RL) (by decide) rfl (lv0 := [(0, .ref (aJ 0)), (1, .ref (aN 0)), (2, .int x)]) rfl (Nat.le_of_ble_eq_true rfl) ?_
  intro p e s m args below meth c A Z hr hlk _
  have hR := h_R
  refine y_iload_n Z dL_isStep_0 2 rfl rfl ?_
  refine y_iconst (v := 4) Z dL_isStep_1 (by decide) ?_
  refine y_ishr Z dL_isStep_2 ?_
  refine y_bipush (v := 10) Z dL_isStep_3 (by decide) ?_
  refine y_SI Z (k_L_up l D ht0 (x >>> (4 &&& 31)) 10 (by decide)) (y_cwS 2 Z ml_RL_15 st_L_up in_L co_L_up rfl rfl hs_L_up ⟨Nat.le_of_ble_eq_true rfl, Nat.le_of_ble_eq_true rfl⟩) [] rfl (by decide) rfl rfl (Nat.le_of_ble_eq_true rfl) dL_isStep_5 ⟨Nat.le_of_ble_eq_true rfl, Nat.le_of_ble_eq_true rfl⟩ [] rfl rfl (wVM cI aJ J ++ (wVM cI aN N)) rfl ?_
  refine y_istore_n Z [(3, .int (upF (x >>> (4 &&& 31)) 10)), (0, .ref (aJ 0)), (1, .ref (aN 0)), (2, .int x)] dL_isStep_8 rfl (by decide) rfl ?_
  refine y_iload_n Z dL_isStep_9 3 rfl rfl ?_
  refine y_iconst (v := 4) Z dL_isStep_10 (by decide) ?_
  refine y_ishr Z dL_isStep_11 ?_
  refine y_iconst (v := 3) Z dL_isStep_12 (by decide) ?_
  refine y_SI Z (k_L_up l D ht0 (x >>> (4 &&& 31)) 3 (by decide)) (y_cwS 2 Z ml_RL_15 st_L_up in_L co_L_up rfl rfl hs_L_up ⟨Nat.le_of_ble_eq_true rfl, Nat.le_of_ble_eq_true rfl⟩) [] rfl (by decide) rfl rfl (Nat.le_of_ble_eq_true rfl) dL_isStep_13 ⟨Nat.le_of_ble_eq_true rfl, Nat.le_of_ble_eq_true rfl⟩ [] rfl rfl (wVM cI aJ J ++ (wVM cI aN N)) rfl ?_
  refine y_istore Z [(4, .int (upF (x >>> (4 &&& 31)) 3)), (3, .int (upF (x >>> (4 &&& 31)) 10)), (0, .ref (aJ 0)), (1, .ref (aN 0)), (2, .int x)] dL_isStep_16 (by decide) rfl ?_
  refine y_iload_n Z dL_isStep_18 4 rfl rfl ?_
  refine y_bipush (v := 11) Z dL_isStep_19 (by decide) ?_
  refine y_SI Z (k_L_up l D ht0 x 11 (by decide)) (y_cwS 2 Z ml_RL_15 st_L_up in_L co_L_up rfl rfl hs_L_up ⟨Nat.le_of_ble_eq_true rfl, Nat.le_of_ble_eq_true rfl⟩) [] rfl (by decide) rfl rfl (Nat.le_of_ble_eq_true rfl) dL_isStep_21 ⟨Nat.le_of_ble_eq_true rfl, Nat.le_of_ble_eq_true rfl⟩ [] rfl rfl (wVM cI aJ J ++ (wVM cI aN N)) rfl ?_
  refine y_tableIn (tgt := 298) (off := 274) Z dL_isStep_24 (by rw [h_w]; decide) (by rw [h_w]; decide) (by rw [h_w]; rfl) (by decide) ?_
  refine y_aload_n Z dL_isStep_298 2 rfl rfl ?_
  refine y_iload Z dL_isStep_299 0 rfl ?_
  refine y_VIw Z (k_X5_toggle l D ht0 aJ J (upF (x >>> (4 &&& 31)) 3) (up_K _) (rr_okM hR h_n 5 (by decide) (by decide) (by decide)).1) (y_cwV 1 Z ml_RL_44 im_X5_toggle se_X5_toggle in_X5 co_X5_toggle rfl rfl hd_X5_toggle ⟨Nat.le_of_ble_eq_true rfl, Nat.le_of_ble_eq_true rfl⟩) List.nil (wVM cI aN N) (by first | with_reducible rfl | simp only [List.nil_append, List.append_nil] | simp only [List.nil_append, List.append_nil, wMix, wLog, wPic, wRep, wScr, wVM, wMd, sR_eq, sR_ne, sF_eq, sF_ne, upd_eq, upd_ne, gs_eq, gs_ne, gm_4, gm_ne, Nat.reduceBEq]) 5 0 rfl rfl rfl rfl (Nat.le_of_ble_eq_true rfl) dL_isStep_301 ⟨Nat.le_of_ble_eq_true rfl, Nat.le_of_ble_eq_true rfl⟩ (wVM cI aJ (vm_enact J 5 (upF (x >>> (4 &&& 31)) 3) (-1) (-1) (-1)) ++ (wVM cI aN N)) (by first | with_reducible rfl | simp only [List.nil_append, List.append_nil] | simp only [List.nil_append, List.append_nil, wMix, wLog, wPic, wRep, wScr, wVM, wMd, sR_eq, sR_ne, sF_eq, sF_ne, upd_eq, upd_ne, gs_eq, gs_ne, gm_4, gm_ne, Nat.reduceBEq]) ?_
  refine y_aload_n Z dL_isStep_304 3 rfl rfl ?_
  refine y_iload Z dL_isStep_305 0 rfl ?_
  refine y_VIw Z (k_X5_toggle l D ht0 aN N (upF (x >>> (4 &&& 31)) 3) (up_K _) (rr_okM hR h_n 5 (by decide) (by decide) (by decide)).2) (y_cwV 1 Z ml_RL_44 im_X5_toggle se_X5_toggle in_X5 co_X5_toggle rfl rfl hd_X5_toggle ⟨Nat.le_of_ble_eq_true rfl, Nat.le_of_ble_eq_true rfl⟩) (wVM cI aJ (vm_enact J 5 (upF (x >>> (4 &&& 31)) 3) (-1) (-1) (-1))) List.nil (by first | with_reducible rfl | simp only [List.nil_append, List.append_nil] | simp only [List.nil_append, List.append_nil, wMix, wLog, wPic, wRep, wScr, wVM, wMd, sR_eq, sR_ne, sF_eq, sF_ne, upd_eq, upd_ne, gs_eq, gs_ne, gm_4, gm_ne, Nat.reduceBEq]) 5 0 rfl rfl rfl rfl (Nat.le_of_ble_eq_true rfl) dL_isStep_307 ⟨Nat.le_of_ble_eq_true rfl, Nat.le_of_ble_eq_true rfl⟩ (wVM cI aJ (vm_enact J 5 (upF (x >>> (4 &&& 31)) 3) (-1) (-1) (-1)) ++ (wVM cI aN (vm_enact N 5 (upF (x >>> (4 &&& 31)) 3) (-1) (-1) (-1)))) (by first | with_reducible rfl | simp only [List.nil_append, List.append_nil] | simp only [List.nil_append, List.append_nil, wMix, wLog, wPic, wRep, wScr, wVM, wMd, sR_eq, sR_ne, sF_eq, sF_ne, upd_eq, upd_ne, gs_eq, gs_ne, gm_4, gm_ne, Nat.reduceBEq]) ?_
  refine y_icmp_ne (tgt := 317) Z dL_isStep_310 (by decide) (fun h2 => ?_) (fun h3 => ?_)
  · exact absurd (rr_v5 hR (up_K _)) h2
  · refine y_iconst (v := 1) Z dL_isStep_313 (by decide) ?_
    refine y_goto (tgt := 318) Z dL_isStep_314 (by decide) ?_
    exact y_retZ Z hr hlk (by decide) dL_isStep_318 (by first | (simp only [eq_true h3, if_true, if_false, not_false_eq_true, not_true_eq_false, ↓reduceIte]; done) | (simp only [eq_true h3, if_true, if_false, not_false_eq_true, not_true_eq_false, ↓reduceIte, wMix, wLog, wPic, wRep, wScr, wVM, wMd, sR_eq, sR_ne, sF_eq, sF_ne, upd_eq, upd_ne, gs_eq, gs_ne, gm_4, gm_ne, Nat.reduceBEq]; done) | (with_reducible rfl) | contradiction | (simp only [eq_true h3, if_true, if_false, not_false_eq_true, not_true_eq_false, ↓reduceIte]; rfl) | rfl) (by first | (simp only [eq_true h3, if_true, if_false, not_false_eq_true, not_true_eq_false, ↓reduceIte]; done) | (simp only [eq_true h3, if_true, if_false, not_false_eq_true, not_true_eq_false, ↓reduceIte, wMix, wLog, wPic, wRep, wScr, wVM, wMd, sR_eq, sR_ne, sF_eq, sF_ne, upd_eq, upd_ne, gs_eq, gs_ne, gm_4, gm_ne, Nat.reduceBEq]; done) | (with_reducible rfl) | contradiction | (simp only [eq_true h3, if_true, if_false, not_false_eq_true, not_true_eq_false, ↓reduceIte]; rfl) | rfl)
set_option maxHeartbeats 4000000 in
set_option maxRecDepth 100000 in
theorem k_L_isStep_6 (l : Launch) (D : va_G) {cI : ClassId} {tys : List (ClassId × FieldType)} (ht0 : tys[0]? = some (cI, .int)) (aJ : Nat → Nat) (J : Nat → Nat → Nat → Int32) (aN : Nat → Nat) (N : Nat → Nat → Nat → Int32) (x : Int32) {n τ : Nat} (h_R : RR J N n τ) (h_n : n < 100) (h_t : τ + 30 ≤ 5000) (h_w : upF x 11 = 6) (sz : Nat) : kI l yL_isStep cL_isStep 5 (some .boolean) { frames := 9, cells := 0, slots := 0, locals := 152 } D tys [.ref (aJ 0), .ref (aN 0), .int x] (wVM cI aJ J ++ (wVM cI aN N)) (wVM cI aJ (if (0 : Int32) < (x >>> (4 &&& 31)) &&& 3 then J else (vm_enact J 6 (-1) (-1) (-1) (-1))) ++ (wVM cI aN (if (0 : Int32) < (x >>> (4 &&& 31)) &&& 3 then N else (vm_enact N 6 (-1) (-1) (-1) (-1))))) 1 0 0 sz := by
  refine y_enterI (cc := cL_isStep) (maxL := 5) (ret := (some .boolean)) (own := RL) (by decide) rfl (lv0 := [(0, .ref (aJ 0)), (1, .ref (aN 0)), (2, .int x)]) rfl (Nat.le_of_ble_eq_true rfl) ?_
  intro p e s m args below meth c A Z hr hlk _
  have hR := h_R
  refine y_iload_n Z dL_isStep_0 2 rfl rfl ?_
  refine y_iconst (v := 4) Z dL_isStep_1 (by decide) ?_
  refine y_ishr Z dL_isStep_2 ?_
  refine y_bipush (v := 10) Z dL_isStep_3 (by decide) ?_
  refine y_SI Z (k_L_up l D ht0 (x >>> (4 &&& 31)) 10 (by decide)) (y_cwS 2 Z ml_RL_15 st_L_up in_L co_L_up rfl rfl hs_L_up ⟨Nat.le_of_ble_eq_true rfl, Nat.le_of_ble_eq_true rfl⟩) [] rfl (by decide) rfl rfl (Nat.le_of_ble_eq_true rfl) dL_isStep_5 ⟨Nat.le_of_ble_eq_true rfl, Nat.le_of_ble_eq_true rfl⟩ [] rfl rfl (wVM cI aJ J ++ (wVM cI aN N)) rfl ?_
  refine y_istore_n Z [(3, .int (upF (x >>> (4 &&& 31)) 10)), (0, .ref (aJ 0)), (1, .ref (aN 0)), (2, .int x)] dL_isStep_8 rfl (by decide) rfl ?_
  refine y_iload_n Z dL_isStep_9 3 rfl rfl ?_
  refine y_iconst (v := 4) Z dL_isStep_10 (by decide) ?_
  refine y_ishr Z dL_isStep_11 ?_
  refine y_iconst (v := 3) Z dL_isStep_12 (by decide) ?_
  refine y_SI Z (k_L_up l D ht0 (x >>> (4 &&& 31)) 3 (by decide)) (y_cwS 2 Z ml_RL_15 st_L_up in_L co_L_up rfl rfl hs_L_up ⟨Nat.le_of_ble_eq_true rfl, Nat.le_of_ble_eq_true rfl⟩) [] rfl (by decide) rfl rfl (Nat.le_of_ble_eq_true rfl) dL_isStep_13 ⟨Nat.le_of_ble_eq_true rfl, Nat.le_of_ble_eq_true rfl⟩ [] rfl rfl (wVM cI aJ J ++ (wVM cI aN N)) rfl ?_
  refine y_istore Z [(4, .int (upF (x >>> (4 &&& 31)) 3)), (3, .int (upF (x >>> (4 &&& 31)) 10)), (0, .ref (aJ 0)), (1, .ref (aN 0)), (2, .int x)] dL_isStep_16 (by decide) rfl ?_
  refine y_iload_n Z dL_isStep_18 4 rfl rfl ?_
  refine y_bipush (v := 11) Z dL_isStep_19 (by decide) ?_
  refine y_SI Z (k_L_up l D ht0 x 11 (by decide)) (y_cwS 2 Z ml_RL_15 st_L_up in_L co_L_up rfl rfl hs_L_up ⟨Nat.le_of_ble_eq_true rfl, Nat.le_of_ble_eq_true rfl⟩) [] rfl (by decide) rfl rfl (Nat.le_of_ble_eq_true rfl) dL_isStep_21 ⟨Nat.le_of_ble_eq_true rfl, Nat.le_of_ble_eq_true rfl⟩ [] rfl rfl (wVM cI aJ J ++ (wVM cI aN N)) rfl ?_
  refine y_tableIn (tgt := 319) (off := 295) Z dL_isStep_24 (by rw [h_w]; decide) (by rw [h_w]; decide) (by rw [h_w]; rfl) (by decide) ?_
  refine y_iload_n Z dL_isStep_319 4 rfl rfl ?_
  refine y_iconst (v := 4) Z dL_isStep_320 (by decide) ?_
  refine y_ishr Z dL_isStep_321 ?_
  refine y_iconst (v := 3) Z dL_isStep_322 (by decide) ?_
  refine y_iand Z dL_isStep_323 ?_
  refine y_if_gt (tgt := 341) Z dL_isStep_324 (by decide) (fun h2 => ?_) (fun h3 => ?_)
  · refine y_iconst (v := 1) Z dL_isStep_341 (by decide) ?_
    refine y_goto (tgt := 346) Z dL_isStep_342 (by decide) ?_
    exact y_retZ Z hr hlk (by decide) dL_isStep_346 (by first | (simp only [h2, if_true, if_false, not_false_eq_true, not_true_eq_false, ↓reduceIte]; done) | (simp only [h2, if_true, if_false, not_false_eq_true, not_true_eq_false, ↓reduceIte, wMix, wLog, wPic, wRep, wScr, wVM, wMd, sR_eq, sR_ne, sF_eq, sF_ne, upd_eq, upd_ne, gs_eq, gs_ne, gm_4, gm_ne, Nat.reduceBEq]; done) | (with_reducible rfl) | contradiction | (simp only [h2, if_true, if_false, not_false_eq_true, not_true_eq_false, ↓reduceIte]; rfl) | rfl) (by first | (simp only [h2, if_true, if_false, not_false_eq_true, not_true_eq_false, ↓reduceIte]; done) | (simp only [h2, if_true, if_false, not_false_eq_true, not_true_eq_false, ↓reduceIte, wMix, wLog, wPic, wRep, wScr, wVM, wMd, sR_eq, sR_ne, sF_eq, sF_ne, upd_eq, upd_ne, gs_eq, gs_ne, gm_4, gm_ne, Nat.reduceBEq]; done) | (with_reducible rfl) | contradiction | (simp only [h2, if_true, if_false, not_false_eq_true, not_true_eq_false, ↓reduceIte]; rfl) | rfl)
  · refine y_aload_n Z dL_isStep_327 2 rfl rfl ?_
    refine y_VIw Z (k_X5_cut l D ht0 aJ J (rr_okM hR h_n 6 (by decide) (by decide) (by decide)).1) (y_cwV 0 Z ml_RL_47 im_X5_cut se_X5_cut in_X5 co_X5_cut rfl rfl hd_X5_cut ⟨Nat.le_of_ble_eq_true rfl, Nat.le_of_ble_eq_true rfl⟩) List.nil (wVM cI aN N) (by first | with_reducible rfl | simp only [List.nil_append, List.append_nil] | simp only [List.nil_append, List.append_nil, wMix, wLog, wPic, wRep, wScr, wVM, wMd, sR_eq, sR_ne, sF_eq, sF_ne, upd_eq, upd_ne, gs_eq, gs_ne, gm_4, gm_ne, Nat.reduceBEq]) 5 0 rfl rfl rfl rfl (Nat.le_of_ble_eq_true rfl) dL_isStep_328 ⟨Nat.le_of_ble_eq_true rfl, Nat.le_of_ble_eq_true rfl⟩ (wVM cI aJ (vm_enact J 6 (-1) (-1) (-1) (-1)) ++ (wVM cI aN N)) (by first | with_reducible rfl | simp only [List.nil_append, List.append_nil] | simp only [List.nil_append, List.append_nil, wMix, wLog, wPic, wRep, wScr, wVM, wMd, sR_eq, sR_ne, sF_eq, sF_ne, upd_eq, upd_ne, gs_eq, gs_ne, gm_4, gm_ne, Nat.reduceBEq]) ?_
    refine y_SI Z (k_L_other l D ht0 (perfR (J 0) 6 (-1) (-1) (-1) (-1))) (y_cwS 1 Z ml_RL_24 st_L_other in_L co_L_other rfl rfl hs_L_other ⟨Nat.le_of_ble_eq_true rfl, Nat.le_of_ble_eq_true rfl⟩) [] rfl (by decide) rfl rfl (Nat.le_of_ble_eq_true rfl) dL_isStep_331 ⟨Nat.le_of_ble_eq_true rfl, Nat.le_of_ble_eq_true rfl⟩ [] rfl rfl (wVM cI aJ (vm_enact J 6 (-1) (-1) (-1) (-1)) ++ (wVM cI aN N)) rfl ?_
    refine y_aload_n Z dL_isStep_334 3 rfl rfl ?_
    refine y_VIw Z (k_X5_cut l D ht0 aN N (rr_okM hR h_n 6 (by decide) (by decide) (by decide)).2) (y_cwV 0 Z ml_RL_47 im_X5_cut se_X5_cut in_X5 co_X5_cut rfl rfl hd_X5_cut ⟨Nat.le_of_ble_eq_true rfl, Nat.le_of_ble_eq_true rfl⟩) (wVM cI aJ (vm_enact J 6 (-1) (-1) (-1) (-1))) List.nil (by first | with_reducible rfl | simp only [List.nil_append, List.append_nil] | simp only [List.nil_append, List.append_nil, wMix, wLog, wPic, wRep, wScr, wVM, wMd, sR_eq, sR_ne, sF_eq, sF_ne, upd_eq, upd_ne, gs_eq, gs_ne, gm_4, gm_ne, Nat.reduceBEq]) 5 0 rfl rfl rfl rfl (Nat.le_of_ble_eq_true rfl) dL_isStep_335 ⟨Nat.le_of_ble_eq_true rfl, Nat.le_of_ble_eq_true rfl⟩ (wVM cI aJ (vm_enact J 6 (-1) (-1) (-1) (-1)) ++ (wVM cI aN (vm_enact N 6 (-1) (-1) (-1) (-1)))) (by first | with_reducible rfl | simp only [List.nil_append, List.append_nil] | simp only [List.nil_append, List.append_nil, wMix, wLog, wPic, wRep, wScr, wVM, wMd, sR_eq, sR_ne, sF_eq, sF_ne, upd_eq, upd_ne, gs_eq, gs_ne, gm_4, gm_ne, Nat.reduceBEq]) ?_
    refine y_icmp_ne (tgt := 345) Z dL_isStep_338 (by decide) (fun h4 => ?_) (fun h5 => ?_)
    · exact absurd (rr_v6 hR) h4
    · refine y_iconst (v := 1) Z dL_isStep_341 (by decide) ?_
      refine y_goto (tgt := 346) Z dL_isStep_342 (by decide) ?_
      exact y_retZ Z hr hlk (by decide) dL_isStep_346 (by first | (simp only [h3, eq_true h5, if_true, if_false, not_false_eq_true, not_true_eq_false, ↓reduceIte]; done) | (simp only [h3, eq_true h5, if_true, if_false, not_false_eq_true, not_true_eq_false, ↓reduceIte, wMix, wLog, wPic, wRep, wScr, wVM, wMd, sR_eq, sR_ne, sF_eq, sF_ne, upd_eq, upd_ne, gs_eq, gs_ne, gm_4, gm_ne, Nat.reduceBEq]; done) | (with_reducible rfl) | contradiction | (simp only [h3, eq_true h5, if_true, if_false, not_false_eq_true, not_true_eq_false, ↓reduceIte]; rfl) | rfl) (by first | (simp only [h3, eq_true h5, if_true, if_false, not_false_eq_true, not_true_eq_false, ↓reduceIte]; done) | (simp only [h3, eq_true h5, if_true, if_false, not_false_eq_true, not_true_eq_false, ↓reduceIte, wMix, wLog, wPic, wRep, wScr, wVM, wMd, sR_eq, sR_ne, sF_eq, sF_ne, upd_eq, upd_ne, gs_eq, gs_ne, gm_4, gm_ne, Nat.reduceBEq]; done) | (with_reducible rfl) | contradiction | (simp only [h3, eq_true h5, if_true, if_false, not_false_eq_true, not_true_eq_false, ↓reduceIte]; rfl) | rfl)
set_option maxHeartbeats 4000000 in
set_option maxRecDepth 100000 in
theorem k_L_isStep_7 (l : Launch) (D : va_G) {cI : ClassId} {tys : List (ClassId × FieldType)} (ht0 : tys[0]? = some (cI, .int)) (aJ : Nat → Nat) (J : Nat → Nat → Nat → Int32) (aN : Nat → Nat) (N : Nat → Nat → Nat → Int32) (x : Int32) {n τ : Nat} (h_R : RR J N n τ) (h_n : n < 100) (h_t : τ + 30 ≤ 5000) (h_w : upF x 11 = 7) (sz : Nat) : kI l yL_isStep cL_isStep 5 (some .boolean) { frames := 9, cells := 0, slots := 0, locals := 152 } D tys [.ref (aJ 0), .ref (aN 0), .int x] (wVM cI aJ J ++ (wVM cI aN N)) (wVM cI aJ (if stF0 J = 0 then J else (vm_enact J 7 (-1) (-1) (-1) (-1))) ++ (wVM cI aN (if stF0 J = 0 then N else (vm_enact N 7 (-1) (-1) (-1) (-1))))) 1 0 0 sz := by
  refine y_enterI (cc := cL_isStep) (maxL := 5) (ret := (some .boolean)) (own := RL) (by decide) rfl (lv0 := [(0, .ref (aJ 0)), (1, .ref (aN 0)), (2, .int x)]) rfl (Nat.le_of_ble_eq_true rfl) ?_
  intro p e s m args below meth c A Z hr hlk _
  have hR := h_R
  refine y_iload_n Z dL_isStep_0 2 rfl rfl ?_
  refine y_iconst (v := 4) Z dL_isStep_1 (by decide) ?_
  refine y_ishr Z dL_isStep_2 ?_
  refine y_bipush (v := 10) Z dL_isStep_3 (by decide) ?_
  refine y_SI Z (k_L_up l D ht0 (x >>> (4 &&& 31)) 10 (by decide)) (y_cwS 2 Z ml_RL_15 st_L_up in_L co_L_up rfl rfl hs_L_up ⟨Nat.le_of_ble_eq_true rfl, Nat.le_of_ble_eq_true rfl⟩) [] rfl (by decide) rfl rfl (Nat.le_of_ble_eq_true rfl) dL_isStep_5 ⟨Nat.le_of_ble_eq_true rfl, Nat.le_of_ble_eq_true rfl⟩ [] rfl rfl (wVM cI aJ J ++ (wVM cI aN N)) rfl ?_
  refine y_istore_n Z [(3, .int (upF (x >>> (4 &&& 31)) 10)), (0, .ref (aJ 0)), (1, .ref (aN 0)), (2, .int x)] dL_isStep_8 rfl (by decide) rfl ?_
  refine y_iload_n Z dL_isStep_9 3 rfl rfl ?_
  refine y_iconst (v := 4) Z dL_isStep_10 (by decide) ?_
  refine y_ishr Z dL_isStep_11 ?_
  refine y_iconst (v := 3) Z dL_isStep_12 (by decide) ?_
  refine y_SI Z (k_L_up l D ht0 (x >>> (4 &&& 31)) 3 (by decide)) (y_cwS 2 Z ml_RL_15 st_L_up in_L co_L_up rfl rfl hs_L_up ⟨Nat.le_of_ble_eq_true rfl, Nat.le_of_ble_eq_true rfl⟩) [] rfl (by decide) rfl rfl (Nat.le_of_ble_eq_true rfl) dL_isStep_13 ⟨Nat.le_of_ble_eq_true rfl, Nat.le_of_ble_eq_true rfl⟩ [] rfl rfl (wVM cI aJ J ++ (wVM cI aN N)) rfl ?_
  refine y_istore Z [(4, .int (upF (x >>> (4 &&& 31)) 3)), (3, .int (upF (x >>> (4 &&& 31)) 10)), (0, .ref (aJ 0)), (1, .ref (aN 0)), (2, .int x)] dL_isStep_16 (by decide) rfl ?_
  refine y_iload_n Z dL_isStep_18 4 rfl rfl ?_
  refine y_bipush (v := 11) Z dL_isStep_19 (by decide) ?_
  refine y_SI Z (k_L_up l D ht0 x 11 (by decide)) (y_cwS 2 Z ml_RL_15 st_L_up in_L co_L_up rfl rfl hs_L_up ⟨Nat.le_of_ble_eq_true rfl, Nat.le_of_ble_eq_true rfl⟩) [] rfl (by decide) rfl rfl (Nat.le_of_ble_eq_true rfl) dL_isStep_21 ⟨Nat.le_of_ble_eq_true rfl, Nat.le_of_ble_eq_true rfl⟩ [] rfl rfl (wVM cI aJ J ++ (wVM cI aN N)) rfl ?_
  refine y_tableIn (tgt := 347) (off := 323) Z dL_isStep_24 (by rw [h_w]; decide) (by rw [h_w]; decide) (by rw [h_w]; rfl) (by decide) ?_
  refine y_aload_n Z dL_isStep_347 2 rfl rfl ?_
  refine y_SIw Z (k_L_isStill l D ht0 aJ J) (y_cwS 1 Z ml_RL_33 st_L_isStill in_L co_L_isStill rfl rfl hs_L_isStill ⟨Nat.le_of_ble_eq_true rfl, Nat.le_of_ble_eq_true rfl⟩) List.nil (wVM cI aN N) (by first | with_reducible rfl | simp only [List.nil_append, List.append_nil] | simp only [List.nil_append, List.append_nil, wMix, wLog, wPic, wRep, wScr, wVM, wMd, sR_eq, sR_ne, sF_eq, sF_ne, upd_eq, upd_ne, gs_eq, gs_ne, gm_4, gm_ne, Nat.reduceBEq]) rfl rfl (Nat.le_of_ble_eq_true rfl) dL_isStep_348 ⟨Nat.le_of_ble_eq_true rfl, Nat.le_of_ble_eq_true rfl⟩ (wVM cI aJ J ++ (wVM cI aN N)) (by first | with_reducible rfl | simp only [List.nil_append, List.append_nil] | simp only [List.nil_append, List.append_nil, wMix, wLog, wPic, wRep, wScr, wVM, wMd, sR_eq, sR_ne, sF_eq, sF_ne, upd_eq, upd_ne, gs_eq, gs_ne, gm_4, gm_ne, Nat.reduceBEq]) ?_
  refine y_if_eq (tgt := 365) Z dL_isStep_351 (by decide) (fun h2 => ?_) (fun h3 => ?_)
  · refine y_iconst (v := 1) Z dL_isStep_365 (by decide) ?_
    refine y_goto (tgt := 370) Z dL_isStep_366 (by decide) ?_
    exact y_retZ Z hr hlk (by decide) dL_isStep_370 (by first | (simp only [eq_true h2, if_true, if_false, not_false_eq_true, not_true_eq_false, ↓reduceIte]; done) | (simp only [eq_true h2, if_true, if_false, not_false_eq_true, not_true_eq_false, ↓reduceIte, wMix, wLog, wPic, wRep, wScr, wVM, wMd, sR_eq, sR_ne, sF_eq, sF_ne, upd_eq, upd_ne, gs_eq, gs_ne, gm_4, gm_ne, Nat.reduceBEq]; done) | (with_reducible rfl) | contradiction | (simp only [eq_true h2, if_true, if_false, not_false_eq_true, not_true_eq_false, ↓reduceIte]; rfl) | rfl) (by first | (simp only [eq_true h2, if_true, if_false, not_false_eq_true, not_true_eq_false, ↓reduceIte]; done) | (simp only [eq_true h2, if_true, if_false, not_false_eq_true, not_true_eq_false, ↓reduceIte, wMix, wLog, wPic, wRep, wScr, wVM, wMd, sR_eq, sR_ne, sF_eq, sF_ne, upd_eq, upd_ne, gs_eq, gs_ne, gm_4, gm_ne, Nat.reduceBEq]; done) | (with_reducible rfl) | contradiction | (simp only [eq_true h2, if_true, if_false, not_false_eq_true, not_true_eq_false, ↓reduceIte]; rfl) | rfl)
  · refine y_aload_n Z dL_isStep_354 2 rfl rfl ?_
    refine y_VIw Z (k_X5_auto l D ht0 aJ J (rr_ok7 hR h_n h3).1) (y_cwV 0 Z ml_RL_51 im_X5_auto se_X5_auto in_X5 co_X5_auto rfl rfl hd_X5_auto ⟨Nat.le_of_ble_eq_true rfl, Nat.le_of_ble_eq_true rfl⟩) List.nil (wVM cI aN N) (by first | with_reducible rfl | simp only [List.nil_append, List.append_nil] | simp only [List.nil_append, List.append_nil, wMix, wLog, wPic, wRep, wScr, wVM, wMd, sR_eq, sR_ne, sF_eq, sF_ne, upd_eq, upd_ne, gs_eq, gs_ne, gm_4, gm_ne, Nat.reduceBEq]) 5 0 rfl rfl rfl rfl (Nat.le_of_ble_eq_true rfl) dL_isStep_355 ⟨Nat.le_of_ble_eq_true rfl, Nat.le_of_ble_eq_true rfl⟩ (wVM cI aJ (vm_enact J 7 (-1) (-1) (-1) (-1)) ++ (wVM cI aN N)) (by first | with_reducible rfl | simp only [List.nil_append, List.append_nil] | simp only [List.nil_append, List.append_nil, wMix, wLog, wPic, wRep, wScr, wVM, wMd, sR_eq, sR_ne, sF_eq, sF_ne, upd_eq, upd_ne, gs_eq, gs_ne, gm_4, gm_ne, Nat.reduceBEq]) ?_
    refine y_aload_n Z dL_isStep_358 3 rfl rfl ?_
    refine y_VIw Z (k_X5_auto l D ht0 aN N (rr_ok7 hR h_n h3).2) (y_cwV 0 Z ml_RL_51 im_X5_auto se_X5_auto in_X5 co_X5_auto rfl rfl hd_X5_auto ⟨Nat.le_of_ble_eq_true rfl, Nat.le_of_ble_eq_true rfl⟩) (wVM cI aJ (vm_enact J 7 (-1) (-1) (-1) (-1))) List.nil (by first | with_reducible rfl | simp only [List.nil_append, List.append_nil] | simp only [List.nil_append, List.append_nil, wMix, wLog, wPic, wRep, wScr, wVM, wMd, sR_eq, sR_ne, sF_eq, sF_ne, upd_eq, upd_ne, gs_eq, gs_ne, gm_4, gm_ne, Nat.reduceBEq]) 5 0 rfl rfl rfl rfl (Nat.le_of_ble_eq_true rfl) dL_isStep_359 ⟨Nat.le_of_ble_eq_true rfl, Nat.le_of_ble_eq_true rfl⟩ (wVM cI aJ (vm_enact J 7 (-1) (-1) (-1) (-1)) ++ (wVM cI aN (vm_enact N 7 (-1) (-1) (-1) (-1)))) (by first | with_reducible rfl | simp only [List.nil_append, List.append_nil] | simp only [List.nil_append, List.append_nil, wMix, wLog, wPic, wRep, wScr, wVM, wMd, sR_eq, sR_ne, sF_eq, sF_ne, upd_eq, upd_ne, gs_eq, gs_ne, gm_4, gm_ne, Nat.reduceBEq]) ?_
    refine y_icmp_ne (tgt := 369) Z dL_isStep_362 (by decide) (fun h4 => ?_) (fun h5 => ?_)
    · exact absurd (rr_v7 hR) h4
    · refine y_iconst (v := 1) Z dL_isStep_365 (by decide) ?_
      refine y_goto (tgt := 370) Z dL_isStep_366 (by decide) ?_
      exact y_retZ Z hr hlk (by decide) dL_isStep_370 (by first | (simp only [h3, eq_true h5, if_true, if_false, not_false_eq_true, not_true_eq_false, ↓reduceIte]; done) | (simp only [h3, eq_true h5, if_true, if_false, not_false_eq_true, not_true_eq_false, ↓reduceIte, wMix, wLog, wPic, wRep, wScr, wVM, wMd, sR_eq, sR_ne, sF_eq, sF_ne, upd_eq, upd_ne, gs_eq, gs_ne, gm_4, gm_ne, Nat.reduceBEq]; done) | (with_reducible rfl) | contradiction | (simp only [h3, eq_true h5, if_true, if_false, not_false_eq_true, not_true_eq_false, ↓reduceIte]; rfl) | rfl) (by first | (simp only [h3, eq_true h5, if_true, if_false, not_false_eq_true, not_true_eq_false, ↓reduceIte]; done) | (simp only [h3, eq_true h5, if_true, if_false, not_false_eq_true, not_true_eq_false, ↓reduceIte, wMix, wLog, wPic, wRep, wScr, wVM, wMd, sR_eq, sR_ne, sF_eq, sF_ne, upd_eq, upd_ne, gs_eq, gs_ne, gm_4, gm_ne, Nat.reduceBEq]; done) | (with_reducible rfl) | contradiction | (simp only [h3, eq_true h5, if_true, if_false, not_false_eq_true, not_true_eq_false, ↓reduceIte]; rfl) | rfl)
set_option maxHeartbeats 4000000 in
set_option maxRecDepth 100000 in
theorem k_L_isStep_8 (l : Launch) (D : va_G) {cI : ClassId} {tys : List (ClassId × FieldType)} (ht0 : tys[0]? = some (cI, .int)) (aJ : Nat → Nat) (J : Nat → Nat → Nat → Int32) (aN : Nat → Nat) (N : Nat → Nat → Nat → Int32) (x : Int32) {n τ : Nat} (h_R : RR J N n τ) (h_n : n < 100) (h_t : τ + 30 ≤ 5000) (h_w : upF x 11 = 8) (sz : Nat) : kI l yL_isStep cL_isStep 5 (some .boolean) { frames := 9, cells := 0, slots := 0, locals := 152 } D tys [.ref (aJ 0), .ref (aN 0), .int x] (wVM cI aJ J ++ (wVM cI aN N)) (wVM cI aJ (if 0 ≤ psF J 6 then J else (vm_enact J 8 (upF (x >>> (4 &&& 31)) 1001) (-1) (-1) (-1))) ++ (wVM cI aN (if 0 ≤ psF J 6 then N else (vm_enact N 8 (upF (x >>> (4 &&& 31)) 1001) (-1) (-1) (-1))))) 1 0 0 sz := by
  refine y_enterI (cc := cL_isStep) (maxL := 5) (ret := (some .boolean)) (own := RL) (by decide) rfl (lv0 := [(0, .ref (aJ 0)), (1, .ref (aN 0)), (2, .int x)]) rfl (Nat.le_of_ble_eq_true rfl) ?_
  intro p e s m args below meth c A Z hr hlk _
  have hR := h_R
  refine y_iload_n Z dL_isStep_0 2 rfl rfl ?_
  refine y_iconst (v := 4) Z dL_isStep_1 (by decide) ?_
  refine y_ishr Z dL_isStep_2 ?_
  refine y_bipush (v := 10) Z dL_isStep_3 (by decide) ?_
  refine y_SI Z (k_L_up l D ht0 (x >>> (4 &&& 31)) 10 (by decide)) (y_cwS 2 Z ml_RL_15 st_L_up in_L co_L_up rfl rfl hs_L_up ⟨Nat.le_of_ble_eq_true rfl, Nat.le_of_ble_eq_true rfl⟩) [] rfl (by decide) rfl rfl (Nat.le_of_ble_eq_true rfl) dL_isStep_5 ⟨Nat.le_of_ble_eq_true rfl, Nat.le_of_ble_eq_true rfl⟩ [] rfl rfl (wVM cI aJ J ++ (wVM cI aN N)) rfl ?_
  refine y_istore_n Z [(3, .int (upF (x >>> (4 &&& 31)) 10)), (0, .ref (aJ 0)), (1, .ref (aN 0)), (2, .int x)] dL_isStep_8 rfl (by decide) rfl ?_
  refine y_iload_n Z dL_isStep_9 3 rfl rfl ?_
  refine y_iconst (v := 4) Z dL_isStep_10 (by decide) ?_
  refine y_ishr Z dL_isStep_11 ?_
  refine y_iconst (v := 3) Z dL_isStep_12 (by decide) ?_
  refine y_SI Z (k_L_up l D ht0 (x >>> (4 &&& 31)) 3 (by decide)) (y_cwS 2 Z ml_RL_15 st_L_up in_L co_L_up rfl rfl hs_L_up ⟨Nat.le_of_ble_eq_true rfl, Nat.le_of_ble_eq_true rfl⟩) [] rfl (by decide) rfl rfl (Nat.le_of_ble_eq_true rfl) dL_isStep_13 ⟨Nat.le_of_ble_eq_true rfl, Nat.le_of_ble_eq_true rfl⟩ [] rfl rfl (wVM cI aJ J ++ (wVM cI aN N)) rfl ?_
  refine y_istore Z [(4, .int (upF (x >>> (4 &&& 31)) 3)), (3, .int (upF (x >>> (4 &&& 31)) 10)), (0, .ref (aJ 0)), (1, .ref (aN 0)), (2, .int x)] dL_isStep_16 (by decide) rfl ?_
  refine y_iload_n Z dL_isStep_18 4 rfl rfl ?_
  refine y_bipush (v := 11) Z dL_isStep_19 (by decide) ?_
  refine y_SI Z (k_L_up l D ht0 x 11 (by decide)) (y_cwS 2 Z ml_RL_15 st_L_up in_L co_L_up rfl rfl hs_L_up ⟨Nat.le_of_ble_eq_true rfl, Nat.le_of_ble_eq_true rfl⟩) [] rfl (by decide) rfl rfl (Nat.le_of_ble_eq_true rfl) dL_isStep_21 ⟨Nat.le_of_ble_eq_true rfl, Nat.le_of_ble_eq_true rfl⟩ [] rfl rfl (wVM cI aJ J ++ (wVM cI aN N)) rfl ?_
  refine y_tableIn (tgt := 371) (off := 347) Z dL_isStep_24 (by rw [h_w]; decide) (by rw [h_w]; decide) (by rw [h_w]; rfl) (by decide) ?_
  refine y_aload_n Z dL_isStep_371 2 rfl rfl ?_
  refine y_bipush (v := 6) Z dL_isStep_372 (by decide) ?_
  refine y_VIw Z (k_X5_setting l D ht0 aJ J 6 ⟨by decide, by decide⟩) (y_cwV 1 Z ml_RL_9 im_X5_setting se_X5_setting in_X5 co_X5_setting rfl rfl hd_X5_setting ⟨Nat.le_of_ble_eq_true rfl, Nat.le_of_ble_eq_true rfl⟩) List.nil (wVM cI aN N) (by first | with_reducible rfl | simp only [List.nil_append, List.append_nil] | simp only [List.nil_append, List.append_nil, wMix, wLog, wPic, wRep, wScr, wVM, wMd, sR_eq, sR_ne, sF_eq, sF_ne, upd_eq, upd_ne, gs_eq, gs_ne, gm_4, gm_ne, Nat.reduceBEq]) 5 0 rfl rfl rfl rfl (Nat.le_of_ble_eq_true rfl) dL_isStep_374 ⟨Nat.le_of_ble_eq_true rfl, Nat.le_of_ble_eq_true rfl⟩ (wVM cI aJ J ++ (wVM cI aN N)) (by first | with_reducible rfl | simp only [List.nil_append, List.append_nil] | simp only [List.nil_append, List.append_nil, wMix, wLog, wPic, wRep, wScr, wVM, wMd, sR_eq, sR_ne, sF_eq, sF_ne, upd_eq, upd_ne, gs_eq, gs_ne, gm_4, gm_ne, Nat.reduceBEq]) ?_
  refine y_if_ge (tgt := 409) Z dL_isStep_377 (by decide) (fun h2 => ?_) (fun h3 => ?_)
  · refine y_iconst (v := 1) Z dL_isStep_409 (by decide) ?_
    refine y_goto (tgt := 414) Z dL_isStep_410 (by decide) ?_
    exact y_retZ Z hr hlk (by decide) dL_isStep_414 (by first | (simp only [h2, if_true, if_false, not_false_eq_true, not_true_eq_false, ↓reduceIte]; done) | (simp only [h2, if_true, if_false, not_false_eq_true, not_true_eq_false, ↓reduceIte, wMix, wLog, wPic, wRep, wScr, wVM, wMd, sR_eq, sR_ne, sF_eq, sF_ne, upd_eq, upd_ne, gs_eq, gs_ne, gm_4, gm_ne, Nat.reduceBEq]; done) | (with_reducible rfl) | contradiction | (simp only [h2, if_true, if_false, not_false_eq_true, not_true_eq_false, ↓reduceIte]; rfl) | rfl) (by first | (simp only [h2, if_true, if_false, not_false_eq_true, not_true_eq_false, ↓reduceIte]; done) | (simp only [h2, if_true, if_false, not_false_eq_true, not_true_eq_false, ↓reduceIte, wMix, wLog, wPic, wRep, wScr, wVM, wMd, sR_eq, sR_ne, sF_eq, sF_ne, upd_eq, upd_ne, gs_eq, gs_ne, gm_4, gm_ne, Nat.reduceBEq]; done) | (with_reducible rfl) | contradiction | (simp only [h2, if_true, if_false, not_false_eq_true, not_true_eq_false, ↓reduceIte]; rfl) | rfl)
  · refine y_aload_n Z dL_isStep_380 2 rfl rfl ?_
    refine y_iload_n Z dL_isStep_381 4 rfl rfl ?_
    refine y_iconst (v := 4) Z dL_isStep_382 (by decide) ?_
    refine y_ishr Z dL_isStep_383 ?_
    refine y_sipush (v := 1001) Z dL_isStep_384 (by decide) ?_
    refine y_SI Z (k_L_up l D ht0 (x >>> (4 &&& 31)) 1001 (by decide)) (y_cwS 2 Z ml_RL_15 st_L_up in_L co_L_up rfl rfl hs_L_up ⟨Nat.le_of_ble_eq_true rfl, Nat.le_of_ble_eq_true rfl⟩) [] rfl (by decide) rfl rfl (Nat.le_of_ble_eq_true rfl) dL_isStep_387 ⟨Nat.le_of_ble_eq_true rfl, Nat.le_of_ble_eq_true rfl⟩ [] rfl rfl (wVM cI aJ J ++ (wVM cI aN N)) rfl ?_
    refine y_VIw Z (k_X5_bar l D ht0 aJ J (upF (x >>> (4 &&& 31)) 1001) (up_R0 (m := 1001) (h := 1000) _ (by decide) (by decide) (by decide)) (rr_ok8 hR h_n h3).1) (y_cwV 1 Z ml_RL_54 im_X5_bar se_X5_bar in_X5 co_X5_bar rfl rfl hd_X5_bar ⟨Nat.le_of_ble_eq_true rfl, Nat.le_of_ble_eq_true rfl⟩) List.nil (wVM cI aN N) (by first | with_reducible rfl | simp only [List.nil_append, List.append_nil] | simp only [List.nil_append, List.append_nil, wMix, wLog, wPic, wRep, wScr, wVM, wMd, sR_eq, sR_ne, sF_eq, sF_ne, upd_eq, upd_ne, gs_eq, gs_ne, gm_4, gm_ne, Nat.reduceBEq]) 5 0 rfl rfl rfl rfl (Nat.le_of_ble_eq_true rfl) dL_isStep_390 ⟨Nat.le_of_ble_eq_true rfl, Nat.le_of_ble_eq_true rfl⟩ (wVM cI aJ (vm_enact J 8 (upF (x >>> (4 &&& 31)) 1001) (-1) (-1) (-1)) ++ (wVM cI aN N)) (by first | with_reducible rfl | simp only [List.nil_append, List.append_nil] | simp only [List.nil_append, List.append_nil, wMix, wLog, wPic, wRep, wScr, wVM, wMd, sR_eq, sR_ne, sF_eq, sF_ne, upd_eq, upd_ne, gs_eq, gs_ne, gm_4, gm_ne, Nat.reduceBEq]) ?_
    refine y_aload_n Z dL_isStep_393 3 rfl rfl ?_
    refine y_iload_n Z dL_isStep_394 4 rfl rfl ?_
    refine y_iconst (v := 4) Z dL_isStep_395 (by decide) ?_
    refine y_ishr Z dL_isStep_396 ?_
    refine y_sipush (v := 1001) Z dL_isStep_397 (by decide) ?_
    refine y_SI Z (k_L_up l D ht0 (x >>> (4 &&& 31)) 1001 (by decide)) (y_cwS 2 Z ml_RL_15 st_L_up in_L co_L_up rfl rfl hs_L_up ⟨Nat.le_of_ble_eq_true rfl, Nat.le_of_ble_eq_true rfl⟩) [] rfl (by decide) rfl rfl (Nat.le_of_ble_eq_true rfl) dL_isStep_400 ⟨Nat.le_of_ble_eq_true rfl, Nat.le_of_ble_eq_true rfl⟩ [] rfl rfl (wVM cI aJ (vm_enact J 8 (upF (x >>> (4 &&& 31)) 1001) (-1) (-1) (-1)) ++ (wVM cI aN N)) rfl ?_
    refine y_VIw Z (k_X5_bar l D ht0 aN N (upF (x >>> (4 &&& 31)) 1001) (up_R0 (m := 1001) (h := 1000) _ (by decide) (by decide) (by decide)) (rr_ok8 hR h_n h3).2) (y_cwV 1 Z ml_RL_54 im_X5_bar se_X5_bar in_X5 co_X5_bar rfl rfl hd_X5_bar ⟨Nat.le_of_ble_eq_true rfl, Nat.le_of_ble_eq_true rfl⟩) (wVM cI aJ (vm_enact J 8 (upF (x >>> (4 &&& 31)) 1001) (-1) (-1) (-1))) List.nil (by first | with_reducible rfl | simp only [List.nil_append, List.append_nil] | simp only [List.nil_append, List.append_nil, wMix, wLog, wPic, wRep, wScr, wVM, wMd, sR_eq, sR_ne, sF_eq, sF_ne, upd_eq, upd_ne, gs_eq, gs_ne, gm_4, gm_ne, Nat.reduceBEq]) 5 0 rfl rfl rfl rfl (Nat.le_of_ble_eq_true rfl) dL_isStep_403 ⟨Nat.le_of_ble_eq_true rfl, Nat.le_of_ble_eq_true rfl⟩ (wVM cI aJ (vm_enact J 8 (upF (x >>> (4 &&& 31)) 1001) (-1) (-1) (-1)) ++ (wVM cI aN (vm_enact N 8 (upF (x >>> (4 &&& 31)) 1001) (-1) (-1) (-1)))) (by first | with_reducible rfl | simp only [List.nil_append, List.append_nil] | simp only [List.nil_append, List.append_nil, wMix, wLog, wPic, wRep, wScr, wVM, wMd, sR_eq, sR_ne, sF_eq, sF_ne, upd_eq, upd_ne, gs_eq, gs_ne, gm_4, gm_ne, Nat.reduceBEq]) ?_
    refine y_icmp_ne (tgt := 413) Z dL_isStep_406 (by decide) (fun h4 => ?_) (fun h5 => ?_)
    · exact absurd (rr_v8 hR _) h4
    · refine y_iconst (v := 1) Z dL_isStep_409 (by decide) ?_
      refine y_goto (tgt := 414) Z dL_isStep_410 (by decide) ?_
      exact y_retZ Z hr hlk (by decide) dL_isStep_414 (by first | (simp only [h3, eq_true h5, if_true, if_false, not_false_eq_true, not_true_eq_false, ↓reduceIte]; done) | (simp only [h3, eq_true h5, if_true, if_false, not_false_eq_true, not_true_eq_false, ↓reduceIte, wMix, wLog, wPic, wRep, wScr, wVM, wMd, sR_eq, sR_ne, sF_eq, sF_ne, upd_eq, upd_ne, gs_eq, gs_ne, gm_4, gm_ne, Nat.reduceBEq]; done) | (with_reducible rfl) | contradiction | (simp only [h3, eq_true h5, if_true, if_false, not_false_eq_true, not_true_eq_false, ↓reduceIte]; rfl) | rfl) (by first | (simp only [h3, eq_true h5, if_true, if_false, not_false_eq_true, not_true_eq_false, ↓reduceIte]; done) | (simp only [h3, eq_true h5, if_true, if_false, not_false_eq_true, not_true_eq_false, ↓reduceIte, wMix, wLog, wPic, wRep, wScr, wVM, wMd, sR_eq, sR_ne, sF_eq, sF_ne, upd_eq, upd_ne, gs_eq, gs_ne, gm_4, gm_ne, Nat.reduceBEq]; done) | (with_reducible rfl) | contradiction | (simp only [h3, eq_true h5, if_true, if_false, not_false_eq_true, not_true_eq_false, ↓reduceIte]; rfl) | rfl)
set_option maxHeartbeats 4000000 in
set_option maxRecDepth 100000 in
theorem k_L_isStep_9 (l : Launch) (D : va_G) {cI : ClassId} {tys : List (ClassId × FieldType)} (ht0 : tys[0]? = some (cI, .int)) (aJ : Nat → Nat) (J : Nat → Nat → Nat → Int32) (aN : Nat → Nat) (N : Nat → Nat → Nat → Int32) (x : Int32) {n τ : Nat} (h_R : RR J N n τ) (h_n : n < 100) (h_t : τ + 30 ≤ 5000) (h_w : upF x 11 = 9) (sz : Nat) : kI l yL_isStep cL_isStep 5 (some .boolean) { frames := 9, cells := 0, slots := 0, locals := 152 } D tys [.ref (aJ 0), .ref (aN 0), .int x] (wVM cI aJ J ++ (wVM cI aN N)) (wVM cI aJ (if (upF (x >>> (4 &&& 31)) 10) = 0 then J else (vm_enact J 9 (upF (x >>> (4 &&& 31)) 10) (if (x >>> (9 &&& 31)) &&& 1 = 0 then (nzF 1) else (nzF 0)) (-1) (-1))) ++ (wVM cI aN (if (upF (x >>> (4 &&& 31)) 10) = 0 then N else (vm_enact N 9 (otF (upF (x >>> (4 &&& 31)) 10)) (if (x >>> (9 &&& 31)) &&& 1 = 0 then (nzF 1) else (nzF 0)) (-1) (-1))))) 1 0 0 sz := by
  refine y_enterI (cc := cL_isStep) (maxL := 5) (ret := (some .boolean)) (own := RL) (by decide) rfl (lv0 := [(0, .ref (aJ 0)), (1, .ref (aN 0)), (2, .int x)]) rfl (Nat.le_of_ble_eq_true rfl) ?_
  intro p e s m args below meth c A Z hr hlk _
  have hR := h_R
  refine y_iload_n Z dL_isStep_0 2 rfl rfl ?_
  refine y_iconst (v := 4) Z dL_isStep_1 (by decide) ?_
  refine y_ishr Z dL_isStep_2 ?_
  refine y_bipush (v := 10) Z dL_isStep_3 (by decide) ?_
  refine y_SI Z (k_L_up l D ht0 (x >>> (4 &&& 31)) 10 (by decide)) (y_cwS 2 Z ml_RL_15 st_L_up in_L co_L_up rfl rfl hs_L_up ⟨Nat.le_of_ble_eq_true rfl, Nat.le_of_ble_eq_true rfl⟩) [] rfl (by decide) rfl rfl (Nat.le_of_ble_eq_true rfl) dL_isStep_5 ⟨Nat.le_of_ble_eq_true rfl, Nat.le_of_ble_eq_true rfl⟩ [] rfl rfl (wVM cI aJ J ++ (wVM cI aN N)) rfl ?_
  refine y_istore_n Z [(3, .int (upF (x >>> (4 &&& 31)) 10)), (0, .ref (aJ 0)), (1, .ref (aN 0)), (2, .int x)] dL_isStep_8 rfl (by decide) rfl ?_
  refine y_iload_n Z dL_isStep_9 3 rfl rfl ?_
  refine y_iconst (v := 4) Z dL_isStep_10 (by decide) ?_
  refine y_ishr Z dL_isStep_11 ?_
  refine y_iconst (v := 3) Z dL_isStep_12 (by decide) ?_
  refine y_SI Z (k_L_up l D ht0 (x >>> (4 &&& 31)) 3 (by decide)) (y_cwS 2 Z ml_RL_15 st_L_up in_L co_L_up rfl rfl hs_L_up ⟨Nat.le_of_ble_eq_true rfl, Nat.le_of_ble_eq_true rfl⟩) [] rfl (by decide) rfl rfl (Nat.le_of_ble_eq_true rfl) dL_isStep_13 ⟨Nat.le_of_ble_eq_true rfl, Nat.le_of_ble_eq_true rfl⟩ [] rfl rfl (wVM cI aJ J ++ (wVM cI aN N)) rfl ?_
  refine y_istore Z [(4, .int (upF (x >>> (4 &&& 31)) 3)), (3, .int (upF (x >>> (4 &&& 31)) 10)), (0, .ref (aJ 0)), (1, .ref (aN 0)), (2, .int x)] dL_isStep_16 (by decide) rfl ?_
  refine y_iload_n Z dL_isStep_18 4 rfl rfl ?_
  refine y_bipush (v := 11) Z dL_isStep_19 (by decide) ?_
  refine y_SI Z (k_L_up l D ht0 x 11 (by decide)) (y_cwS 2 Z ml_RL_15 st_L_up in_L co_L_up rfl rfl hs_L_up ⟨Nat.le_of_ble_eq_true rfl, Nat.le_of_ble_eq_true rfl⟩) [] rfl (by decide) rfl rfl (Nat.le_of_ble_eq_true rfl) dL_isStep_21 ⟨Nat.le_of_ble_eq_true rfl, Nat.le_of_ble_eq_true rfl⟩ [] rfl rfl (wVM cI aJ J ++ (wVM cI aN N)) rfl ?_
  refine y_tableIn (tgt := 415) (off := 391) Z dL_isStep_24 (by rw [h_w]; decide) (by rw [h_w]; decide) (by rw [h_w]; rfl) (by decide) ?_
  refine y_iload_n Z dL_isStep_415 1 rfl rfl ?_
  refine y_if_eq (tgt := 463) Z dL_isStep_416 (by decide) (fun h2 => ?_) (fun h3 => ?_)
  · refine y_iconst (v := 1) Z dL_isStep_463 (by decide) ?_
    refine y_goto (tgt := 468) Z dL_isStep_464 (by decide) ?_
    exact y_retZ Z hr hlk (by decide) dL_isStep_468 (by first | (simp only [eq_true h2, if_true, if_false, not_false_eq_true, not_true_eq_false, ↓reduceIte]; done) | (simp only [eq_true h2, if_true, if_false, not_false_eq_true, not_true_eq_false, ↓reduceIte, wMix, wLog, wPic, wRep, wScr, wVM, wMd, sR_eq, sR_ne, sF_eq, sF_ne, upd_eq, upd_ne, gs_eq, gs_ne, gm_4, gm_ne, Nat.reduceBEq]; done) | (with_reducible rfl) | contradiction | (simp only [eq_true h2, if_true, if_false, not_false_eq_true, not_true_eq_false, ↓reduceIte]; rfl) | rfl) (by first | (simp only [eq_true h2, if_true, if_false, not_false_eq_true, not_true_eq_false, ↓reduceIte]; done) | (simp only [eq_true h2, if_true, if_false, not_false_eq_true, not_true_eq_false, ↓reduceIte, wMix, wLog, wPic, wRep, wScr, wVM, wMd, sR_eq, sR_ne, sF_eq, sF_ne, upd_eq, upd_ne, gs_eq, gs_ne, gm_4, gm_ne, Nat.reduceBEq]; done) | (with_reducible rfl) | contradiction | (simp only [eq_true h2, if_true, if_false, not_false_eq_true, not_true_eq_false, ↓reduceIte]; rfl) | rfl)
  · refine y_aload_n Z dL_isStep_419 2 rfl rfl ?_
    refine y_iload_n Z dL_isStep_420 1 rfl rfl ?_
    refine y_iload_n Z dL_isStep_421 4 rfl rfl ?_
    refine y_bipush (v := 9) Z dL_isStep_422 (by decide) ?_
    refine y_ishr Z dL_isStep_424 ?_
    refine y_iconst (v := 1) Z dL_isStep_425 (by decide) ?_
    refine y_iand Z dL_isStep_426 ?_
    refine y_if_ne (tgt := 434) Z dL_isStep_427 (by decide) (fun h4 => ?_) (fun h5 => ?_)
    · refine y_iconst (v := 0) Z dL_isStep_434 (by decide) ?_
      refine y_VIw Z (k_X5_fault l D ht0 aJ J (upF (x >>> (4 &&& 31)) 10) 0 (up_S _) h3 (rr_okM hR h_n 9 (by decide) (by decide) (by decide)).1) (y_cwV 2 Z ml_RL_57 im_X5_fault se_X5_fault in_X5 co_X5_fault rfl rfl hd_X5_fault ⟨Nat.le_of_ble_eq_true rfl, Nat.le_of_ble_eq_true rfl⟩) List.nil (wVM cI aN N) (by first | with_reducible rfl | simp only [List.nil_append, List.append_nil] | simp only [List.nil_append, List.append_nil, wMix, wLog, wPic, wRep, wScr, wVM, wMd, sR_eq, sR_ne, sF_eq, sF_ne, upd_eq, upd_ne, gs_eq, gs_ne, gm_4, gm_ne, Nat.reduceBEq]) 5 0 rfl rfl rfl rfl (Nat.le_of_ble_eq_true rfl) dL_isStep_435 ⟨Nat.le_of_ble_eq_true rfl, Nat.le_of_ble_eq_true rfl⟩ (wVM cI aJ (vm_enact J 9 (upF (x >>> (4 &&& 31)) 10) (nzF 0) (-1) (-1)) ++ (wVM cI aN N)) (by first | with_reducible rfl | simp only [List.nil_append, List.append_nil] | simp only [List.nil_append, List.append_nil, wMix, wLog, wPic, wRep, wScr, wVM, wMd, sR_eq, sR_ne, sF_eq, sF_ne, upd_eq, upd_ne, gs_eq, gs_ne, gm_4, gm_ne, Nat.reduceBEq]) ?_
      refine y_aload_n Z dL_isStep_438 3 rfl rfl ?_
      refine y_iload_n Z dL_isStep_439 1 rfl rfl ?_
      refine y_SI Z (k_L_other l D ht0 (upF (x >>> (4 &&& 31)) 10)) (y_cwS 1 Z ml_RL_24 st_L_other in_L co_L_other rfl rfl hs_L_other ⟨Nat.le_of_ble_eq_true rfl, Nat.le_of_ble_eq_true rfl⟩) [] rfl (by decide) rfl rfl (Nat.le_of_ble_eq_true rfl) dL_isStep_440 ⟨Nat.le_of_ble_eq_true rfl, Nat.le_of_ble_eq_true rfl⟩ [] rfl rfl (wVM cI aJ (vm_enact J 9 (upF (x >>> (4 &&& 31)) 10) (nzF 0) (-1) (-1)) ++ (wVM cI aN N)) rfl ?_
      refine y_iload_n Z dL_isStep_443 4 rfl rfl ?_
      refine y_bipush (v := 9) Z dL_isStep_444 (by decide) ?_
      refine y_ishr Z dL_isStep_446 ?_
      refine y_iconst (v := 1) Z dL_isStep_447 (by decide) ?_
      refine y_iand Z dL_isStep_448 ?_
      refine y_if_ne (tgt := 456) Z dL_isStep_449 (by decide) (fun h6 => ?_) (fun h7 => ?_)
      · refine y_iconst (v := 0) Z dL_isStep_456 (by decide) ?_
        refine y_VIw Z (k_X5_fault l D ht0 aN N (otF (upF (x >>> (4 &&& 31)) 10)) 0 (up_oS _) (up_oB h3) (rr_okM hR h_n 9 (by decide) (by decide) (by decide)).2) (y_cwV 2 Z ml_RL_57 im_X5_fault se_X5_fault in_X5 co_X5_fault rfl rfl hd_X5_fault ⟨Nat.le_of_ble_eq_true rfl, Nat.le_of_ble_eq_true rfl⟩) (wVM cI aJ (vm_enact J 9 (upF (x >>> (4 &&& 31)) 10) (nzF 0) (-1) (-1))) List.nil (by first | with_reducible rfl | simp only [List.nil_append, List.append_nil] | simp only [List.nil_append, List.append_nil, wMix, wLog, wPic, wRep, wScr, wVM, wMd, sR_eq, sR_ne, sF_eq, sF_ne, upd_eq, upd_ne, gs_eq, gs_ne, gm_4, gm_ne, Nat.reduceBEq]) 5 0 rfl rfl rfl rfl (Nat.le_of_ble_eq_true rfl) dL_isStep_457 ⟨Nat.le_of_ble_eq_true rfl, Nat.le_of_ble_eq_true rfl⟩ (wVM cI aJ (vm_enact J 9 (upF (x >>> (4 &&& 31)) 10) (nzF 0) (-1) (-1)) ++ (wVM cI aN (vm_enact N 9 (otF (upF (x >>> (4 &&& 31)) 10)) (nzF 0) (-1) (-1)))) (by first | with_reducible rfl | simp only [List.nil_append, List.append_nil] | simp only [List.nil_append, List.append_nil, wMix, wLog, wPic, wRep, wScr, wVM, wMd, sR_eq, sR_ne, sF_eq, sF_ne, upd_eq, upd_ne, gs_eq, gs_ne, gm_4, gm_ne, Nat.reduceBEq]) ?_
        refine y_icmp_ne (tgt := 467) Z dL_isStep_460 (by decide) (fun h8 => ?_) (fun h9 => ?_)
        · exact absurd (rr_v9 hR (up_S _) _) h8
        · refine y_iconst (v := 1) Z dL_isStep_463 (by decide) ?_
          refine y_goto (tgt := 468) Z dL_isStep_464 (by decide) ?_
          exact y_retZ Z hr hlk (by decide) dL_isStep_468 (by first | (simp only [h3, h4, h6, eq_true h9, if_true, if_false, not_false_eq_true, not_true_eq_false, ↓reduceIte]; done) | (simp only [h3, h4, h6, eq_true h9, if_true, if_false, not_false_eq_true, not_true_eq_false, ↓reduceIte, wMix, wLog, wPic, wRep, wScr, wVM, wMd, sR_eq, sR_ne, sF_eq, sF_ne, upd_eq, upd_ne, gs_eq, gs_ne, gm_4, gm_ne, Nat.reduceBEq]; done) | (with_reducible rfl) | contradiction | (simp only [h3, h4, h6, eq_true h9, if_true, if_false, not_false_eq_true, not_true_eq_false, ↓reduceIte]; rfl) | rfl) (by first | (simp only [h3, h4, h6, eq_true h9, if_true, if_false, not_false_eq_true, not_true_eq_false, ↓reduceIte]; done) | (simp only [h3, h4, h6, eq_true h9, if_true, if_false, not_false_eq_true, not_true_eq_false, ↓reduceIte, wMix, wLog, wPic, wRep, wScr, wVM, wMd, sR_eq, sR_ne, sF_eq, sF_ne, upd_eq, upd_ne, gs_eq, gs_ne, gm_4, gm_ne, Nat.reduceBEq]; done) | (with_reducible rfl) | contradiction | (simp only [h3, h4, h6, eq_true h9, if_true, if_false, not_false_eq_true, not_true_eq_false, ↓reduceIte]; rfl) | rfl)
      · exact absurd h7 h4
    · refine y_iconst (v := 1) Z dL_isStep_430 (by decide) ?_
      refine y_goto (tgt := 435) Z dL_isStep_431 (by decide) ?_
      refine y_VIw Z (k_X5_fault l D ht0 aJ J (upF (x >>> (4 &&& 31)) 10) 1 (up_S _) h3 (rr_okM hR h_n 9 (by decide) (by decide) (by decide)).1) (y_cwV 2 Z ml_RL_57 im_X5_fault se_X5_fault in_X5 co_X5_fault rfl rfl hd_X5_fault ⟨Nat.le_of_ble_eq_true rfl, Nat.le_of_ble_eq_true rfl⟩) List.nil (wVM cI aN N) (by first | with_reducible rfl | simp only [List.nil_append, List.append_nil] | simp only [List.nil_append, List.append_nil, wMix, wLog, wPic, wRep, wScr, wVM, wMd, sR_eq, sR_ne, sF_eq, sF_ne, upd_eq, upd_ne, gs_eq, gs_ne, gm_4, gm_ne, Nat.reduceBEq]) 5 0 rfl rfl rfl rfl (Nat.le_of_ble_eq_true rfl) dL_isStep_435 ⟨Nat.le_of_ble_eq_true rfl, Nat.le_of_ble_eq_true rfl⟩ (wVM cI aJ (vm_enact J 9 (upF (x >>> (4 &&& 31)) 10) (nzF 1) (-1) (-1)) ++ (wVM cI aN N)) (by first | with_reducible rfl | simp only [List.nil_append, List.append_nil] | simp only [List.nil_append, List.append_nil, wMix, wLog, wPic, wRep, wScr, wVM, wMd, sR_eq, sR_ne, sF_eq, sF_ne, upd_eq, upd_ne, gs_eq, gs_ne, gm_4, gm_ne, Nat.reduceBEq]) ?_
      refine y_aload_n Z dL_isStep_438 3 rfl rfl ?_
      refine y_iload_n Z dL_isStep_439 1 rfl rfl ?_
      refine y_SI Z (k_L_other l D ht0 (upF (x >>> (4 &&& 31)) 10)) (y_cwS 1 Z ml_RL_24 st_L_other in_L co_L_other rfl rfl hs_L_other ⟨Nat.le_of_ble_eq_true rfl, Nat.le_of_ble_eq_true rfl⟩) [] rfl (by decide) rfl rfl (Nat.le_of_ble_eq_true rfl) dL_isStep_440 ⟨Nat.le_of_ble_eq_true rfl, Nat.le_of_ble_eq_true rfl⟩ [] rfl rfl (wVM cI aJ (vm_enact J 9 (upF (x >>> (4 &&& 31)) 10) (nzF 1) (-1) (-1)) ++ (wVM cI aN N)) rfl ?_
      refine y_iload_n Z dL_isStep_443 4 rfl rfl ?_
      refine y_bipush (v := 9) Z dL_isStep_444 (by decide) ?_
      refine y_ishr Z dL_isStep_446 ?_
      refine y_iconst (v := 1) Z dL_isStep_447 (by decide) ?_
      refine y_iand Z dL_isStep_448 ?_
      refine y_if_ne (tgt := 456) Z dL_isStep_449 (by decide) (fun h10 => ?_) (fun h11 => ?_)
      · exact absurd h5 h10
      · refine y_iconst (v := 1) Z dL_isStep_452 (by decide) ?_
        refine y_goto (tgt := 457) Z dL_isStep_453 (by decide) ?_
        refine y_VIw Z (k_X5_fault l D ht0 aN N (otF (upF (x >>> (4 &&& 31)) 10)) 1 (up_oS _) (up_oB h3) (rr_okM hR h_n 9 (by decide) (by decide) (by decide)).2) (y_cwV 2 Z ml_RL_57 im_X5_fault se_X5_fault in_X5 co_X5_fault rfl rfl hd_X5_fault ⟨Nat.le_of_ble_eq_true rfl, Nat.le_of_ble_eq_true rfl⟩) (wVM cI aJ (vm_enact J 9 (upF (x >>> (4 &&& 31)) 10) (nzF 1) (-1) (-1))) List.nil (by first | with_reducible rfl | simp only [List.nil_append, List.append_nil] | simp only [List.nil_append, List.append_nil, wMix, wLog, wPic, wRep, wScr, wVM, wMd, sR_eq, sR_ne, sF_eq, sF_ne, upd_eq, upd_ne, gs_eq, gs_ne, gm_4, gm_ne, Nat.reduceBEq]) 5 0 rfl rfl rfl rfl (Nat.le_of_ble_eq_true rfl) dL_isStep_457 ⟨Nat.le_of_ble_eq_true rfl, Nat.le_of_ble_eq_true rfl⟩ (wVM cI aJ (vm_enact J 9 (upF (x >>> (4 &&& 31)) 10) (nzF 1) (-1) (-1)) ++ (wVM cI aN (vm_enact N 9 (otF (upF (x >>> (4 &&& 31)) 10)) (nzF 1) (-1) (-1)))) (by first | with_reducible rfl | simp only [List.nil_append, List.append_nil] | simp only [List.nil_append, List.append_nil, wMix, wLog, wPic, wRep, wScr, wVM, wMd, sR_eq, sR_ne, sF_eq, sF_ne, upd_eq, upd_ne, gs_eq, gs_ne, gm_4, gm_ne, Nat.reduceBEq]) ?_
        refine y_icmp_ne (tgt := 467) Z dL_isStep_460 (by decide) (fun h12 => ?_) (fun h13 => ?_)
        · exact absurd (rr_v9 hR (up_S _) _) h12
        · refine y_iconst (v := 1) Z dL_isStep_463 (by decide) ?_
          refine y_goto (tgt := 468) Z dL_isStep_464 (by decide) ?_
          exact y_retZ Z hr hlk (by decide) dL_isStep_468 (by first | (simp only [h3, eq_true h5, eq_true h11, eq_true h13, if_true, if_false, not_false_eq_true, not_true_eq_false, ↓reduceIte]; done) | (simp only [h3, eq_true h5, eq_true h11, eq_true h13, if_true, if_false, not_false_eq_true, not_true_eq_false, ↓reduceIte, wMix, wLog, wPic, wRep, wScr, wVM, wMd, sR_eq, sR_ne, sF_eq, sF_ne, upd_eq, upd_ne, gs_eq, gs_ne, gm_4, gm_ne, Nat.reduceBEq]; done) | (with_reducible rfl) | contradiction | (simp only [h3, eq_true h5, eq_true h11, eq_true h13, if_true, if_false, not_false_eq_true, not_true_eq_false, ↓reduceIte]; rfl) | rfl) (by first | (simp only [h3, eq_true h5, eq_true h11, eq_true h13, if_true, if_false, not_false_eq_true, not_true_eq_false, ↓reduceIte]; done) | (simp only [h3, eq_true h5, eq_true h11, eq_true h13, if_true, if_false, not_false_eq_true, not_true_eq_false, ↓reduceIte, wMix, wLog, wPic, wRep, wScr, wVM, wMd, sR_eq, sR_ne, sF_eq, sF_ne, upd_eq, upd_ne, gs_eq, gs_ne, gm_4, gm_ne, Nat.reduceBEq]; done) | (with_reducible rfl) | contradiction | (simp only [h3, eq_true h5, eq_true h11, eq_true h13, if_true, if_false, not_false_eq_true, not_true_eq_false, ↓reduceIte]; rfl) | rfl)
set_option maxHeartbeats 4000000 in
set_option maxRecDepth 100000 in
theorem k_L_isStep_10 (l : Launch) (D : va_G) {cI : ClassId} {tys : List (ClassId × FieldType)} (ht0 : tys[0]? = some (cI, .int)) (aJ : Nat → Nat) (J : Nat → Nat → Nat → Int32) (aN : Nat → Nat) (N : Nat → Nat → Nat → Int32) (x : Int32) {n τ : Nat} (h_R : RR J N n τ) (h_n : n < 100) (h_t : τ + 30 ≤ 5000) (h_w : upF x 11 = 10) (sz : Nat) : kI l yL_isStep cL_isStep 5 (some .boolean) { frames := 9, cells := 0, slots := 0, locals := 152 } D tys [.ref (aJ 0), .ref (aN 0), .int x] (wVM cI aJ J ++ (wVM cI aN N)) (wVM cI aJ (vm_pass J (upF (x >>> (4 &&& 31)) 30)) ++ (wVM cI aN (vm_pass N (upF (x >>> (4 &&& 31)) 30)))) 1 0 0 sz := by
  refine y_enterI (cc := cL_isStep) (maxL := 5) (ret := (some .boolean)) (own := RL) (by decide) rfl (lv0 := [(0, .ref (aJ 0)), (1, .ref (aN 0)), (2, .int x)]) rfl (Nat.le_of_ble_eq_true rfl) ?_
  intro p e s m args below meth c A Z hr hlk _
  have hR := h_R
  refine y_iload_n Z dL_isStep_0 2 rfl rfl ?_
  refine y_iconst (v := 4) Z dL_isStep_1 (by decide) ?_
  refine y_ishr Z dL_isStep_2 ?_
  refine y_bipush (v := 10) Z dL_isStep_3 (by decide) ?_
  refine y_SI Z (k_L_up l D ht0 (x >>> (4 &&& 31)) 10 (by decide)) (y_cwS 2 Z ml_RL_15 st_L_up in_L co_L_up rfl rfl hs_L_up ⟨Nat.le_of_ble_eq_true rfl, Nat.le_of_ble_eq_true rfl⟩) [] rfl (by decide) rfl rfl (Nat.le_of_ble_eq_true rfl) dL_isStep_5 ⟨Nat.le_of_ble_eq_true rfl, Nat.le_of_ble_eq_true rfl⟩ [] rfl rfl (wVM cI aJ J ++ (wVM cI aN N)) rfl ?_
  refine y_istore_n Z [(3, .int (upF (x >>> (4 &&& 31)) 10)), (0, .ref (aJ 0)), (1, .ref (aN 0)), (2, .int x)] dL_isStep_8 rfl (by decide) rfl ?_
  refine y_iload_n Z dL_isStep_9 3 rfl rfl ?_
  refine y_iconst (v := 4) Z dL_isStep_10 (by decide) ?_
  refine y_ishr Z dL_isStep_11 ?_
  refine y_iconst (v := 3) Z dL_isStep_12 (by decide) ?_
  refine y_SI Z (k_L_up l D ht0 (x >>> (4 &&& 31)) 3 (by decide)) (y_cwS 2 Z ml_RL_15 st_L_up in_L co_L_up rfl rfl hs_L_up ⟨Nat.le_of_ble_eq_true rfl, Nat.le_of_ble_eq_true rfl⟩) [] rfl (by decide) rfl rfl (Nat.le_of_ble_eq_true rfl) dL_isStep_13 ⟨Nat.le_of_ble_eq_true rfl, Nat.le_of_ble_eq_true rfl⟩ [] rfl rfl (wVM cI aJ J ++ (wVM cI aN N)) rfl ?_
  refine y_istore Z [(4, .int (upF (x >>> (4 &&& 31)) 3)), (3, .int (upF (x >>> (4 &&& 31)) 10)), (0, .ref (aJ 0)), (1, .ref (aN 0)), (2, .int x)] dL_isStep_16 (by decide) rfl ?_
  refine y_iload_n Z dL_isStep_18 4 rfl rfl ?_
  refine y_bipush (v := 11) Z dL_isStep_19 (by decide) ?_
  refine y_SI Z (k_L_up l D ht0 x 11 (by decide)) (y_cwS 2 Z ml_RL_15 st_L_up in_L co_L_up rfl rfl hs_L_up ⟨Nat.le_of_ble_eq_true rfl, Nat.le_of_ble_eq_true rfl⟩) [] rfl (by decide) rfl rfl (Nat.le_of_ble_eq_true rfl) dL_isStep_21 ⟨Nat.le_of_ble_eq_true rfl, Nat.le_of_ble_eq_true rfl⟩ [] rfl rfl (wVM cI aJ J ++ (wVM cI aN N)) rfl ?_
  refine y_tableOut (tgt := 469) Z dL_isStep_24 (by rw [h_w]; decide) (by decide) ?_
  refine y_aload_n Z dL_isStep_469 2 rfl rfl ?_
  refine y_iload_n Z dL_isStep_470 4 rfl rfl ?_
  refine y_iconst (v := 4) Z dL_isStep_471 (by decide) ?_
  refine y_ishr Z dL_isStep_472 ?_
  refine y_bipush (v := 30) Z dL_isStep_473 (by decide) ?_
  refine y_SI Z (k_L_up l D ht0 (x >>> (4 &&& 31)) 30 (by decide)) (y_cwS 2 Z ml_RL_15 st_L_up in_L co_L_up rfl rfl hs_L_up ⟨Nat.le_of_ble_eq_true rfl, Nat.le_of_ble_eq_true rfl⟩) [] rfl (by decide) rfl rfl (Nat.le_of_ble_eq_true rfl) dL_isStep_475 ⟨Nat.le_of_ble_eq_true rfl, Nat.le_of_ble_eq_true rfl⟩ [] rfl rfl (wVM cI aJ J ++ (wVM cI aN N)) rfl ?_
  refine y_VIw Z (k_X5_pass l D ht0 aJ J (upF (x >>> (4 &&& 31)) 30) (up_R0 (m := 30) (h := 500) _ (by decide) (by decide) (by decide)) (rr_okP hR h_t _).1) (y_cwV 1 Z ml_RL_61 im_X5_pass se_X5_pass in_X5 co_X5_pass rfl rfl hd_X5_pass ⟨Nat.le_of_ble_eq_true rfl, Nat.le_of_ble_eq_true rfl⟩) List.nil (wVM cI aN N) (by first | with_reducible rfl | simp only [List.nil_append, List.append_nil] | simp only [List.nil_append, List.append_nil, wMix, wLog, wPic, wRep, wScr, wVM, wMd, sR_eq, sR_ne, sF_eq, sF_ne, upd_eq, upd_ne, gs_eq, gs_ne, gm_4, gm_ne, Nat.reduceBEq]) 5 0 rfl rfl rfl rfl (Nat.le_of_ble_eq_true rfl) dL_isStep_478 ⟨Nat.le_of_ble_eq_true rfl, Nat.le_of_ble_eq_true rfl⟩ (wVM cI aJ (vm_pass J (upF (x >>> (4 &&& 31)) 30)) ++ (wVM cI aN N)) (by first | with_reducible rfl | simp only [List.nil_append, List.append_nil] | simp only [List.nil_append, List.append_nil, wMix, wLog, wPic, wRep, wScr, wVM, wMd, sR_eq, sR_ne, sF_eq, sF_ne, upd_eq, upd_ne, gs_eq, gs_ne, gm_4, gm_ne, Nat.reduceBEq]) ?_
  refine y_aload_n Z dL_isStep_481 3 rfl rfl ?_
  refine y_iload_n Z dL_isStep_482 4 rfl rfl ?_
  refine y_iconst (v := 4) Z dL_isStep_483 (by decide) ?_
  refine y_ishr Z dL_isStep_484 ?_
  refine y_bipush (v := 30) Z dL_isStep_485 (by decide) ?_
  refine y_SI Z (k_L_up l D ht0 (x >>> (4 &&& 31)) 30 (by decide)) (y_cwS 2 Z ml_RL_15 st_L_up in_L co_L_up rfl rfl hs_L_up ⟨Nat.le_of_ble_eq_true rfl, Nat.le_of_ble_eq_true rfl⟩) [] rfl (by decide) rfl rfl (Nat.le_of_ble_eq_true rfl) dL_isStep_487 ⟨Nat.le_of_ble_eq_true rfl, Nat.le_of_ble_eq_true rfl⟩ [] rfl rfl (wVM cI aJ (vm_pass J (upF (x >>> (4 &&& 31)) 30)) ++ (wVM cI aN N)) rfl ?_
  refine y_VIw Z (k_X5_pass l D ht0 aN N (upF (x >>> (4 &&& 31)) 30) (up_R0 (m := 30) (h := 500) _ (by decide) (by decide) (by decide)) (rr_okP hR h_t _).2) (y_cwV 1 Z ml_RL_61 im_X5_pass se_X5_pass in_X5 co_X5_pass rfl rfl hd_X5_pass ⟨Nat.le_of_ble_eq_true rfl, Nat.le_of_ble_eq_true rfl⟩) (wVM cI aJ (vm_pass J (upF (x >>> (4 &&& 31)) 30))) List.nil (by first | with_reducible rfl | simp only [List.nil_append, List.append_nil] | simp only [List.nil_append, List.append_nil, wMix, wLog, wPic, wRep, wScr, wVM, wMd, sR_eq, sR_ne, sF_eq, sF_ne, upd_eq, upd_ne, gs_eq, gs_ne, gm_4, gm_ne, Nat.reduceBEq]) 5 0 rfl rfl rfl rfl (Nat.le_of_ble_eq_true rfl) dL_isStep_490 ⟨Nat.le_of_ble_eq_true rfl, Nat.le_of_ble_eq_true rfl⟩ (wVM cI aJ (vm_pass J (upF (x >>> (4 &&& 31)) 30)) ++ (wVM cI aN (vm_pass N (upF (x >>> (4 &&& 31)) 30)))) (by first | with_reducible rfl | simp only [List.nil_append, List.append_nil] | simp only [List.nil_append, List.append_nil, wMix, wLog, wPic, wRep, wScr, wVM, wMd, sR_eq, sR_ne, sF_eq, sF_ne, upd_eq, upd_ne, gs_eq, gs_ne, gm_4, gm_ne, Nat.reduceBEq]) ?_
  refine y_icmp_ne (tgt := 500) Z dL_isStep_493 (by decide) (fun h2 => ?_) (fun h3 => ?_)
  · exact absurd (rr_v10 hR h_t _) h2
  · refine y_iconst (v := 1) Z dL_isStep_496 (by decide) ?_
    refine y_goto (tgt := 501) Z dL_isStep_497 (by decide) ?_
    exact y_retZ Z hr hlk (by decide) dL_isStep_501 (by first | (simp only [eq_true h3, if_true, if_false, not_false_eq_true, not_true_eq_false, ↓reduceIte]; done) | (simp only [eq_true h3, if_true, if_false, not_false_eq_true, not_true_eq_false, ↓reduceIte, wMix, wLog, wPic, wRep, wScr, wVM, wMd, sR_eq, sR_ne, sF_eq, sF_ne, upd_eq, upd_ne, gs_eq, gs_ne, gm_4, gm_ne, Nat.reduceBEq]; done) | (with_reducible rfl) | contradiction | (simp only [eq_true h3, if_true, if_false, not_false_eq_true, not_true_eq_false, ↓reduceIte]; rfl) | rfl) (by first | (simp only [eq_true h3, if_true, if_false, not_false_eq_true, not_true_eq_false, ↓reduceIte]; done) | (simp only [eq_true h3, if_true, if_false, not_false_eq_true, not_true_eq_false, ↓reduceIte, wMix, wLog, wPic, wRep, wScr, wVM, wMd, sR_eq, sR_ne, sF_eq, sF_ne, upd_eq, upd_ne, gs_eq, gs_ne, gm_4, gm_ne, Nat.reduceBEq]; done) | (with_reducible rfl) | contradiction | (simp only [eq_true h3, if_true, if_false, not_false_eq_true, not_true_eq_false, ↓reduceIte]; rfl) | rfl)
