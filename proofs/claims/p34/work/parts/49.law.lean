theorem lgc_self (x : Int64) : lg_cmp x x = 0 := by
  unfold lg_cmp
  rw [if_neg (Int64.lt_irrefl), if_pos rfl]
set_option maxHeartbeats 4000000 in
set_option maxRecDepth 100000 in
theorem law_S {p : Program} {l : Launch} {e : Env} {s : State} {m : MethodId} {args : Array Value} {below : List Frame} {meth : Method} {c : Code} {Q : State → Prop} {D : va_G} {A : Nat → Prop} {tys : List (ClassId × FieldType)} {cI : ClassId} (Z : Zz p m c cL_law 7 s args wsL_law RL D tys A) (ht0 : tys[0]? = some (cI, .int)) {b L : Nat} {xs : Nat → Int32} (hX : va_X b L xs s s.heap) (hbl : b < s.heap.size) (hbA : ¬ A b) (hL : L ≤ 260) {cells slots : Nat} (hc : cells ≤ 166) (hs : slots ≤ 2944) {aJ aN : Nat → Nat}  (K : Yy p l e room_1 s m args below meth c Q D A 7 cells slots (wVM cI aJ (vm_enact (vm_enact (vm_enact (vm_enact (vm_enact vm0 0 1 (-1) (-1) (-1)) 1 2 (-1) (-1) (-1)) 4 0 ((3 : Int32) + 0) 100 25) 4 1 ((3 : Int32) + 1) 100 25) 4 2 ((3 : Int32) + 2) 100 25) ++ (wVM cI aN (vm_enact (vm_enact (vm_enact (vm_enact (vm_enact vm0 0 2 (-1) (-1) (-1)) 1 3 (-1) (-1) (-1)) 4 0 ((4 : Int32) + 0) 100 25) 4 1 ((4 : Int32) + 1) 100 25) 4 2 ((4 : Int32) + 2) 100 25))) [(0, .ref b), (1, .ref (aJ 0)), (2, .ref (aN 0)), (3, .int 1), (4, .int 0)] [] 128) : Yy p l e room_1 s m args below meth c Q D A 7 cells slots (wVM cI aJ vm0 ++ (wVM cI aN vm0)) [(0, .ref b), (1, .ref (aJ 0)), (2, .ref (aN 0))] [] 16 := by
  refine y_aload_n Z dL_law_16 2 rfl rfl ?_
  refine y_iconst (v := 2) Z dL_law_17 (by decide) ?_
  refine y_VIw Z (k_X5_program l D ht0 aN vm0 2 ⟨by decide, by decide⟩ (show ¬ myF _ _ = 0 by decide +kernel)) (y_cwV 1 Z ml_RL_21 im_X5_program se_X5_program in_X5 co_X5_program rfl rfl hd_X5_program ⟨Nat.le_of_ble_eq_true rfl, Nat.le_of_ble_eq_true rfl⟩) (wVM cI aJ vm0) List.nil (by first | with_reducible rfl | simp only [List.nil_append, List.append_nil] | simp only [List.nil_append, List.append_nil, wMix, wLog, wPic, wRep, wScr, wVM, wMd, sR_eq, sR_ne, sF_eq, sF_ne, upd_eq, upd_ne, gs_eq, gs_ne, gm_4, gm_ne, Nat.reduceBEq]) 5 0 rfl rfl rfl rfl (Nat.le_of_ble_eq_true rfl) dL_law_18 ⟨hc, hs⟩ (wVM cI aJ vm0 ++ (wVM cI aN (vm_enact vm0 0 2 (-1) (-1) (-1)))) (by first | with_reducible rfl | simp only [List.nil_append, List.append_nil] | simp only [List.nil_append, List.append_nil, wMix, wLog, wPic, wRep, wScr, wVM, wMd, sR_eq, sR_ne, sF_eq, sF_ne, upd_eq, upd_ne, gs_eq, gs_ne, gm_4, gm_ne, Nat.reduceBEq]) ?_
  refine y_iconst (v := 1) Z dL_law_21 (by decide) ?_
  refine y_icmp_ne (tgt := 56) Z dL_law_22 (by decide) (fun h1 => ?_) (fun h2 => ?_)
  · exact absurd (show perfR (vm0 0) 0 2 (-1) (-1) (-1) = 1 by decide +kernel) h1
  · refine y_aload_n Z dL_law_25 2 rfl rfl ?_
    refine y_iconst (v := 3) Z dL_law_26 (by decide) ?_
    refine y_VIw Z (k_X5_preview l D ht0 aN (vm_enact vm0 0 2 (-1) (-1) (-1)) 3 ⟨by decide, by decide⟩ (show ¬ myF _ _ = 0 by decide +kernel)) (y_cwV 1 Z ml_RL_27 im_X5_preview se_X5_preview in_X5 co_X5_preview rfl rfl hd_X5_preview ⟨Nat.le_of_ble_eq_true rfl, Nat.le_of_ble_eq_true rfl⟩) (wVM cI aJ vm0) List.nil (by first | with_reducible rfl | simp only [List.nil_append, List.append_nil] | simp only [List.nil_append, List.append_nil, wMix, wLog, wPic, wRep, wScr, wVM, wMd, sR_eq, sR_ne, sF_eq, sF_ne, upd_eq, upd_ne, gs_eq, gs_ne, gm_4, gm_ne, Nat.reduceBEq]) 5 0 rfl rfl rfl rfl (Nat.le_of_ble_eq_true rfl) dL_law_27 ⟨hc, hs⟩ (wVM cI aJ vm0 ++ (wVM cI aN (vm_enact (vm_enact vm0 0 2 (-1) (-1) (-1)) 1 3 (-1) (-1) (-1)))) (by first | with_reducible rfl | simp only [List.nil_append, List.append_nil] | simp only [List.nil_append, List.append_nil, wMix, wLog, wPic, wRep, wScr, wVM, wMd, sR_eq, sR_ne, sF_eq, sF_ne, upd_eq, upd_ne, gs_eq, gs_ne, gm_4, gm_ne, Nat.reduceBEq]) ?_
    refine y_iconst (v := 2) Z dL_law_30 (by decide) ?_
    refine y_icmp_ne (tgt := 56) Z dL_law_31 (by decide) (fun h3 => ?_) (fun h4 => ?_)
    · exact absurd (show perfR ((vm_enact vm0 0 2 (-1) (-1) (-1)) 0) 1 3 (-1) (-1) (-1) = 2 by decide +kernel) h3
    · refine y_aload_n Z dL_law_34 1 rfl rfl ?_
      refine y_iconst (v := 1) Z dL_law_35 (by decide) ?_
      refine y_VIw Z (k_X5_program l D ht0 aJ vm0 1 ⟨by decide, by decide⟩ (show ¬ myF _ _ = 0 by decide +kernel)) (y_cwV 1 Z ml_RL_21 im_X5_program se_X5_program in_X5 co_X5_program rfl rfl hd_X5_program ⟨Nat.le_of_ble_eq_true rfl, Nat.le_of_ble_eq_true rfl⟩) List.nil (wVM cI aN (vm_enact (vm_enact vm0 0 2 (-1) (-1) (-1)) 1 3 (-1) (-1) (-1))) (by first | with_reducible rfl | simp only [List.nil_append, List.append_nil] | simp only [List.nil_append, List.append_nil, wMix, wLog, wPic, wRep, wScr, wVM, wMd, sR_eq, sR_ne, sF_eq, sF_ne, upd_eq, upd_ne, gs_eq, gs_ne, gm_4, gm_ne, Nat.reduceBEq]) 5 0 rfl rfl rfl rfl (Nat.le_of_ble_eq_true rfl) dL_law_36 ⟨hc, hs⟩ (wVM cI aJ (vm_enact vm0 0 1 (-1) (-1) (-1)) ++ (wVM cI aN (vm_enact (vm_enact vm0 0 2 (-1) (-1) (-1)) 1 3 (-1) (-1) (-1)))) (by first | with_reducible rfl | simp only [List.nil_append, List.append_nil] | simp only [List.nil_append, List.append_nil, wMix, wLog, wPic, wRep, wScr, wVM, wMd, sR_eq, sR_ne, sF_eq, sF_ne, upd_eq, upd_ne, gs_eq, gs_ne, gm_4, gm_ne, Nat.reduceBEq]) ?_
      refine y_iconst (v := 1) Z dL_law_39 (by decide) ?_
      refine y_icmp_ne (tgt := 56) Z dL_law_40 (by decide) (fun h5 => ?_) (fun h6 => ?_)
      · exact absurd (show perfR (vm0 0) 0 1 (-1) (-1) (-1) = 1 by decide +kernel) h5
      · refine y_aload_n Z dL_law_43 1 rfl rfl ?_
        refine y_iconst (v := 2) Z dL_law_44 (by decide) ?_
        refine y_VIw Z (k_X5_preview l D ht0 aJ (vm_enact vm0 0 1 (-1) (-1) (-1)) 2 ⟨by decide, by decide⟩ (show ¬ myF _ _ = 0 by decide +kernel)) (y_cwV 1 Z ml_RL_27 im_X5_preview se_X5_preview in_X5 co_X5_preview rfl rfl hd_X5_preview ⟨Nat.le_of_ble_eq_true rfl, Nat.le_of_ble_eq_true rfl⟩) List.nil (wVM cI aN (vm_enact (vm_enact vm0 0 2 (-1) (-1) (-1)) 1 3 (-1) (-1) (-1))) (by first | with_reducible rfl | simp only [List.nil_append, List.append_nil] | simp only [List.nil_append, List.append_nil, wMix, wLog, wPic, wRep, wScr, wVM, wMd, sR_eq, sR_ne, sF_eq, sF_ne, upd_eq, upd_ne, gs_eq, gs_ne, gm_4, gm_ne, Nat.reduceBEq]) 5 0 rfl rfl rfl rfl (Nat.le_of_ble_eq_true rfl) dL_law_45 ⟨hc, hs⟩ (wVM cI aJ (vm_enact (vm_enact vm0 0 1 (-1) (-1) (-1)) 1 2 (-1) (-1) (-1)) ++ (wVM cI aN (vm_enact (vm_enact vm0 0 2 (-1) (-1) (-1)) 1 3 (-1) (-1) (-1)))) (by first | with_reducible rfl | simp only [List.nil_append, List.append_nil] | simp only [List.nil_append, List.append_nil, wMix, wLog, wPic, wRep, wScr, wVM, wMd, sR_eq, sR_ne, sF_eq, sF_ne, upd_eq, upd_ne, gs_eq, gs_ne, gm_4, gm_ne, Nat.reduceBEq]) ?_
        refine y_iconst (v := 2) Z dL_law_48 (by decide) ?_
        refine y_icmp_ne (tgt := 56) Z dL_law_49 (by decide) (fun h7 => ?_) (fun h8 => ?_)
        · exact absurd (show perfR ((vm_enact vm0 0 1 (-1) (-1) (-1)) 0) 1 2 (-1) (-1) (-1) = 2 by decide +kernel) h7
        · refine y_iconst (v := 1) Z dL_law_52 (by decide) ?_
          refine y_goto (tgt := 57) Z dL_law_53 (by decide) ?_
          refine y_istore_n Z [(3, .int 1), (0, .ref b), (1, .ref (aJ 0)), (2, .ref (aN 0))] dL_law_57 rfl (by decide) rfl ?_
          refine y_iconst (v := 0) Z dL_law_58 (by decide) ?_
          refine y_istore Z [(4, .int 0), (3, .int 1), (0, .ref b), (1, .ref (aJ 0)), (2, .ref (aN 0))] dL_law_59 (by decide) rfl ?_
          refine y_iload Z dL_law_61 0 rfl ?_
          refine y_iconst (v := 3) Z dL_law_63 (by decide) ?_
          refine y_icmp_ge (tgt := 125) Z dL_law_64 (by decide) (fun h9 => ?_) (fun h10 => ?_)
          · exact absurd (show (3 : Int32) ≤ 0 from h9) (by decide)
          · refine y_iload_n Z dL_law_67 1 rfl rfl ?_
            refine y_if_eq (tgt := 117) Z dL_law_68 (by decide) (fun h11 => ?_) (fun h12 => ?_)
            · exact absurd (show (1 : Int32) = 0 from h11) (by decide)
            · refine y_aload_n Z dL_law_71 4 rfl rfl ?_
              refine y_iload Z dL_law_72 0 rfl ?_
              refine y_iconst (v := 4) Z dL_law_74 (by decide) ?_
              refine y_iload Z dL_law_75 0 rfl ?_
              refine y_iadd Z dL_law_77 ?_
              refine y_bipush (v := 100) Z dL_law_78 (by decide) ?_
              refine y_bipush (v := 25) Z dL_law_80 (by decide) ?_
              refine y_VIw Z (k_X5_key l D ht0 aN (vm_enact (vm_enact vm0 0 2 (-1) (-1) (-1)) 1 3 (-1) (-1) (-1)) 0 ((4 : Int32) + 0) 100 25 ⟨by decide, by decide⟩ ⟨by decide, by decide⟩ ⟨by decide, by decide⟩ ⟨by decide, by decide⟩ (show ¬ myF _ _ = 0 by decide +kernel)) (y_cwV 4 Z ml_RL_40 im_X5_key se_X5_key in_X5 co_X5_key rfl rfl hd_X5_key ⟨Nat.le_of_ble_eq_true rfl, Nat.le_of_ble_eq_true rfl⟩) (wVM cI aJ (vm_enact (vm_enact vm0 0 1 (-1) (-1) (-1)) 1 2 (-1) (-1) (-1))) List.nil (by first | with_reducible rfl | simp only [List.nil_append, List.append_nil] | simp only [List.nil_append, List.append_nil, wMix, wLog, wPic, wRep, wScr, wVM, wMd, sR_eq, sR_ne, sF_eq, sF_ne, upd_eq, upd_ne, gs_eq, gs_ne, gm_4, gm_ne, Nat.reduceBEq]) 5 0 rfl rfl rfl rfl (Nat.le_of_ble_eq_true rfl) dL_law_82 ⟨hc, hs⟩ (wVM cI aJ (vm_enact (vm_enact vm0 0 1 (-1) (-1) (-1)) 1 2 (-1) (-1) (-1)) ++ (wVM cI aN (vm_enact (vm_enact (vm_enact vm0 0 2 (-1) (-1) (-1)) 1 3 (-1) (-1) (-1)) 4 0 ((4 : Int32) + 0) 100 25))) (by first | with_reducible rfl | simp only [List.nil_append, List.append_nil] | simp only [List.nil_append, List.append_nil, wMix, wLog, wPic, wRep, wScr, wVM, wMd, sR_eq, sR_ne, sF_eq, sF_ne, upd_eq, upd_ne, gs_eq, gs_ne, gm_4, gm_ne, Nat.reduceBEq]) ?_
              refine y_iconst (v := 3) Z dL_law_85 (by decide) ?_
              refine y_iload Z dL_law_86 0 rfl ?_
              refine y_iadd Z dL_law_88 ?_
              refine y_icmp_ne (tgt := 117) Z dL_law_89 (by decide) (fun h13 => ?_) (fun h14 => ?_)
              · exact absurd (show perfR ((vm_enact (vm_enact vm0 0 2 (-1) (-1) (-1)) 1 3 (-1) (-1) (-1)) 0) 4 0 ((4 : Int32) + 0) 100 25 = ((3 : Int32) + 0) by decide +kernel) h13
              · refine y_aload_n Z dL_law_92 3 rfl rfl ?_
                refine y_iload Z dL_law_93 0 rfl ?_
                refine y_iconst (v := 3) Z dL_law_95 (by decide) ?_
                refine y_iload Z dL_law_96 0 rfl ?_
                refine y_iadd Z dL_law_98 ?_
                refine y_bipush (v := 100) Z dL_law_99 (by decide) ?_
                refine y_bipush (v := 25) Z dL_law_101 (by decide) ?_
                refine y_VIw Z (k_X5_key l D ht0 aJ (vm_enact (vm_enact vm0 0 1 (-1) (-1) (-1)) 1 2 (-1) (-1) (-1)) 0 ((3 : Int32) + 0) 100 25 ⟨by decide, by decide⟩ ⟨by decide, by decide⟩ ⟨by decide, by decide⟩ ⟨by decide, by decide⟩ (show ¬ myF _ _ = 0 by decide +kernel)) (y_cwV 4 Z ml_RL_40 im_X5_key se_X5_key in_X5 co_X5_key rfl rfl hd_X5_key ⟨Nat.le_of_ble_eq_true rfl, Nat.le_of_ble_eq_true rfl⟩) List.nil (wVM cI aN (vm_enact (vm_enact (vm_enact vm0 0 2 (-1) (-1) (-1)) 1 3 (-1) (-1) (-1)) 4 0 ((4 : Int32) + 0) 100 25)) (by first | with_reducible rfl | simp only [List.nil_append, List.append_nil] | simp only [List.nil_append, List.append_nil, wMix, wLog, wPic, wRep, wScr, wVM, wMd, sR_eq, sR_ne, sF_eq, sF_ne, upd_eq, upd_ne, gs_eq, gs_ne, gm_4, gm_ne, Nat.reduceBEq]) 5 0 rfl rfl rfl rfl (Nat.le_of_ble_eq_true rfl) dL_law_103 ⟨hc, hs⟩ (wVM cI aJ (vm_enact (vm_enact (vm_enact vm0 0 1 (-1) (-1) (-1)) 1 2 (-1) (-1) (-1)) 4 0 ((3 : Int32) + 0) 100 25) ++ (wVM cI aN (vm_enact (vm_enact (vm_enact vm0 0 2 (-1) (-1) (-1)) 1 3 (-1) (-1) (-1)) 4 0 ((4 : Int32) + 0) 100 25))) (by first | with_reducible rfl | simp only [List.nil_append, List.append_nil] | simp only [List.nil_append, List.append_nil, wMix, wLog, wPic, wRep, wScr, wVM, wMd, sR_eq, sR_ne, sF_eq, sF_ne, upd_eq, upd_ne, gs_eq, gs_ne, gm_4, gm_ne, Nat.reduceBEq]) ?_
                refine y_iconst (v := 3) Z dL_law_106 (by decide) ?_
                refine y_iload Z dL_law_107 0 rfl ?_
                refine y_iadd Z dL_law_109 ?_
                refine y_icmp_ne (tgt := 117) Z dL_law_110 (by decide) (fun h15 => ?_) (fun h16 => ?_)
                · exact absurd (show perfR ((vm_enact (vm_enact vm0 0 1 (-1) (-1) (-1)) 1 2 (-1) (-1) (-1)) 0) 4 0 ((3 : Int32) + 0) 100 25 = ((3 : Int32) + 0) by decide +kernel) h15
                · refine y_iconst (v := 1) Z dL_law_113 (by decide) ?_
                  refine y_goto (tgt := 118) Z dL_law_114 (by decide) ?_
                  refine y_istore_n Z [(3, .int 1), (4, .int 0), (0, .ref b), (1, .ref (aJ 0)), (2, .ref (aN 0))] dL_law_118 rfl (by decide) rfl ?_
                  refine y_iinc Z [(4, .int 1), (3, .int 1), (0, .ref b), (1, .ref (aJ 0)), (2, .ref (aN 0))] dL_law_119 1 rfl (by decide) (by decide) rfl ?_
                  refine y_goto (tgt := 61) Z dL_law_122 (by decide) ?_
                  refine y_iload Z dL_law_61 0 rfl ?_
                  refine y_iconst (v := 3) Z dL_law_63 (by decide) ?_
                  refine y_icmp_ge (tgt := 125) Z dL_law_64 (by decide) (fun h17 => ?_) (fun h18 => ?_)
                  · exact absurd (show (3 : Int32) ≤ 1 from h17) (by decide)
                  · refine y_iload_n Z dL_law_67 1 rfl rfl ?_
                    refine y_if_eq (tgt := 117) Z dL_law_68 (by decide) (fun h19 => ?_) (fun h20 => ?_)
                    · exact absurd (show (1 : Int32) = 0 from h19) (by decide)
                    · refine y_aload_n Z dL_law_71 4 rfl rfl ?_
                      refine y_iload Z dL_law_72 0 rfl ?_
                      refine y_iconst (v := 4) Z dL_law_74 (by decide) ?_
                      refine y_iload Z dL_law_75 0 rfl ?_
                      refine y_iadd Z dL_law_77 ?_
                      refine y_bipush (v := 100) Z dL_law_78 (by decide) ?_
                      refine y_bipush (v := 25) Z dL_law_80 (by decide) ?_
                      refine y_VIw Z (k_X5_key l D ht0 aN (vm_enact (vm_enact (vm_enact vm0 0 2 (-1) (-1) (-1)) 1 3 (-1) (-1) (-1)) 4 0 ((4 : Int32) + 0) 100 25) 1 ((4 : Int32) + 1) 100 25 ⟨by decide, by decide⟩ ⟨by decide, by decide⟩ ⟨by decide, by decide⟩ ⟨by decide, by decide⟩ (show ¬ myF _ _ = 0 by decide +kernel)) (y_cwV 4 Z ml_RL_40 im_X5_key se_X5_key in_X5 co_X5_key rfl rfl hd_X5_key ⟨Nat.le_of_ble_eq_true rfl, Nat.le_of_ble_eq_true rfl⟩) (wVM cI aJ (vm_enact (vm_enact (vm_enact vm0 0 1 (-1) (-1) (-1)) 1 2 (-1) (-1) (-1)) 4 0 ((3 : Int32) + 0) 100 25)) List.nil (by first | with_reducible rfl | simp only [List.nil_append, List.append_nil] | simp only [List.nil_append, List.append_nil, wMix, wLog, wPic, wRep, wScr, wVM, wMd, sR_eq, sR_ne, sF_eq, sF_ne, upd_eq, upd_ne, gs_eq, gs_ne, gm_4, gm_ne, Nat.reduceBEq]) 5 0 rfl rfl rfl rfl (Nat.le_of_ble_eq_true rfl) dL_law_82 ⟨hc, hs⟩ (wVM cI aJ (vm_enact (vm_enact (vm_enact vm0 0 1 (-1) (-1) (-1)) 1 2 (-1) (-1) (-1)) 4 0 ((3 : Int32) + 0) 100 25) ++ (wVM cI aN (vm_enact (vm_enact (vm_enact (vm_enact vm0 0 2 (-1) (-1) (-1)) 1 3 (-1) (-1) (-1)) 4 0 ((4 : Int32) + 0) 100 25) 4 1 ((4 : Int32) + 1) 100 25))) (by first | with_reducible rfl | simp only [List.nil_append, List.append_nil] | simp only [List.nil_append, List.append_nil, wMix, wLog, wPic, wRep, wScr, wVM, wMd, sR_eq, sR_ne, sF_eq, sF_ne, upd_eq, upd_ne, gs_eq, gs_ne, gm_4, gm_ne, Nat.reduceBEq]) ?_
                      refine y_iconst (v := 3) Z dL_law_85 (by decide) ?_
                      refine y_iload Z dL_law_86 0 rfl ?_
                      refine y_iadd Z dL_law_88 ?_
                      refine y_icmp_ne (tgt := 117) Z dL_law_89 (by decide) (fun h21 => ?_) (fun h22 => ?_)
                      · exact absurd (show perfR ((vm_enact (vm_enact (vm_enact vm0 0 2 (-1) (-1) (-1)) 1 3 (-1) (-1) (-1)) 4 0 ((4 : Int32) + 0) 100 25) 0) 4 1 ((4 : Int32) + 1) 100 25 = ((3 : Int32) + 1) by decide +kernel) h21
                      · refine y_aload_n Z dL_law_92 3 rfl rfl ?_
                        refine y_iload Z dL_law_93 0 rfl ?_
                        refine y_iconst (v := 3) Z dL_law_95 (by decide) ?_
                        refine y_iload Z dL_law_96 0 rfl ?_
                        refine y_iadd Z dL_law_98 ?_
                        refine y_bipush (v := 100) Z dL_law_99 (by decide) ?_
                        refine y_bipush (v := 25) Z dL_law_101 (by decide) ?_
                        refine y_VIw Z (k_X5_key l D ht0 aJ (vm_enact (vm_enact (vm_enact vm0 0 1 (-1) (-1) (-1)) 1 2 (-1) (-1) (-1)) 4 0 ((3 : Int32) + 0) 100 25) 1 ((3 : Int32) + 1) 100 25 ⟨by decide, by decide⟩ ⟨by decide, by decide⟩ ⟨by decide, by decide⟩ ⟨by decide, by decide⟩ (show ¬ myF _ _ = 0 by decide +kernel)) (y_cwV 4 Z ml_RL_40 im_X5_key se_X5_key in_X5 co_X5_key rfl rfl hd_X5_key ⟨Nat.le_of_ble_eq_true rfl, Nat.le_of_ble_eq_true rfl⟩) List.nil (wVM cI aN (vm_enact (vm_enact (vm_enact (vm_enact vm0 0 2 (-1) (-1) (-1)) 1 3 (-1) (-1) (-1)) 4 0 ((4 : Int32) + 0) 100 25) 4 1 ((4 : Int32) + 1) 100 25)) (by first | with_reducible rfl | simp only [List.nil_append, List.append_nil] | simp only [List.nil_append, List.append_nil, wMix, wLog, wPic, wRep, wScr, wVM, wMd, sR_eq, sR_ne, sF_eq, sF_ne, upd_eq, upd_ne, gs_eq, gs_ne, gm_4, gm_ne, Nat.reduceBEq]) 5 0 rfl rfl rfl rfl (Nat.le_of_ble_eq_true rfl) dL_law_103 ⟨hc, hs⟩ (wVM cI aJ (vm_enact (vm_enact (vm_enact (vm_enact vm0 0 1 (-1) (-1) (-1)) 1 2 (-1) (-1) (-1)) 4 0 ((3 : Int32) + 0) 100 25) 4 1 ((3 : Int32) + 1) 100 25) ++ (wVM cI aN (vm_enact (vm_enact (vm_enact (vm_enact vm0 0 2 (-1) (-1) (-1)) 1 3 (-1) (-1) (-1)) 4 0 ((4 : Int32) + 0) 100 25) 4 1 ((4 : Int32) + 1) 100 25))) (by first | with_reducible rfl | simp only [List.nil_append, List.append_nil] | simp only [List.nil_append, List.append_nil, wMix, wLog, wPic, wRep, wScr, wVM, wMd, sR_eq, sR_ne, sF_eq, sF_ne, upd_eq, upd_ne, gs_eq, gs_ne, gm_4, gm_ne, Nat.reduceBEq]) ?_
                        refine y_iconst (v := 3) Z dL_law_106 (by decide) ?_
                        refine y_iload Z dL_law_107 0 rfl ?_
                        refine y_iadd Z dL_law_109 ?_
                        refine y_icmp_ne (tgt := 117) Z dL_law_110 (by decide) (fun h23 => ?_) (fun h24 => ?_)
                        · exact absurd (show perfR ((vm_enact (vm_enact (vm_enact vm0 0 1 (-1) (-1) (-1)) 1 2 (-1) (-1) (-1)) 4 0 ((3 : Int32) + 0) 100 25) 0) 4 1 ((3 : Int32) + 1) 100 25 = ((3 : Int32) + 1) by decide +kernel) h23
                        · refine y_iconst (v := 1) Z dL_law_113 (by decide) ?_
                          refine y_goto (tgt := 118) Z dL_law_114 (by decide) ?_
                          refine y_istore_n Z [(3, .int 1), (4, .int 1), (0, .ref b), (1, .ref (aJ 0)), (2, .ref (aN 0))] dL_law_118 rfl (by decide) rfl ?_
                          refine y_iinc Z [(4, .int 2), (3, .int 1), (0, .ref b), (1, .ref (aJ 0)), (2, .ref (aN 0))] dL_law_119 1 rfl (by decide) (by decide) rfl ?_
                          refine y_goto (tgt := 61) Z dL_law_122 (by decide) ?_
                          refine y_iload Z dL_law_61 0 rfl ?_
                          refine y_iconst (v := 3) Z dL_law_63 (by decide) ?_
                          refine y_icmp_ge (tgt := 125) Z dL_law_64 (by decide) (fun h25 => ?_) (fun h26 => ?_)
                          · exact absurd (show (3 : Int32) ≤ 2 from h25) (by decide)
                          · refine y_iload_n Z dL_law_67 1 rfl rfl ?_
                            refine y_if_eq (tgt := 117) Z dL_law_68 (by decide) (fun h27 => ?_) (fun h28 => ?_)
                            · exact absurd (show (1 : Int32) = 0 from h27) (by decide)
                            · refine y_aload_n Z dL_law_71 4 rfl rfl ?_
                              refine y_iload Z dL_law_72 0 rfl ?_
                              refine y_iconst (v := 4) Z dL_law_74 (by decide) ?_
                              refine y_iload Z dL_law_75 0 rfl ?_
                              refine y_iadd Z dL_law_77 ?_
                              refine y_bipush (v := 100) Z dL_law_78 (by decide) ?_
                              refine y_bipush (v := 25) Z dL_law_80 (by decide) ?_
                              refine y_VIw Z (k_X5_key l D ht0 aN (vm_enact (vm_enact (vm_enact (vm_enact vm0 0 2 (-1) (-1) (-1)) 1 3 (-1) (-1) (-1)) 4 0 ((4 : Int32) + 0) 100 25) 4 1 ((4 : Int32) + 1) 100 25) 2 ((4 : Int32) + 2) 100 25 ⟨by decide, by decide⟩ ⟨by decide, by decide⟩ ⟨by decide, by decide⟩ ⟨by decide, by decide⟩ (show ¬ myF _ _ = 0 by decide +kernel)) (y_cwV 4 Z ml_RL_40 im_X5_key se_X5_key in_X5 co_X5_key rfl rfl hd_X5_key ⟨Nat.le_of_ble_eq_true rfl, Nat.le_of_ble_eq_true rfl⟩) (wVM cI aJ (vm_enact (vm_enact (vm_enact (vm_enact vm0 0 1 (-1) (-1) (-1)) 1 2 (-1) (-1) (-1)) 4 0 ((3 : Int32) + 0) 100 25) 4 1 ((3 : Int32) + 1) 100 25)) List.nil (by first | with_reducible rfl | simp only [List.nil_append, List.append_nil] | simp only [List.nil_append, List.append_nil, wMix, wLog, wPic, wRep, wScr, wVM, wMd, sR_eq, sR_ne, sF_eq, sF_ne, upd_eq, upd_ne, gs_eq, gs_ne, gm_4, gm_ne, Nat.reduceBEq]) 5 0 rfl rfl rfl rfl (Nat.le_of_ble_eq_true rfl) dL_law_82 ⟨hc, hs⟩ (wVM cI aJ (vm_enact (vm_enact (vm_enact (vm_enact vm0 0 1 (-1) (-1) (-1)) 1 2 (-1) (-1) (-1)) 4 0 ((3 : Int32) + 0) 100 25) 4 1 ((3 : Int32) + 1) 100 25) ++ (wVM cI aN (vm_enact (vm_enact (vm_enact (vm_enact (vm_enact vm0 0 2 (-1) (-1) (-1)) 1 3 (-1) (-1) (-1)) 4 0 ((4 : Int32) + 0) 100 25) 4 1 ((4 : Int32) + 1) 100 25) 4 2 ((4 : Int32) + 2) 100 25))) (by first | with_reducible rfl | simp only [List.nil_append, List.append_nil] | simp only [List.nil_append, List.append_nil, wMix, wLog, wPic, wRep, wScr, wVM, wMd, sR_eq, sR_ne, sF_eq, sF_ne, upd_eq, upd_ne, gs_eq, gs_ne, gm_4, gm_ne, Nat.reduceBEq]) ?_
                              refine y_iconst (v := 3) Z dL_law_85 (by decide) ?_
                              refine y_iload Z dL_law_86 0 rfl ?_
                              refine y_iadd Z dL_law_88 ?_
                              refine y_icmp_ne (tgt := 117) Z dL_law_89 (by decide) (fun h29 => ?_) (fun h30 => ?_)
                              · exact absurd (show perfR ((vm_enact (vm_enact (vm_enact (vm_enact vm0 0 2 (-1) (-1) (-1)) 1 3 (-1) (-1) (-1)) 4 0 ((4 : Int32) + 0) 100 25) 4 1 ((4 : Int32) + 1) 100 25) 0) 4 2 ((4 : Int32) + 2) 100 25 = ((3 : Int32) + 2) by decide +kernel) h29
                              · refine y_aload_n Z dL_law_92 3 rfl rfl ?_
                                refine y_iload Z dL_law_93 0 rfl ?_
                                refine y_iconst (v := 3) Z dL_law_95 (by decide) ?_
                                refine y_iload Z dL_law_96 0 rfl ?_
                                refine y_iadd Z dL_law_98 ?_
                                refine y_bipush (v := 100) Z dL_law_99 (by decide) ?_
                                refine y_bipush (v := 25) Z dL_law_101 (by decide) ?_
                                refine y_VIw Z (k_X5_key l D ht0 aJ (vm_enact (vm_enact (vm_enact (vm_enact vm0 0 1 (-1) (-1) (-1)) 1 2 (-1) (-1) (-1)) 4 0 ((3 : Int32) + 0) 100 25) 4 1 ((3 : Int32) + 1) 100 25) 2 ((3 : Int32) + 2) 100 25 ⟨by decide, by decide⟩ ⟨by decide, by decide⟩ ⟨by decide, by decide⟩ ⟨by decide, by decide⟩ (show ¬ myF _ _ = 0 by decide +kernel)) (y_cwV 4 Z ml_RL_40 im_X5_key se_X5_key in_X5 co_X5_key rfl rfl hd_X5_key ⟨Nat.le_of_ble_eq_true rfl, Nat.le_of_ble_eq_true rfl⟩) List.nil (wVM cI aN (vm_enact (vm_enact (vm_enact (vm_enact (vm_enact vm0 0 2 (-1) (-1) (-1)) 1 3 (-1) (-1) (-1)) 4 0 ((4 : Int32) + 0) 100 25) 4 1 ((4 : Int32) + 1) 100 25) 4 2 ((4 : Int32) + 2) 100 25)) (by first | with_reducible rfl | simp only [List.nil_append, List.append_nil] | simp only [List.nil_append, List.append_nil, wMix, wLog, wPic, wRep, wScr, wVM, wMd, sR_eq, sR_ne, sF_eq, sF_ne, upd_eq, upd_ne, gs_eq, gs_ne, gm_4, gm_ne, Nat.reduceBEq]) 5 0 rfl rfl rfl rfl (Nat.le_of_ble_eq_true rfl) dL_law_103 ⟨hc, hs⟩ (wVM cI aJ (vm_enact (vm_enact (vm_enact (vm_enact (vm_enact vm0 0 1 (-1) (-1) (-1)) 1 2 (-1) (-1) (-1)) 4 0 ((3 : Int32) + 0) 100 25) 4 1 ((3 : Int32) + 1) 100 25) 4 2 ((3 : Int32) + 2) 100 25) ++ (wVM cI aN (vm_enact (vm_enact (vm_enact (vm_enact (vm_enact vm0 0 2 (-1) (-1) (-1)) 1 3 (-1) (-1) (-1)) 4 0 ((4 : Int32) + 0) 100 25) 4 1 ((4 : Int32) + 1) 100 25) 4 2 ((4 : Int32) + 2) 100 25))) (by first | with_reducible rfl | simp only [List.nil_append, List.append_nil] | simp only [List.nil_append, List.append_nil, wMix, wLog, wPic, wRep, wScr, wVM, wMd, sR_eq, sR_ne, sF_eq, sF_ne, upd_eq, upd_ne, gs_eq, gs_ne, gm_4, gm_ne, Nat.reduceBEq]) ?_
                                refine y_iconst (v := 3) Z dL_law_106 (by decide) ?_
                                refine y_iload Z dL_law_107 0 rfl ?_
                                refine y_iadd Z dL_law_109 ?_
                                refine y_icmp_ne (tgt := 117) Z dL_law_110 (by decide) (fun h31 => ?_) (fun h32 => ?_)
                                · exact absurd (show perfR ((vm_enact (vm_enact (vm_enact (vm_enact vm0 0 1 (-1) (-1) (-1)) 1 2 (-1) (-1) (-1)) 4 0 ((3 : Int32) + 0) 100 25) 4 1 ((3 : Int32) + 1) 100 25) 0) 4 2 ((3 : Int32) + 2) 100 25 = ((3 : Int32) + 2) by decide +kernel) h31
                                · refine y_iconst (v := 1) Z dL_law_113 (by decide) ?_
                                  refine y_goto (tgt := 118) Z dL_law_114 (by decide) ?_
                                  refine y_istore_n Z [(3, .int 1), (4, .int 2), (0, .ref b), (1, .ref (aJ 0)), (2, .ref (aN 0))] dL_law_118 rfl (by decide) rfl ?_
                                  refine y_iinc Z [(4, .int 3), (3, .int 1), (0, .ref b), (1, .ref (aJ 0)), (2, .ref (aN 0))] dL_law_119 1 rfl (by decide) (by decide) rfl ?_
                                  refine y_goto (tgt := 61) Z dL_law_122 (by decide) ?_
                                  refine y_iload Z dL_law_61 0 rfl ?_
                                  refine y_iconst (v := 3) Z dL_law_63 (by decide) ?_
                                  refine y_icmp_ge (tgt := 125) Z dL_law_64 (by decide) (fun h33 => ?_) (fun h34 => ?_)
                                  · refine y_iconst (v := 0) Z dL_law_125 (by decide) ?_
                                    refine y_istore Z [(4, .int 0), (3, .int 1), (0, .ref b), (1, .ref (aJ 0)), (2, .ref (aN 0))] dL_law_126 (by decide) rfl ?_
                                    refine y_lv [2, 3, 4, 1, 0] (lv' := [(0, .ref b), (1, .ref (aJ 0)), (2, .ref (aN 0)), (3, .int 1), (4, .int 0)]) rfl ?_
                                    exact K
                                  · exact absurd (show ¬ (3 : Int32) ≤ 3 from h34) (by decide)
set_option maxHeartbeats 4000000 in
set_option maxRecDepth 100000 in
theorem law_A {p : Program} {l : Launch} {e : Env} {s : State} {m : MethodId} {args : Array Value} {below : List Frame} {meth : Method} {c : Code} {Q : State → Prop} {D : va_G} {A : Nat → Prop} {tys : List (ClassId × FieldType)} {cI : ClassId} (Z : Zz p m c cL_law 7 s args wsL_law RL D tys A) (ht0 : tys[0]? = some (cI, .int)) {b L : Nat} {xs : Nat → Int32} (hX : va_X b L xs s s.heap) (hbl : b < s.heap.size) (hbA : ¬ A b) (hL : L ≤ 260) {cells slots : Nat} (hc : cells ≤ 166) (hs : slots ≤ 2944) {aJ aN : Nat → Nat} {J N : Nat → Nat → Nat → Int32} {n τ : Nat} (hR : RR J N n τ) (K : Yy p l e room_1 s m args below meth c Q D A 7 cells slots (wVM cI aJ (soE (it soS 10 J)) ++ (wVM cI aN (vm_id N))) [(0, .ref b), (1, .ref (aJ 0)), (2, .ref (aN 0)), (3, .int 1)] [] 203) : Yy p l e room_1 s m args below meth c Q D A 7 cells slots (wVM cI aJ J ++ (wVM cI aN N)) [(0, .ref b), (1, .ref (aJ 0)), (2, .ref (aN 0)), (3, .int 1)] [] 173 := by
  have hJ := rr_l hR
  have hN := rr_r hR
  refine y_iload_n Z dL_law_173 3 rfl rfl ?_
  refine y_if_eq (tgt := 201) Z dL_law_174 (by decide) (fun h1 => ?_) (fun h2 => ?_)
  · exact absurd (show (1 : Int32) = 0 from h1) (by decide)
  · refine y_aload_n Z dL_law_177 1 rfl rfl ?_
    refine y_SIw Z (k_L_isSound l D ht0 aJ J hJ) (y_cwS 1 Z ml_RL_106 st_L_isSound in_L co_L_isSound rfl rfl hs_L_isSound ⟨Nat.le_of_ble_eq_true rfl, Nat.le_of_ble_eq_true rfl⟩) List.nil (wVM cI aN N) (by first | with_reducible rfl | simp only [List.nil_append, List.append_nil] | simp only [List.nil_append, List.append_nil, wMix, wLog, wPic, wRep, wScr, wVM, wMd, sR_eq, sR_ne, sF_eq, sF_ne, upd_eq, upd_ne, gs_eq, gs_ne, gm_4, gm_ne, Nat.reduceBEq]) rfl rfl (Nat.le_of_ble_eq_true rfl) dL_law_178 ⟨hc, hs⟩ (wVM cI aJ (soE (it soS 10 J)) ++ (wVM cI aN N)) (by first | with_reducible rfl | simp only [List.nil_append, List.append_nil] | simp only [List.nil_append, List.append_nil, wMix, wLog, wPic, wRep, wScr, wVM, wMd, sR_eq, sR_ne, sF_eq, sF_ne, upd_eq, upd_ne, gs_eq, gs_ne, gm_4, gm_ne, Nat.reduceBEq]) ?_
    refine y_if_eq (tgt := 201) Z dL_law_181 (by decide) (fun h3 => ?_) (fun h4 => ?_)
    · exact absurd h3 (by decide)
    · refine y_aload_n Z dL_law_184 2 rfl rfl ?_
      refine y_VIw Z (k_X5_idle l D ht0 aN N (pj_n hN) (pj_ids hN)) (y_cwV 0 Z ml_RL_90 im_X5_idle se_X5_idle in_X5 co_X5_idle rfl rfl hd_X5_idle ⟨Nat.le_of_ble_eq_true rfl, Nat.le_of_ble_eq_true rfl⟩) (wVM cI aJ (soE (it soS 10 J))) List.nil (by first | with_reducible rfl | simp only [List.nil_append, List.append_nil] | simp only [List.nil_append, List.append_nil, wMix, wLog, wPic, wRep, wScr, wVM, wMd, sR_eq, sR_ne, sF_eq, sF_ne, upd_eq, upd_ne, gs_eq, gs_ne, gm_4, gm_ne, Nat.reduceBEq]) 5 0 rfl rfl rfl rfl (Nat.le_of_ble_eq_true rfl) dL_law_185 ⟨hc, hs⟩ (wVM cI aJ (soE (it soS 10 J)) ++ (wVM cI aN (vm_id N))) (by first | with_reducible rfl | simp only [List.nil_append, List.append_nil] | simp only [List.nil_append, List.append_nil, wMix, wLog, wPic, wRep, wScr, wVM, wMd, sR_eq, sR_ne, sF_eq, sF_ne, upd_eq, upd_ne, gs_eq, gs_ne, gm_4, gm_ne, Nat.reduceBEq]) ?_
      refine y_aload_n Z dL_law_188 2 rfl rfl ?_
      refine y_bipush (v := 8) Z dL_law_189 (by decide) ?_
      refine y_VIw Z (k_X5_setting l D ht0 aN (vm_id N) 8 ⟨by decide, by decide⟩) (y_cwV 1 Z ml_RL_9 im_X5_setting se_X5_setting in_X5 co_X5_setting rfl rfl hd_X5_setting ⟨Nat.le_of_ble_eq_true rfl, Nat.le_of_ble_eq_true rfl⟩) (wVM cI aJ (soE (it soS 10 J))) List.nil (by first | with_reducible rfl | simp only [List.nil_append, List.append_nil] | simp only [List.nil_append, List.append_nil, wMix, wLog, wPic, wRep, wScr, wVM, wMd, sR_eq, sR_ne, sF_eq, sF_ne, upd_eq, upd_ne, gs_eq, gs_ne, gm_4, gm_ne, Nat.reduceBEq]) 5 0 rfl rfl rfl rfl (Nat.le_of_ble_eq_true rfl) dL_law_191 ⟨hc, hs⟩ (wVM cI aJ (soE (it soS 10 J)) ++ (wVM cI aN (vm_id N))) (by first | with_reducible rfl | simp only [List.nil_append, List.append_nil] | simp only [List.nil_append, List.append_nil, wMix, wLog, wPic, wRep, wScr, wVM, wMd, sR_eq, sR_ne, sF_eq, sF_ne, upd_eq, upd_ne, gs_eq, gs_ne, gm_4, gm_ne, Nat.reduceBEq]) ?_
      refine y_icmp_gt (tgt := 201) Z dL_law_194 (by decide) (fun h5 => ?_) (fun h6 => ?_)
      · exact absurd h5 (Int32.not_lt.mpr (so_id hN))
      · refine y_iconst (v := 1) Z dL_law_197 (by decide) ?_
        refine y_goto (tgt := 202) Z dL_law_198 (by decide) ?_
        refine y_istore_n Z [(3, .int 1), (0, .ref b), (1, .ref (aJ 0)), (2, .ref (aN 0))] dL_law_202 rfl (by decide) rfl ?_
        refine y_lv [1, 2, 3, 0] (lv' := [(0, .ref b), (1, .ref (aJ 0)), (2, .ref (aN 0)), (3, .int 1)]) rfl ?_
        exact K
set_option maxHeartbeats 4000000 in
set_option maxRecDepth 100000 in
theorem law_B {p : Program} {l : Launch} {e : Env} {s : State} {m : MethodId} {args : Array Value} {below : List Frame} {meth : Method} {c : Code} {Q : State → Prop} {D : va_G} {A : Nat → Prop} {tys : List (ClassId × FieldType)} {cI : ClassId} (Z : Zz p m c cL_law 7 s args wsL_law RL D tys A) (ht0 : tys[0]? = some (cI, .int)) {b L : Nat} {xs : Nat → Int32} (hX : va_X b L xs s s.heap) (hbl : b < s.heap.size) (hbA : ¬ A b) (hL : L ≤ 260) {cells slots : Nat} (hc : cells ≤ 166) (hs : slots ≤ 2944) {aJ aN : Nat → Nat} {J N : Nat → Nat → Nat → Int32} {a : Nat} (hJ : PJ J) (hpa : psF (vm_tal J) 8 = nI a) (hM : okM (vm_tal J) 5) (K : Yy p l e room_1 s m args below meth c Q D A 7 cells slots (wVM cI aJ (vm_enact (vm_tal J) 5 (upF (ceF xs L 41) 3) (-1) (-1) (-1)) ++ (wVM cI aN N)) [(0, .ref b), (1, .ref (aJ 0)), (2, .ref (aN 0)), (3, .int 1), (4, .long ((haX (J 3) (dgH J)).1)), (6, .int (nI a))] [] 238) : Yy p l e room_1 s m args below meth c Q D A 7 cells slots (wVM cI aJ J ++ (wVM cI aN N)) [(0, .ref b), (1, .ref (aJ 0)), (2, .ref (aN 0)), (3, .int 1)] [] 203 := by
  refine y_aload_n Z dL_law_203 1 rfl rfl ?_
  refine y_VLw Z (k_X5_digest l D ht0 aJ J (pj_ha hJ)) (y_cwV 0 Z ml_RL_109 im_X5_digest se_X5_digest in_X5 co_X5_digest rfl rfl hd_X5_digest ⟨Nat.le_of_ble_eq_true rfl, Nat.le_of_ble_eq_true rfl⟩) List.nil (wVM cI aN N) (by first | with_reducible rfl | simp only [List.nil_append, List.append_nil] | simp only [List.nil_append, List.append_nil, wMix, wLog, wPic, wRep, wScr, wVM, wMd, sR_eq, sR_ne, sF_eq, sF_ne, upd_eq, upd_ne, gs_eq, gs_ne, gm_4, gm_ne, Nat.reduceBEq]) 5 0 rfl rfl rfl rfl (Nat.le_of_ble_eq_true rfl) dL_law_204 ⟨hc, hs⟩ (wVM cI aJ (vm_tal J) ++ (wVM cI aN N)) (by first | with_reducible rfl | simp only [List.nil_append, List.append_nil] | simp only [List.nil_append, List.append_nil, wMix, wLog, wPic, wRep, wScr, wVM, wMd, sR_eq, sR_ne, sF_eq, sF_ne, upd_eq, upd_ne, gs_eq, gs_ne, gm_4, gm_ne, Nat.reduceBEq]) ?_
  refine y_lstore Z [(4, .long ((haX (J 3) (dgH J)).1)), (0, .ref b), (1, .ref (aJ 0)), (2, .ref (aN 0)), (3, .int 1)] dL_law_207 (by decide) rfl ?_
  refine y_aload_n Z dL_law_209 2 rfl rfl ?_
  refine y_bipush (v := 8) Z dL_law_210 (by decide) ?_
  refine y_VIw Z (k_X5_setting l D ht0 aJ (vm_tal J) 8 ⟨by decide, by decide⟩) (y_cwV 1 Z ml_RL_9 im_X5_setting se_X5_setting in_X5 co_X5_setting rfl rfl hd_X5_setting ⟨Nat.le_of_ble_eq_true rfl, Nat.le_of_ble_eq_true rfl⟩) List.nil (wVM cI aN N) (by first | with_reducible rfl | simp only [List.nil_append, List.append_nil] | simp only [List.nil_append, List.append_nil, wMix, wLog, wPic, wRep, wScr, wVM, wMd, sR_eq, sR_ne, sF_eq, sF_ne, upd_eq, upd_ne, gs_eq, gs_ne, gm_4, gm_ne, Nat.reduceBEq]) 5 0 rfl rfl rfl rfl (Nat.le_of_ble_eq_true rfl) dL_law_212 ⟨hc, hs⟩ (wVM cI aJ (vm_tal J) ++ (wVM cI aN N)) (by first | with_reducible rfl | simp only [List.nil_append, List.append_nil] | simp only [List.nil_append, List.append_nil, wMix, wLog, wPic, wRep, wScr, wVM, wMd, sR_eq, sR_ne, sF_eq, sF_ne, upd_eq, upd_ne, gs_eq, gs_ne, gm_4, gm_ne, Nat.reduceBEq]) ?_
  refine y_eq rfl rfl (st' := [.int (nI a)]) (by rw [hpa]) ?_
  refine y_istore Z [(6, .int (nI a)), (4, .long ((haX (J 3) (dgH J)).1)), (0, .ref b), (1, .ref (aJ 0)), (2, .ref (aN 0)), (3, .int 1)] dL_law_215 (by decide) rfl ?_
  refine y_iload_n Z dL_law_217 5 rfl rfl ?_
  refine y_if_eq (tgt := 289) Z dL_law_218 (by decide) (fun h1 => ?_) (fun h2 => ?_)
  · exact absurd (show (1 : Int32) = 0 from h1) (by decide)
  · refine y_aload_n Z dL_law_221 3 rfl rfl ?_
    refine y_aload_n Z dL_law_222 2 rfl rfl ?_
    refine y_bipush (v := 41) Z dL_law_223 (by decide) ?_
    refine y_cellS Z hX hbl hbA hL (by decide) ml_RL_94 (Nat.le_of_ble_eq_true rfl) dL_law_225 ⟨hc, hs⟩ ⟨Nat.le_of_ble_eq_true rfl, Nat.le_of_ble_eq_true rfl⟩ ?_
    refine y_iconst (v := 3) Z dL_law_228 (by decide) ?_
    refine y_SI Z (k_L_up l D ht0 (ceF xs L 41) 3 (by decide)) (y_cwS 2 Z ml_RL_15 st_L_up in_L co_L_up rfl rfl hs_L_up ⟨Nat.le_of_ble_eq_true rfl, Nat.le_of_ble_eq_true rfl⟩) [] rfl (by decide) rfl rfl (Nat.le_of_ble_eq_true rfl) dL_law_229 ⟨hc, hs⟩ [] rfl rfl (wVM cI aJ (vm_tal J) ++ (wVM cI aN N)) rfl ?_
    refine y_VIw Z (k_X5_toggle l D ht0 aJ (vm_tal J) (upF (ceF xs L 41) 3) (up_K _) hM) (y_cwV 1 Z ml_RL_44 im_X5_toggle se_X5_toggle in_X5 co_X5_toggle rfl rfl hd_X5_toggle ⟨Nat.le_of_ble_eq_true rfl, Nat.le_of_ble_eq_true rfl⟩) List.nil (wVM cI aN N) (by first | with_reducible rfl | simp only [List.nil_append, List.append_nil] | simp only [List.nil_append, List.append_nil, wMix, wLog, wPic, wRep, wScr, wVM, wMd, sR_eq, sR_ne, sF_eq, sF_ne, upd_eq, upd_ne, gs_eq, gs_ne, gm_4, gm_ne, Nat.reduceBEq]) 5 0 rfl rfl rfl rfl (Nat.le_of_ble_eq_true rfl) dL_law_232 ⟨hc, hs⟩ (wVM cI aJ (vm_enact (vm_tal J) 5 (upF (ceF xs L 41) 3) (-1) (-1) (-1)) ++ (wVM cI aN N)) (by first | with_reducible rfl | simp only [List.nil_append, List.append_nil] | simp only [List.nil_append, List.append_nil, wMix, wLog, wPic, wRep, wScr, wVM, wMd, sR_eq, sR_ne, sF_eq, sF_ne, upd_eq, upd_ne, gs_eq, gs_ne, gm_4, gm_ne, Nat.reduceBEq]) ?_
    refine y_if_lt (tgt := 289) Z dL_law_235 (by decide) (fun h3 => ?_) (fun h4 => ?_)
    · exact absurd h3 (so_t0 (pj_tal hJ) (up_K _))
    · refine y_lv [2, 3, 4, 5, 1, 0] (lv' := [(0, .ref b), (1, .ref (aJ 0)), (2, .ref (aN 0)), (3, .int 1), (4, .long ((haX (J 3) (dgH J)).1)), (6, .int (nI a))]) rfl ?_
      exact K
set_option maxHeartbeats 4000000 in
set_option maxRecDepth 100000 in
theorem law_C {p : Program} {l : Launch} {e : Env} {s : State} {m : MethodId} {args : Array Value} {below : List Frame} {meth : Method} {c : Code} {Q : State → Prop} {D : va_G} {A : Nat → Prop} {tys : List (ClassId × FieldType)} {cI : ClassId} (Z : Zz p m c cL_law 7 s args wsL_law RL D tys A) (ht0 : tys[0]? = some (cI, .int)) {b L : Nat} {xs : Nat → Int32} (hX : va_X b L xs s s.heap) (hbl : b < s.heap.size) (hbA : ¬ A b) (hL : L ≤ 260) {cells slots : Nat} (hc : cells ≤ 166) (hs : slots ≤ 2944) {aJ aN : Nat → Nat} {J N : Nat → Nat → Nat → Int32} {d0 : Int64} {a : Nat} (h_u : okU J) (h_n2 : gt_lrem (J 3) (J 3 0 0 - 1) 0 0 ≤ 100) (h_rs : rmStop (J 3) (J 3 0 0 - 1)) (hU : vm_tk J (J 3 0 0 - 1) 3 0 0 = nI a) (hJ : PJ (vm_tk J (J 3 0 0 - 1))) (hD : (haX ((vm_tk J (J 3 0 0 - 1)) 3) (dgH (vm_tk J (J 3 0 0 - 1)))).1 = d0) (K : Yy p l e room_1 s m args below meth c Q D A 7 cells slots (wVM cI aJ (vm_tal (vm_tk J (J 3 0 0 - 1))) ++ (wVM cI aN N)) [(0, .ref b), (1, .ref (aJ 0)), (2, .ref (aN 0)), (3, .int 1), (4, .long d0), (6, .int (nI a))] [] 257) : Yy p l e room_1 s m args below meth c Q D A 7 cells slots (wVM cI aJ J ++ (wVM cI aN N)) [(0, .ref b), (1, .ref (aJ 0)), (2, .ref (aN 0)), (3, .int 1), (4, .long d0), (6, .int (nI a))] [] 238 := by
  refine y_aload_n Z dL_law_238 1 rfl rfl ?_
  refine y_VIw Z (k_X5_undo l D ht0 aJ J h_n2 h_rs h_u) (y_cwV 0 Z ml_RL_113 im_X5_undo se_X5_undo in_X5 co_X5_undo rfl rfl hd_X5_undo ⟨Nat.le_of_ble_eq_true rfl, Nat.le_of_ble_eq_true rfl⟩) List.nil (wVM cI aN N) (by first | with_reducible rfl | simp only [List.nil_append, List.append_nil] | simp only [List.nil_append, List.append_nil, wMix, wLog, wPic, wRep, wScr, wVM, wMd, sR_eq, sR_ne, sF_eq, sF_ne, upd_eq, upd_ne, gs_eq, gs_ne, gm_4, gm_ne, Nat.reduceBEq]) 5 0 rfl rfl rfl rfl (Nat.le_of_ble_eq_true rfl) dL_law_239 ⟨hc, hs⟩ (wVM cI aJ (vm_tk J (J 3 0 0 - 1)) ++ (wVM cI aN N)) (by first | with_reducible rfl | simp only [List.nil_append, List.append_nil] | simp only [List.nil_append, List.append_nil, wMix, wLog, wPic, wRep, wScr, wVM, wMd, sR_eq, sR_ne, sF_eq, sF_ne, upd_eq, upd_ne, gs_eq, gs_ne, gm_4, gm_ne, Nat.reduceBEq]) ?_
  refine y_iload Z dL_law_242 5 rfl ?_
  refine y_icmp_ne (tgt := 289) Z dL_law_244 (by decide) (fun h1 => ?_) (fun h2 => ?_)
  · exact absurd hU h1
  · refine y_aload_n Z dL_law_247 1 rfl rfl ?_
    refine y_VLw Z (k_X5_digest l D ht0 aJ (vm_tk J (J 3 0 0 - 1)) (pj_ha hJ)) (y_cwV 0 Z ml_RL_109 im_X5_digest se_X5_digest in_X5 co_X5_digest rfl rfl hd_X5_digest ⟨Nat.le_of_ble_eq_true rfl, Nat.le_of_ble_eq_true rfl⟩) List.nil (wVM cI aN N) (by first | with_reducible rfl | simp only [List.nil_append, List.append_nil] | simp only [List.nil_append, List.append_nil, wMix, wLog, wPic, wRep, wScr, wVM, wMd, sR_eq, sR_ne, sF_eq, sF_ne, upd_eq, upd_ne, gs_eq, gs_ne, gm_4, gm_ne, Nat.reduceBEq]) 5 0 rfl rfl rfl rfl (Nat.le_of_ble_eq_true rfl) dL_law_248 ⟨hc, hs⟩ (wVM cI aJ (vm_tal (vm_tk J (J 3 0 0 - 1))) ++ (wVM cI aN N)) (by first | with_reducible rfl | simp only [List.nil_append, List.append_nil] | simp only [List.nil_append, List.append_nil, wMix, wLog, wPic, wRep, wScr, wVM, wMd, sR_eq, sR_ne, sF_eq, sF_ne, upd_eq, upd_ne, gs_eq, gs_ne, gm_4, gm_ne, Nat.reduceBEq]) ?_
    refine y_lload Z dL_law_251 4 rfl ?_
    refine y_lcmp Z dL_law_253 ?_
    refine y_if_ne (tgt := 289) Z dL_law_254 (by decide) (fun h3 => ?_) (fun h4 => ?_)
    · exact absurd (by rw [hD]; exact lgc_self _) h3
    · exact K
set_option maxHeartbeats 4000000 in
set_option maxRecDepth 100000 in
theorem law_D {p : Program} {l : Launch} {e : Env} {s : State} {m : MethodId} {args : Array Value} {below : List Frame} {meth : Method} {c : Code} {Q : State → Prop} {D : va_G} {A : Nat → Prop} {tys : List (ClassId × FieldType)} {cI : ClassId} (Z : Zz p m c cL_law 7 s args wsL_law RL D tys A) (ht0 : tys[0]? = some (cI, .int)) {b L : Nat} {xs : Nat → Int32} (hX : va_X b L xs s s.heap) (hbl : b < s.heap.size) (hbA : ¬ A b) (hL : L ≤ 260) {cells slots : Nat} (hc : cells ≤ 166) (hs : slots ≤ 2944) {aJ aN : Nat → Nat} {J N : Nat → Nat → Nat → Int32} {d0 : Int64} {a : Nat} (hJ : PJ J) (hM : okM J 6) (hA : okA (vm_enact J 6 (-1) (-1) (-1) (-1)) (nI a)) (h_n2 : gt_lrem ((vm_enact J 6 (-1) (-1) (-1) (-1)) 3) (nI a) 0 0 ≤ 100) (h_rs : rmStop ((vm_enact J 6 (-1) (-1) (-1) (-1)) 3) (nI a)) (hU : vm_tk (vm_enact J 6 (-1) (-1) (-1) (-1)) (nI a) 3 0 0 = nI a) (K : Yy p l e room_1 s m args below meth c Q D A 7 cells slots (wVM cI aJ (vm_tk (vm_enact J 6 (-1) (-1) (-1) (-1)) (nI a)) ++ (wVM cI aN N)) [(0, .ref b), (1, .ref (aJ 0)), (2, .ref (aN 0)), (3, .int 1), (4, .long d0), (6, .int (nI a))] [] 275) : Yy p l e room_1 s m args below meth c Q D A 7 cells slots (wVM cI aJ J ++ (wVM cI aN N)) [(0, .ref b), (1, .ref (aJ 0)), (2, .ref (aN 0)), (3, .int 1), (4, .long d0), (6, .int (nI a))] [] 257 := by
  refine y_aload_n Z dL_law_257 1 rfl rfl ?_
  refine y_VIw Z (k_X5_cut l D ht0 aJ J hM) (y_cwV 0 Z ml_RL_47 im_X5_cut se_X5_cut in_X5 co_X5_cut rfl rfl hd_X5_cut ⟨Nat.le_of_ble_eq_true rfl, Nat.le_of_ble_eq_true rfl⟩) List.nil (wVM cI aN N) (by first | with_reducible rfl | simp only [List.nil_append, List.append_nil] | simp only [List.nil_append, List.append_nil, wMix, wLog, wPic, wRep, wScr, wVM, wMd, sR_eq, sR_ne, sF_eq, sF_ne, upd_eq, upd_ne, gs_eq, gs_ne, gm_4, gm_ne, Nat.reduceBEq]) 5 0 rfl rfl rfl rfl (Nat.le_of_ble_eq_true rfl) dL_law_258 ⟨hc, hs⟩ (wVM cI aJ (vm_enact J 6 (-1) (-1) (-1) (-1)) ++ (wVM cI aN N)) (by first | with_reducible rfl | simp only [List.nil_append, List.append_nil] | simp only [List.nil_append, List.append_nil, wMix, wLog, wPic, wRep, wScr, wVM, wMd, sR_eq, sR_ne, sF_eq, sF_ne, upd_eq, upd_ne, gs_eq, gs_ne, gm_4, gm_ne, Nat.reduceBEq]) ?_
  refine y_if_lt (tgt := 289) Z dL_law_261 (by decide) (fun h1 => ?_) (fun h2 => ?_)
  · exact absurd h1 (so_c0 hJ)
  · refine y_aload_n Z dL_law_264 1 rfl rfl ?_
    refine y_iload Z dL_law_265 5 rfl ?_
    refine y_VIw Z (k_X5_takeOut l D ht0 aJ (vm_enact J 6 (-1) (-1) (-1) (-1)) (nI a) h_n2 h_rs hA) (y_cwV 1 Z ml_RL_116 im_X5_takeOut se_X5_takeOut in_X5 co_X5_takeOut rfl rfl hd_X5_takeOut ⟨Nat.le_of_ble_eq_true rfl, Nat.le_of_ble_eq_true rfl⟩) List.nil (wVM cI aN N) (by first | with_reducible rfl | simp only [List.nil_append, List.append_nil] | simp only [List.nil_append, List.append_nil, wMix, wLog, wPic, wRep, wScr, wVM, wMd, sR_eq, sR_ne, sF_eq, sF_ne, upd_eq, upd_ne, gs_eq, gs_ne, gm_4, gm_ne, Nat.reduceBEq]) 5 0 rfl rfl rfl rfl (Nat.le_of_ble_eq_true rfl) dL_law_267 ⟨hc, hs⟩ (wVM cI aJ (vm_tk (vm_enact J 6 (-1) (-1) (-1) (-1)) (nI a)) ++ (wVM cI aN N)) (by first | with_reducible rfl | simp only [List.nil_append, List.append_nil] | simp only [List.nil_append, List.append_nil, wMix, wLog, wPic, wRep, wScr, wVM, wMd, sR_eq, sR_ne, sF_eq, sF_ne, upd_eq, upd_ne, gs_eq, gs_ne, gm_4, gm_ne, Nat.reduceBEq]) ?_
    refine y_iload Z dL_law_270 5 rfl ?_
    refine y_icmp_ne (tgt := 289) Z dL_law_272 (by decide) (fun h3 => ?_) (fun h4 => ?_)
    · exact absurd hU h3
    · exact K
set_option maxHeartbeats 4000000 in
set_option maxRecDepth 100000 in
theorem law_E {p : Program} {l : Launch} {e : Env} {s : State} {m : MethodId} {args : Array Value} {below : List Frame} {meth : Method} {c : Code} {Q : State → Prop} {D : va_G} {A : Nat → Prop} {tys : List (ClassId × FieldType)} {cI : ClassId} (Z : Zz p m c cL_law 7 s args wsL_law RL D tys A) (ht0 : tys[0]? = some (cI, .int)) {b L : Nat} {xs : Nat → Int32} (hX : va_X b L xs s s.heap) (hbl : b < s.heap.size) (hbA : ¬ A b) (hL : L ≤ 260) {cells slots : Nat} (hc : cells ≤ 166) (hs : slots ≤ 2944) {aJ aN : Nat → Nat} {J N : Nat → Nat → Nat → Int32} {d0 : Int64} {a : Nat} (hJ : PJ J) (hD : (haX (J 3) (dgH J)).1 = d0) (K : Yy p l e room_1 s m args below meth c Q D A 7 cells slots (wVM cI aJ (soE (it soS 10 (vm_tal J))) ++ (wVM cI aN N)) [(0, .ref b), (1, .ref (aJ 0)), (2, .ref (aN 0)), (3, .int 1), (4, .long d0), (6, .int (nI a))] [.int 1] 307) : Yy p l e room_1 s m args below meth c Q D A 7 cells slots (wVM cI aJ J ++ (wVM cI aN N)) [(0, .ref b), (1, .ref (aJ 0)), (2, .ref (aN 0)), (3, .int 1), (4, .long d0), (6, .int (nI a))] [] 275 := by
  refine y_aload_n Z dL_law_275 1 rfl rfl ?_
  refine y_VLw Z (k_X5_digest l D ht0 aJ J (pj_ha hJ)) (y_cwV 0 Z ml_RL_109 im_X5_digest se_X5_digest in_X5 co_X5_digest rfl rfl hd_X5_digest ⟨Nat.le_of_ble_eq_true rfl, Nat.le_of_ble_eq_true rfl⟩) List.nil (wVM cI aN N) (by first | with_reducible rfl | simp only [List.nil_append, List.append_nil] | simp only [List.nil_append, List.append_nil, wMix, wLog, wPic, wRep, wScr, wVM, wMd, sR_eq, sR_ne, sF_eq, sF_ne, upd_eq, upd_ne, gs_eq, gs_ne, gm_4, gm_ne, Nat.reduceBEq]) 5 0 rfl rfl rfl rfl (Nat.le_of_ble_eq_true rfl) dL_law_276 ⟨hc, hs⟩ (wVM cI aJ (vm_tal J) ++ (wVM cI aN N)) (by first | with_reducible rfl | simp only [List.nil_append, List.append_nil] | simp only [List.nil_append, List.append_nil, wMix, wLog, wPic, wRep, wScr, wVM, wMd, sR_eq, sR_ne, sF_eq, sF_ne, upd_eq, upd_ne, gs_eq, gs_ne, gm_4, gm_ne, Nat.reduceBEq]) ?_
  refine y_lload Z dL_law_279 4 rfl ?_
  refine y_lcmp Z dL_law_281 ?_
  refine y_if_ne (tgt := 289) Z dL_law_282 (by decide) (fun h1 => ?_) (fun h2 => ?_)
  · exact absurd (by rw [hD]; exact lgc_self _) h1
  · refine y_iconst (v := 1) Z dL_law_285 (by decide) ?_
    refine y_goto (tgt := 290) Z dL_law_286 (by decide) ?_
    refine y_istore_n Z [(3, .int 1), (0, .ref b), (1, .ref (aJ 0)), (2, .ref (aN 0)), (4, .long d0), (6, .int (nI a))] dL_law_290 rfl (by decide) rfl ?_
    refine y_iload_n Z dL_law_291 0 rfl rfl ?_
    refine y_if_eq (tgt := 306) Z dL_law_292 (by decide) (fun h3 => ?_) (fun h4 => ?_)
    · exact absurd (show (1 : Int32) = 0 from h3) (by decide)
    · refine y_aload_n Z dL_law_295 2 rfl rfl ?_
      refine y_SIw Z (k_L_isSound l D ht0 aJ (vm_tal J) (pj_tal hJ)) (y_cwS 1 Z ml_RL_106 st_L_isSound in_L co_L_isSound rfl rfl hs_L_isSound ⟨Nat.le_of_ble_eq_true rfl, Nat.le_of_ble_eq_true rfl⟩) List.nil (wVM cI aN N) (by first | with_reducible rfl | simp only [List.nil_append, List.append_nil] | simp only [List.nil_append, List.append_nil, wMix, wLog, wPic, wRep, wScr, wVM, wMd, sR_eq, sR_ne, sF_eq, sF_ne, upd_eq, upd_ne, gs_eq, gs_ne, gm_4, gm_ne, Nat.reduceBEq]) rfl rfl (Nat.le_of_ble_eq_true rfl) dL_law_296 ⟨hc, hs⟩ (wVM cI aJ (soE (it soS 10 (vm_tal J))) ++ (wVM cI aN N)) (by first | with_reducible rfl | simp only [List.nil_append, List.append_nil] | simp only [List.nil_append, List.append_nil, wMix, wLog, wPic, wRep, wScr, wVM, wMd, sR_eq, sR_ne, sF_eq, sF_ne, upd_eq, upd_ne, gs_eq, gs_ne, gm_4, gm_ne, Nat.reduceBEq]) ?_
      refine y_if_eq (tgt := 306) Z dL_law_299 (by decide) (fun h5 => ?_) (fun h6 => ?_)
      · exact absurd h5 (by decide)
      · refine y_iconst (v := 1) Z dL_law_302 (by decide) ?_
        refine y_goto (tgt := 307) Z dL_law_303 (by decide) ?_
        refine y_lv [1, 2, 3, 0, 4, 5] (lv' := [(0, .ref b), (1, .ref (aJ 0)), (2, .ref (aN 0)), (3, .int 1), (4, .long d0), (6, .int (nI a))]) rfl ?_
        exact K
