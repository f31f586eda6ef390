def hsF (h : Int64) (v : Int32) : Int64 := 31 * h + Int32.toInt64 v
def hsS (fa : Int32) (P Q : Nat → Nat → Int32) (k : Nat) (h : Int64) : Int64 :=
  hsF (hsF (hsF h (cellF (P 1) 10 (nI k))) (seenF P (nI k) fa)) (if cellF (P 1) 10 (nI k) ≤ 0 then (if cellF (Q 1) 10 (nI k) ≤ 0 then 0 else 1) else 2)
def hkS (M : Nat → Nat → Int32) (k : Nat) (h : Int64) : Int64 := hsF (hsF (hsF (hsF h (tellK M (nI k) 0)) (tellK M (nI k) 1)) (tellK M (nI k) 2)) (tellK M (nI k) 3)
def haC (L : Nat → Nat → Int32) (x : Int64 × Int32) : Bool := if L 0 0 ≤ x.2 then false else true
def haB (L : Nat → Nat → Int32) (x : Int64 × Int32) : Int64 × Int32 := (hsF (hsF (hsF (hsF x.1 (lgT L x.2 0)) (lgT L x.2 1)) (lgT L x.2 2)) (lgT L x.2 3), x.2 + 1)
def haX (L : Nat → Nat → Int32) (h : Int64) : Int64 × Int32 := lw (haC L) (haB L) 101 (h, 0)
def dgH (J : Nat → Nat → Nat → Int32) : Int64 := it (hsS (J 0 0 9) (gt_paint (J 0) (J 5)) (gt_paint (gt_complete (gt_copy (J 2) (J 0))) (J 6))) 10 (it (hkS (J 0)) 3 (hsF (hsF (hsF (hsF (hsF (hsF (hsF (hsF (hsF (hsF 3253 (J 7 0 0)) (psF J 0)) (psF J 1)) (psF J 2)) (psF J 3)) (psF J 4)) (psF J 5)) (psF J 6)) (psF J 7)) (psF J 8)))
def oW (J : Nat → Nat → Nat → Int32) (q : Int32) : Int32 := cellF (J 7 2) 180 (q * 3)
def oA (J : Nat → Nat → Nat → Int32) (q : Int32) : Int32 := cellF (J 7 2) 180 (q * 3 + 1)
def oB (J : Nat → Nat → Nat → Int32) (q : Int32) : Int32 := cellF (J 7 2) 180 (q * 3 + 2)
def doF (J : Nat → Nat → Nat → Int32) (q : Int32) : Int32 := if oW J q = 10 then (if 500 < oA J q then 0 else if J 0 0 7 + oA J q ≤ 5000 then 1 else 0) else if myF J (oW J q) = 0 then 0 else 1
def vm_do (J : Nat → Nat → Nat → Int32) (q : Int32) : Nat → Nat → Nat → Int32 := if oW J q = 10 then (if 500 < oA J q then J else if J 0 0 7 + oA J q ≤ 5000 then vm_pass J (oA J q) else J) else if myF J (oW J q) = 0 then J else vm_enact J (oW J q) (oA J q) (oB J q) (-1) (-1)
set_option maxHeartbeats 4000000 in
set_option maxRecDepth 100000 in
theorem k_X5_hashed (l : Launch) (D : va_G) {cI : ClassId} {tys : List (ClassId × FieldType)} (ht0 : tys[0]? = some (cI, .int)) (h : Int64) (v : Int32) (sz : Nat) : kL l yX5_hashed cX5_hashed 3 (some .long) { frames := 0, cells := 0, slots := 0, locals := 0 } D tys [.long h, .int v] ([] : va_W) ([] : va_W) (hsF h v) 0 0 sz := by
  refine y_enterL (cc := cX5_hashed) (maxL := 3) (ret := (some .long)) (own := RX5) (by decide) rfl (lv0 := [(0, .long h), (2, .int v)]) rfl (Nat.le_of_ble_eq_true rfl) ?_
  intro p e s m args below meth c A Z hr hlk _
  refine y_ldc2 Z (31) ct_RX5_246 dX5_hashed_0 ?_
  refine y_lload_n Z dX5_hashed_3 0 rfl rfl ?_
  refine y_lmul Z dX5_hashed_4 ?_
  refine y_iload_n Z dX5_hashed_5 1 rfl rfl ?_
  refine y_i2l Z dX5_hashed_6 ?_
  refine y_ladd Z dX5_hashed_7 ?_
  exact y_retL Z hr hlk dX5_hashed_8 (by first | (simp only [hsF, if_true, if_false, not_false_eq_true, not_true_eq_false, ↓reduceIte]; done) | (simp only [hsF, if_true, if_false, not_false_eq_true, not_true_eq_false, ↓reduceIte, wMix, wLog, wPic, wRep, wScr, wVM, wMd, sR_eq, sR_ne, sF_eq, sF_ne, upd_eq, upd_ne, gs_eq, gs_ne, gm_4, gm_ne, Nat.reduceBEq]; done) | (with_reducible rfl) | contradiction | (simp only [hsF, if_true, if_false, not_false_eq_true, not_true_eq_false, ↓reduceIte]; rfl) | rfl) (by first | (simp only [hsF, if_true, if_false, not_false_eq_true, not_true_eq_false, ↓reduceIte]; done) | (simp only [hsF, if_true, if_false, not_false_eq_true, not_true_eq_false, ↓reduceIte, wMix, wLog, wPic, wRep, wScr, wVM, wMd, sR_eq, sR_ne, sF_eq, sF_ne, upd_eq, upd_ne, gs_eq, gs_ne, gm_4, gm_ne, Nat.reduceBEq]; done) | (with_reducible rfl) | contradiction | (simp only [hsF, if_true, if_false, not_false_eq_true, not_true_eq_false, ↓reduceIte]; rfl) | rfl)
set_option maxHeartbeats 4000000 in
set_option maxRecDepth 100000 in
theorem k_X5_hashSources (l : Launch) (D : va_G) {cI : ClassId} {tys : List (ClassId × FieldType)} (ht0 : tys[0]? = some (cI, .int)) (aJ : Nat → Nat) (J : Nat → Nat → Nat → Int32) (h : Int64) (sz : Nat) : kL l yX5_hashSources cX5_hashSources 6 (some .long) { frames := 5, cells := 0, slots := 0, locals := 111 } D tys [.ref (aJ 0), .long h] (wVM cI aJ J) (wVM cI aJ (vm_tal J)) (it (hsS (J 0 0 9) (gt_paint (J 0) (J 5)) (gt_paint (gt_complete (gt_copy (J 2) (J 0))) (J 6))) 10 h) 0 0 sz := by
  refine y_enterL (cc := cX5_hashSources) (maxL := 6) (ret := (some .long)) (own := RX5) (by decide) rfl (lv0 := [(0, .ref (aJ 0)), (1, .long h)]) rfl (Nat.le_of_ble_eq_true rfl) ?_
  intro p e s m args below meth c A Z hr hlk _
  have L9 : ∀ (n i : Nat), i + n = 10 → Yy p l e { frames := 5, cells := 0, slots := 0, locals := 111 } s m args below meth c (QL D tys A (wVM cI aJ (vm_tal J)) (it (hsS (J 0 0 9) (gt_paint (J 0) (J 5)) (gt_paint (gt_complete (gt_copy (J 2) (J 0))) (J 6))) 10 h) below args s 0 0) D A 6 0 0 (wVMR cI aJ (J 0) (J 1) (gt_complete (gt_copy (J 2) (J 0))) (J 3) (J 4) (gt_paint (J 0) (J 5)) (gt_paint (gt_complete (gt_copy (J 2) (J 0))) (J 6)) (J 7)) [(0, .ref (aJ 0)), (1, .long h), (3, .long (it (hsS (J 0 0 9) (gt_paint (J 0) (J 5)) (gt_paint (gt_complete (gt_copy (J 2) (J 0))) (J 6))) i h)), (5, .int (nI i))] [] 9 := by
    intro n; induction n with
    | zero =>
      intro i hi
      have hi : i = 10 := by omega
      subst hi
      refine y_iload Z dX5_hashSources_9 3 rfl ?_
      refine y_bipush (v := 10) Z dX5_hashSources_11 (by decide) ?_
      refine y_icmp_ge (tgt := 68) Z dX5_hashSources_13 (by decide) (fun h1 => ?_) (fun h2 => ?_)
      · refine y_lload_n Z dX5_hashSources_68 2 rfl rfl ?_
        exact y_retL Z hr hlk dX5_hashSources_69 (by first | (simp only [vm_tal, vm_bh, h1, if_true, if_false, not_false_eq_true, not_true_eq_false, ↓reduceIte]; done) | (simp only [vm_tal, vm_bh, h1, if_true, if_false, not_false_eq_true, not_true_eq_false, ↓reduceIte, wMix, wLog, wPic, wRep, wScr, wVM, wMd, sR_eq, sR_ne, sF_eq, sF_ne, upd_eq, upd_ne, gs_eq, gs_ne, gm_4, gm_ne, Nat.reduceBEq]; done) | (with_reducible rfl) | contradiction | (simp only [vm_tal, vm_bh, h1, if_true, if_false, not_false_eq_true, not_true_eq_false, ↓reduceIte]; rfl) | rfl) (by first | (simp only [vm_tal, vm_bh, h1, if_true, if_false, not_false_eq_true, not_true_eq_false, ↓reduceIte]; done) | (simp only [vm_tal, vm_bh, h1, if_true, if_false, not_false_eq_true, not_true_eq_false, ↓reduceIte, wMix, wLog, wPic, wRep, wScr, wVM, wMd, sR_eq, sR_ne, sF_eq, sF_ne, upd_eq, upd_ne, gs_eq, gs_ne, gm_4, gm_ne, Nat.reduceBEq]; done) | (with_reducible rfl) | contradiction | (simp only [vm_tal, vm_bh, h1, if_true, if_false, not_false_eq_true, not_true_eq_false, ↓reduceIte]; rfl) | rfl)
      · exact absurd (nI_le (a := 10) (b := 10) (by omega) (by decide)) h2
    | succ n ih =>
      intro i hi
      refine y_iload Z dX5_hashSources_9 3 rfl ?_
      refine y_bipush (v := 10) Z dX5_hashSources_11 (by decide) ?_
      refine y_icmp_ge (tgt := 68) Z dX5_hashSources_13 (by decide) (fun h3 => ?_) (fun h4 => ?_)
      · exact absurd h3 (nI_ge (a := i) (b := 10) (by omega) (by decide))
      · refine y_lload_n Z dX5_hashSources_16 2 rfl rfl ?_
        refine y_aload_n Z dX5_hashSources_17 0 rfl rfl ?_
        refine y_get (C := RX5) (T := TX5) (N := 8) Z 5 inlX5 rfl 0 rfl 5 (by decide) fl_RX5_39 rfl dX5_hashSources_18 ?_
        refine y_iload Z dX5_hashSources_21 3 rfl ?_
        refine y_VI Z (k_X2_partOf l D ht0 (fun k => aJ (20 + k)) (gt_paint (J 0) (J 5)) (nI i)) (y_cwV 1 Z ml_RX5_99 im_X2_partOf se_X2_partOf in_X2 co_X2_partOf rfl rfl hd_X2_partOf ⟨Nat.le_of_ble_eq_true rfl, Nat.le_of_ble_eq_true rfl⟩) [20, 21] rfl (by decide) 2 20 rfl rfl rfl rfl (Nat.le_of_ble_eq_true rfl) dX5_hashSources_23 ⟨Nat.le_of_ble_eq_true rfl, Nat.le_of_ble_eq_true rfl⟩ [(aJ 20), (aJ 21)] rfl rfl (wVMR cI aJ (J 0) (J 1) (gt_complete (gt_copy (J 2) (J 0))) (J 3) (J 4) (gt_paint (J 0) (J 5)) (gt_paint (gt_complete (gt_copy (J 2) (J 0))) (J 6)) (J 7)) rfl ?_
        refine y_SL Z (k_X5_hashed l D ht0 (it (hsS (J 0 0 9) (gt_paint (J 0) (J 5)) (gt_paint (gt_complete (gt_copy (J 2) (J 0))) (J 6))) i h) (cellF ((gt_paint (J 0) (J 5)) 1) 10 (nI i))) (y_cwS 2 Z ml_RX5_200 st_X5_hashed in_X5 co_X5_hashed rfl rfl hs_X5_hashed ⟨Nat.le_of_ble_eq_true rfl, Nat.le_of_ble_eq_true rfl⟩) [] rfl (by decide) rfl rfl (Nat.le_of_ble_eq_true rfl) dX5_hashSources_26 ⟨Nat.le_of_ble_eq_true rfl, Nat.le_of_ble_eq_true rfl⟩ [] rfl rfl (wVMR cI aJ (J 0) (J 1) (gt_complete (gt_copy (J 2) (J 0))) (J 3) (J 4) (gt_paint (J 0) (J 5)) (gt_paint (gt_complete (gt_copy (J 2) (J 0))) (J 6)) (J 7)) rfl ?_
        refine y_lstore_n Z [(3, .long (hsF (it (hsS (J 0 0 9) (gt_paint (J 0) (J 5)) (gt_paint (gt_complete (gt_copy (J 2) (J 0))) (J 6))) i h) (cellF ((gt_paint (J 0) (J 5)) 1) 10 (nI i)))), (0, .ref (aJ 0)), (1, .long h), (5, .int (nI i))] dX5_hashSources_29 rfl (by decide) rfl ?_
        refine y_lload_n Z dX5_hashSources_30 0 rfl rfl ?_
        refine y_aload_n Z dX5_hashSources_31 1 rfl rfl ?_
        refine y_get (C := RX5) (T := TX5) (N := 8) Z 5 inlX5 rfl 0 rfl 5 (by decide) fl_RX5_39 rfl dX5_hashSources_32 ?_
        refine y_iload Z dX5_hashSources_35 3 rfl ?_
        refine y_aload_n Z dX5_hashSources_37 1 rfl rfl ?_
        refine y_get (C := RX5) (T := TX5) (N := 8) Z 5 inlX5 rfl 0 rfl 0 (by decide) fl_RX5_10 rfl dX5_hashSources_38 ?_
        refine y_getN (host := RX5) (C := RX1) (T := TX1) (N := 14) Z 1 inlX1 rfl 1 rfl 9 (by decide) nl_RX5_93 rfl dX5_hashSources_41 ?_
        refine y_VI Z (k_X2_seenOf l D ht0 (fun k => aJ (20 + k)) (gt_paint (J 0) (J 5)) (nI i) ((J 0) 0 9)) (y_cwV 2 Z ml_RX5_96 im_X2_seenOf se_X2_seenOf in_X2 co_X2_seenOf rfl rfl hd_X2_seenOf ⟨Nat.le_of_ble_eq_true rfl, Nat.le_of_ble_eq_true rfl⟩) [20, 21] rfl (by decide) 2 20 rfl rfl rfl rfl (Nat.le_of_ble_eq_true rfl) dX5_hashSources_44 ⟨Nat.le_of_ble_eq_true rfl, Nat.le_of_ble_eq_true rfl⟩ [(aJ 20), (aJ 21)] rfl rfl (wVMR cI aJ (J 0) (J 1) (gt_complete (gt_copy (J 2) (J 0))) (J 3) (J 4) (gt_paint (J 0) (J 5)) (gt_paint (gt_complete (gt_copy (J 2) (J 0))) (J 6)) (J 7)) rfl ?_
        refine y_SL Z (k_X5_hashed l D ht0 (hsF (it (hsS (J 0 0 9) (gt_paint (J 0) (J 5)) (gt_paint (gt_complete (gt_copy (J 2) (J 0))) (J 6))) i h) (cellF ((gt_paint (J 0) (J 5)) 1) 10 (nI i))) (seenF (gt_paint (J 0) (J 5)) (nI i) ((J 0) 0 9))) (y_cwS 2 Z ml_RX5_200 st_X5_hashed in_X5 co_X5_hashed rfl rfl hs_X5_hashed ⟨Nat.le_of_ble_eq_true rfl, Nat.le_of_ble_eq_true rfl⟩) [] rfl (by decide) rfl rfl (Nat.le_of_ble_eq_true rfl) dX5_hashSources_47 ⟨Nat.le_of_ble_eq_true rfl, Nat.le_of_ble_eq_true rfl⟩ [] rfl rfl (wVMR cI aJ (J 0) (J 1) (gt_complete (gt_copy (J 2) (J 0))) (J 3) (J 4) (gt_paint (J 0) (J 5)) (gt_paint (gt_complete (gt_copy (J 2) (J 0))) (J 6)) (J 7)) rfl ?_
        refine y_lstore_n Z [(3, .long (hsF (hsF (it (hsS (J 0 0 9) (gt_paint (J 0) (J 5)) (gt_paint (gt_complete (gt_copy (J 2) (J 0))) (J 6))) i h) (cellF ((gt_paint (J 0) (J 5)) 1) 10 (nI i))) (seenF (gt_paint (J 0) (J 5)) (nI i) ((J 0) 0 9)))), (0, .ref (aJ 0)), (1, .long h), (5, .int (nI i))] dX5_hashSources_50 rfl (by decide) rfl ?_
        refine y_lload_n Z dX5_hashSources_51 0 rfl rfl ?_
        refine y_aload_n Z dX5_hashSources_52 1 rfl rfl ?_
        refine y_iload Z dX5_hashSources_53 3 rfl ?_
        refine y_VIw Z (k_X5_tallyPainted l D ht0 aJ (gs (gs (gs J 2 (gt_complete (gt_copy (J 2) (J 0)))) 5 (gt_paint (J 0) (J 5))) 6 (gt_paint (gt_complete (gt_copy (J 2) (J 0))) (J 6))) (nI i)) (y_cwV 1 Z ml_RX5_105 im_X5_tallyPainted se_X5_tallyPainted in_X5 co_X5_tallyPainted rfl rfl hd_X5_tallyPainted ⟨Nat.le_of_ble_eq_true rfl, Nat.le_of_ble_eq_true rfl⟩) List.nil List.nil (by simp only [List.nil_append, List.append_nil, wMix, wLog, wPic, wRep, wScr, wVM, wMd, sR_eq, sR_ne, sF_eq, sF_ne, upd_eq, upd_ne, gs_eq, gs_ne, gm_4, gm_ne, Nat.reduceBEq]) 5 0 rfl rfl rfl rfl (Nat.le_of_ble_eq_true rfl) dX5_hashSources_55 ⟨Nat.le_of_ble_eq_true rfl, Nat.le_of_ble_eq_true rfl⟩ (wVMR cI aJ (J 0) (J 1) (gt_complete (gt_copy (J 2) (J 0))) (J 3) (J 4) (gt_paint (J 0) (J 5)) (gt_paint (gt_complete (gt_copy (J 2) (J 0))) (J 6)) (J 7)) (by simp only [List.nil_append, List.append_nil, wMix, wLog, wPic, wRep, wScr, wVM, wMd, sR_eq, sR_ne, sF_eq, sF_ne, upd_eq, upd_ne, gs_eq, gs_ne, gm_4, gm_ne, Nat.reduceBEq]) ?_
        refine y_SL Z (k_X5_hashed l D ht0 (hsF (hsF (it (hsS (J 0 0 9) (gt_paint (J 0) (J 5)) (gt_paint (gt_complete (gt_copy (J 2) (J 0))) (J 6))) i h) (cellF ((gt_paint (J 0) (J 5)) 1) 10 (nI i))) (seenF (gt_paint (J 0) (J 5)) (nI i) ((J 0) 0 9))) (tpF (gs (gs (gs J 2 (gt_complete (gt_copy (J 2) (J 0)))) 5 (gt_paint (J 0) (J 5))) 6 (gt_paint (gt_complete (gt_copy (J 2) (J 0))) (J 6))) (nI i))) (y_cwS 2 Z ml_RX5_200 st_X5_hashed in_X5 co_X5_hashed rfl rfl hs_X5_hashed ⟨Nat.le_of_ble_eq_true rfl, Nat.le_of_ble_eq_true rfl⟩) [] rfl (by decide) rfl rfl (Nat.le_of_ble_eq_true rfl) dX5_hashSources_58 ⟨Nat.le_of_ble_eq_true rfl, Nat.le_of_ble_eq_true rfl⟩ [] rfl rfl (wVMR cI aJ (J 0) (J 1) (gt_complete (gt_copy (J 2) (J 0))) (J 3) (J 4) (gt_paint (J 0) (J 5)) (gt_paint (gt_complete (gt_copy (J 2) (J 0))) (J 6)) (J 7)) rfl ?_
        refine y_lstore_n Z [(3, .long (hsF (hsF (hsF (it (hsS (J 0 0 9) (gt_paint (J 0) (J 5)) (gt_paint (gt_complete (gt_copy (J 2) (J 0))) (J 6))) i h) (cellF ((gt_paint (J 0) (J 5)) 1) 10 (nI i))) (seenF (gt_paint (J 0) (J 5)) (nI i) ((J 0) 0 9))) (tpF (gs (gs (gs J 2 (gt_complete (gt_copy (J 2) (J 0)))) 5 (gt_paint (J 0) (J 5))) 6 (gt_paint (gt_complete (gt_copy (J 2) (J 0))) (J 6))) (nI i)))), (0, .ref (aJ 0)), (1, .long h), (5, .int (nI i))] dX5_hashSources_61 rfl (by decide) rfl ?_
        refine y_iinc Z [(5, .int (nI (i + 1))), (3, .long (hsF (hsF (hsF (it (hsS (J 0 0 9) (gt_paint (J 0) (J 5)) (gt_paint (gt_complete (gt_copy (J 2) (J 0))) (J 6))) i h) (cellF ((gt_paint (J 0) (J 5)) 1) 10 (nI i))) (seenF (gt_paint (J 0) (J 5)) (nI i) ((J 0) 0 9))) (tpF (gs (gs (gs J 2 (gt_complete (gt_copy (J 2) (J 0)))) 5 (gt_paint (J 0) (J 5))) 6 (gt_paint (gt_complete (gt_copy (J 2) (J 0))) (J 6))) (nI i)))), (0, .ref (aJ 0)), (1, .long h)] dX5_hashSources_62 3 rfl (nI_1 _) (by decide) rfl ?_
        refine y_goto (tgt := 9) Z dX5_hashSources_65 (by decide) ?_
        refine y_lv [2, 3, 1, 0] (lv' := [(0, .ref (aJ 0)), (1, .long h), (3, .long (hsF (hsF (hsF (it (hsS (J 0 0 9) (gt_paint (J 0) (J 5)) (gt_paint (gt_complete (gt_copy (J 2) (J 0))) (J 6))) i h) (cellF ((gt_paint (J 0) (J 5)) 1) 10 (nI i))) (seenF (gt_paint (J 0) (J 5)) (nI i) ((J 0) 0 9))) (tpF (gs (gs (gs J 2 (gt_complete (gt_copy (J 2) (J 0)))) 5 (gt_paint (J 0) (J 5))) 6 (gt_paint (gt_complete (gt_copy (J 2) (J 0))) (J 6))) (nI i)))), (5, .int (nI (i + 1)))]) rfl ?_
        refine y_eq (ws' := (wVMR cI aJ (J 0) (J 1) (gt_complete (gt_copy (J 2) (J 0))) (J 3) (J 4) (gt_paint (J 0) (J 5)) (gt_paint (gt_complete (gt_copy (J 2) (J 0))) (J 6)) (J 7))) (lv' := [(0, .ref (aJ 0)), (1, .long h), (3, .long (it (hsS (J 0 0 9) (gt_paint (J 0) (J 5)) (gt_paint (gt_complete (gt_copy (J 2) (J 0))) (J 6))) (i + 1) h)), (5, .int (nI (i + 1)))]) (st' := []) (by first | (simp only [it_s, hsS, tpF, h4, if_true, if_false, not_false_eq_true, not_true_eq_false, ↓reduceIte]; done) | (simp only [it_s, hsS, tpF, h4, if_true, if_false, not_false_eq_true, not_true_eq_false, ↓reduceIte, wMix, wLog, wPic, wRep, wScr, wVM, wMd, sR_eq, sR_ne, sF_eq, sF_ne, upd_eq, upd_ne, gs_eq, gs_ne, gm_4, gm_ne, Nat.reduceBEq]; done) | (with_reducible rfl) | contradiction | (simp only [it_s, hsS, tpF, h4, if_true, if_false, not_false_eq_true, not_true_eq_false, ↓reduceIte]; rfl) | rfl) (by first | (simp only [it_s, hsS, tpF, h4, if_true, if_false, not_false_eq_true, not_true_eq_false, ↓reduceIte]; done) | (simp only [it_s, hsS, tpF, h4, if_true, if_false, not_false_eq_true, not_true_eq_false, ↓reduceIte, wMix, wLog, wPic, wRep, wScr, wVM, wMd, sR_eq, sR_ne, sF_eq, sF_ne, upd_eq, upd_ne, gs_eq, gs_ne, gm_4, gm_ne, Nat.reduceBEq]; done) | (with_reducible rfl) | contradiction | (simp only [it_s, hsS, tpF, h4, if_true, if_false, not_false_eq_true, not_true_eq_false, ↓reduceIte]; rfl) | rfl) rfl ?_
        exact ih (i + 1)  (by omega)
  refine y_lload_n Z dX5_hashSources_0 1 rfl rfl ?_
  refine y_lstore_n Z [(3, .long h), (0, .ref (aJ 0)), (1, .long h)] dX5_hashSources_1 rfl (by decide) rfl ?_
  refine y_aload_n Z dX5_hashSources_2 1 rfl rfl ?_
  refine y_VVw Z (k_X5_paintTallies l D ht0 aJ J) (y_cwV 0 Z ml_RX5_102 im_X5_paintTallies se_X5_paintTallies in_X5 co_X5_paintTallies rfl rfl hd_X5_paintTallies ⟨Nat.le_of_ble_eq_true rfl, Nat.le_of_ble_eq_true rfl⟩) List.nil List.nil (by simp only [List.nil_append, List.append_nil, wMix, wLog, wPic, wRep, wScr, wVM, wMd, sR_eq, sR_ne, sF_eq, sF_ne, upd_eq, upd_ne, gs_eq, gs_ne, gm_4, gm_ne, Nat.reduceBEq]) 5 0 rfl rfl rfl rfl (Nat.le_of_ble_eq_true rfl) dX5_hashSources_3 ⟨Nat.le_of_ble_eq_true rfl, Nat.le_of_ble_eq_true rfl⟩ (wVMR cI aJ (J 0) (J 1) (gt_complete (gt_copy (J 2) (J 0))) (J 3) (J 4) (gt_paint (J 0) (J 5)) (gt_paint (gt_complete (gt_copy (J 2) (J 0))) (J 6)) (J 7)) (by simp only [List.nil_append, List.append_nil, vm_tal, vm_bh, wMix, wLog, wPic, wRep, wScr, wVM, wMd, sR_eq, sR_ne, sF_eq, sF_ne, upd_eq, upd_ne, gs_eq, gs_ne, gm_4, gm_ne, Nat.reduceBEq]) ?_
  refine y_iconst (v := 0) Z dX5_hashSources_6 (by decide) ?_
  refine y_istore Z [(5, .int 0), (3, .long h), (0, .ref (aJ 0)), (1, .long h)] dX5_hashSources_7 (by decide) rfl ?_
  refine y_lv [2, 3, 1, 0] (lv' := [(0, .ref (aJ 0)), (1, .long h), (3, .long h), (5, .int 0)]) rfl ?_
  refine y_eq (ws' := (wVMR cI aJ (J 0) (J 1) (gt_complete (gt_copy (J 2) (J 0))) (J 3) (J 4) (gt_paint (J 0) (J 5)) (gt_paint (gt_complete (gt_copy (J 2) (J 0))) (J 6)) (J 7))) (lv' := [(0, .ref (aJ 0)), (1, .long h), (3, .long (it (hsS (J 0 0 9) (gt_paint (J 0) (J 5)) (gt_paint (gt_complete (gt_copy (J 2) (J 0))) (J 6))) 0 h)), (5, .int (nI 0))]) (st' := []) (by first | (simp only [it_0, if_true, if_false, not_false_eq_true, not_true_eq_false, ↓reduceIte]; done) | (simp only [it_0, if_true, if_false, not_false_eq_true, not_true_eq_false, ↓reduceIte, wMix, wLog, wPic, wRep, wScr, wVM, wMd, sR_eq, sR_ne, sF_eq, sF_ne, upd_eq, upd_ne, gs_eq, gs_ne, gm_4, gm_ne, Nat.reduceBEq]; done) | (with_reducible rfl) | contradiction | (simp only [it_0, if_true, if_false, not_false_eq_true, not_true_eq_false, ↓reduceIte]; rfl) | rfl) (by first | (simp only [it_0, if_true, if_false, not_false_eq_true, not_true_eq_false, ↓reduceIte]; done) | (simp only [it_0, if_true, if_false, not_false_eq_true, not_true_eq_false, ↓reduceIte, wMix, wLog, wPic, wRep, wScr, wVM, wMd, sR_eq, sR_ne, sF_eq, sF_ne, upd_eq, upd_ne, gs_eq, gs_ne, gm_4, gm_ne, Nat.reduceBEq]; done) | (with_reducible rfl) | contradiction | (simp only [it_0, if_true, if_false, not_false_eq_true, not_true_eq_false, ↓reduceIte]; rfl) | rfl) rfl ?_
  exact L9 10 0  (by omega)
set_option maxHeartbeats 4000000 in
set_option maxRecDepth 100000 in
theorem k_X5_hashKeyers (l : Launch) (D : va_G) {cI : ClassId} {tys : List (ClassId × FieldType)} (ht0 : tys[0]? = some (cI, .int)) (aJ : Nat → Nat) (J : Nat → Nat → Nat → Int32) (h : Int64) (sz : Nat) : kL l yX5_hashKeyers cX5_hashKeyers 7 (some .long) { frames := 2, cells := 0, slots := 0, locals := 43 } D tys [.ref (aJ 0), .long h] (wVM cI aJ J) (wVM cI aJ J) (it (hkS (J 0)) 3 h) 0 0 sz := by
  refine y_enterL (cc := cX5_hashKeyers) (maxL := 7) (ret := (some .long)) (own := RX5) (by decide) rfl (lv0 := [(0, .ref (aJ 0)), (1, .long h)]) rfl (Nat.le_of_ble_eq_true rfl) ?_
  intro p e s m args below meth c A Z hr hlk _
  have L5 : ∀ (n i : Nat), i + n = 3 → Yy p l e { frames := 2, cells := 0, slots := 0, locals := 43 } s m args below meth c (QL D tys A (wVM cI aJ J) (it (hkS (J 0)) 3 h) below args s 0 0) D A 7 0 0 (wVM cI aJ J) [(0, .ref (aJ 0)), (1, .long h), (3, .long (it (hkS (J 0)) i h)), (5, .int (nI i))] [] 5 := by
    intro n; induction n with
    | zero =>
      intro i hi
      have hi : i = 3 := by omega
      subst hi
      refine y_iload Z dX5_hashKeyers_5 3 rfl ?_
      refine y_iconst (v := 3) Z dX5_hashKeyers_7 (by decide) ?_
      refine y_icmp_ge (tgt := 48) Z dX5_hashKeyers_8 (by decide) (fun h1 => ?_) (fun h2 => ?_)
      · refine y_lload_n Z dX5_hashKeyers_48 2 rfl rfl ?_
        exact y_retL Z hr hlk dX5_hashKeyers_49 (by first | (simp only [h1, if_true, if_false, not_false_eq_true, not_true_eq_false, ↓reduceIte]; done) | (simp only [h1, if_true, if_false, not_false_eq_true, not_true_eq_false, ↓reduceIte, wMix, wLog, wPic, wRep, wScr, wVM, wMd, sR_eq, sR_ne, sF_eq, sF_ne, upd_eq, upd_ne, gs_eq, gs_ne, gm_4, gm_ne, Nat.reduceBEq]; done) | (with_reducible rfl) | contradiction | (simp only [h1, if_true, if_false, not_false_eq_true, not_true_eq_false, ↓reduceIte]; rfl) | rfl) (by first | (simp only [h1, if_true, if_false, not_false_eq_true, not_true_eq_false, ↓reduceIte]; done) | (simp only [h1, if_true, if_false, not_false_eq_true, not_true_eq_false, ↓reduceIte, wMix, wLog, wPic, wRep, wScr, wVM, wMd, sR_eq, sR_ne, sF_eq, sF_ne, upd_eq, upd_ne, gs_eq, gs_ne, gm_4, gm_ne, Nat.reduceBEq]; done) | (with_reducible rfl) | contradiction | (simp only [h1, if_true, if_false, not_false_eq_true, not_true_eq_false, ↓reduceIte]; rfl) | rfl)
      · exact absurd (nI_le (a := 3) (b := 3) (by omega) (by decide)) h2
    | succ n ih =>
      intro i hi
      refine y_iload Z dX5_hashKeyers_5 3 rfl ?_
      refine y_iconst (v := 3) Z dX5_hashKeyers_7 (by decide) ?_
      refine y_icmp_ge (tgt := 48) Z dX5_hashKeyers_8 (by decide) (fun h3 => ?_) (fun h4 => ?_)
      · exact absurd h3 (nI_ge (a := i) (b := 3) (by omega) (by decide))
      · refine y_iconst (v := 0) Z dX5_hashKeyers_11 (by decide) ?_
        refine y_istore Z [(6, .int 0), (0, .ref (aJ 0)), (1, .long h), (3, .long (it (hkS (J 0)) i h)), (5, .int (nI i))] dX5_hashKeyers_12 (by decide) rfl ?_
        refine y_iload Z dX5_hashKeyers_14 0 rfl ?_
        refine y_iconst (v := 3) Z dX5_hashKeyers_16 (by decide) ?_
        refine y_icmp_gt (tgt := 42) Z dX5_hashKeyers_17 (by decide) (fun h5 => ?_) (fun h6 => ?_)
        · exact absurd (show (3 : Int32) < 0 from h5) (by decide)
        · refine y_lload_n Z dX5_hashKeyers_20 3 rfl rfl ?_
          refine y_aload_n Z dX5_hashKeyers_21 1 rfl rfl ?_
          refine y_get (C := RX5) (T := TX5) (N := 8) Z 5 inlX5 rfl 0 rfl 0 (by decide) fl_RX5_10 rfl dX5_hashKeyers_22 ?_
          refine y_iload Z dX5_hashKeyers_25 4 rfl ?_
          refine y_iload Z dX5_hashKeyers_27 0 rfl ?_
          refine y_VI Z (k_X1_tellKeyer l D ht0 (fun k => aJ (1 + k)) (J 0) (nI i) 0) (y_cwV 2 Z ml_RX5_85 im_X1_tellKeyer se_X1_tellKeyer in_X1 co_X1_tellKeyer rfl rfl hd_X1_tellKeyer ⟨Nat.le_of_ble_eq_true rfl, Nat.le_of_ble_eq_true rfl⟩) [1, 2, 3, 4] rfl (by decide) 1 1 rfl rfl rfl rfl (Nat.le_of_ble_eq_true rfl) dX5_hashKeyers_29 ⟨Nat.le_of_ble_eq_true rfl, Nat.le_of_ble_eq_true rfl⟩ [(aJ 1), (aJ 2), (aJ 3), (aJ 4)] rfl rfl (wVM cI aJ J) rfl ?_
          refine y_SL Z (k_X5_hashed l D ht0 (it (hkS (J 0)) i h) (tellK (J 0) (nI i) 0)) (y_cwS 2 Z ml_RX5_200 st_X5_hashed in_X5 co_X5_hashed rfl rfl hs_X5_hashed ⟨Nat.le_of_ble_eq_true rfl, Nat.le_of_ble_eq_true rfl⟩) [] rfl (by decide) rfl rfl (Nat.le_of_ble_eq_true rfl) dX5_hashKeyers_32 ⟨Nat.le_of_ble_eq_true rfl, Nat.le_of_ble_eq_true rfl⟩ [] rfl rfl (wVM cI aJ J) rfl ?_
          refine y_lstore_n Z [(3, .long (hsF (it (hkS (J 0)) i h) (tellK (J 0) (nI i) 0))), (6, .int 0), (0, .ref (aJ 0)), (1, .long h), (5, .int (nI i))] dX5_hashKeyers_35 rfl (by decide) rfl ?_
          refine y_iinc Z [(6, .int 1), (3, .long (hsF (it (hkS (J 0)) i h) (tellK (J 0) (nI i) 0))), (0, .ref (aJ 0)), (1, .long h), (5, .int (nI i))] dX5_hashKeyers_36 1 rfl (by decide) (by decide) rfl ?_
          refine y_goto (tgt := 14) Z dX5_hashKeyers_39 (by decide) ?_
          refine y_iload Z dX5_hashKeyers_14 0 rfl ?_
          refine y_iconst (v := 3) Z dX5_hashKeyers_16 (by decide) ?_
          refine y_icmp_gt (tgt := 42) Z dX5_hashKeyers_17 (by decide) (fun h7 => ?_) (fun h8 => ?_)
          · exact absurd (show (3 : Int32) < 1 from h7) (by decide)
          · refine y_lload_n Z dX5_hashKeyers_20 1 rfl rfl ?_
            refine y_aload_n Z dX5_hashKeyers_21 2 rfl rfl ?_
            refine y_get (C := RX5) (T := TX5) (N := 8) Z 5 inlX5 rfl 0 rfl 0 (by decide) fl_RX5_10 rfl dX5_hashKeyers_22 ?_
            refine y_iload Z dX5_hashKeyers_25 4 rfl ?_
            refine y_iload Z dX5_hashKeyers_27 0 rfl ?_
            refine y_VI Z (k_X1_tellKeyer l D ht0 (fun k => aJ (1 + k)) (J 0) (nI i) 1) (y_cwV 2 Z ml_RX5_85 im_X1_tellKeyer se_X1_tellKeyer in_X1 co_X1_tellKeyer rfl rfl hd_X1_tellKeyer ⟨Nat.le_of_ble_eq_true rfl, Nat.le_of_ble_eq_true rfl⟩) [1, 2, 3, 4] rfl (by decide) 1 1 rfl rfl rfl rfl (Nat.le_of_ble_eq_true rfl) dX5_hashKeyers_29 ⟨Nat.le_of_ble_eq_true rfl, Nat.le_of_ble_eq_true rfl⟩ [(aJ 1), (aJ 2), (aJ 3), (aJ 4)] rfl rfl (wVM cI aJ J) rfl ?_
            refine y_SL Z (k_X5_hashed l D ht0 (hsF (it (hkS (J 0)) i h) (tellK (J 0) (nI i) 0)) (tellK (J 0) (nI i) 1)) (y_cwS 2 Z ml_RX5_200 st_X5_hashed in_X5 co_X5_hashed rfl rfl hs_X5_hashed ⟨Nat.le_of_ble_eq_true rfl, Nat.le_of_ble_eq_true rfl⟩) [] rfl (by decide) rfl rfl (Nat.le_of_ble_eq_true rfl) dX5_hashKeyers_32 ⟨Nat.le_of_ble_eq_true rfl, Nat.le_of_ble_eq_true rfl⟩ [] rfl rfl (wVM cI aJ J) rfl ?_
            refine y_lstore_n Z [(3, .long (hsF (hsF (it (hkS (J 0)) i h) (tellK (J 0) (nI i) 0)) (tellK (J 0) (nI i) 1))), (6, .int 1), (0, .ref (aJ 0)), (1, .long h), (5, .int (nI i))] dX5_hashKeyers_35 rfl (by decide) rfl ?_
            refine y_iinc Z [(6, .int 2), (3, .long (hsF (hsF (it (hkS (J 0)) i h) (tellK (J 0) (nI i) 0)) (tellK (J 0) (nI i) 1))), (0, .ref (aJ 0)), (1, .long h), (5, .int (nI i))] dX5_hashKeyers_36 1 rfl (by decide) (by decide) rfl ?_
            refine y_goto (tgt := 14) Z dX5_hashKeyers_39 (by decide) ?_
            refine y_iload Z dX5_hashKeyers_14 0 rfl ?_
            refine y_iconst (v := 3) Z dX5_hashKeyers_16 (by decide) ?_
            refine y_icmp_gt (tgt := 42) Z dX5_hashKeyers_17 (by decide) (fun h9 => ?_) (fun h10 => ?_)
            · exact absurd (show (3 : Int32) < 2 from h9) (by decide)
            · refine y_lload_n Z dX5_hashKeyers_20 1 rfl rfl ?_
              refine y_aload_n Z dX5_hashKeyers_21 2 rfl rfl ?_
              refine y_get (C := RX5) (T := TX5) (N := 8) Z 5 inlX5 rfl 0 rfl 0 (by decide) fl_RX5_10 rfl dX5_hashKeyers_22 ?_
              refine y_iload Z dX5_hashKeyers_25 4 rfl ?_
              refine y_iload Z dX5_hashKeyers_27 0 rfl ?_
              refine y_VI Z (k_X1_tellKeyer l D ht0 (fun k => aJ (1 + k)) (J 0) (nI i) 2) (y_cwV 2 Z ml_RX5_85 im_X1_tellKeyer se_X1_tellKeyer in_X1 co_X1_tellKeyer rfl rfl hd_X1_tellKeyer ⟨Nat.le_of_ble_eq_true rfl, Nat.le_of_ble_eq_true rfl⟩) [1, 2, 3, 4] rfl (by decide) 1 1 rfl rfl rfl rfl (Nat.le_of_ble_eq_true rfl) dX5_hashKeyers_29 ⟨Nat.le_of_ble_eq_true rfl, Nat.le_of_ble_eq_true rfl⟩ [(aJ 1), (aJ 2), (aJ 3), (aJ 4)] rfl rfl (wVM cI aJ J) rfl ?_
              refine y_SL Z (k_X5_hashed l D ht0 (hsF (hsF (it (hkS (J 0)) i h) (tellK (J 0) (nI i) 0)) (tellK (J 0) (nI i) 1)) (tellK (J 0) (nI i) 2)) (y_cwS 2 Z ml_RX5_200 st_X5_hashed in_X5 co_X5_hashed rfl rfl hs_X5_hashed ⟨Nat.le_of_ble_eq_true rfl, Nat.le_of_ble_eq_true rfl⟩) [] rfl (by decide) rfl rfl (Nat.le_of_ble_eq_true rfl) dX5_hashKeyers_32 ⟨Nat.le_of_ble_eq_true rfl, Nat.le_of_ble_eq_true rfl⟩ [] rfl rfl (wVM cI aJ J) rfl ?_
              refine y_lstore_n Z [(3, .long (hsF (hsF (hsF (it (hkS (J 0)) i h) (tellK (J 0) (nI i) 0)) (tellK (J 0) (nI i) 1)) (tellK (J 0) (nI i) 2))), (6, .int 2), (0, .ref (aJ 0)), (1, .long h), (5, .int (nI i))] dX5_hashKeyers_35 rfl (by decide) rfl ?_
              refine y_iinc Z [(6, .int 3), (3, .long (hsF (hsF (hsF (it (hkS (J 0)) i h) (tellK (J 0) (nI i) 0)) (tellK (J 0) (nI i) 1)) (tellK (J 0) (nI i) 2))), (0, .ref (aJ 0)), (1, .long h), (5, .int (nI i))] dX5_hashKeyers_36 1 rfl (by decide) (by decide) rfl ?_
              refine y_goto (tgt := 14) Z dX5_hashKeyers_39 (by decide) ?_
              refine y_iload Z dX5_hashKeyers_14 0 rfl ?_
              refine y_iconst (v := 3) Z dX5_hashKeyers_16 (by decide) ?_
              refine y_icmp_gt (tgt := 42) Z dX5_hashKeyers_17 (by decide) (fun h11 => ?_) (fun h12 => ?_)
              · exact absurd (show (3 : Int32) < 3 from h11) (by decide)
              · refine y_lload_n Z dX5_hashKeyers_20 1 rfl rfl ?_
                refine y_aload_n Z dX5_hashKeyers_21 2 rfl rfl ?_
                refine y_get (C := RX5) (T := TX5) (N := 8) Z 5 inlX5 rfl 0 rfl 0 (by decide) fl_RX5_10 rfl dX5_hashKeyers_22 ?_
                refine y_iload Z dX5_hashKeyers_25 4 rfl ?_
                refine y_iload Z dX5_hashKeyers_27 0 rfl ?_
                refine y_VI Z (k_X1_tellKeyer l D ht0 (fun k => aJ (1 + k)) (J 0) (nI i) 3) (y_cwV 2 Z ml_RX5_85 im_X1_tellKeyer se_X1_tellKeyer in_X1 co_X1_tellKeyer rfl rfl hd_X1_tellKeyer ⟨Nat.le_of_ble_eq_true rfl, Nat.le_of_ble_eq_true rfl⟩) [1, 2, 3, 4] rfl (by decide) 1 1 rfl rfl rfl rfl (Nat.le_of_ble_eq_true rfl) dX5_hashKeyers_29 ⟨Nat.le_of_ble_eq_true rfl, Nat.le_of_ble_eq_true rfl⟩ [(aJ 1), (aJ 2), (aJ 3), (aJ 4)] rfl rfl (wVM cI aJ J) rfl ?_
                refine y_SL Z (k_X5_hashed l D ht0 (hsF (hsF (hsF (it (hkS (J 0)) i h) (tellK (J 0) (nI i) 0)) (tellK (J 0) (nI i) 1)) (tellK (J 0) (nI i) 2)) (tellK (J 0) (nI i) 3)) (y_cwS 2 Z ml_RX5_200 st_X5_hashed in_X5 co_X5_hashed rfl rfl hs_X5_hashed ⟨Nat.le_of_ble_eq_true rfl, Nat.le_of_ble_eq_true rfl⟩) [] rfl (by decide) rfl rfl (Nat.le_of_ble_eq_true rfl) dX5_hashKeyers_32 ⟨Nat.le_of_ble_eq_true rfl, Nat.le_of_ble_eq_true rfl⟩ [] rfl rfl (wVM cI aJ J) rfl ?_
                refine y_lstore_n Z [(3, .long (hsF (hsF (hsF (hsF (it (hkS (J 0)) i h) (tellK (J 0) (nI i) 0)) (tellK (J 0) (nI i) 1)) (tellK (J 0) (nI i) 2)) (tellK (J 0) (nI i) 3))), (6, .int 3), (0, .ref (aJ 0)), (1, .long h), (5, .int (nI i))] dX5_hashKeyers_35 rfl (by decide) rfl ?_
                refine y_iinc Z [(6, .int 4), (3, .long (hsF (hsF (hsF (hsF (it (hkS (J 0)) i h) (tellK (J 0) (nI i) 0)) (tellK (J 0) (nI i) 1)) (tellK (J 0) (nI i) 2)) (tellK (J 0) (nI i) 3))), (0, .ref (aJ 0)), (1, .long h), (5, .int (nI i))] dX5_hashKeyers_36 1 rfl (by decide) (by decide) rfl ?_
                refine y_goto (tgt := 14) Z dX5_hashKeyers_39 (by decide) ?_
                refine y_iload Z dX5_hashKeyers_14 0 rfl ?_
                refine y_iconst (v := 3) Z dX5_hashKeyers_16 (by decide) ?_
                refine y_icmp_gt (tgt := 42) Z dX5_hashKeyers_17 (by decide) (fun h13 => ?_) (fun h14 => ?_)
                · refine y_iinc Z [(5, .int (nI (i + 1))), (6, .int 4), (3, .long (hsF (hsF (hsF (hsF (it (hkS (J 0)) i h) (tellK (J 0) (nI i) 0)) (tellK (J 0) (nI i) 1)) (tellK (J 0) (nI i) 2)) (tellK (J 0) (nI i) 3))), (0, .ref (aJ 0)), (1, .long h)] dX5_hashKeyers_42 4 rfl (nI_1 _) (by decide) rfl ?_
                  refine y_goto (tgt := 5) Z dX5_hashKeyers_45 (by decide) ?_
                  refine y_lv [3, 4, 2, 0] (lv' := [(0, .ref (aJ 0)), (1, .long h), (3, .long (hsF (hsF (hsF (hsF (it (hkS (J 0)) i h) (tellK (J 0) (nI i) 0)) (tellK (J 0) (nI i) 1)) (tellK (J 0) (nI i) 2)) (tellK (J 0) (nI i) 3))), (5, .int (nI (i + 1)))]) rfl ?_
                  refine y_eq (ws' := (wVM cI aJ J)) (lv' := [(0, .ref (aJ 0)), (1, .long h), (3, .long (it (hkS (J 0)) (i + 1) h)), (5, .int (nI (i + 1)))]) (st' := []) (by first | (simp only [it_s, hkS, h4, if_true, if_false, not_false_eq_true, not_true_eq_false, ↓reduceIte]; done) | (simp only [it_s, hkS, h4, if_true, if_false, not_false_eq_true, not_true_eq_false, ↓reduceIte, wMix, wLog, wPic, wRep, wScr, wVM, wMd, sR_eq, sR_ne, sF_eq, sF_ne, upd_eq, upd_ne, gs_eq, gs_ne, gm_4, gm_ne, Nat.reduceBEq]; done) | (with_reducible rfl) | contradiction | (simp only [it_s, hkS, h4, if_true, if_false, not_false_eq_true, not_true_eq_false, ↓reduceIte]; rfl) | rfl) (by first | (simp only [it_s, hkS, h4, if_true, if_false, not_false_eq_true, not_true_eq_false, ↓reduceIte]; done) | (simp only [it_s, hkS, h4, if_true, if_false, not_false_eq_true, not_true_eq_false, ↓reduceIte, wMix, wLog, wPic, wRep, wScr, wVM, wMd, sR_eq, sR_ne, sF_eq, sF_ne, upd_eq, upd_ne, gs_eq, gs_ne, gm_4, gm_ne, Nat.reduceBEq]; done) | (with_reducible rfl) | contradiction | (simp only [it_s, hkS, h4, if_true, if_false, not_false_eq_true, not_true_eq_false, ↓reduceIte]; rfl) | rfl) rfl ?_
                  exact ih (i + 1)  (by omega)
                · exact absurd (show ¬ (3 : Int32) < 4 from h14) (by decide)
  refine y_lload_n Z dX5_hashKeyers_0 1 rfl rfl ?_
  refine y_lstore_n Z [(3, .long h), (0, .ref (aJ 0)), (1, .long h)] dX5_hashKeyers_1 rfl (by decide) rfl ?_
  refine y_iconst (v := 0) Z dX5_hashKeyers_2 (by decide) ?_
  refine y_istore Z [(5, .int 0), (3, .long h), (0, .ref (aJ 0)), (1, .long h)] dX5_hashKeyers_3 (by decide) rfl ?_
  refine y_lv [2, 3, 1, 0] (lv' := [(0, .ref (aJ 0)), (1, .long h), (3, .long h), (5, .int 0)]) rfl ?_
  refine y_eq (ws' := (wVM cI aJ J)) (lv' := [(0, .ref (aJ 0)), (1, .long h), (3, .long (it (hkS (J 0)) 0 h)), (5, .int (nI 0))]) (st' := []) (by first | (simp only [it_0, if_true, if_false, not_false_eq_true, not_true_eq_false, ↓reduceIte]; done) | (simp only [it_0, if_true, if_false, not_false_eq_true, not_true_eq_false, ↓reduceIte, wMix, wLog, wPic, wRep, wScr, wVM, wMd, sR_eq, sR_ne, sF_eq, sF_ne, upd_eq, upd_ne, gs_eq, gs_ne, gm_4, gm_ne, Nat.reduceBEq]; done) | (with_reducible rfl) | contradiction | (simp only [it_0, if_true, if_false, not_false_eq_true, not_true_eq_false, ↓reduceIte]; rfl) | rfl) (by first | (simp only [it_0, if_true, if_false, not_false_eq_true, not_true_eq_false, ↓reduceIte]; done) | (simp only [it_0, if_true, if_false, not_false_eq_true, not_true_eq_false, ↓reduceIte, wMix, wLog, wPic, wRep, wScr, wVM, wMd, sR_eq, sR_ne, sF_eq, sF_ne, upd_eq, upd_ne, gs_eq, gs_ne, gm_4, gm_ne, Nat.reduceBEq]; done) | (with_reducible rfl) | contradiction | (simp only [it_0, if_true, if_false, not_false_eq_true, not_true_eq_false, ↓reduceIte]; rfl) | rfl) rfl ?_
  exact L5 3 0  (by omega)
set_option maxHeartbeats 4000000 in
set_option maxRecDepth 100000 in
theorem k_X5_hashActs (l : Launch) (D : va_G) {cI : ClassId} {tys : List (ClassId × FieldType)} (ht0 : tys[0]? = some (cI, .int)) (aJ : Nat → Nat) (J : Nat → Nat → Nat → Int32) (h : Int64) (h_stop : haC (J 3) (haX (J 3) h) = false) (sz : Nat) : kL l yX5_hashActs cX5_hashActs 7 (some .long) { frames := 2, cells := 0, slots := 0, locals := 43 } D tys [.ref (aJ 0), .long h] (wVM cI aJ J) (wVM cI aJ J) ((haX (J 3) h).1) 0 0 sz := by
  refine y_enterL (cc := cX5_hashActs) (maxL := 7) (ret := (some .long)) (own := RX5) (by decide) rfl (lv0 := [(0, .ref (aJ 0)), (1, .long h)]) rfl (Nat.le_of_ble_eq_true rfl) ?_
  intro p e s m args below meth c A Z hr hlk _
  have L5 : ∀ (n : Nat) (x : Int64 × Int32), (haC (J 3)) (lw (haC (J 3)) (haB (J 3)) n x) = false → lw (haC (J 3)) (haB (J 3)) n x = (lw (haC (J 3)) (haB (J 3)) 101 (h, 0)) → Yy p l e { frames := 2, cells := 0, slots := 0, locals := 43 } s m args below meth c (QL D tys A (wVM cI aJ J) ((haX (J 3) h).1) below args s 0 0) D A 7 0 0 (wVM cI aJ J) [(0, .ref (aJ 0)), (1, .long h), (3, .long x.1), (5, .int x.2)] [] 5 := by
    intro n; induction n with
    | zero =>
      intro x hc hx
      refine y_iload Z dX5_hashActs_5 3 rfl ?_
      refine y_aload_n Z dX5_hashActs_7 0 rfl rfl ?_
      refine y_get (C := RX5) (T := TX5) (N := 8) Z 5 inlX5 rfl 0 rfl 3 (by decide) fl_RX5_25 rfl dX5_hashActs_8 ?_
      refine y_VI Z (k_X0_size l D ht0 (fun k => aJ (13 + k)) (J 3)) (y_cwV 0 Z ml_RX5_160 im_X0_size se_X0_size in_X0 co_X0_size rfl rfl hd_X0_size ⟨Nat.le_of_ble_eq_true rfl, Nat.le_of_ble_eq_true rfl⟩) [13, 14] rfl (by decide) 0 13 rfl rfl rfl rfl (Nat.le_of_ble_eq_true rfl) dX5_hashActs_11 ⟨Nat.le_of_ble_eq_true rfl, Nat.le_of_ble_eq_true rfl⟩ [(aJ 13), (aJ 14)] rfl rfl (wVM cI aJ J) rfl ?_
      refine y_icmp_ge (tgt := 54) Z dX5_hashActs_14 (by decide) (fun h1 => ?_) (fun h2 => ?_)
      · have hb : (haC (J 3)) x = false := by simp only [haC, h1, ↓reduceIte]
        have ex : x = (lw (haC (J 3)) (haB (J 3)) 101 (h, 0)) := by rw [← hx, lw_f hb]
        refine y_lload_n Z dX5_hashActs_54 2 rfl rfl ?_
        exact y_retL Z hr hlk dX5_hashActs_55 (by subst ex; first | (simp only [haX, h1, if_true, if_false, not_false_eq_true, not_true_eq_false, ↓reduceIte]; done) | (simp only [haX, h1, if_true, if_false, not_false_eq_true, not_true_eq_false, ↓reduceIte, wMix, wLog, wPic, wRep, wScr, wVM, wMd, sR_eq, sR_ne, sF_eq, sF_ne, upd_eq, upd_ne, gs_eq, gs_ne, gm_4, gm_ne, Nat.reduceBEq]; done) | (with_reducible rfl) | contradiction | (simp only [haX, h1, if_true, if_false, not_false_eq_true, not_true_eq_false, ↓reduceIte]; rfl) | rfl) (by subst ex; first | (simp only [haX, h1, if_true, if_false, not_false_eq_true, not_true_eq_false, ↓reduceIte]; done) | (simp only [haX, h1, if_true, if_false, not_false_eq_true, not_true_eq_false, ↓reduceIte, wMix, wLog, wPic, wRep, wScr, wVM, wMd, sR_eq, sR_ne, sF_eq, sF_ne, upd_eq, upd_ne, gs_eq, gs_ne, gm_4, gm_ne, Nat.reduceBEq]; done) | (with_reducible rfl) | contradiction | (simp only [haX, h1, if_true, if_false, not_false_eq_true, not_true_eq_false, ↓reduceIte]; rfl) | rfl)
      · exact absurd (show (haC (J 3)) x = true by simp only [haC, h2, ↓reduceIte]) (by rw [show (haC (J 3)) x = false from hc]; decide)
    | succ n ih =>
      intro x hc hx
      refine y_iload Z dX5_hashActs_5 3 rfl ?_
      refine y_aload_n Z dX5_hashActs_7 0 rfl rfl ?_
      refine y_get (C := RX5) (T := TX5) (N := 8) Z 5 inlX5 rfl 0 rfl 3 (by decide) fl_RX5_25 rfl dX5_hashActs_8 ?_
      refine y_VI Z (k_X0_size l D ht0 (fun k => aJ (13 + k)) (J 3)) (y_cwV 0 Z ml_RX5_160 im_X0_size se_X0_size in_X0 co_X0_size rfl rfl hd_X0_size ⟨Nat.le_of_ble_eq_true rfl, Nat.le_of_ble_eq_true rfl⟩) [13, 14] rfl (by decide) 0 13 rfl rfl rfl rfl (Nat.le_of_ble_eq_true rfl) dX5_hashActs_11 ⟨Nat.le_of_ble_eq_true rfl, Nat.le_of_ble_eq_true rfl⟩ [(aJ 13), (aJ 14)] rfl rfl (wVM cI aJ J) rfl ?_
      refine y_icmp_ge (tgt := 54) Z dX5_hashActs_14 (by decide) (fun h3 => ?_) (fun h4 => ?_)
      · have hb : (haC (J 3)) x = false := by simp only [haC, h3, ↓reduceIte]
        have ex : x = (lw (haC (J 3)) (haB (J 3)) 101 (h, 0)) := by rw [← hx, lw_f hb]
        refine y_lload_n Z dX5_hashActs_54 2 rfl rfl ?_
        exact y_retL Z hr hlk dX5_hashActs_55 (by subst ex; first | (simp only [haX, h3, if_true, if_false, not_false_eq_true, not_true_eq_false, ↓reduceIte]; done) | (simp only [haX, h3, if_true, if_false, not_false_eq_true, not_true_eq_false, ↓reduceIte, wMix, wLog, wPic, wRep, wScr, wVM, wMd, sR_eq, sR_ne, sF_eq, sF_ne, upd_eq, upd_ne, gs_eq, gs_ne, gm_4, gm_ne, Nat.reduceBEq]; done) | (with_reducible rfl) | contradiction | (simp only [haX, h3, if_true, if_false, not_false_eq_true, not_true_eq_false, ↓reduceIte]; rfl) | rfl) (by subst ex; first | (simp only [haX, h3, if_true, if_false, not_false_eq_true, not_true_eq_false, ↓reduceIte]; done) | (simp only [haX, h3, if_true, if_false, not_false_eq_true, not_true_eq_false, ↓reduceIte, wMix, wLog, wPic, wRep, wScr, wVM, wMd, sR_eq, sR_ne, sF_eq, sF_ne, upd_eq, upd_ne, gs_eq, gs_ne, gm_4, gm_ne, Nat.reduceBEq]; done) | (with_reducible rfl) | contradiction | (simp only [haX, h3, if_true, if_false, not_false_eq_true, not_true_eq_false, ↓reduceIte]; rfl) | rfl)
      · have hb : (haC (J 3)) x = true := by simp only [haC, h4, ↓reduceIte]
        refine y_iconst (v := 0) Z dX5_hashActs_17 (by decide) ?_
        refine y_istore Z [(6, .int 0), (0, .ref (aJ 0)), (1, .long h), (3, .long x.1), (5, .int x.2)] dX5_hashActs_18 (by decide) rfl ?_
        refine y_iload Z dX5_hashActs_20 0 rfl ?_
        refine y_iconst (v := 3) Z dX5_hashActs_22 (by decide) ?_
        refine y_icmp_gt (tgt := 48) Z dX5_hashActs_23 (by decide) (fun h5 => ?_) (fun h6 => ?_)
        · exact absurd (show (3 : Int32) < 0 from h5) (by decide)
        · refine y_lload_n Z dX5_hashActs_26 3 rfl rfl ?_
          refine y_aload_n Z dX5_hashActs_27 1 rfl rfl ?_
          refine y_get (C := RX5) (T := TX5) (N := 8) Z 5 inlX5 rfl 0 rfl 3 (by decide) fl_RX5_25 rfl dX5_hashActs_28 ?_
          refine y_iload Z dX5_hashActs_31 4 rfl ?_
          refine y_iload Z dX5_hashActs_33 0 rfl ?_
          refine y_VI Z (k_X0_tell l D ht0 (fun k => aJ (13 + k)) (J 3) x.2 0) (y_cwV 2 Z ml_RX5_151 im_X0_tell se_X0_tell in_X0 co_X0_tell rfl rfl hd_X0_tell ⟨Nat.le_of_ble_eq_true rfl, Nat.le_of_ble_eq_true rfl⟩) [13, 14] rfl (by decide) 0 13 rfl rfl rfl rfl (Nat.le_of_ble_eq_true rfl) dX5_hashActs_35 ⟨Nat.le_of_ble_eq_true rfl, Nat.le_of_ble_eq_true rfl⟩ [(aJ 13), (aJ 14)] rfl rfl (wVM cI aJ J) rfl ?_
          refine y_SL Z (k_X5_hashed l D ht0 x.1 (lgT (J 3) x.2 0)) (y_cwS 2 Z ml_RX5_200 st_X5_hashed in_X5 co_X5_hashed rfl rfl hs_X5_hashed ⟨Nat.le_of_ble_eq_true rfl, Nat.le_of_ble_eq_true rfl⟩) [] rfl (by decide) rfl rfl (Nat.le_of_ble_eq_true rfl) dX5_hashActs_38 ⟨Nat.le_of_ble_eq_true rfl, Nat.le_of_ble_eq_true rfl⟩ [] rfl rfl (wVM cI aJ J) rfl ?_
          refine y_lstore_n Z [(3, .long (hsF x.1 (lgT (J 3) x.2 0))), (6, .int 0), (0, .ref (aJ 0)), (1, .long h), (5, .int x.2)] dX5_hashActs_41 rfl (by decide) rfl ?_
          refine y_iinc Z [(6, .int 1), (3, .long (hsF x.1 (lgT (J 3) x.2 0))), (0, .ref (aJ 0)), (1, .long h), (5, .int x.2)] dX5_hashActs_42 1 rfl (by decide) (by decide) rfl ?_
          refine y_goto (tgt := 20) Z dX5_hashActs_45 (by decide) ?_
          refine y_iload Z dX5_hashActs_20 0 rfl ?_
          refine y_iconst (v := 3) Z dX5_hashActs_22 (by decide) ?_
          refine y_icmp_gt (tgt := 48) Z dX5_hashActs_23 (by decide) (fun h7 => ?_) (fun h8 => ?_)
          · exact absurd (show (3 : Int32) < 1 from h7) (by decide)
          · refine y_lload_n Z dX5_hashActs_26 1 rfl rfl ?_
            refine y_aload_n Z dX5_hashActs_27 2 rfl rfl ?_
            refine y_get (C := RX5) (T := TX5) (N := 8) Z 5 inlX5 rfl 0 rfl 3 (by decide) fl_RX5_25 rfl dX5_hashActs_28 ?_
            refine y_iload Z dX5_hashActs_31 4 rfl ?_
            refine y_iload Z dX5_hashActs_33 0 rfl ?_
            refine y_VI Z (k_X0_tell l D ht0 (fun k => aJ (13 + k)) (J 3) x.2 1) (y_cwV 2 Z ml_RX5_151 im_X0_tell se_X0_tell in_X0 co_X0_tell rfl rfl hd_X0_tell ⟨Nat.le_of_ble_eq_true rfl, Nat.le_of_ble_eq_true rfl⟩) [13, 14] rfl (by decide) 0 13 rfl rfl rfl rfl (Nat.le_of_ble_eq_true rfl) dX5_hashActs_35 ⟨Nat.le_of_ble_eq_true rfl, Nat.le_of_ble_eq_true rfl⟩ [(aJ 13), (aJ 14)] rfl rfl (wVM cI aJ J) rfl ?_
            refine y_SL Z (k_X5_hashed l D ht0 (hsF x.1 (lgT (J 3) x.2 0)) (lgT (J 3) x.2 1)) (y_cwS 2 Z ml_RX5_200 st_X5_hashed in_X5 co_X5_hashed rfl rfl hs_X5_hashed ⟨Nat.le_of_ble_eq_true rfl, Nat.le_of_ble_eq_true rfl⟩) [] rfl (by decide) rfl rfl (Nat.le_of_ble_eq_true rfl) dX5_hashActs_38 ⟨Nat.le_of_ble_eq_true rfl, Nat.le_of_ble_eq_true rfl⟩ [] rfl rfl (wVM cI aJ J) rfl ?_
            refine y_lstore_n Z [(3, .long (hsF (hsF x.1 (lgT (J 3) x.2 0)) (lgT (J 3) x.2 1))), (6, .int 1), (0, .ref (aJ 0)), (1, .long h), (5, .int x.2)] dX5_hashActs_41 rfl (by decide) rfl ?_
            refine y_iinc Z [(6, .int 2), (3, .long (hsF (hsF x.1 (lgT (J 3) x.2 0)) (lgT (J 3) x.2 1))), (0, .ref (aJ 0)), (1, .long h), (5, .int x.2)] dX5_hashActs_42 1 rfl (by decide) (by decide) rfl ?_
            refine y_goto (tgt := 20) Z dX5_hashActs_45 (by decide) ?_
            refine y_iload Z dX5_hashActs_20 0 rfl ?_
            refine y_iconst (v := 3) Z dX5_hashActs_22 (by decide) ?_
            refine y_icmp_gt (tgt := 48) Z dX5_hashActs_23 (by decide) (fun h9 => ?_) (fun h10 => ?_)
            · exact absurd (show (3 : Int32) < 2 from h9) (by decide)
            · refine y_lload_n Z dX5_hashActs_26 1 rfl rfl ?_
              refine y_aload_n Z dX5_hashActs_27 2 rfl rfl ?_
              refine y_get (C := RX5) (T := TX5) (N := 8) Z 5 inlX5 rfl 0 rfl 3 (by decide) fl_RX5_25 rfl dX5_hashActs_28 ?_
              refine y_iload Z dX5_hashActs_31 4 rfl ?_
              refine y_iload Z dX5_hashActs_33 0 rfl ?_
              refine y_VI Z (k_X0_tell l D ht0 (fun k => aJ (13 + k)) (J 3) x.2 2) (y_cwV 2 Z ml_RX5_151 im_X0_tell se_X0_tell in_X0 co_X0_tell rfl rfl hd_X0_tell ⟨Nat.le_of_ble_eq_true rfl, Nat.le_of_ble_eq_true rfl⟩) [13, 14] rfl (by decide) 0 13 rfl rfl rfl rfl (Nat.le_of_ble_eq_true rfl) dX5_hashActs_35 ⟨Nat.le_of_ble_eq_true rfl, Nat.le_of_ble_eq_true rfl⟩ [(aJ 13), (aJ 14)] rfl rfl (wVM cI aJ J) rfl ?_
              refine y_SL Z (k_X5_hashed l D ht0 (hsF (hsF x.1 (lgT (J 3) x.2 0)) (lgT (J 3) x.2 1)) (lgT (J 3) x.2 2)) (y_cwS 2 Z ml_RX5_200 st_X5_hashed in_X5 co_X5_hashed rfl rfl hs_X5_hashed ⟨Nat.le_of_ble_eq_true rfl, Nat.le_of_ble_eq_true rfl⟩) [] rfl (by decide) rfl rfl (Nat.le_of_ble_eq_true rfl) dX5_hashActs_38 ⟨Nat.le_of_ble_eq_true rfl, Nat.le_of_ble_eq_true rfl⟩ [] rfl rfl (wVM cI aJ J) rfl ?_
              refine y_lstore_n Z [(3, .long (hsF (hsF (hsF x.1 (lgT (J 3) x.2 0)) (lgT (J 3) x.2 1)) (lgT (J 3) x.2 2))), (6, .int 2), (0, .ref (aJ 0)), (1, .long h), (5, .int x.2)] dX5_hashActs_41 rfl (by decide) rfl ?_
              refine y_iinc Z [(6, .int 3), (3, .long (hsF (hsF (hsF x.1 (lgT (J 3) x.2 0)) (lgT (J 3) x.2 1)) (lgT (J 3) x.2 2))), (0, .ref (aJ 0)), (1, .long h), (5, .int x.2)] dX5_hashActs_42 1 rfl (by decide) (by decide) rfl ?_
              refine y_goto (tgt := 20) Z dX5_hashActs_45 (by decide) ?_
              refine y_iload Z dX5_hashActs_20 0 rfl ?_
              refine y_iconst (v := 3) Z dX5_hashActs_22 (by decide) ?_
              refine y_icmp_gt (tgt := 48) Z dX5_hashActs_23 (by decide) (fun h11 => ?_) (fun h12 => ?_)
              · exact absurd (show (3 : Int32) < 3 from h11) (by decide)
              · refine y_lload_n Z dX5_hashActs_26 1 rfl rfl ?_
                refine y_aload_n Z dX5_hashActs_27 2 rfl rfl ?_
                refine y_get (C := RX5) (T := TX5) (N := 8) Z 5 inlX5 rfl 0 rfl 3 (by decide) fl_RX5_25 rfl dX5_hashActs_28 ?_
                refine y_iload Z dX5_hashActs_31 4 rfl ?_
                refine y_iload Z dX5_hashActs_33 0 rfl ?_
                refine y_VI Z (k_X0_tell l D ht0 (fun k => aJ (13 + k)) (J 3) x.2 3) (y_cwV 2 Z ml_RX5_151 im_X0_tell se_X0_tell in_X0 co_X0_tell rfl rfl hd_X0_tell ⟨Nat.le_of_ble_eq_true rfl, Nat.le_of_ble_eq_true rfl⟩) [13, 14] rfl (by decide) 0 13 rfl rfl rfl rfl (Nat.le_of_ble_eq_true rfl) dX5_hashActs_35 ⟨Nat.le_of_ble_eq_true rfl, Nat.le_of_ble_eq_true rfl⟩ [(aJ 13), (aJ 14)] rfl rfl (wVM cI aJ J) rfl ?_
                refine y_SL Z (k_X5_hashed l D ht0 (hsF (hsF (hsF x.1 (lgT (J 3) x.2 0)) (lgT (J 3) x.2 1)) (lgT (J 3) x.2 2)) (lgT (J 3) x.2 3)) (y_cwS 2 Z ml_RX5_200 st_X5_hashed in_X5 co_X5_hashed rfl rfl hs_X5_hashed ⟨Nat.le_of_ble_eq_true rfl, Nat.le_of_ble_eq_true rfl⟩) [] rfl (by decide) rfl rfl (Nat.le_of_ble_eq_true rfl) dX5_hashActs_38 ⟨Nat.le_of_ble_eq_true rfl, Nat.le_of_ble_eq_true rfl⟩ [] rfl rfl (wVM cI aJ J) rfl ?_
                refine y_lstore_n Z [(3, .long (hsF (hsF (hsF (hsF x.1 (lgT (J 3) x.2 0)) (lgT (J 3) x.2 1)) (lgT (J 3) x.2 2)) (lgT (J 3) x.2 3))), (6, .int 3), (0, .ref (aJ 0)), (1, .long h), (5, .int x.2)] dX5_hashActs_41 rfl (by decide) rfl ?_
                refine y_iinc Z [(6, .int 4), (3, .long (hsF (hsF (hsF (hsF x.1 (lgT (J 3) x.2 0)) (lgT (J 3) x.2 1)) (lgT (J 3) x.2 2)) (lgT (J 3) x.2 3))), (0, .ref (aJ 0)), (1, .long h), (5, .int x.2)] dX5_hashActs_42 1 rfl (by decide) (by decide) rfl ?_
                refine y_goto (tgt := 20) Z dX5_hashActs_45 (by decide) ?_
                refine y_iload Z dX5_hashActs_20 0 rfl ?_
                refine y_iconst (v := 3) Z dX5_hashActs_22 (by decide) ?_
                refine y_icmp_gt (tgt := 48) Z dX5_hashActs_23 (by decide) (fun h13 => ?_) (fun h14 => ?_)
                · refine y_iinc Z [(5, .int (x.2 + 1)), (6, .int 4), (3, .long (hsF (hsF (hsF (hsF x.1 (lgT (J 3) x.2 0)) (lgT (J 3) x.2 1)) (lgT (J 3) x.2 2)) (lgT (J 3) x.2 3))), (0, .ref (aJ 0)), (1, .long h)] dX5_hashActs_48 4 rfl rfl (by decide) rfl ?_
                  refine y_goto (tgt := 5) Z dX5_hashActs_51 (by decide) ?_
                  refine y_lv [3, 4, 2, 0] (lv' := [(0, .ref (aJ 0)), (1, .long h), (3, .long (hsF (hsF (hsF (hsF x.1 (lgT (J 3) x.2 0)) (lgT (J 3) x.2 1)) (lgT (J 3) x.2 2)) (lgT (J 3) x.2 3))), (5, .int (x.2 + 1))]) rfl ?_
                  refine y_eq (ws' := (wVM cI aJ J)) (lv' := [(0, .ref (aJ 0)), (1, .long h), (3, .long (((haB (J 3)) x).1)), (5, .int (((haB (J 3)) x).2))]) (st' := []) (by first | (simp only [haB, h4, if_true, if_false, not_false_eq_true, not_true_eq_false, ↓reduceIte]; done) | (simp only [haB, h4, if_true, if_false, not_false_eq_true, not_true_eq_false, ↓reduceIte, wMix, wLog, wPic, wRep, wScr, wVM, wMd, sR_eq, sR_ne, sF_eq, sF_ne, upd_eq, upd_ne, gs_eq, gs_ne, gm_4, gm_ne, Nat.reduceBEq]; done) | (with_reducible rfl) | contradiction | (simp only [haB, h4, if_true, if_false, not_false_eq_true, not_true_eq_false, ↓reduceIte]; rfl) | rfl) (by first | (simp only [haB, h4, if_true, if_false, not_false_eq_true, not_true_eq_false, ↓reduceIte]; done) | (simp only [haB, h4, if_true, if_false, not_false_eq_true, not_true_eq_false, ↓reduceIte, wMix, wLog, wPic, wRep, wScr, wVM, wMd, sR_eq, sR_ne, sF_eq, sF_ne, upd_eq, upd_ne, gs_eq, gs_ne, gm_4, gm_ne, Nat.reduceBEq]; done) | (with_reducible rfl) | contradiction | (simp only [haB, h4, if_true, if_false, not_false_eq_true, not_true_eq_false, ↓reduceIte]; rfl) | rfl) rfl ?_
                  exact ih _  (by rw [lw_t hb] at hc; exact hc) (by rw [lw_t hb] at hx; exact hx)
                · exact absurd (show ¬ (3 : Int32) < 4 from h14) (by decide)
  refine y_lload_n Z dX5_hashActs_0 1 rfl rfl ?_
  refine y_lstore_n Z [(3, .long h), (0, .ref (aJ 0)), (1, .long h)] dX5_hashActs_1 rfl (by decide) rfl ?_
  refine y_iconst (v := 0) Z dX5_hashActs_2 (by decide) ?_
  refine y_istore Z [(5, .int 0), (3, .long h), (0, .ref (aJ 0)), (1, .long h)] dX5_hashActs_3 (by decide) rfl ?_
  refine y_lv [2, 3, 1, 0] (lv' := [(0, .ref (aJ 0)), (1, .long h), (3, .long h), (5, .int 0)]) rfl ?_
  exact L5 101 (h, 0)  h_stop rfl
set_option maxHeartbeats 4000000 in
set_option maxRecDepth 100000 in
theorem k_X5_digest (l : Launch) (D : va_G) {cI : ClassId} {tys : List (ClassId × FieldType)} (ht0 : tys[0]? = some (cI, .int)) (aJ : Nat → Nat) (J : Nat → Nat → Nat → Int32) (h_stop : haC (J 3) (haX (J 3) (dgH J)) = false) (sz : Nat) : kL l yX5_digest cX5_digest 4 (some .long) { frames := 6, cells := 0, slots := 0, locals := 136 } D tys [.ref (aJ 0)] (wVM cI aJ J) (wVM cI aJ (vm_tal J)) ((haX (J 3) (dgH J)).1) 0 0 sz := by
  refine y_enterL (cc := cX5_digest) (maxL := 4) (ret := (some .long)) (own := RX5) (by decide) rfl (lv0 := [(0, .ref (aJ 0))]) rfl (Nat.le_of_ble_eq_true rfl) ?_
  intro p e s m args below meth c A Z hr hlk _
  refine y_ldc2 Z (3253) ct_RX5_197 dX5_digest_0 ?_
  refine y_aload_n Z dX5_digest_3 0 rfl rfl ?_
  refine y_get (C := RX5) (T := TX5) (N := 8) Z 5 inlX5 rfl 0 rfl 7 (by decide) fl_RX5_49 rfl dX5_digest_4 ?_
  refine y_VI Z (k_X4_size l D ht0 (fun k => aJ (24 + k)) (J 7)) (y_cwV 0 Z ml_RX5_199 im_X4_size se_X4_size in_X4 co_X4_size rfl rfl hd_X4_size ⟨Nat.le_of_ble_eq_true rfl, Nat.le_of_ble_eq_true rfl⟩) [24, 25, 26] rfl (by decide) 4 24 rfl rfl rfl rfl (Nat.le_of_ble_eq_true rfl) dX5_digest_7 ⟨Nat.le_of_ble_eq_true rfl, Nat.le_of_ble_eq_true rfl⟩ [(aJ 24), (aJ 25), (aJ 26)] rfl rfl (wVM cI aJ J) rfl ?_
  refine y_SL Z (k_X5_hashed l D ht0 3253 ((J 7) 0 0)) (y_cwS 2 Z ml_RX5_200 st_X5_hashed in_X5 co_X5_hashed rfl rfl hs_X5_hashed ⟨Nat.le_of_ble_eq_true rfl, Nat.le_of_ble_eq_true rfl⟩) [] rfl (by decide) rfl rfl (Nat.le_of_ble_eq_true rfl) dX5_digest_10 ⟨Nat.le_of_ble_eq_true rfl, Nat.le_of_ble_eq_true rfl⟩ [] rfl rfl (wVM cI aJ J) rfl ?_
  refine y_lstore_n Z [(1, .long (hsF 3253 ((J 7) 0 0))), (0, .ref (aJ 0))] dX5_digest_13 rfl (by decide) rfl ?_
  refine y_iconst (v := 0) Z dX5_digest_14 (by decide) ?_
  refine y_istore_n Z [(3, .int 0), (1, .long (hsF 3253 ((J 7) 0 0))), (0, .ref (aJ 0))] dX5_digest_15 rfl (by decide) rfl ?_
  refine y_iload_n Z dX5_digest_16 0 rfl rfl ?_
  refine y_bipush (v := 8) Z dX5_digest_17 (by decide) ?_
  refine y_icmp_gt (tgt := 38) Z dX5_digest_19 (by decide) (fun h1 => ?_) (fun h2 => ?_)
  · exact absurd (show (8 : Int32) < 0 from h1) (by decide)
  · refine y_lload_n Z dX5_digest_22 1 rfl rfl ?_
    refine y_aload_n Z dX5_digest_23 2 rfl rfl ?_
    refine y_iload_n Z dX5_digest_24 0 rfl rfl ?_
    refine y_VIw Z (k_X5_presentSetting l D ht0 aJ J 0) (y_cwV 1 Z ml_RX5_81 im_X5_presentSetting se_X5_presentSetting in_X5 co_X5_presentSetting rfl rfl hd_X5_presentSetting ⟨Nat.le_of_ble_eq_true rfl, Nat.le_of_ble_eq_true rfl⟩) List.nil List.nil (by simp only [List.nil_append, List.append_nil, wMix, wLog, wPic, wRep, wScr, wVM, wMd, sR_eq, sR_ne, sF_eq, sF_ne, upd_eq, upd_ne, gs_eq, gs_ne, gm_4, gm_ne, Nat.reduceBEq]) 5 0 rfl rfl rfl rfl (Nat.le_of_ble_eq_true rfl) dX5_digest_25 ⟨Nat.le_of_ble_eq_true rfl, Nat.le_of_ble_eq_true rfl⟩ (wVM cI aJ J) (by simp only [List.nil_append, List.append_nil, wMix, wLog, wPic, wRep, wScr, wVM, wMd, sR_eq, sR_ne, sF_eq, sF_ne, upd_eq, upd_ne, gs_eq, gs_ne, gm_4, gm_ne, Nat.reduceBEq]) ?_
    refine y_SL Z (k_X5_hashed l D ht0 (hsF 3253 ((J 7) 0 0)) (psF J 0)) (y_cwS 2 Z ml_RX5_200 st_X5_hashed in_X5 co_X5_hashed rfl rfl hs_X5_hashed ⟨Nat.le_of_ble_eq_true rfl, Nat.le_of_ble_eq_true rfl⟩) [] rfl (by decide) rfl rfl (Nat.le_of_ble_eq_true rfl) dX5_digest_28 ⟨Nat.le_of_ble_eq_true rfl, Nat.le_of_ble_eq_true rfl⟩ [] rfl rfl (wVM cI aJ J) rfl ?_
    refine y_lstore_n Z [(1, .long (hsF (hsF 3253 ((J 7) 0 0)) (psF J 0))), (3, .int 0), (0, .ref (aJ 0))] dX5_digest_31 rfl (by decide) rfl ?_
    refine y_iinc Z [(3, .int 1), (1, .long (hsF (hsF 3253 ((J 7) 0 0)) (psF J 0))), (0, .ref (aJ 0))] dX5_digest_32 1 rfl (by decide) (by decide) rfl ?_
    refine y_goto (tgt := 16) Z dX5_digest_35 (by decide) ?_
    refine y_iload_n Z dX5_digest_16 0 rfl rfl ?_
    refine y_bipush (v := 8) Z dX5_digest_17 (by decide) ?_
    refine y_icmp_gt (tgt := 38) Z dX5_digest_19 (by decide) (fun h3 => ?_) (fun h4 => ?_)
    · exact absurd (show (8 : Int32) < 1 from h3) (by decide)
    · refine y_lload_n Z dX5_digest_22 1 rfl rfl ?_
      refine y_aload_n Z dX5_digest_23 2 rfl rfl ?_
      refine y_iload_n Z dX5_digest_24 0 rfl rfl ?_
      refine y_VIw Z (k_X5_presentSetting l D ht0 aJ J 1) (y_cwV 1 Z ml_RX5_81 im_X5_presentSetting se_X5_presentSetting in_X5 co_X5_presentSetting rfl rfl hd_X5_presentSetting ⟨Nat.le_of_ble_eq_true rfl, Nat.le_of_ble_eq_true rfl⟩) List.nil List.nil (by simp only [List.nil_append, List.append_nil, wMix, wLog, wPic, wRep, wScr, wVM, wMd, sR_eq, sR_ne, sF_eq, sF_ne, upd_eq, upd_ne, gs_eq, gs_ne, gm_4, gm_ne, Nat.reduceBEq]) 5 0 rfl rfl rfl rfl (Nat.le_of_ble_eq_true rfl) dX5_digest_25 ⟨Nat.le_of_ble_eq_true rfl, Nat.le_of_ble_eq_true rfl⟩ (wVM cI aJ J) (by simp only [List.nil_append, List.append_nil, wMix, wLog, wPic, wRep, wScr, wVM, wMd, sR_eq, sR_ne, sF_eq, sF_ne, upd_eq, upd_ne, gs_eq, gs_ne, gm_4, gm_ne, Nat.reduceBEq]) ?_
      refine y_SL Z (k_X5_hashed l D ht0 (hsF (hsF 3253 ((J 7) 0 0)) (psF J 0)) (psF J 1)) (y_cwS 2 Z ml_RX5_200 st_X5_hashed in_X5 co_X5_hashed rfl rfl hs_X5_hashed ⟨Nat.le_of_ble_eq_true rfl, Nat.le_of_ble_eq_true rfl⟩) [] rfl (by decide) rfl rfl (Nat.le_of_ble_eq_true rfl) dX5_digest_28 ⟨Nat.le_of_ble_eq_true rfl, Nat.le_of_ble_eq_true rfl⟩ [] rfl rfl (wVM cI aJ J) rfl ?_
      refine y_lstore_n Z [(1, .long (hsF (hsF (hsF 3253 ((J 7) 0 0)) (psF J 0)) (psF J 1))), (3, .int 1), (0, .ref (aJ 0))] dX5_digest_31 rfl (by decide) rfl ?_
      refine y_iinc Z [(3, .int 2), (1, .long (hsF (hsF (hsF 3253 ((J 7) 0 0)) (psF J 0)) (psF J 1))), (0, .ref (aJ 0))] dX5_digest_32 1 rfl (by decide) (by decide) rfl ?_
      refine y_goto (tgt := 16) Z dX5_digest_35 (by decide) ?_
      refine y_iload_n Z dX5_digest_16 0 rfl rfl ?_
      refine y_bipush (v := 8) Z dX5_digest_17 (by decide) ?_
      refine y_icmp_gt (tgt := 38) Z dX5_digest_19 (by decide) (fun h5 => ?_) (fun h6 => ?_)
      · exact absurd (show (8 : Int32) < 2 from h5) (by decide)
      · refine y_lload_n Z dX5_digest_22 1 rfl rfl ?_
        refine y_aload_n Z dX5_digest_23 2 rfl rfl ?_
        refine y_iload_n Z dX5_digest_24 0 rfl rfl ?_
        refine y_VIw Z (k_X5_presentSetting l D ht0 aJ J 2) (y_cwV 1 Z ml_RX5_81 im_X5_presentSetting se_X5_presentSetting in_X5 co_X5_presentSetting rfl rfl hd_X5_presentSetting ⟨Nat.le_of_ble_eq_true rfl, Nat.le_of_ble_eq_true rfl⟩) List.nil List.nil (by simp only [List.nil_append, List.append_nil, wMix, wLog, wPic, wRep, wScr, wVM, wMd, sR_eq, sR_ne, sF_eq, sF_ne, upd_eq, upd_ne, gs_eq, gs_ne, gm_4, gm_ne, Nat.reduceBEq]) 5 0 rfl rfl rfl rfl (Nat.le_of_ble_eq_true rfl) dX5_digest_25 ⟨Nat.le_of_ble_eq_true rfl, Nat.le_of_ble_eq_true rfl⟩ (wVM cI aJ J) (by simp only [List.nil_append, List.append_nil, wMix, wLog, wPic, wRep, wScr, wVM, wMd, sR_eq, sR_ne, sF_eq, sF_ne, upd_eq, upd_ne, gs_eq, gs_ne, gm_4, gm_ne, Nat.reduceBEq]) ?_
        refine y_SL Z (k_X5_hashed l D ht0 (hsF (hsF (hsF 3253 ((J 7) 0 0)) (psF J 0)) (psF J 1)) (psF J 2)) (y_cwS 2 Z ml_RX5_200 st_X5_hashed in_X5 co_X5_hashed rfl rfl hs_X5_hashed ⟨Nat.le_of_ble_eq_true rfl, Nat.le_of_ble_eq_true rfl⟩) [] rfl (by decide) rfl rfl (Nat.le_of_ble_eq_true rfl) dX5_digest_28 ⟨Nat.le_of_ble_eq_true rfl, Nat.le_of_ble_eq_true rfl⟩ [] rfl rfl (wVM cI aJ J) rfl ?_
        refine y_lstore_n Z [(1, .long (hsF (hsF (hsF (hsF 3253 ((J 7) 0 0)) (psF J 0)) (psF J 1)) (psF J 2))), (3, .int 2), (0, .ref (aJ 0))] dX5_digest_31 rfl (by decide) rfl ?_
        refine y_iinc Z [(3, .int 3), (1, .long (hsF (hsF (hsF (hsF 3253 ((J 7) 0 0)) (psF J 0)) (psF J 1)) (psF J 2))), (0, .ref (aJ 0))] dX5_digest_32 1 rfl (by decide) (by decide) rfl ?_
        refine y_goto (tgt := 16) Z dX5_digest_35 (by decide) ?_
        refine y_iload_n Z dX5_digest_16 0 rfl rfl ?_
        refine y_bipush (v := 8) Z dX5_digest_17 (by decide) ?_
        refine y_icmp_gt (tgt := 38) Z dX5_digest_19 (by decide) (fun h7 => ?_) (fun h8 => ?_)
        · exact absurd (show (8 : Int32) < 3 from h7) (by decide)
        · refine y_lload_n Z dX5_digest_22 1 rfl rfl ?_
          refine y_aload_n Z dX5_digest_23 2 rfl rfl ?_
          refine y_iload_n Z dX5_digest_24 0 rfl rfl ?_
          refine y_VIw Z (k_X5_presentSetting l D ht0 aJ J 3) (y_cwV 1 Z ml_RX5_81 im_X5_presentSetting se_X5_presentSetting in_X5 co_X5_presentSetting rfl rfl hd_X5_presentSetting ⟨Nat.le_of_ble_eq_true rfl, Nat.le_of_ble_eq_true rfl⟩) List.nil List.nil (by simp only [List.nil_append, List.append_nil, wMix, wLog, wPic, wRep, wScr, wVM, wMd, sR_eq, sR_ne, sF_eq, sF_ne, upd_eq, upd_ne, gs_eq, gs_ne, gm_4, gm_ne, Nat.reduceBEq]) 5 0 rfl rfl rfl rfl (Nat.le_of_ble_eq_true rfl) dX5_digest_25 ⟨Nat.le_of_ble_eq_true rfl, Nat.le_of_ble_eq_true rfl⟩ (wVM cI aJ J) (by simp only [List.nil_append, List.append_nil, wMix, wLog, wPic, wRep, wScr, wVM, wMd, sR_eq, sR_ne, sF_eq, sF_ne, upd_eq, upd_ne, gs_eq, gs_ne, gm_4, gm_ne, Nat.reduceBEq]) ?_
          refine y_SL Z (k_X5_hashed l D ht0 (hsF (hsF (hsF (hsF 3253 ((J 7) 0 0)) (psF J 0)) (psF J 1)) (psF J 2)) (psF J 3)) (y_cwS 2 Z ml_RX5_200 st_X5_hashed in_X5 co_X5_hashed rfl rfl hs_X5_hashed ⟨Nat.le_of_ble_eq_true rfl, Nat.le_of_ble_eq_true rfl⟩) [] rfl (by decide) rfl rfl (Nat.le_of_ble_eq_true rfl) dX5_digest_28 ⟨Nat.le_of_ble_eq_true rfl, Nat.le_of_ble_eq_true rfl⟩ [] rfl rfl (wVM cI aJ J) rfl ?_
          refine y_lstore_n Z [(1, .long (hsF (hsF (hsF (hsF (hsF 3253 ((J 7) 0 0)) (psF J 0)) (psF J 1)) (psF J 2)) (psF J 3))), (3, .int 3), (0, .ref (aJ 0))] dX5_digest_31 rfl (by decide) rfl ?_
          refine y_iinc Z [(3, .int 4), (1, .long (hsF (hsF (hsF (hsF (hsF 3253 ((J 7) 0 0)) (psF J 0)) (psF J 1)) (psF J 2)) (psF J 3))), (0, .ref (aJ 0))] dX5_digest_32 1 rfl (by decide) (by decide) rfl ?_
          refine y_goto (tgt := 16) Z dX5_digest_35 (by decide) ?_
          refine y_iload_n Z dX5_digest_16 0 rfl rfl ?_
          refine y_bipush (v := 8) Z dX5_digest_17 (by decide) ?_
          refine y_icmp_gt (tgt := 38) Z dX5_digest_19 (by decide) (fun h9 => ?_) (fun h10 => ?_)
          · exact absurd (show (8 : Int32) < 4 from h9) (by decide)
          · refine y_lload_n Z dX5_digest_22 1 rfl rfl ?_
            refine y_aload_n Z dX5_digest_23 2 rfl rfl ?_
            refine y_iload_n Z dX5_digest_24 0 rfl rfl ?_
            refine y_VIw Z (k_X5_presentSetting l D ht0 aJ J 4) (y_cwV 1 Z ml_RX5_81 im_X5_presentSetting se_X5_presentSetting in_X5 co_X5_presentSetting rfl rfl hd_X5_presentSetting ⟨Nat.le_of_ble_eq_true rfl, Nat.le_of_ble_eq_true rfl⟩) List.nil List.nil (by simp only [List.nil_append, List.append_nil, wMix, wLog, wPic, wRep, wScr, wVM, wMd, sR_eq, sR_ne, sF_eq, sF_ne, upd_eq, upd_ne, gs_eq, gs_ne, gm_4, gm_ne, Nat.reduceBEq]) 5 0 rfl rfl rfl rfl (Nat.le_of_ble_eq_true rfl) dX5_digest_25 ⟨Nat.le_of_ble_eq_true rfl, Nat.le_of_ble_eq_true rfl⟩ (wVM cI aJ J) (by simp only [List.nil_append, List.append_nil, wMix, wLog, wPic, wRep, wScr, wVM, wMd, sR_eq, sR_ne, sF_eq, sF_ne, upd_eq, upd_ne, gs_eq, gs_ne, gm_4, gm_ne, Nat.reduceBEq]) ?_
            refine y_SL Z (k_X5_hashed l D ht0 (hsF (hsF (hsF (hsF (hsF 3253 ((J 7) 0 0)) (psF J 0)) (psF J 1)) (psF J 2)) (psF J 3)) (psF J 4)) (y_cwS 2 Z ml_RX5_200 st_X5_hashed in_X5 co_X5_hashed rfl rfl hs_X5_hashed ⟨Nat.le_of_ble_eq_true rfl, Nat.le_of_ble_eq_true rfl⟩) [] rfl (by decide) rfl rfl (Nat.le_of_ble_eq_true rfl) dX5_digest_28 ⟨Nat.le_of_ble_eq_true rfl, Nat.le_of_ble_eq_true rfl⟩ [] rfl rfl (wVM cI aJ J) rfl ?_
            refine y_lstore_n Z [(1, .long (hsF (hsF (hsF (hsF (hsF (hsF 3253 ((J 7) 0 0)) (psF J 0)) (psF J 1)) (psF J 2)) (psF J 3)) (psF J 4))), (3, .int 4), (0, .ref (aJ 0))] dX5_digest_31 rfl (by decide) rfl ?_
            refine y_iinc Z [(3, .int 5), (1, .long (hsF (hsF (hsF (hsF (hsF (hsF 3253 ((J 7) 0 0)) (psF J 0)) (psF J 1)) (psF J 2)) (psF J 3)) (psF J 4))), (0, .ref (aJ 0))] dX5_digest_32 1 rfl (by decide) (by decide) rfl ?_
            refine y_goto (tgt := 16) Z dX5_digest_35 (by decide) ?_
            refine y_iload_n Z dX5_digest_16 0 rfl rfl ?_
            refine y_bipush (v := 8) Z dX5_digest_17 (by decide) ?_
            refine y_icmp_gt (tgt := 38) Z dX5_digest_19 (by decide) (fun h11 => ?_) (fun h12 => ?_)
            · exact absurd (show (8 : Int32) < 5 from h11) (by decide)
            · refine y_lload_n Z dX5_digest_22 1 rfl rfl ?_
              refine y_aload_n Z dX5_digest_23 2 rfl rfl ?_
              refine y_iload_n Z dX5_digest_24 0 rfl rfl ?_
              refine y_VIw Z (k_X5_presentSetting l D ht0 aJ J 5) (y_cwV 1 Z ml_RX5_81 im_X5_presentSetting se_X5_presentSetting in_X5 co_X5_presentSetting rfl rfl hd_X5_presentSetting ⟨Nat.le_of_ble_eq_true rfl, Nat.le_of_ble_eq_true rfl⟩) List.nil List.nil (by simp only [List.nil_append, List.append_nil, wMix, wLog, wPic, wRep, wScr, wVM, wMd, sR_eq, sR_ne, sF_eq, sF_ne, upd_eq, upd_ne, gs_eq, gs_ne, gm_4, gm_ne, Nat.reduceBEq]) 5 0 rfl rfl rfl rfl (Nat.le_of_ble_eq_true rfl) dX5_digest_25 ⟨Nat.le_of_ble_eq_true rfl, Nat.le_of_ble_eq_true rfl⟩ (wVM cI aJ J) (by simp only [List.nil_append, List.append_nil, wMix, wLog, wPic, wRep, wScr, wVM, wMd, sR_eq, sR_ne, sF_eq, sF_ne, upd_eq, upd_ne, gs_eq, gs_ne, gm_4, gm_ne, Nat.reduceBEq]) ?_
              refine y_SL Z (k_X5_hashed l D ht0 (hsF (hsF (hsF (hsF (hsF (hsF 3253 ((J 7) 0 0)) (psF J 0)) (psF J 1)) (psF J 2)) (psF J 3)) (psF J 4)) (psF J 5)) (y_cwS 2 Z ml_RX5_200 st_X5_hashed in_X5 co_X5_hashed rfl rfl hs_X5_hashed ⟨Nat.le_of_ble_eq_true rfl, Nat.le_of_ble_eq_true rfl⟩) [] rfl (by decide) rfl rfl (Nat.le_of_ble_eq_true rfl) dX5_digest_28 ⟨Nat.le_of_ble_eq_true rfl, Nat.le_of_ble_eq_true rfl⟩ [] rfl rfl (wVM cI aJ J) rfl ?_
              refine y_lstore_n Z [(1, .long (hsF (hsF (hsF (hsF (hsF (hsF (hsF 3253 ((J 7) 0 0)) (psF J 0)) (psF J 1)) (psF J 2)) (psF J 3)) (psF J 4)) (psF J 5))), (3, .int 5), (0, .ref (aJ 0))] dX5_digest_31 rfl (by decide) rfl ?_
              refine y_iinc Z [(3, .int 6), (1, .long (hsF (hsF (hsF (hsF (hsF (hsF (hsF 3253 ((J 7) 0 0)) (psF J 0)) (psF J 1)) (psF J 2)) (psF J 3)) (psF J 4)) (psF J 5))), (0, .ref (aJ 0))] dX5_digest_32 1 rfl (by decide) (by decide) rfl ?_
              refine y_goto (tgt := 16) Z dX5_digest_35 (by decide) ?_
              refine y_iload_n Z dX5_digest_16 0 rfl rfl ?_
              refine y_bipush (v := 8) Z dX5_digest_17 (by decide) ?_
              refine y_icmp_gt (tgt := 38) Z dX5_digest_19 (by decide) (fun h13 => ?_) (fun h14 => ?_)
              · exact absurd (show (8 : Int32) < 6 from h13) (by decide)
              · refine y_lload_n Z dX5_digest_22 1 rfl rfl ?_
                refine y_aload_n Z dX5_digest_23 2 rfl rfl ?_
                refine y_iload_n Z dX5_digest_24 0 rfl rfl ?_
                refine y_VIw Z (k_X5_presentSetting l D ht0 aJ J 6) (y_cwV 1 Z ml_RX5_81 im_X5_presentSetting se_X5_presentSetting in_X5 co_X5_presentSetting rfl rfl hd_X5_presentSetting ⟨Nat.le_of_ble_eq_true rfl, Nat.le_of_ble_eq_true rfl⟩) List.nil List.nil (by simp only [List.nil_append, List.append_nil, wMix, wLog, wPic, wRep, wScr, wVM, wMd, sR_eq, sR_ne, sF_eq, sF_ne, upd_eq, upd_ne, gs_eq, gs_ne, gm_4, gm_ne, Nat.reduceBEq]) 5 0 rfl rfl rfl rfl (Nat.le_of_ble_eq_true rfl) dX5_digest_25 ⟨Nat.le_of_ble_eq_true rfl, Nat.le_of_ble_eq_true rfl⟩ (wVM cI aJ J) (by simp only [List.nil_append, List.append_nil, wMix, wLog, wPic, wRep, wScr, wVM, wMd, sR_eq, sR_ne, sF_eq, sF_ne, upd_eq, upd_ne, gs_eq, gs_ne, gm_4, gm_ne, Nat.reduceBEq]) ?_
                refine y_SL Z (k_X5_hashed l D ht0 (hsF (hsF (hsF (hsF (hsF (hsF (hsF 3253 ((J 7) 0 0)) (psF J 0)) (psF J 1)) (psF J 2)) (psF J 3)) (psF J 4)) (psF J 5)) (psF J 6)) (y_cwS 2 Z ml_RX5_200 st_X5_hashed in_X5 co_X5_hashed rfl rfl hs_X5_hashed ⟨Nat.le_of_ble_eq_true rfl, Nat.le_of_ble_eq_true rfl⟩) [] rfl (by decide) rfl rfl (Nat.le_of_ble_eq_true rfl) dX5_digest_28 ⟨Nat.le_of_ble_eq_true rfl, Nat.le_of_ble_eq_true rfl⟩ [] rfl rfl (wVM cI aJ J) rfl ?_
                refine y_lstore_n Z [(1, .long (hsF (hsF (hsF (hsF (hsF (hsF (hsF (hsF 3253 ((J 7) 0 0)) (psF J 0)) (psF J 1)) (psF J 2)) (psF J 3)) (psF J 4)) (psF J 5)) (psF J 6))), (3, .int 6), (0, .ref (aJ 0))] dX5_digest_31 rfl (by decide) rfl ?_
                refine y_iinc Z [(3, .int 7), (1, .long (hsF (hsF (hsF (hsF (hsF (hsF (hsF (hsF 3253 ((J 7) 0 0)) (psF J 0)) (psF J 1)) (psF J 2)) (psF J 3)) (psF J 4)) (psF J 5)) (psF J 6))), (0, .ref (aJ 0))] dX5_digest_32 1 rfl (by decide) (by decide) rfl ?_
                refine y_goto (tgt := 16) Z dX5_digest_35 (by decide) ?_
                refine y_iload_n Z dX5_digest_16 0 rfl rfl ?_
                refine y_bipush (v := 8) Z dX5_digest_17 (by decide) ?_
                refine y_icmp_gt (tgt := 38) Z dX5_digest_19 (by decide) (fun h15 => ?_) (fun h16 => ?_)
                · exact absurd (show (8 : Int32) < 7 from h15) (by decide)
                · refine y_lload_n Z dX5_digest_22 1 rfl rfl ?_
                  refine y_aload_n Z dX5_digest_23 2 rfl rfl ?_
                  refine y_iload_n Z dX5_digest_24 0 rfl rfl ?_
                  refine y_VIw Z (k_X5_presentSetting l D ht0 aJ J 7) (y_cwV 1 Z ml_RX5_81 im_X5_presentSetting se_X5_presentSetting in_X5 co_X5_presentSetting rfl rfl hd_X5_presentSetting ⟨Nat.le_of_ble_eq_true rfl, Nat.le_of_ble_eq_true rfl⟩) List.nil List.nil (by simp only [List.nil_append, List.append_nil, wMix, wLog, wPic, wRep, wScr, wVM, wMd, sR_eq, sR_ne, sF_eq, sF_ne, upd_eq, upd_ne, gs_eq, gs_ne, gm_4, gm_ne, Nat.reduceBEq]) 5 0 rfl rfl rfl rfl (Nat.le_of_ble_eq_true rfl) dX5_digest_25 ⟨Nat.le_of_ble_eq_true rfl, Nat.le_of_ble_eq_true rfl⟩ (wVM cI aJ J) (by simp only [List.nil_append, List.append_nil, wMix, wLog, wPic, wRep, wScr, wVM, wMd, sR_eq, sR_ne, sF_eq, sF_ne, upd_eq, upd_ne, gs_eq, gs_ne, gm_4, gm_ne, Nat.reduceBEq]) ?_
                  refine y_SL Z (k_X5_hashed l D ht0 (hsF (hsF (hsF (hsF (hsF (hsF (hsF (hsF 3253 ((J 7) 0 0)) (psF J 0)) (psF J 1)) (psF J 2)) (psF J 3)) (psF J 4)) (psF J 5)) (psF J 6)) (psF J 7)) (y_cwS 2 Z ml_RX5_200 st_X5_hashed in_X5 co_X5_hashed rfl rfl hs_X5_hashed ⟨Nat.le_of_ble_eq_true rfl, Nat.le_of_ble_eq_true rfl⟩) [] rfl (by decide) rfl rfl (Nat.le_of_ble_eq_true rfl) dX5_digest_28 ⟨Nat.le_of_ble_eq_true rfl, Nat.le_of_ble_eq_true rfl⟩ [] rfl rfl (wVM cI aJ J) rfl ?_
                  refine y_lstore_n Z [(1, .long (hsF (hsF (hsF (hsF (hsF (hsF (hsF (hsF (hsF 3253 ((J 7) 0 0)) (psF J 0)) (psF J 1)) (psF J 2)) (psF J 3)) (psF J 4)) (psF J 5)) (psF J 6)) (psF J 7))), (3, .int 7), (0, .ref (aJ 0))] dX5_digest_31 rfl (by decide) rfl ?_
                  refine y_iinc Z [(3, .int 8), (1, .long (hsF (hsF (hsF (hsF (hsF (hsF (hsF (hsF (hsF 3253 ((J 7) 0 0)) (psF J 0)) (psF J 1)) (psF J 2)) (psF J 3)) (psF J 4)) (psF J 5)) (psF J 6)) (psF J 7))), (0, .ref (aJ 0))] dX5_digest_32 1 rfl (by decide) (by decide) rfl ?_
                  refine y_goto (tgt := 16) Z dX5_digest_35 (by decide) ?_
                  refine y_iload_n Z dX5_digest_16 0 rfl rfl ?_
                  refine y_bipush (v := 8) Z dX5_digest_17 (by decide) ?_
                  refine y_icmp_gt (tgt := 38) Z dX5_digest_19 (by decide) (fun h17 => ?_) (fun h18 => ?_)
                  · exact absurd (show (8 : Int32) < 8 from h17) (by decide)
                  · refine y_lload_n Z dX5_digest_22 1 rfl rfl ?_
                    refine y_aload_n Z dX5_digest_23 2 rfl rfl ?_
                    refine y_iload_n Z dX5_digest_24 0 rfl rfl ?_
                    refine y_VIw Z (k_X5_presentSetting l D ht0 aJ J 8) (y_cwV 1 Z ml_RX5_81 im_X5_presentSetting se_X5_presentSetting in_X5 co_X5_presentSetting rfl rfl hd_X5_presentSetting ⟨Nat.le_of_ble_eq_true rfl, Nat.le_of_ble_eq_true rfl⟩) List.nil List.nil (by simp only [List.nil_append, List.append_nil, wMix, wLog, wPic, wRep, wScr, wVM, wMd, sR_eq, sR_ne, sF_eq, sF_ne, upd_eq, upd_ne, gs_eq, gs_ne, gm_4, gm_ne, Nat.reduceBEq]) 5 0 rfl rfl rfl rfl (Nat.le_of_ble_eq_true rfl) dX5_digest_25 ⟨Nat.le_of_ble_eq_true rfl, Nat.le_of_ble_eq_true rfl⟩ (wVM cI aJ J) (by simp only [List.nil_append, List.append_nil, wMix, wLog, wPic, wRep, wScr, wVM, wMd, sR_eq, sR_ne, sF_eq, sF_ne, upd_eq, upd_ne, gs_eq, gs_ne, gm_4, gm_ne, Nat.reduceBEq]) ?_
                    refine y_SL Z (k_X5_hashed l D ht0 (hsF (hsF (hsF (hsF (hsF (hsF (hsF (hsF (hsF 3253 ((J 7) 0 0)) (psF J 0)) (psF J 1)) (psF J 2)) (psF J 3)) (psF J 4)) (psF J 5)) (psF J 6)) (psF J 7)) (psF J 8)) (y_cwS 2 Z ml_RX5_200 st_X5_hashed in_X5 co_X5_hashed rfl rfl hs_X5_hashed ⟨Nat.le_of_ble_eq_true rfl, Nat.le_of_ble_eq_true rfl⟩) [] rfl (by decide) rfl rfl (Nat.le_of_ble_eq_true rfl) dX5_digest_28 ⟨Nat.le_of_ble_eq_true rfl, Nat.le_of_ble_eq_true rfl⟩ [] rfl rfl (wVM cI aJ J) rfl ?_
                    refine y_lstore_n Z [(1, .long (hsF (hsF (hsF (hsF (hsF (hsF (hsF (hsF (hsF (hsF 3253 ((J 7) 0 0)) (psF J 0)) (psF J 1)) (psF J 2)) (psF J 3)) (psF J 4)) (psF J 5)) (psF J 6)) (psF J 7)) (psF J 8))), (3, .int 8), (0, .ref (aJ 0))] dX5_digest_31 rfl (by decide) rfl ?_
                    refine y_iinc Z [(3, .int 9), (1, .long (hsF (hsF (hsF (hsF (hsF (hsF (hsF (hsF (hsF (hsF 3253 ((J 7) 0 0)) (psF J 0)) (psF J 1)) (psF J 2)) (psF J 3)) (psF J 4)) (psF J 5)) (psF J 6)) (psF J 7)) (psF J 8))), (0, .ref (aJ 0))] dX5_digest_32 1 rfl (by decide) (by decide) rfl ?_
                    refine y_goto (tgt := 16) Z dX5_digest_35 (by decide) ?_
                    refine y_iload_n Z dX5_digest_16 0 rfl rfl ?_
                    refine y_bipush (v := 8) Z dX5_digest_17 (by decide) ?_
                    refine y_icmp_gt (tgt := 38) Z dX5_digest_19 (by decide) (fun h19 => ?_) (fun h20 => ?_)
                    · refine y_aload_n Z dX5_digest_38 2 rfl rfl ?_
                      refine y_lload_n Z dX5_digest_39 1 rfl rfl ?_
                      refine y_VLw Z (k_X5_hashKeyers l D ht0 aJ J (hsF (hsF (hsF (hsF (hsF (hsF (hsF (hsF (hsF (hsF 3253 ((J 7) 0 0)) (psF J 0)) (psF J 1)) (psF J 2)) (psF J 3)) (psF J 4)) (psF J 5)) (psF J 6)) (psF J 7)) (psF J 8))) (y_cwV 1 Z ml_RX5_204 im_X5_hashKeyers se_X5_hashKeyers in_X5 co_X5_hashKeyers rfl rfl hd_X5_hashKeyers ⟨Nat.le_of_ble_eq_true rfl, Nat.le_of_ble_eq_true rfl⟩) List.nil List.nil (by simp only [List.nil_append, List.append_nil, wMix, wLog, wPic, wRep, wScr, wVM, wMd, sR_eq, sR_ne, sF_eq, sF_ne, upd_eq, upd_ne, gs_eq, gs_ne, gm_4, gm_ne, Nat.reduceBEq]) 5 0 rfl rfl rfl rfl (Nat.le_of_ble_eq_true rfl) dX5_digest_40 ⟨Nat.le_of_ble_eq_true rfl, Nat.le_of_ble_eq_true rfl⟩ (wVM cI aJ J) (by simp only [List.nil_append, List.append_nil, wMix, wLog, wPic, wRep, wScr, wVM, wMd, sR_eq, sR_ne, sF_eq, sF_ne, upd_eq, upd_ne, gs_eq, gs_ne, gm_4, gm_ne, Nat.reduceBEq]) ?_
                      refine y_lstore_n Z [(1, .long (it (hkS (J 0)) 3 (hsF (hsF (hsF (hsF (hsF (hsF (hsF (hsF (hsF (hsF 3253 ((J 7) 0 0)) (psF J 0)) (psF J 1)) (psF J 2)) (psF J 3)) (psF J 4)) (psF J 5)) (psF J 6)) (psF J 7)) (psF J 8)))), (3, .int 9), (0, .ref (aJ 0))] dX5_digest_43 rfl (by decide) rfl ?_
                      refine y_aload_n Z dX5_digest_44 2 rfl rfl ?_
                      refine y_lload_n Z dX5_digest_45 0 rfl rfl ?_
                      refine y_VLw Z (k_X5_hashSources l D ht0 aJ J (it (hkS (J 0)) 3 (hsF (hsF (hsF (hsF (hsF (hsF (hsF (hsF (hsF (hsF 3253 ((J 7) 0 0)) (psF J 0)) (psF J 1)) (psF J 2)) (psF J 3)) (psF J 4)) (psF J 5)) (psF J 6)) (psF J 7)) (psF J 8)))) (y_cwV 1 Z ml_RX5_208 im_X5_hashSources se_X5_hashSources in_X5 co_X5_hashSources rfl rfl hd_X5_hashSources ⟨Nat.le_of_ble_eq_true rfl, Nat.le_of_ble_eq_true rfl⟩) List.nil List.nil (by simp only [List.nil_append, List.append_nil, wMix, wLog, wPic, wRep, wScr, wVM, wMd, sR_eq, sR_ne, sF_eq, sF_ne, upd_eq, upd_ne, gs_eq, gs_ne, gm_4, gm_ne, Nat.reduceBEq]) 5 0 rfl rfl rfl rfl (Nat.le_of_ble_eq_true rfl) dX5_digest_46 ⟨Nat.le_of_ble_eq_true rfl, Nat.le_of_ble_eq_true rfl⟩ (wVMR cI aJ (J 0) (J 1) (gt_complete (gt_copy (J 2) (J 0))) (J 3) (J 4) (gt_paint (J 0) (J 5)) (gt_paint (gt_complete (gt_copy (J 2) (J 0))) (J 6)) (J 7)) (by simp only [List.nil_append, List.append_nil, vm_tal, vm_bh, wMix, wLog, wPic, wRep, wScr, wVM, wMd, sR_eq, sR_ne, sF_eq, sF_ne, upd_eq, upd_ne, gs_eq, gs_ne, gm_4, gm_ne, Nat.reduceBEq]) ?_
                      refine y_eq rfl rfl (st' := [.long (it (hsS ((J 0) 0 9) (gt_paint (J 0) (J 5)) (gt_paint (gt_complete (gt_copy (J 2) (J 0))) (J 6))) 10 (it (hkS (J 0)) 3 (hsF (hsF (hsF (hsF (hsF (hsF (hsF (hsF (hsF (hsF 3253 ((J 7) 0 0)) (psF J 0)) (psF J 1)) (psF J 2)) (psF J 3)) (psF J 4)) (psF J 5)) (psF J 6)) (psF J 7)) (psF J 8))))]) (by simp only [vm_tal, vm_bh, wMix, wLog, wPic, wRep, wScr, wVM, wMd, sR_eq, sR_ne, sF_eq, sF_ne, upd_eq, upd_ne, gs_eq, gs_ne, gm_4, gm_ne, Nat.reduceBEq]) ?_
                      refine y_lstore_n Z [(1, .long (it (hsS ((J 0) 0 9) (gt_paint (J 0) (J 5)) (gt_paint (gt_complete (gt_copy (J 2) (J 0))) (J 6))) 10 (it (hkS (J 0)) 3 (hsF (hsF (hsF (hsF (hsF (hsF (hsF (hsF (hsF (hsF 3253 ((J 7) 0 0)) (psF J 0)) (psF J 1)) (psF J 2)) (psF J 3)) (psF J 4)) (psF J 5)) (psF J 6)) (psF J 7)) (psF J 8))))), (3, .int 9), (0, .ref (aJ 0))] dX5_digest_49 rfl (by decide) rfl ?_
                      refine y_aload_n Z dX5_digest_50 2 rfl rfl ?_
                      refine y_lload_n Z dX5_digest_51 0 rfl rfl ?_
                      refine y_VLw Z (k_X5_hashActs l D ht0 aJ (gs (gs (gs J 2 (gt_complete (gt_copy (J 2) (J 0)))) 5 (gt_paint (J 0) (J 5))) 6 (gt_paint (gt_complete (gt_copy (J 2) (J 0))) (J 6))) (it (hsS ((J 0) 0 9) (gt_paint (J 0) (J 5)) (gt_paint (gt_complete (gt_copy (J 2) (J 0))) (J 6))) 10 (it (hkS (J 0)) 3 (hsF (hsF (hsF (hsF (hsF (hsF (hsF (hsF (hsF (hsF 3253 ((J 7) 0 0)) (psF J 0)) (psF J 1)) (psF J 2)) (psF J 3)) (psF J 4)) (psF J 5)) (psF J 6)) (psF J 7)) (psF J 8)))) (by have q := h_stop; simp only [dgH] at q; simp only [gs_eq, gs_ne, Nat.reduceBEq]; exact q)) (y_cwV 1 Z ml_RX5_211 im_X5_hashActs se_X5_hashActs in_X5 co_X5_hashActs rfl rfl hd_X5_hashActs ⟨Nat.le_of_ble_eq_true rfl, Nat.le_of_ble_eq_true rfl⟩) List.nil List.nil (by simp only [List.nil_append, List.append_nil, wMix, wLog, wPic, wRep, wScr, wVM, wMd, sR_eq, sR_ne, sF_eq, sF_ne, upd_eq, upd_ne, gs_eq, gs_ne, gm_4, gm_ne, Nat.reduceBEq]) 5 0 rfl rfl rfl rfl (Nat.le_of_ble_eq_true rfl) dX5_digest_52 ⟨Nat.le_of_ble_eq_true rfl, Nat.le_of_ble_eq_true rfl⟩ (wVMR cI aJ (J 0) (J 1) (gt_complete (gt_copy (J 2) (J 0))) (J 3) (J 4) (gt_paint (J 0) (J 5)) (gt_paint (gt_complete (gt_copy (J 2) (J 0))) (J 6)) (J 7)) (by simp only [List.nil_append, List.append_nil, wMix, wLog, wPic, wRep, wScr, wVM, wMd, sR_eq, sR_ne, sF_eq, sF_ne, upd_eq, upd_ne, gs_eq, gs_ne, gm_4, gm_ne, Nat.reduceBEq]) ?_
                      exact y_retL Z hr hlk dX5_digest_55 (by first | (simp only [dgH, vm_tal, vm_bh, if_true, if_false, not_false_eq_true, not_true_eq_false, ↓reduceIte]; done) | (simp only [dgH, vm_tal, vm_bh, if_true, if_false, not_false_eq_true, not_true_eq_false, ↓reduceIte, wMix, wLog, wPic, wRep, wScr, wVM, wMd, sR_eq, sR_ne, sF_eq, sF_ne, upd_eq, upd_ne, gs_eq, gs_ne, gm_4, gm_ne, Nat.reduceBEq]; done) | (with_reducible rfl) | contradiction | (simp only [dgH, vm_tal, vm_bh, if_true, if_false, not_false_eq_true, not_true_eq_false, ↓reduceIte]; rfl) | rfl) (by first | (simp only [dgH, vm_tal, vm_bh, if_true, if_false, not_false_eq_true, not_true_eq_false, ↓reduceIte]; done) | (simp only [dgH, vm_tal, vm_bh, if_true, if_false, not_false_eq_true, not_true_eq_false, ↓reduceIte, wMix, wLog, wPic, wRep, wScr, wVM, wMd, sR_eq, sR_ne, sF_eq, sF_ne, upd_eq, upd_ne, gs_eq, gs_ne, gm_4, gm_ne, Nat.reduceBEq]; done) | (with_reducible rfl) | contradiction | (simp only [dgH, vm_tal, vm_bh, if_true, if_false, not_false_eq_true, not_true_eq_false, ↓reduceIte]; rfl) | rfl)
                    · exact absurd (show ¬ (8 : Int32) < 9 from h20) (by decide)
