def gt_add (P : Nat → Nat → Int32) (q v : Int32) : Nat → Nat → Int32 := sR P 1 (putF (P 1) 10 q (cellF (P 1) 10 q + v))
def gt_zero (k : Nat) (P : Nat → Nat → Int32) : Nat → Nat → Int32 := sR P 1 (putF (P 1) 10 (nI k) 0)
def gt_bg (M P : Nat → Nat → Int32) : Nat → Nat → Int32 := if mbF M = 0 then gt_add P (M 0 0) 1000000 else if M 0 2 = 2 then (if 500 < M 0 5 then gt_add (gt_add P 0 (2000000 - 2 * (M 0 5 * 1000))) (M 0 1) (2 * (M 0 5 * 1000) - 1000000) else gt_add (gt_add P (M 0 0) (1000000 - 2 * (M 0 5 * 1000))) 0 (2 * (M 0 5 * 1000))) else gt_add (gt_add P (M 0 0) (1000000 - M 0 5 * 1000)) (M 0 1) (M 0 5 * 1000)
def tkF (cover : Int32) (k : Nat) (P : Nat → Nat → Int32) : Int32 := Int64.toInt32 (Int32.toInt64 (cellF (P 1) 10 (nI k)) * Int32.toInt64 cover / 10000)
def gt_takS (cover : Int32) (k : Nat) (x : (Nat → Nat → Int32) × Int32) : (Nat → Nat → Int32) × Int32 := (gt_add x.1 (nI k) (-(tkF cover k x.1)), x.2 + tkF cover k x.1)
def gt_tak (cover : Int32) (n : Nat) (P : Nat → Nat → Int32) : (Nat → Nat → Int32) × Int32 := it (gt_takS cover) n (P, 0)
def gt_lay (fill cover : Int32) (P : Nat → Nat → Int32) : Nat → Nat → Int32 := gt_add (gt_tak cover 10 P).1 fill (gt_tak cover 10 P).2
def gt_layS (M : Nat → Nat → Int32) (k : Nat) (P : Nat → Nat → Int32) : Nat → Nat → Int32 := gt_lay (cellF (M 1) 3 (nI k)) (coverF M (nI k)) P
def gt_pb (M P : Nat → Nat → Int32) : Nat → Nat → Int32 := gt_bg M (it gt_zero 10 P)
def gt_paint (M P : Nat → Nat → Int32) : Nat → Nat → Int32 := it (gt_layS M) 3 (gt_pb M P)
def fpS (P : Nat → Nat → Int32) (fa : Int32) (k : Nat) (x : Int32) : Int32 := if bitF fa (nI k) = 0 then x else x + cellF (P 1) 10 (nI k)
def fpF (P : Nat → Nat → Int32) (fa : Int32) : Int32 := it (fpS P fa) 10 0
def seenF (P : Nat → Nat → Int32) (q fa : Int32) : Int32 := if q = 0 then cellF (P 1) 10 0 + fpF P fa else if bitF fa q = 0 then cellF (P 1) 10 q else 0
def rdS (P : Nat → Nat → Int32) (k : Nat) (x : Int32) : Int32 := if cellF (P 1) 10 (nI k) ≤ 0 then x else x ||| (1 <<< (nI k &&& 31))
def rdF (P : Nat → Nat → Int32) : Int32 := it (rdS P) 10 0
def smS (P N : Nat → Nat → Int32) (k : Nat) (x : Int32) : Int32 := if cellF (P 1) 10 (nI k) = cellF (N 1) 10 (nI k) then x else 0
def smF (P N : Nat → Nat → Int32) : Int32 := it (smS P N) 10 1
theorem sm_0 (P N : Nat → Nat → Int32) (i : Nat) (h : it (smS P N) i 1 = 0) : ∀ n : Nat, it (smS P N) (i + n) 1 = 0
  | 0 => h
  | n + 1 => by
    show smS P N (i + n) (it (smS P N) (i + n) 1) = 0
    rw [sm_0 P N i h n]; unfold smS; split <;> rfl
def lgT (L : Nat → Nat → Int32) (act fld : Int32) : Int32 := cellF (L 1) 600 (act * 6 + fld)
def gt_lput (i v : Int32) (L : Nat → Nat → Int32) : Nat → Nat → Int32 := sR L 1 (putF (L 1) 600 i v)
def gt_linc (L : Nat → Nat → Int32) : Nat → Nat → Int32 := sF L 0 0 (L 0 0 + 1)
def gt_ladd (L : Nat → Nat → Int32) (t w a b c d : Int32) : Nat → Nat → Int32 := gt_linc (gt_lput (L 0 0 * 6 + 5) d (gt_lput (L 0 0 * 6 + 4) c (gt_lput (L 0 0 * 6 + 3) b (gt_lput (L 0 0 * 6 + 2) a (gt_lput (L 0 0 * 6 + 1) w (gt_lput (L 0 0 * 6) t L))))))
def rmC (x : (Nat → Nat → Int32) × Int32) : Bool := if (x.1 0 0 - 1) * 6 ≤ x.2 then false else true
def rmB (x : (Nat → Nat → Int32) × Int32) : (Nat → Nat → Int32) × Int32 := (sR x.1 1 (putF (x.1 1) 600 x.2 (cellF (x.1 1) 600 (x.2 + 6))), x.2 + 1)
def gt_lrE (x : (Nat → Nat → Int32) × Int32) : Nat → Nat → Int32 := sF x.1 0 0 (x.1 0 0 - 1)
def gt_lrem (L : Nat → Nat → Int32) (act : Int32) : Nat → Nat → Int32 := gt_lrE (lw rmC rmB 600 (L, act * 6))
def rmStop (L : Nat → Nat → Int32) (act : Int32) : Prop := rmC (lw rmC rmB 600 (L, act * 6)) = false
def gt_redo (L : Nat → Nat → Int32) (act : Int32) (M : Nat → Nat → Int32) : Nat → Nat → Int32 := if possF M (lgT L act 1) = 0 then M else perfM M (lgT L act 1) (lgT L act 2) (lgT L act 3) (lgT L act 4) (lgT L act 5)
set_option maxHeartbeats 4000000 in
set_option maxRecDepth 100000 in
theorem k_X2_partOf (l : Launch) (D : va_G) {cI : ClassId} {tys : List (ClassId × FieldType)} (ht0 : tys[0]? = some (cI, .int)) (aP : Nat → Nat) (P : Nat → Nat → Int32) (q : Int32) (sz : Nat) : kI l yX2_partOf cX2_partOf 2 (some .int) { frames := 1, cells := 0, slots := 0, locals := 21 } D tys [.ref (aP 0), .int q] (wPic cI aP P) (wPic cI aP P) (cellF (P 1) 10 q) 0 0 sz := by
  refine y_enterI (cc := cX2_partOf) (maxL := 2) (ret := (some .int)) (own := RX2) (by decide) rfl (lv0 := [(0, .ref (aP 0)), (1, .int q)]) rfl (Nat.le_of_ble_eq_true rfl) ?_
  intro p e s m args below meth c A Z hr hlk _
  refine y_aload_n Z dX2_partOf_0 0 rfl rfl ?_
  refine y_get (C := RX2) (T := TX2) (N := 1) Z 2 inlX2 rfl 0 rfl 0 (by decide) fl_RX2_9 rfl dX2_partOf_1 ?_
  refine y_iload_n Z dX2_partOf_4 1 rfl rfl ?_
  refine y_NI Z (k_X5_cell l D ht0 (aP 1) 10 (P 1) q (by decide)) (y_cn (n := 2) (host := RX5) Z co_X5_cell rfl rfl nm_RX2_58 in_X5 st_X5_cell hs_X5_cell ⟨Nat.le_of_ble_eq_true rfl, Nat.le_of_ble_eq_true rfl⟩) [1] rfl (by decide) rfl rfl (Nat.le_of_ble_eq_true rfl) dX2_partOf_5 ⟨Nat.le_of_ble_eq_true rfl, Nat.le_of_ble_eq_true rfl⟩ [(aP 1)] rfl rfl (wPic cI aP P) rfl ?_
  exact y_retI Z hr hlk dX2_partOf_8 (by first | (with_reducible rfl) | (simp only [wMix, wLog, wPic, wRep, wScr, wVM, wMd, sR_eq, sR_ne, sF_eq, sF_ne, upd_eq, upd_ne, gs_eq, gs_ne, gm_4, gm_ne, Nat.reduceBEq]; done) | rfl) (by first | (with_reducible rfl) | (simp only [wMix, wLog, wPic, wRep, wScr, wVM, wMd, sR_eq, sR_ne, sF_eq, sF_ne, upd_eq, upd_ne, gs_eq, gs_ne, gm_4, gm_ne, Nat.reduceBEq]; done) | rfl)
set_option maxHeartbeats 4000000 in
set_option maxRecDepth 100000 in
theorem k_X2_addPart (l : Launch) (D : va_G) {cI : ClassId} {tys : List (ClassId × FieldType)} (ht0 : tys[0]? = some (cI, .int)) (aP : Nat → Nat) (P : Nat → Nat → Int32) (q : Int32) (v : Int32) (sz : Nat) : kV l yX2_addPart cX2_addPart 3 none { frames := 1, cells := 0, slots := 0, locals := 22 } D tys [.ref (aP 0), .int q, .int v] (wPic cI aP P) (wPic cI aP (gt_add P q v)) 0 0 sz := by
  refine y_enterV (cc := cX2_addPart) (maxL := 3) (ret := none) (own := RX2) (by decide) rfl (lv0 := [(0, .ref (aP 0)), (1, .int q), (2, .int v)]) rfl (Nat.le_of_ble_eq_true rfl) ?_
  intro p e s m args below meth c A Z hr hlk _
  refine y_aload_n Z dX2_addPart_0 0 rfl rfl ?_
  refine y_get (C := RX2) (T := TX2) (N := 1) Z 2 inlX2 rfl 0 rfl 0 (by decide) fl_RX2_9 rfl dX2_addPart_1 ?_
  refine y_iload_n Z dX2_addPart_4 1 rfl rfl ?_
  refine y_aload_n Z dX2_addPart_5 0 rfl rfl ?_
  refine y_get (C := RX2) (T := TX2) (N := 1) Z 2 inlX2 rfl 0 rfl 0 (by decide) fl_RX2_9 rfl dX2_addPart_6 ?_
  refine y_iload_n Z dX2_addPart_9 1 rfl rfl ?_
  refine y_NI Z (k_X5_cell l D ht0 (aP 1) 10 (P 1) q (by decide)) (y_cn (n := 2) (host := RX5) Z co_X5_cell rfl rfl nm_RX2_58 in_X5 st_X5_cell hs_X5_cell ⟨Nat.le_of_ble_eq_true rfl, Nat.le_of_ble_eq_true rfl⟩) [1] rfl (by decide) rfl rfl (Nat.le_of_ble_eq_true rfl) dX2_addPart_10 ⟨Nat.le_of_ble_eq_true rfl, Nat.le_of_ble_eq_true rfl⟩ [(aP 1)] rfl rfl (wPic cI aP P) rfl ?_
  refine y_iload_n Z dX2_addPart_13 2 rfl rfl ?_
  refine y_iadd Z dX2_addPart_14 ?_
  refine y_NV Z (k_X5_put l D ht0 (aP 1) 10 (P 1) q (cellF (P 1) 10 q + v) (by decide)) (y_cn (n := 3) (host := RX5) Z co_X5_put rfl rfl nm_RX2_15 in_X5 st_X5_put hs_X5_put ⟨Nat.le_of_ble_eq_true rfl, Nat.le_of_ble_eq_true rfl⟩) [1] rfl (by decide) rfl rfl (Nat.le_of_ble_eq_true rfl) dX2_addPart_15 ⟨Nat.le_of_ble_eq_true rfl, Nat.le_of_ble_eq_true rfl⟩ [(aP 1)] rfl rfl (wPicR cI aP (putF (P 1) 10 q (cellF (P 1) 10 q + v))) rfl ?_
  exact y_retV Z hr hlk dX2_addPart_18 (by first | (simp only [gt_add, if_true, if_false, not_false_eq_true, not_true_eq_false, ↓reduceIte]; done) | (simp only [gt_add, if_true, if_false, not_false_eq_true, not_true_eq_false, ↓reduceIte, wMix, wLog, wPic, wRep, wScr, wVM, wMd, sR_eq, sR_ne, sF_eq, sF_ne, upd_eq, upd_ne, gs_eq, gs_ne, gm_4, gm_ne, Nat.reduceBEq]; done) | (with_reducible rfl) | (simp only [gt_add, if_true, if_false, not_false_eq_true, not_true_eq_false, ↓reduceIte]; rfl) | rfl)
set_option maxHeartbeats 4000000 in
set_option maxRecDepth 100000 in
theorem k_X2_paintBackground (l : Launch) (D : va_G) {cI : ClassId} {tys : List (ClassId × FieldType)} (ht0 : tys[0]? = some (cI, .int)) (aP : Nat → Nat) (P : Nat → Nat → Int32) (aM : Nat → Nat) (M : Nat → Nat → Int32) (sz : Nat) : kV l yX2_paintBackground cX2_paintBackground 3 none { frames := 2, cells := 0, slots := 0, locals := 44 } D tys [.ref (aP 0), .ref (aM 0)] (wPic cI aP P ++ (wMix cI aM M)) (wPic cI aP (gt_bg M P) ++ (wMix cI aM M)) 0 0 sz := by
  refine y_enterV (cc := cX2_paintBackground) (maxL := 3) (ret := none) (own := RX2) (by decide) rfl (lv0 := [(0, .ref (aP 0)), (1, .ref (aM 0))]) rfl (Nat.le_of_ble_eq_true rfl) ?_
  intro p e s m args below meth c A Z hr hlk _
  refine y_aload_n Z dX2_paintBackground_0 1 rfl rfl ?_
  refine y_getN (host := RX5) (C := RX1) (T := TX1) (N := 14) Z 1 inlX1 rfl 2 rfl 5 (by decide) nl_RX2_36 rfl dX2_paintBackground_1 ?_
  refine y_sipush (v := 1000) Z dX2_paintBackground_4 (by decide) ?_
  refine y_imul Z dX2_paintBackground_7 ?_
  refine y_istore_n Z [(2, .int ((M 0 5) * 1000)), (0, .ref (aP 0)), (1, .ref (aM 0))] dX2_paintBackground_8 rfl (by decide) rfl ?_
  refine y_aload_n Z dX2_paintBackground_9 2 rfl rfl ?_
  refine y_VI Z (k_X1_movesBackground l D ht0 aM M) (y_cwV 0 Z ml_RX2_40 im_X1_movesBackground se_X1_movesBackground in_X1 co_X1_movesBackground rfl rfl hd_X1_movesBackground ⟨Nat.le_of_ble_eq_true rfl, Nat.le_of_ble_eq_true rfl⟩) [2, 3, 4, 5] rfl (by decide) 1 2 rfl rfl rfl rfl (Nat.le_of_ble_eq_true rfl) dX2_paintBackground_10 ⟨Nat.le_of_ble_eq_true rfl, Nat.le_of_ble_eq_true rfl⟩ [(aM 0), (aM 1), (aM 2), (aM 3)] rfl rfl (wPic cI aP P ++ (wMix cI aM M)) rfl ?_
  refine y_if_ne (tgt := 29) Z dX2_paintBackground_13 (by decide) (fun h1 => ?_) (fun h2 => ?_)
  · refine y_aload_n Z dX2_paintBackground_29 2 rfl rfl ?_
    refine y_getN (host := RX5) (C := RX1) (T := TX1) (N := 14) Z 1 inlX1 rfl 2 rfl 2 (by decide) nl_RX2_51 rfl dX2_paintBackground_30 ?_
    refine y_iconst (v := 2) Z dX2_paintBackground_33 (by decide) ?_
    refine y_icmp_eq (tgt := 61) Z dX2_paintBackground_34 (by decide) (fun h3 => ?_) (fun h4 => ?_)
    · refine y_aload_n Z dX2_paintBackground_61 2 rfl rfl ?_
      refine y_getN (host := RX5) (C := RX1) (T := TX1) (N := 14) Z 1 inlX1 rfl 2 rfl 5 (by decide) nl_RX2_36 rfl dX2_paintBackground_62 ?_
      refine y_sipush (v := 500) Z dX2_paintBackground_65 (by decide) ?_
      refine y_icmp_gt (tgt := 96) Z dX2_paintBackground_68 (by decide) (fun h5 => ?_) (fun h6 => ?_)
      · refine y_aload_n Z dX2_paintBackground_96 1 rfl rfl ?_
        refine y_iconst (v := 0) Z dX2_paintBackground_97 (by decide) ?_
        refine y_ldc Z (2000000) ct_RX2_57 dX2_paintBackground_98 ?_
        refine y_iconst (v := 2) Z dX2_paintBackground_100 (by decide) ?_
        refine y_iload_n Z dX2_paintBackground_101 0 rfl rfl ?_
        refine y_imul Z dX2_paintBackground_102 ?_
        refine y_isub Z dX2_paintBackground_103 ?_
        refine y_VV Z (k_X2_addPart l D ht0 aP P 0 (2000000 - (2 * ((M 0 5) * 1000)))) (y_cwV 2 Z ml_RX2_48 im_X2_addPart se_X2_addPart in_X2 co_X2_addPart rfl rfl hd_X2_addPart ⟨Nat.le_of_ble_eq_true rfl, Nat.le_of_ble_eq_true rfl⟩) [0, 1] rfl (by decide) 2 0 rfl rfl rfl rfl (Nat.le_of_ble_eq_true rfl) dX2_paintBackground_104 ⟨Nat.le_of_ble_eq_true rfl, Nat.le_of_ble_eq_true rfl⟩ [(aP 0), (aP 1)] rfl rfl (wPic cI aP (gt_add P 0 (2000000 - (2 * ((M 0 5) * 1000)))) ++ (wMix cI aM M)) rfl ?_
        refine y_aload_n Z dX2_paintBackground_107 1 rfl rfl ?_
        refine y_aload_n Z dX2_paintBackground_108 2 rfl rfl ?_
        refine y_getN (host := RX5) (C := RX1) (T := TX1) (N := 14) Z 1 inlX1 rfl 2 rfl 1 (by decide) nl_RX2_54 rfl dX2_paintBackground_109 ?_
        refine y_iconst (v := 2) Z dX2_paintBackground_112 (by decide) ?_
        refine y_iload_n Z dX2_paintBackground_113 0 rfl rfl ?_
        refine y_imul Z dX2_paintBackground_114 ?_
        refine y_ldc Z (1000000) ct_RX2_47 dX2_paintBackground_115 ?_
        refine y_isub Z dX2_paintBackground_117 ?_
        refine y_VV Z (k_X2_addPart l D ht0 aP (gt_add P 0 (2000000 - (2 * ((M 0 5) * 1000)))) (M 0 1) ((2 * ((M 0 5) * 1000)) - 1000000)) (y_cwV 2 Z ml_RX2_48 im_X2_addPart se_X2_addPart in_X2 co_X2_addPart rfl rfl hd_X2_addPart ⟨Nat.le_of_ble_eq_true rfl, Nat.le_of_ble_eq_true rfl⟩) [0, 1] rfl (by decide) 2 0 rfl rfl rfl rfl (Nat.le_of_ble_eq_true rfl) dX2_paintBackground_118 ⟨Nat.le_of_ble_eq_true rfl, Nat.le_of_ble_eq_true rfl⟩ [(aP 0), (aP 1)] rfl rfl (wPic cI aP (gt_add (gt_add P 0 (2000000 - (2 * ((M 0 5) * 1000)))) (M 0 1) ((2 * ((M 0 5) * 1000)) - 1000000)) ++ (wMix cI aM M)) rfl ?_
        exact y_retV Z hr hlk dX2_paintBackground_121 (by first | (simp only [gt_bg, h1, eq_true h3, h5, if_true, if_false, not_false_eq_true, not_true_eq_false, ↓reduceIte]; done) | (simp only [gt_bg, h1, eq_true h3, h5, if_true, if_false, not_false_eq_true, not_true_eq_false, ↓reduceIte, wMix, wLog, wPic, wRep, wScr, wVM, wMd, sR_eq, sR_ne, sF_eq, sF_ne, upd_eq, upd_ne, gs_eq, gs_ne, gm_4, gm_ne, Nat.reduceBEq]; done) | (with_reducible rfl) | (simp only [gt_bg, h1, eq_true h3, h5, if_true, if_false, not_false_eq_true, not_true_eq_false, ↓reduceIte]; rfl) | rfl)
      · refine y_aload_n Z dX2_paintBackground_71 1 rfl rfl ?_
        refine y_aload_n Z dX2_paintBackground_72 2 rfl rfl ?_
        refine y_getN (host := RX5) (C := RX1) (T := TX1) (N := 14) Z 1 inlX1 rfl 2 rfl 0 (by decide) nl_RX2_44 rfl dX2_paintBackground_73 ?_
        refine y_ldc Z (1000000) ct_RX2_47 dX2_paintBackground_76 ?_
        refine y_iconst (v := 2) Z dX2_paintBackground_78 (by decide) ?_
        refine y_iload_n Z dX2_paintBackground_79 0 rfl rfl ?_
        refine y_imul Z dX2_paintBackground_80 ?_
        refine y_isub Z dX2_paintBackground_81 ?_
        refine y_VV Z (k_X2_addPart l D ht0 aP P (M 0 0) (1000000 - (2 * ((M 0 5) * 1000)))) (y_cwV 2 Z ml_RX2_48 im_X2_addPart se_X2_addPart in_X2 co_X2_addPart rfl rfl hd_X2_addPart ⟨Nat.le_of_ble_eq_true rfl, Nat.le_of_ble_eq_true rfl⟩) [0, 1] rfl (by decide) 2 0 rfl rfl rfl rfl (Nat.le_of_ble_eq_true rfl) dX2_paintBackground_82 ⟨Nat.le_of_ble_eq_true rfl, Nat.le_of_ble_eq_true rfl⟩ [(aP 0), (aP 1)] rfl rfl (wPic cI aP (gt_add P (M 0 0) (1000000 - (2 * ((M 0 5) * 1000)))) ++ (wMix cI aM M)) rfl ?_
        refine y_aload_n Z dX2_paintBackground_85 1 rfl rfl ?_
        refine y_iconst (v := 0) Z dX2_paintBackground_86 (by decide) ?_
        refine y_iconst (v := 2) Z dX2_paintBackground_87 (by decide) ?_
        refine y_iload_n Z dX2_paintBackground_88 0 rfl rfl ?_
        refine y_imul Z dX2_paintBackground_89 ?_
        refine y_VV Z (k_X2_addPart l D ht0 aP (gt_add P (M 0 0) (1000000 - (2 * ((M 0 5) * 1000)))) 0 (2 * ((M 0 5) * 1000))) (y_cwV 2 Z ml_RX2_48 im_X2_addPart se_X2_addPart in_X2 co_X2_addPart rfl rfl hd_X2_addPart ⟨Nat.le_of_ble_eq_true rfl, Nat.le_of_ble_eq_true rfl⟩) [0, 1] rfl (by decide) 2 0 rfl rfl rfl rfl (Nat.le_of_ble_eq_true rfl) dX2_paintBackground_90 ⟨Nat.le_of_ble_eq_true rfl, Nat.le_of_ble_eq_true rfl⟩ [(aP 0), (aP 1)] rfl rfl (wPic cI aP (gt_add (gt_add P (M 0 0) (1000000 - (2 * ((M 0 5) * 1000)))) 0 (2 * ((M 0 5) * 1000))) ++ (wMix cI aM M)) rfl ?_
        refine y_goto (tgt := 121) Z dX2_paintBackground_93 (by decide) ?_
        exact y_retV Z hr hlk dX2_paintBackground_121 (by first | (simp only [gt_bg, h1, eq_true h3, h6, if_true, if_false, not_false_eq_true, not_true_eq_false, ↓reduceIte]; done) | (simp only [gt_bg, h1, eq_true h3, h6, if_true, if_false, not_false_eq_true, not_true_eq_false, ↓reduceIte, wMix, wLog, wPic, wRep, wScr, wVM, wMd, sR_eq, sR_ne, sF_eq, sF_ne, upd_eq, upd_ne, gs_eq, gs_ne, gm_4, gm_ne, Nat.reduceBEq]; done) | (with_reducible rfl) | (simp only [gt_bg, h1, eq_true h3, h6, if_true, if_false, not_false_eq_true, not_true_eq_false, ↓reduceIte]; rfl) | rfl)
    · refine y_aload_n Z dX2_paintBackground_37 1 rfl rfl ?_
      refine y_aload_n Z dX2_paintBackground_38 2 rfl rfl ?_
      refine y_getN (host := RX5) (C := RX1) (T := TX1) (N := 14) Z 1 inlX1 rfl 2 rfl 0 (by decide) nl_RX2_44 rfl dX2_paintBackground_39 ?_
      refine y_ldc Z (1000000) ct_RX2_47 dX2_paintBackground_42 ?_
      refine y_iload_n Z dX2_paintBackground_44 0 rfl rfl ?_
      refine y_isub Z dX2_paintBackground_45 ?_
      refine y_VV Z (k_X2_addPart l D ht0 aP P (M 0 0) (1000000 - ((M 0 5) * 1000))) (y_cwV 2 Z ml_RX2_48 im_X2_addPart se_X2_addPart in_X2 co_X2_addPart rfl rfl hd_X2_addPart ⟨Nat.le_of_ble_eq_true rfl, Nat.le_of_ble_eq_true rfl⟩) [0, 1] rfl (by decide) 2 0 rfl rfl rfl rfl (Nat.le_of_ble_eq_true rfl) dX2_paintBackground_46 ⟨Nat.le_of_ble_eq_true rfl, Nat.le_of_ble_eq_true rfl⟩ [(aP 0), (aP 1)] rfl rfl (wPic cI aP (gt_add P (M 0 0) (1000000 - ((M 0 5) * 1000))) ++ (wMix cI aM M)) rfl ?_
      refine y_aload_n Z dX2_paintBackground_49 1 rfl rfl ?_
      refine y_aload_n Z dX2_paintBackground_50 2 rfl rfl ?_
      refine y_getN (host := RX5) (C := RX1) (T := TX1) (N := 14) Z 1 inlX1 rfl 2 rfl 1 (by decide) nl_RX2_54 rfl dX2_paintBackground_51 ?_
      refine y_iload_n Z dX2_paintBackground_54 0 rfl rfl ?_
      refine y_VV Z (k_X2_addPart l D ht0 aP (gt_add P (M 0 0) (1000000 - ((M 0 5) * 1000))) (M 0 1) ((M 0 5) * 1000)) (y_cwV 2 Z ml_RX2_48 im_X2_addPart se_X2_addPart in_X2 co_X2_addPart rfl rfl hd_X2_addPart ⟨Nat.le_of_ble_eq_true rfl, Nat.le_of_ble_eq_true rfl⟩) [0, 1] rfl (by decide) 2 0 rfl rfl rfl rfl (Nat.le_of_ble_eq_true rfl) dX2_paintBackground_55 ⟨Nat.le_of_ble_eq_true rfl, Nat.le_of_ble_eq_true rfl⟩ [(aP 0), (aP 1)] rfl rfl (wPic cI aP (gt_add (gt_add P (M 0 0) (1000000 - ((M 0 5) * 1000))) (M 0 1) ((M 0 5) * 1000)) ++ (wMix cI aM M)) rfl ?_
      refine y_goto (tgt := 121) Z dX2_paintBackground_58 (by decide) ?_
      exact y_retV Z hr hlk dX2_paintBackground_121 (by first | (simp only [gt_bg, h1, h4, if_true, if_false, not_false_eq_true, not_true_eq_false, ↓reduceIte]; done) | (simp only [gt_bg, h1, h4, if_true, if_false, not_false_eq_true, not_true_eq_false, ↓reduceIte, wMix, wLog, wPic, wRep, wScr, wVM, wMd, sR_eq, sR_ne, sF_eq, sF_ne, upd_eq, upd_ne, gs_eq, gs_ne, gm_4, gm_ne, Nat.reduceBEq]; done) | (with_reducible rfl) | (simp only [gt_bg, h1, h4, if_true, if_false, not_false_eq_true, not_true_eq_false, ↓reduceIte]; rfl) | rfl)
  · refine y_aload_n Z dX2_paintBackground_16 1 rfl rfl ?_
    refine y_aload_n Z dX2_paintBackground_17 2 rfl rfl ?_
    refine y_getN (host := RX5) (C := RX1) (T := TX1) (N := 14) Z 1 inlX1 rfl 2 rfl 0 (by decide) nl_RX2_44 rfl dX2_paintBackground_18 ?_
    refine y_ldc Z (1000000) ct_RX2_47 dX2_paintBackground_21 ?_
    refine y_VV Z (k_X2_addPart l D ht0 aP P (M 0 0) 1000000) (y_cwV 2 Z ml_RX2_48 im_X2_addPart se_X2_addPart in_X2 co_X2_addPart rfl rfl hd_X2_addPart ⟨Nat.le_of_ble_eq_true rfl, Nat.le_of_ble_eq_true rfl⟩) [0, 1] rfl (by decide) 2 0 rfl rfl rfl rfl (Nat.le_of_ble_eq_true rfl) dX2_paintBackground_23 ⟨Nat.le_of_ble_eq_true rfl, Nat.le_of_ble_eq_true rfl⟩ [(aP 0), (aP 1)] rfl rfl (wPic cI aP (gt_add P (M 0 0) 1000000) ++ (wMix cI aM M)) rfl ?_
    refine y_goto (tgt := 121) Z dX2_paintBackground_26 (by decide) ?_
    exact y_retV Z hr hlk dX2_paintBackground_121 (by first | (simp only [gt_bg, eq_true h2, if_true, if_false, not_false_eq_true, not_true_eq_false, ↓reduceIte]; done) | (simp only [gt_bg, eq_true h2, if_true, if_false, not_false_eq_true, not_true_eq_false, ↓reduceIte, wMix, wLog, wPic, wRep, wScr, wVM, wMd, sR_eq, sR_ne, sF_eq, sF_ne, upd_eq, upd_ne, gs_eq, gs_ne, gm_4, gm_ne, Nat.reduceBEq]; done) | (with_reducible rfl) | (simp only [gt_bg, eq_true h2, if_true, if_false, not_false_eq_true, not_true_eq_false, ↓reduceIte]; rfl) | rfl)
set_option maxHeartbeats 4000000 in
set_option maxRecDepth 100000 in
theorem k_X2_layOver (l : Launch) (D : va_G) {cI : ClassId} {tys : List (ClassId × FieldType)} (ht0 : tys[0]? = some (cI, .int)) (aP : Nat → Nat) (P : Nat → Nat → Int32) (fi : Int32) (cv : Int32) (sz : Nat) : kV l yX2_layOver cX2_layOver 6 none { frames := 2, cells := 0, slots := 0, locals := 44 } D tys [.ref (aP 0), .int fi, .int cv] (wPic cI aP P) (wPic cI aP (gt_lay fi cv P)) 0 0 sz := by
  refine y_enterV (cc := cX2_layOver) (maxL := 6) (ret := none) (own := RX2) (by decide) rfl (lv0 := [(0, .ref (aP 0)), (1, .int fi), (2, .int cv)]) rfl (Nat.le_of_ble_eq_true rfl) ?_
  intro p e s m args below meth c A Z hr hlk _
  have L5 : ∀ (n i : Nat), i + n = 10 → Yy p l e { frames := 2, cells := 0, slots := 0, locals := 44 } s m args below meth c (QV D tys A (wPic cI aP (gt_lay fi cv P)) below args s 0 0) D A 6 0 0 (wPic cI aP ((gt_tak cv i P).1)) [(0, .ref (aP 0)), (1, .int fi), (2, .int cv), (3, .int ((gt_tak cv i P).2)), (4, .int (nI i))] [] 5 := by
    intro n; induction n with
    | zero =>
      intro i hi
      have hi : i = 10 := by omega
      subst hi
      refine y_iload Z dX2_layOver_5 4 rfl ?_
      refine y_bipush (v := 10) Z dX2_layOver_7 (by decide) ?_
      refine y_icmp_ge (tgt := 52) Z dX2_layOver_9 (by decide) (fun h1 => ?_) (fun h2 => ?_)
      · refine y_aload_n Z dX2_layOver_52 0 rfl rfl ?_
        refine y_iload_n Z dX2_layOver_53 1 rfl rfl ?_
        refine y_iload_n Z dX2_layOver_54 3 rfl rfl ?_
        refine y_VV Z (k_X2_addPart l D ht0 aP ((gt_tak cv 10 P).1) fi ((gt_tak cv 10 P).2)) (y_cwV 2 Z ml_RX2_48 im_X2_addPart se_X2_addPart in_X2 co_X2_addPart rfl rfl hd_X2_addPart ⟨Nat.le_of_ble_eq_true rfl, Nat.le_of_ble_eq_true rfl⟩) [0, 1] rfl (by decide) 2 0 rfl rfl rfl rfl (Nat.le_of_ble_eq_true rfl) dX2_layOver_55 ⟨Nat.le_of_ble_eq_true rfl, Nat.le_of_ble_eq_true rfl⟩ [(aP 0), (aP 1)] rfl rfl (wPic cI aP (gt_add ((gt_tak cv 10 P).1) fi ((gt_tak cv 10 P).2))) rfl ?_
        exact y_retV Z hr hlk dX2_layOver_58 (by first | (simp only [gt_lay, h1, if_true, if_false, not_false_eq_true, not_true_eq_false, ↓reduceIte]; done) | (simp only [gt_lay, h1, if_true, if_false, not_false_eq_true, not_true_eq_false, ↓reduceIte, wMix, wLog, wPic, wRep, wScr, wVM, wMd, sR_eq, sR_ne, sF_eq, sF_ne, upd_eq, upd_ne, gs_eq, gs_ne, gm_4, gm_ne, Nat.reduceBEq]; done) | (with_reducible rfl) | (simp only [gt_lay, h1, if_true, if_false, not_false_eq_true, not_true_eq_false, ↓reduceIte]; rfl) | rfl)
      · exact absurd (nI_le (a := 10) (b := 10) (by omega) (by decide)) h2
    | succ n ih =>
      intro i hi
      refine y_iload Z dX2_layOver_5 4 rfl ?_
      refine y_bipush (v := 10) Z dX2_layOver_7 (by decide) ?_
      refine y_icmp_ge (tgt := 52) Z dX2_layOver_9 (by decide) (fun h3 => ?_) (fun h4 => ?_)
      · exact absurd h3 (nI_ge (a := i) (b := 10) (by omega) (by decide))
      · refine y_aload_n Z dX2_layOver_12 0 rfl rfl ?_
        refine y_get (C := RX2) (T := TX2) (N := 1) Z 2 inlX2 rfl 0 rfl 0 (by decide) fl_RX2_9 rfl dX2_layOver_13 ?_
        refine y_iload Z dX2_layOver_16 4 rfl ?_
        refine y_NI Z (k_X5_cell l D ht0 (aP 1) 10 (((gt_tak cv i P).1) 1) (nI i) (by decide)) (y_cn (n := 2) (host := RX5) Z co_X5_cell rfl rfl nm_RX2_58 in_X5 st_X5_cell hs_X5_cell ⟨Nat.le_of_ble_eq_true rfl, Nat.le_of_ble_eq_true rfl⟩) [1] rfl (by decide) rfl rfl (Nat.le_of_ble_eq_true rfl) dX2_layOver_18 ⟨Nat.le_of_ble_eq_true rfl, Nat.le_of_ble_eq_true rfl⟩ [(aP 1)] rfl rfl (wPic cI aP ((gt_tak cv i P).1)) rfl ?_
        refine y_i2l Z dX2_layOver_21 ?_
        refine y_iload_n Z dX2_layOver_22 2 rfl rfl ?_
        refine y_i2l Z dX2_layOver_23 ?_
        refine y_lmul Z dX2_layOver_24 ?_
        refine y_ldc2 Z (10000) ct_RX2_62 dX2_layOver_25 ?_
        refine y_ldiv Z dX2_layOver_28 (by decide) ?_
        refine y_l2i Z dX2_layOver_29 ?_
        refine y_istore Z [(5, .int (Int64.toInt32 (((Int32.toInt64 (cellF (((gt_tak cv i P).1) 1) 10 (nI i))) * (Int32.toInt64 cv)) / 10000))), (0, .ref (aP 0)), (1, .int fi), (2, .int cv), (3, .int ((gt_tak cv i P).2)), (4, .int (nI i))] dX2_layOver_30 (by decide) rfl ?_
        refine y_aload_n Z dX2_layOver_32 1 rfl rfl ?_
        refine y_iload Z dX2_layOver_33 5 rfl ?_
        refine y_iload Z dX2_layOver_35 0 rfl ?_
        refine y_ineg Z dX2_layOver_37 ?_
        refine y_VV Z (k_X2_addPart l D ht0 aP ((gt_tak cv i P).1) (nI i) (-(Int64.toInt32 (((Int32.toInt64 (cellF (((gt_tak cv i P).1) 1) 10 (nI i))) * (Int32.toInt64 cv)) / 10000)))) (y_cwV 2 Z ml_RX2_48 im_X2_addPart se_X2_addPart in_X2 co_X2_addPart rfl rfl hd_X2_addPart ⟨Nat.le_of_ble_eq_true rfl, Nat.le_of_ble_eq_true rfl⟩) [0, 1] rfl (by decide) 2 0 rfl rfl rfl rfl (Nat.le_of_ble_eq_true rfl) dX2_layOver_38 ⟨Nat.le_of_ble_eq_true rfl, Nat.le_of_ble_eq_true rfl⟩ [(aP 0), (aP 1)] rfl rfl (wPic cI aP (gt_add ((gt_tak cv i P).1) (nI i) (-(Int64.toInt32 (((Int32.toInt64 (cellF (((gt_tak cv i P).1) 1) 10 (nI i))) * (Int32.toInt64 cv)) / 10000))))) rfl ?_
        refine y_iload_n Z dX2_layOver_41 4 rfl rfl ?_
        refine y_iload Z dX2_layOver_42 0 rfl ?_
        refine y_iadd Z dX2_layOver_44 ?_
        refine y_istore_n Z [(3, .int ((gt_tak cv i P).2 + (Int64.toInt32 (((Int32.toInt64 (cellF (((gt_tak cv i P).1) 1) 10 (nI i))) * (Int32.toInt64 cv)) / 10000)))), (5, .int (Int64.toInt32 (((Int32.toInt64 (cellF (((gt_tak cv i P).1) 1) 10 (nI i))) * (Int32.toInt64 cv)) / 10000))), (0, .ref (aP 0)), (1, .int fi), (2, .int cv), (4, .int (nI i))] dX2_layOver_45 rfl (by decide) rfl ?_
        refine y_iinc Z [(4, .int (nI (i + 1))), (3, .int ((gt_tak cv i P).2 + (Int64.toInt32 (((Int32.toInt64 (cellF (((gt_tak cv i P).1) 1) 10 (nI i))) * (Int32.toInt64 cv)) / 10000)))), (5, .int (Int64.toInt32 (((Int32.toInt64 (cellF (((gt_tak cv i P).1) 1) 10 (nI i))) * (Int32.toInt64 cv)) / 10000))), (0, .ref (aP 0)), (1, .int fi), (2, .int cv)] dX2_layOver_46 5 rfl (nI_1 _) (by decide) rfl ?_
        refine y_goto (tgt := 5) Z dX2_layOver_49 (by decide) ?_
        refine y_lv [3, 4, 5, 1, 0] rfl ?_
        refine y_eq (ws' := (wPic cI aP ((gt_tak cv (i + 1) P).1))) (lv' := [(0, .ref (aP 0)), (1, .int fi), (2, .int cv), (3, .int ((gt_tak cv (i + 1) P).2)), (4, .int (nI (i + 1)))]) (st' := []) (by first | (simp only [it_s, gt_tak, gt_takS, tkF, h4, if_true, if_false, not_false_eq_true, not_true_eq_false, ↓reduceIte]; done) | (simp only [it_s, gt_tak, gt_takS, tkF, h4, if_true, if_false, not_false_eq_true, not_true_eq_false, ↓reduceIte, wMix, wLog, wPic, wRep, wScr, wVM, wMd, sR_eq, sR_ne, sF_eq, sF_ne, upd_eq, upd_ne, gs_eq, gs_ne, gm_4, gm_ne, Nat.reduceBEq]; done) | (with_reducible rfl) | (simp only [it_s, gt_tak, gt_takS, tkF, h4, if_true, if_false, not_false_eq_true, not_true_eq_false, ↓reduceIte]; rfl) | rfl) (by first | (simp only [it_s, gt_tak, gt_takS, tkF, h4, if_true, if_false, not_false_eq_true, not_true_eq_false, ↓reduceIte]; done) | (simp only [it_s, gt_tak, gt_takS, tkF, h4, if_true, if_false, not_false_eq_true, not_true_eq_false, ↓reduceIte, wMix, wLog, wPic, wRep, wScr, wVM, wMd, sR_eq, sR_ne, sF_eq, sF_ne, upd_eq, upd_ne, gs_eq, gs_ne, gm_4, gm_ne, Nat.reduceBEq]; done) | (with_reducible rfl) | (simp only [it_s, gt_tak, gt_takS, tkF, h4, if_true, if_false, not_false_eq_true, not_true_eq_false, ↓reduceIte]; rfl) | rfl) rfl ?_
        exact ih (i + 1) (by omega)
  refine y_iconst (v := 0) Z dX2_layOver_0 (by decide) ?_
  refine y_istore_n Z [(3, .int 0), (0, .ref (aP 0)), (1, .int fi), (2, .int cv)] dX2_layOver_1 rfl (by decide) rfl ?_
  refine y_iconst (v := 0) Z dX2_layOver_2 (by decide) ?_
  refine y_istore Z [(4, .int 0), (3, .int 0), (0, .ref (aP 0)), (1, .int fi), (2, .int cv)] dX2_layOver_3 (by decide) rfl ?_
  refine y_lv [2, 3, 4, 1, 0] rfl ?_
  exact L5 10 0 (by omega)
set_option maxHeartbeats 4000000 in
set_option maxRecDepth 100000 in
theorem k_X2_paint (l : Launch) (D : va_G) {cI : ClassId} {tys : List (ClassId × FieldType)} (ht0 : tys[0]? = some (cI, .int)) (aP : Nat → Nat) (P : Nat → Nat → Int32) (aM : Nat → Nat) (M : Nat → Nat → Int32) (sz : Nat) : kV l yX2_paint cX2_paint 3 none { frames := 3, cells := 0, slots := 0, locals := 69 } D tys [.ref (aP 0), .ref (aM 0)] (wPic cI aP P ++ (wMix cI aM M)) (wPic cI aP (gt_paint M P) ++ (wMix cI aM M)) 0 0 sz := by
  refine y_enterV (cc := cX2_paint) (maxL := 3) (ret := none) (own := RX2) (by decide) rfl (lv0 := [(0, .ref (aP 0)), (1, .ref (aM 0))]) rfl (Nat.le_of_ble_eq_true rfl) ?_
  intro p e s m args below meth c A Z hr hlk _
  have L30 : ∀ (n i : Nat), i + n = 3 → Yy p l e { frames := 3, cells := 0, slots := 0, locals := 69 } s m args below meth c (QV D tys A (wPic cI aP (gt_paint M P) ++ (wMix cI aM M)) below args s 0 0) D A 3 0 0 (wPic cI aP (it (gt_layS M) i (gt_pb M P)) ++ (wMix cI aM M)) [(0, .ref (aP 0)), (1, .ref (aM 0)), (2, .int (nI i))] [] 30 := by
    intro n; induction n with
    | zero =>
      intro i hi
      have hi : i = 3 := by omega
      subst hi
      refine y_iload_n Z dX2_paint_30 2 rfl rfl ?_
      refine y_iconst (v := 3) Z dX2_paint_31 (by decide) ?_
      refine y_icmp_ge (tgt := 55) Z dX2_paint_32 (by decide) (fun h1 => ?_) (fun h2 => ?_)
      · exact y_retV Z hr hlk dX2_paint_55 (by first | (simp only [gt_paint, h1, if_true, if_false, not_false_eq_true, not_true_eq_false, ↓reduceIte]; done) | (simp only [gt_paint, h1, if_true, if_false, not_false_eq_true, not_true_eq_false, ↓reduceIte, wMix, wLog, wPic, wRep, wScr, wVM, wMd, sR_eq, sR_ne, sF_eq, sF_ne, upd_eq, upd_ne, gs_eq, gs_ne, gm_4, gm_ne, Nat.reduceBEq]; done) | (with_reducible rfl) | (simp only [gt_paint, h1, if_true, if_false, not_false_eq_true, not_true_eq_false, ↓reduceIte]; rfl) | rfl)
      · exact absurd (nI_le (a := 3) (b := 3) (by omega) (by decide)) h2
    | succ n ih =>
      intro i hi
      refine y_iload_n Z dX2_paint_30 2 rfl rfl ?_
      refine y_iconst (v := 3) Z dX2_paint_31 (by decide) ?_
      refine y_icmp_ge (tgt := 55) Z dX2_paint_32 (by decide) (fun h3 => ?_) (fun h4 => ?_)
      · exact absurd h3 (nI_ge (a := i) (b := 3) (by omega) (by decide))
      · refine y_aload_n Z dX2_paint_35 0 rfl rfl ?_
        refine y_aload_n Z dX2_paint_36 1 rfl rfl ?_
        refine y_iload_n Z dX2_paint_37 2 rfl rfl ?_
        refine y_VI Z (k_X1_fillOf l D ht0 aM M (nI i)) (y_cwV 1 Z ml_RX2_23 im_X1_fillOf se_X1_fillOf in_X1 co_X1_fillOf rfl rfl hd_X1_fillOf ⟨Nat.le_of_ble_eq_true rfl, Nat.le_of_ble_eq_true rfl⟩) [2, 3, 4, 5] rfl (by decide) 1 2 rfl rfl rfl rfl (Nat.le_of_ble_eq_true rfl) dX2_paint_38 ⟨Nat.le_of_ble_eq_true rfl, Nat.le_of_ble_eq_true rfl⟩ [(aM 0), (aM 1), (aM 2), (aM 3)] rfl rfl (wPic cI aP (it (gt_layS M) i (gt_pb M P)) ++ (wMix cI aM M)) rfl ?_
        refine y_aload_n Z dX2_paint_41 1 rfl rfl ?_
        refine y_iload_n Z dX2_paint_42 2 rfl rfl ?_
        refine y_VI Z (k_X1_coverOf l D ht0 aM M (nI i)) (y_cwV 1 Z ml_RX2_29 im_X1_coverOf se_X1_coverOf in_X1 co_X1_coverOf rfl rfl hd_X1_coverOf ⟨Nat.le_of_ble_eq_true rfl, Nat.le_of_ble_eq_true rfl⟩) [2, 3, 4, 5] rfl (by decide) 1 2 rfl rfl rfl rfl (Nat.le_of_ble_eq_true rfl) dX2_paint_43 ⟨Nat.le_of_ble_eq_true rfl, Nat.le_of_ble_eq_true rfl⟩ [(aM 0), (aM 1), (aM 2), (aM 3)] rfl rfl (wPic cI aP (it (gt_layS M) i (gt_pb M P)) ++ (wMix cI aM M)) rfl ?_
        refine y_VV Z (k_X2_layOver l D ht0 aP (it (gt_layS M) i (gt_pb M P)) (cellF (M 1) 3 (nI i)) (coverF M (nI i))) (y_cwV 2 Z ml_RX2_32 im_X2_layOver se_X2_layOver in_X2 co_X2_layOver rfl rfl hd_X2_layOver ⟨Nat.le_of_ble_eq_true rfl, Nat.le_of_ble_eq_true rfl⟩) [0, 1] rfl (by decide) 2 0 rfl rfl rfl rfl (Nat.le_of_ble_eq_true rfl) dX2_paint_46 ⟨Nat.le_of_ble_eq_true rfl, Nat.le_of_ble_eq_true rfl⟩ [(aP 0), (aP 1)] rfl rfl (wPic cI aP (gt_lay (cellF (M 1) 3 (nI i)) (coverF M (nI i)) (it (gt_layS M) i (gt_pb M P))) ++ (wMix cI aM M)) rfl ?_
        refine y_iinc Z [(2, .int (nI (i + 1))), (0, .ref (aP 0)), (1, .ref (aM 0))] dX2_paint_49 2 rfl (nI_1 _) (by decide) rfl ?_
        refine y_goto (tgt := 30) Z dX2_paint_52 (by decide) ?_
        refine y_lv [1, 2, 0] rfl ?_
        refine y_eq (ws' := (wPic cI aP (it (gt_layS M) (i + 1) (gt_pb M P)) ++ (wMix cI aM M))) (lv' := [(0, .ref (aP 0)), (1, .ref (aM 0)), (2, .int (nI (i + 1)))]) (st' := []) (by first | (simp only [it_s, gt_layS, h4, if_true, if_false, not_false_eq_true, not_true_eq_false, ↓reduceIte]; done) | (simp only [it_s, gt_layS, h4, if_true, if_false, not_false_eq_true, not_true_eq_false, ↓reduceIte, wMix, wLog, wPic, wRep, wScr, wVM, wMd, sR_eq, sR_ne, sF_eq, sF_ne, upd_eq, upd_ne, gs_eq, gs_ne, gm_4, gm_ne, Nat.reduceBEq]; done) | (with_reducible rfl) | (simp only [it_s, gt_layS, h4, if_true, if_false, not_false_eq_true, not_true_eq_false, ↓reduceIte]; rfl) | rfl) (by first | (simp only [it_s, gt_layS, h4, if_true, if_false, not_false_eq_true, not_true_eq_false, ↓reduceIte]; done) | (simp only [it_s, gt_layS, h4, if_true, if_false, not_false_eq_true, not_true_eq_false, ↓reduceIte, wMix, wLog, wPic, wRep, wScr, wVM, wMd, sR_eq, sR_ne, sF_eq, sF_ne, upd_eq, upd_ne, gs_eq, gs_ne, gm_4, gm_ne, Nat.reduceBEq]; done) | (with_reducible rfl) | (simp only [it_s, gt_layS, h4, if_true, if_false, not_false_eq_true, not_true_eq_false, ↓reduceIte]; rfl) | rfl) rfl ?_
        exact ih (i + 1) (by omega)
  have L2 : ∀ (n i : Nat), i + n = 10 → Yy p l e { frames := 3, cells := 0, slots := 0, locals := 69 } s m args below meth c (QV D tys A (wPic cI aP (gt_paint M P) ++ (wMix cI aM M)) below args s 0 0) D A 3 0 0 (wPic cI aP (it gt_zero i P) ++ (wMix cI aM M)) [(0, .ref (aP 0)), (1, .ref (aM 0)), (2, .int (nI i))] [] 2 := by
    intro n; induction n with
    | zero =>
      intro i hi
      have hi : i = 10 := by omega
      subst hi
      refine y_iload_n Z dX2_paint_2 2 rfl rfl ?_
      refine y_bipush (v := 10) Z dX2_paint_3 (by decide) ?_
      refine y_icmp_ge (tgt := 23) Z dX2_paint_5 (by decide) (fun h5 => ?_) (fun h6 => ?_)
      · refine y_aload_n Z dX2_paint_23 0 rfl rfl ?_
        refine y_aload_n Z dX2_paint_24 1 rfl rfl ?_
        refine y_VV Z (k_X2_paintBackground l D ht0 aP (it gt_zero 10 P) aM M) (y_cwV 1 Z ml_RX2_19 im_X2_paintBackground se_X2_paintBackground in_X2 co_X2_paintBackground rfl rfl hd_X2_paintBackground ⟨Nat.le_of_ble_eq_true rfl, Nat.le_of_ble_eq_true rfl⟩) [0, 1, 2, 3, 4, 5] rfl (by decide) 2 0 rfl rfl rfl rfl (Nat.le_of_ble_eq_true rfl) dX2_paint_25 ⟨Nat.le_of_ble_eq_true rfl, Nat.le_of_ble_eq_true rfl⟩ [(aP 0), (aP 1), (aM 0), (aM 1), (aM 2), (aM 3)] rfl rfl (wPic cI aP (gt_bg M (it gt_zero 10 P)) ++ (wMix cI aM M)) rfl ?_
        refine y_iconst (v := 0) Z dX2_paint_28 (by decide) ?_
        refine y_istore_n Z [(2, .int 0), (0, .ref (aP 0)), (1, .ref (aM 0))] dX2_paint_29 rfl (by decide) rfl ?_
        refine y_lv [1, 2, 0] rfl ?_
        refine y_eq (ws' := (wPic cI aP (it (gt_layS M) 0 (gt_pb M P)) ++ (wMix cI aM M))) (lv' := [(0, .ref (aP 0)), (1, .ref (aM 0)), (2, .int (nI 0))]) (st' := []) (by first | (simp only [gt_pb, it_0, if_true, if_false, not_false_eq_true, not_true_eq_false, ↓reduceIte]; done) | (simp only [gt_pb, it_0, if_true, if_false, not_false_eq_true, not_true_eq_false, ↓reduceIte, wMix, wLog, wPic, wRep, wScr, wVM, wMd, sR_eq, sR_ne, sF_eq, sF_ne, upd_eq, upd_ne, gs_eq, gs_ne, gm_4, gm_ne, Nat.reduceBEq]; done) | (with_reducible rfl) | (simp only [gt_pb, it_0, if_true, if_false, not_false_eq_true, not_true_eq_false, ↓reduceIte]; rfl) | rfl) (by first | (simp only [gt_pb, it_0, if_true, if_false, not_false_eq_true, not_true_eq_false, ↓reduceIte]; done) | (simp only [gt_pb, it_0, if_true, if_false, not_false_eq_true, not_true_eq_false, ↓reduceIte, wMix, wLog, wPic, wRep, wScr, wVM, wMd, sR_eq, sR_ne, sF_eq, sF_ne, upd_eq, upd_ne, gs_eq, gs_ne, gm_4, gm_ne, Nat.reduceBEq]; done) | (with_reducible rfl) | (simp only [gt_pb, it_0, if_true, if_false, not_false_eq_true, not_true_eq_false, ↓reduceIte]; rfl) | rfl) rfl ?_
        exact L30 3 0 (by omega)
      · exact absurd (nI_le (a := 10) (b := 10) (by omega) (by decide)) h6
    | succ n ih =>
      intro i hi
      refine y_iload_n Z dX2_paint_2 2 rfl rfl ?_
      refine y_bipush (v := 10) Z dX2_paint_3 (by decide) ?_
      refine y_icmp_ge (tgt := 23) Z dX2_paint_5 (by decide) (fun h7 => ?_) (fun h8 => ?_)
      · exact absurd h7 (nI_ge (a := i) (b := 10) (by omega) (by decide))
      · refine y_aload_n Z dX2_paint_8 0 rfl rfl ?_
        refine y_get (C := RX2) (T := TX2) (N := 1) Z 2 inlX2 rfl 0 rfl 0 (by decide) fl_RX2_9 rfl dX2_paint_9 ?_
        refine y_iload_n Z dX2_paint_12 2 rfl rfl ?_
        refine y_iconst (v := 0) Z dX2_paint_13 (by decide) ?_
        refine y_NV Z (k_X5_put l D ht0 (aP 1) 10 ((it gt_zero i P) 1) (nI i) 0 (by decide)) (y_cn (n := 3) (host := RX5) Z co_X5_put rfl rfl nm_RX2_15 in_X5 st_X5_put hs_X5_put ⟨Nat.le_of_ble_eq_true rfl, Nat.le_of_ble_eq_true rfl⟩) [1] rfl (by decide) rfl rfl (Nat.le_of_ble_eq_true rfl) dX2_paint_14 ⟨Nat.le_of_ble_eq_true rfl, Nat.le_of_ble_eq_true rfl⟩ [(aP 1)] rfl rfl (wPicR cI aP (putF ((it gt_zero i P) 1) 10 (nI i) 0) ++ (wMix cI aM M)) rfl ?_
        refine y_iinc Z [(2, .int (nI (i + 1))), (0, .ref (aP 0)), (1, .ref (aM 0))] dX2_paint_17 2 rfl (nI_1 _) (by decide) rfl ?_
        refine y_goto (tgt := 2) Z dX2_paint_20 (by decide) ?_
        refine y_lv [1, 2, 0] rfl ?_
        refine y_eq (ws' := (wPic cI aP (it gt_zero (i + 1) P) ++ (wMix cI aM M))) (lv' := [(0, .ref (aP 0)), (1, .ref (aM 0)), (2, .int (nI (i + 1)))]) (st' := []) (by first | (simp only [it_s, gt_zero, h8, if_true, if_false, not_false_eq_true, not_true_eq_false, ↓reduceIte]; done) | (simp only [it_s, gt_zero, h8, if_true, if_false, not_false_eq_true, not_true_eq_false, ↓reduceIte, wMix, wLog, wPic, wRep, wScr, wVM, wMd, sR_eq, sR_ne, sF_eq, sF_ne, upd_eq, upd_ne, gs_eq, gs_ne, gm_4, gm_ne, Nat.reduceBEq]; done) | (with_reducible rfl) | (simp only [it_s, gt_zero, h8, if_true, if_false, not_false_eq_true, not_true_eq_false, ↓reduceIte]; rfl) | rfl) (by first | (simp only [it_s, gt_zero, h8, if_true, if_false, not_false_eq_true, not_true_eq_false, ↓reduceIte]; done) | (simp only [it_s, gt_zero, h8, if_true, if_false, not_false_eq_true, not_true_eq_false, ↓reduceIte, wMix, wLog, wPic, wRep, wScr, wVM, wMd, sR_eq, sR_ne, sF_eq, sF_ne, upd_eq, upd_ne, gs_eq, gs_ne, gm_4, gm_ne, Nat.reduceBEq]; done) | (with_reducible rfl) | (simp only [it_s, gt_zero, h8, if_true, if_false, not_false_eq_true, not_true_eq_false, ↓reduceIte]; rfl) | rfl) rfl ?_
        exact ih (i + 1) (by omega)
  refine y_iconst (v := 0) Z dX2_paint_0 (by decide) ?_
  refine y_istore_n Z [(2, .int 0), (0, .ref (aP 0)), (1, .ref (aM 0))] dX2_paint_1 rfl (by decide) rfl ?_
  refine y_lv [1, 2, 0] rfl ?_
  exact L2 10 0 (by omega)
set_option maxHeartbeats 4000000 in
set_option maxRecDepth 100000 in
theorem k_X2_faultyParts (l : Launch) (D : va_G) {cI : ClassId} {tys : List (ClassId × FieldType)} (ht0 : tys[0]? = some (cI, .int)) (aP : Nat → Nat) (P : Nat → Nat → Int32) (fa : Int32) (sz : Nat) : kI l yX2_faultyParts cX2_faultyParts 4 (some .int) { frames := 2, cells := 0, slots := 0, locals := 42 } D tys [.ref (aP 0), .int fa] (wPic cI aP P) (wPic cI aP P) (fpF P fa) 0 0 sz := by
  refine y_enterI (cc := cX2_faultyParts) (maxL := 4) (ret := (some .int)) (own := RX2) (by decide) rfl (lv0 := [(0, .ref (aP 0)), (1, .int fa)]) rfl (Nat.le_of_ble_eq_true rfl) ?_
  intro p e s m args below meth c A Z hr hlk _
  have L4 : ∀ (n i : Nat), i + n = 10 → Yy p l e { frames := 2, cells := 0, slots := 0, locals := 42 } s m args below meth c (QI D tys A (wPic cI aP P) (fpF P fa) below args s 0 0) D A 4 0 0 (wPic cI aP P) [(0, .ref (aP 0)), (1, .int fa), (2, .int (it (fpS P fa) i 0)), (3, .int (nI i))] [] 4 := by
    intro n; induction n with
    | zero =>
      intro i hi
      have hi : i = 10 := by omega
      subst hi
      refine y_iload_n Z dX2_faultyParts_4 3 rfl rfl ?_
      refine y_bipush (v := 10) Z dX2_faultyParts_5 (by decide) ?_
      refine y_icmp_ge (tgt := 32) Z dX2_faultyParts_7 (by decide) (fun h1 => ?_) (fun h2 => ?_)
      · refine y_iload_n Z dX2_faultyParts_32 2 rfl rfl ?_
        exact y_retI Z hr hlk dX2_faultyParts_33 (by first | (simp only [fpF, h1, if_true, if_false, not_false_eq_true, not_true_eq_false, ↓reduceIte]; done) | (simp only [fpF, h1, if_true, if_false, not_false_eq_true, not_true_eq_false, ↓reduceIte, wMix, wLog, wPic, wRep, wScr, wVM, wMd, sR_eq, sR_ne, sF_eq, sF_ne, upd_eq, upd_ne, gs_eq, gs_ne, gm_4, gm_ne, Nat.reduceBEq]; done) | (with_reducible rfl) | (simp only [fpF, h1, if_true, if_false, not_false_eq_true, not_true_eq_false, ↓reduceIte]; rfl) | rfl) (by first | (simp only [fpF, h1, if_true, if_false, not_false_eq_true, not_true_eq_false, ↓reduceIte]; done) | (simp only [fpF, h1, if_true, if_false, not_false_eq_true, not_true_eq_false, ↓reduceIte, wMix, wLog, wPic, wRep, wScr, wVM, wMd, sR_eq, sR_ne, sF_eq, sF_ne, upd_eq, upd_ne, gs_eq, gs_ne, gm_4, gm_ne, Nat.reduceBEq]; done) | (with_reducible rfl) | (simp only [fpF, h1, if_true, if_false, not_false_eq_true, not_true_eq_false, ↓reduceIte]; rfl) | rfl)
      · exact absurd (nI_le (a := 10) (b := 10) (by omega) (by decide)) h2
    | succ n ih =>
      intro i hi
      refine y_iload_n Z dX2_faultyParts_4 3 rfl rfl ?_
      refine y_bipush (v := 10) Z dX2_faultyParts_5 (by decide) ?_
      refine y_icmp_ge (tgt := 32) Z dX2_faultyParts_7 (by decide) (fun h3 => ?_) (fun h4 => ?_)
      · exact absurd h3 (nI_ge (a := i) (b := 10) (by omega) (by decide))
      · refine y_iload_n Z dX2_faultyParts_10 1 rfl rfl ?_
        refine y_iload_n Z dX2_faultyParts_11 3 rfl rfl ?_
        refine y_NI Z (k_X5_hasSource l D ht0 fa (nI i)) (y_cn (n := 2) (host := RX5) Z co_X5_hasSource rfl rfl nm_RX2_70 in_X5 st_X5_hasSource hs_X5_hasSource ⟨Nat.le_of_ble_eq_true rfl, Nat.le_of_ble_eq_true rfl⟩) [] rfl (by decide) rfl rfl (Nat.le_of_ble_eq_true rfl) dX2_faultyParts_12 ⟨Nat.le_of_ble_eq_true rfl, Nat.le_of_ble_eq_true rfl⟩ [] rfl rfl (wPic cI aP P) rfl ?_
        refine y_if_eq (tgt := 26) Z dX2_faultyParts_15 (by decide) (fun h5 => ?_) (fun h6 => ?_)
        · refine y_iinc Z [(3, .int (nI (i + 1))), (0, .ref (aP 0)), (1, .int fa), (2, .int (it (fpS P fa) i 0))] dX2_faultyParts_26 3 rfl (nI_1 _) (by decide) rfl ?_
          refine y_goto (tgt := 4) Z dX2_faultyParts_29 (by decide) ?_
          refine y_lv [1, 2, 3, 0] rfl ?_
          refine y_eq (ws' := (wPic cI aP P)) (lv' := [(0, .ref (aP 0)), (1, .int fa), (2, .int (it (fpS P fa) (i + 1) 0)), (3, .int (nI (i + 1)))]) (st' := []) (by first | (simp only [it_s, fpS, h4, eq_true h5, if_true, if_false, not_false_eq_true, not_true_eq_false, ↓reduceIte]; done) | (simp only [it_s, fpS, h4, eq_true h5, if_true, if_false, not_false_eq_true, not_true_eq_false, ↓reduceIte, wMix, wLog, wPic, wRep, wScr, wVM, wMd, sR_eq, sR_ne, sF_eq, sF_ne, upd_eq, upd_ne, gs_eq, gs_ne, gm_4, gm_ne, Nat.reduceBEq]; done) | (with_reducible rfl) | (simp only [it_s, fpS, h4, eq_true h5, if_true, if_false, not_false_eq_true, not_true_eq_false, ↓reduceIte]; rfl) | rfl) (by first | (simp only [it_s, fpS, h4, eq_true h5, if_true, if_false, not_false_eq_true, not_true_eq_false, ↓reduceIte]; done) | (simp only [it_s, fpS, h4, eq_true h5, if_true, if_false, not_false_eq_true, not_true_eq_false, ↓reduceIte, wMix, wLog, wPic, wRep, wScr, wVM, wMd, sR_eq, sR_ne, sF_eq, sF_ne, upd_eq, upd_ne, gs_eq, gs_ne, gm_4, gm_ne, Nat.reduceBEq]; done) | (with_reducible rfl) | (simp only [it_s, fpS, h4, eq_true h5, if_true, if_false, not_false_eq_true, not_true_eq_false, ↓reduceIte]; rfl) | rfl) rfl ?_
          exact ih (i + 1) (by omega)
        · refine y_iload_n Z dX2_faultyParts_18 2 rfl rfl ?_
          refine y_aload_n Z dX2_faultyParts_19 0 rfl rfl ?_
          refine y_iload_n Z dX2_faultyParts_20 3 rfl rfl ?_
          refine y_VI Z (k_X2_partOf l D ht0 aP P (nI i)) (y_cwV 1 Z ml_RX2_64 im_X2_partOf se_X2_partOf in_X2 co_X2_partOf rfl rfl hd_X2_partOf ⟨Nat.le_of_ble_eq_true rfl, Nat.le_of_ble_eq_true rfl⟩) [0, 1] rfl (by decide) 2 0 rfl rfl rfl rfl (Nat.le_of_ble_eq_true rfl) dX2_faultyParts_21 ⟨Nat.le_of_ble_eq_true rfl, Nat.le_of_ble_eq_true rfl⟩ [(aP 0), (aP 1)] rfl rfl (wPic cI aP P) rfl ?_
          refine y_iadd Z dX2_faultyParts_24 ?_
          refine y_istore_n Z [(2, .int ((it (fpS P fa) i 0) + cellF (P 1) 10 (nI i))), (0, .ref (aP 0)), (1, .int fa), (3, .int (nI i))] dX2_faultyParts_25 rfl (by decide) rfl ?_
          refine y_iinc Z [(3, .int (nI (i + 1))), (2, .int ((it (fpS P fa) i 0) + cellF (P 1) 10 (nI i))), (0, .ref (aP 0)), (1, .int fa)] dX2_faultyParts_26 3 rfl (nI_1 _) (by decide) rfl ?_
          refine y_goto (tgt := 4) Z dX2_faultyParts_29 (by decide) ?_
          refine y_lv [2, 3, 1, 0] rfl ?_
          refine y_eq (ws' := (wPic cI aP P)) (lv' := [(0, .ref (aP 0)), (1, .int fa), (2, .int (it (fpS P fa) (i + 1) 0)), (3, .int (nI (i + 1)))]) (st' := []) (by first | (simp only [it_s, fpS, h4, h6, if_true, if_false, not_false_eq_true, not_true_eq_false, ↓reduceIte]; done) | (simp only [it_s, fpS, h4, h6, if_true, if_false, not_false_eq_true, not_true_eq_false, ↓reduceIte, wMix, wLog, wPic, wRep, wScr, wVM, wMd, sR_eq, sR_ne, sF_eq, sF_ne, upd_eq, upd_ne, gs_eq, gs_ne, gm_4, gm_ne, Nat.reduceBEq]; done) | (with_reducible rfl) | (simp only [it_s, fpS, h4, h6, if_true, if_false, not_false_eq_true, not_true_eq_false, ↓reduceIte]; rfl) | rfl) (by first | (simp only [it_s, fpS, h4, h6, if_true, if_false, not_false_eq_true, not_true_eq_false, ↓reduceIte]; done) | (simp only [it_s, fpS, h4, h6, if_true, if_false, not_false_eq_true, not_true_eq_false, ↓reduceIte, wMix, wLog, wPic, wRep, wScr, wVM, wMd, sR_eq, sR_ne, sF_eq, sF_ne, upd_eq, upd_ne, gs_eq, gs_ne, gm_4, gm_ne, Nat.reduceBEq]; done) | (with_reducible rfl) | (simp only [it_s, fpS, h4, h6, if_true, if_false, not_false_eq_true, not_true_eq_false, ↓reduceIte]; rfl) | rfl) rfl ?_
          exact ih (i + 1) (by omega)
  refine y_iconst (v := 0) Z dX2_faultyParts_0 (by decide) ?_
  refine y_istore_n Z [(2, .int 0), (0, .ref (aP 0)), (1, .int fa)] dX2_faultyParts_1 rfl (by decide) rfl ?_
  refine y_iconst (v := 0) Z dX2_faultyParts_2 (by decide) ?_
  refine y_istore_n Z [(3, .int 0), (2, .int 0), (0, .ref (aP 0)), (1, .int fa)] dX2_faultyParts_3 rfl (by decide) rfl ?_
  refine y_lv [2, 3, 1, 0] rfl ?_
  exact L4 10 0 (by omega)
set_option maxHeartbeats 4000000 in
set_option maxRecDepth 100000 in
theorem k_X2_seenOf (l : Launch) (D : va_G) {cI : ClassId} {tys : List (ClassId × FieldType)} (ht0 : tys[0]? = some (cI, .int)) (aP : Nat → Nat) (P : Nat → Nat → Int32) (q : Int32) (fa : Int32) (sz : Nat) : kI l yX2_seenOf cX2_seenOf 3 (some .int) { frames := 3, cells := 0, slots := 0, locals := 65 } D tys [.ref (aP 0), .int q, .int fa] (wPic cI aP P) (wPic cI aP P) (seenF P q fa) 0 0 sz := by
  refine y_enterI (cc := cX2_seenOf) (maxL := 3) (ret := (some .int)) (own := RX2) (by decide) rfl (lv0 := [(0, .ref (aP 0)), (1, .int q), (2, .int fa)]) rfl (Nat.le_of_ble_eq_true rfl) ?_
  intro p e s m args below meth c A Z hr hlk _
  refine y_iload_n Z dX2_seenOf_0 1 rfl rfl ?_
  refine y_if_ne (tgt := 16) Z dX2_seenOf_1 (by decide) (fun h1 => ?_) (fun h2 => ?_)
  · refine y_iload_n Z dX2_seenOf_16 2 rfl rfl ?_
    refine y_iload_n Z dX2_seenOf_17 1 rfl rfl ?_
    refine y_NI Z (k_X5_hasSource l D ht0 fa q) (y_cn (n := 2) (host := RX5) Z co_X5_hasSource rfl rfl nm_RX2_70 in_X5 st_X5_hasSource hs_X5_hasSource ⟨Nat.le_of_ble_eq_true rfl, Nat.le_of_ble_eq_true rfl⟩) [] rfl (by decide) rfl rfl (Nat.le_of_ble_eq_true rfl) dX2_seenOf_18 ⟨Nat.le_of_ble_eq_true rfl, Nat.le_of_ble_eq_true rfl⟩ [] rfl rfl (wPic cI aP P) rfl ?_
    refine y_if_eq (tgt := 28) Z dX2_seenOf_21 (by decide) (fun h3 => ?_) (fun h4 => ?_)
    · refine y_aload_n Z dX2_seenOf_28 0 rfl rfl ?_
      refine y_iload_n Z dX2_seenOf_29 1 rfl rfl ?_
      refine y_VI Z (k_X2_partOf l D ht0 aP P q) (y_cwV 1 Z ml_RX2_64 im_X2_partOf se_X2_partOf in_X2 co_X2_partOf rfl rfl hd_X2_partOf ⟨Nat.le_of_ble_eq_true rfl, Nat.le_of_ble_eq_true rfl⟩) [0, 1] rfl (by decide) 2 0 rfl rfl rfl rfl (Nat.le_of_ble_eq_true rfl) dX2_seenOf_30 ⟨Nat.le_of_ble_eq_true rfl, Nat.le_of_ble_eq_true rfl⟩ [(aP 0), (aP 1)] rfl rfl (wPic cI aP P) rfl ?_
      exact y_retI Z hr hlk dX2_seenOf_33 (by first | (simp only [seenF, h1, eq_true h3, if_true, if_false, not_false_eq_true, not_true_eq_false, ↓reduceIte]; done) | (simp only [seenF, h1, eq_true h3, if_true, if_false, not_false_eq_true, not_true_eq_false, ↓reduceIte, wMix, wLog, wPic, wRep, wScr, wVM, wMd, sR_eq, sR_ne, sF_eq, sF_ne, upd_eq, upd_ne, gs_eq, gs_ne, gm_4, gm_ne, Nat.reduceBEq]; done) | (with_reducible rfl) | (simp only [seenF, h1, eq_true h3, if_true, if_false, not_false_eq_true, not_true_eq_false, ↓reduceIte]; rfl) | rfl) (by first | (simp only [seenF, h1, eq_true h3, if_true, if_false, not_false_eq_true, not_true_eq_false, ↓reduceIte]; done) | (simp only [seenF, h1, eq_true h3, if_true, if_false, not_false_eq_true, not_true_eq_false, ↓reduceIte, wMix, wLog, wPic, wRep, wScr, wVM, wMd, sR_eq, sR_ne, sF_eq, sF_ne, upd_eq, upd_ne, gs_eq, gs_ne, gm_4, gm_ne, Nat.reduceBEq]; done) | (with_reducible rfl) | (simp only [seenF, h1, eq_true h3, if_true, if_false, not_false_eq_true, not_true_eq_false, ↓reduceIte]; rfl) | rfl)
    · refine y_iconst (v := 0) Z dX2_seenOf_24 (by decide) ?_
      refine y_goto (tgt := 33) Z dX2_seenOf_25 (by decide) ?_
      exact y_retI Z hr hlk dX2_seenOf_33 (by first | (simp only [seenF, h1, h4, if_true, if_false, not_false_eq_true, not_true_eq_false, ↓reduceIte]; done) | (simp only [seenF, h1, h4, if_true, if_false, not_false_eq_true, not_true_eq_false, ↓reduceIte, wMix, wLog, wPic, wRep, wScr, wVM, wMd, sR_eq, sR_ne, sF_eq, sF_ne, upd_eq, upd_ne, gs_eq, gs_ne, gm_4, gm_ne, Nat.reduceBEq]; done) | (with_reducible rfl) | (simp only [seenF, h1, h4, if_true, if_false, not_false_eq_true, not_true_eq_false, ↓reduceIte]; rfl) | rfl) (by first | (simp only [seenF, h1, h4, if_true, if_false, not_false_eq_true, not_true_eq_false, ↓reduceIte]; done) | (simp only [seenF, h1, h4, if_true, if_false, not_false_eq_true, not_true_eq_false, ↓reduceIte, wMix, wLog, wPic, wRep, wScr, wVM, wMd, sR_eq, sR_ne, sF_eq, sF_ne, upd_eq, upd_ne, gs_eq, gs_ne, gm_4, gm_ne, Nat.reduceBEq]; done) | (with_reducible rfl) | (simp only [seenF, h1, h4, if_true, if_false, not_false_eq_true, not_true_eq_false, ↓reduceIte]; rfl) | rfl)
  · refine y_aload_n Z dX2_seenOf_4 0 rfl rfl ?_
    refine y_iconst (v := 0) Z dX2_seenOf_5 (by decide) ?_
    refine y_VI Z (k_X2_partOf l D ht0 aP P 0) (y_cwV 1 Z ml_RX2_64 im_X2_partOf se_X2_partOf in_X2 co_X2_partOf rfl rfl hd_X2_partOf ⟨Nat.le_of_ble_eq_true rfl, Nat.le_of_ble_eq_true rfl⟩) [0, 1] rfl (by decide) 2 0 rfl rfl rfl rfl (Nat.le_of_ble_eq_true rfl) dX2_seenOf_6 ⟨Nat.le_of_ble_eq_true rfl, Nat.le_of_ble_eq_true rfl⟩ [(aP 0), (aP 1)] rfl rfl (wPic cI aP P) rfl ?_
    refine y_aload_n Z dX2_seenOf_9 0 rfl rfl ?_
    refine y_iload_n Z dX2_seenOf_10 2 rfl rfl ?_
    refine y_VI Z (k_X2_faultyParts l D ht0 aP P fa) (y_cwV 1 Z ml_RX2_67 im_X2_faultyParts se_X2_faultyParts in_X2 co_X2_faultyParts rfl rfl hd_X2_faultyParts ⟨Nat.le_of_ble_eq_true rfl, Nat.le_of_ble_eq_true rfl⟩) [0, 1] rfl (by decide) 2 0 rfl rfl rfl rfl (Nat.le_of_ble_eq_true rfl) dX2_seenOf_11 ⟨Nat.le_of_ble_eq_true rfl, Nat.le_of_ble_eq_true rfl⟩ [(aP 0), (aP 1)] rfl rfl (wPic cI aP P) rfl ?_
    refine y_iadd Z dX2_seenOf_14 ?_
    exact y_retI Z hr hlk dX2_seenOf_15 (by first | (simp only [seenF, eq_true h2, if_true, if_false, not_false_eq_true, not_true_eq_false, ↓reduceIte]; done) | (simp only [seenF, eq_true h2, if_true, if_false, not_false_eq_true, not_true_eq_false, ↓reduceIte, wMix, wLog, wPic, wRep, wScr, wVM, wMd, sR_eq, sR_ne, sF_eq, sF_ne, upd_eq, upd_ne, gs_eq, gs_ne, gm_4, gm_ne, Nat.reduceBEq]; done) | (with_reducible rfl) | (simp only [seenF, eq_true h2, if_true, if_false, not_false_eq_true, not_true_eq_false, ↓reduceIte]; rfl) | rfl) (by first | (simp only [seenF, eq_true h2, if_true, if_false, not_false_eq_true, not_true_eq_false, ↓reduceIte]; done) | (simp only [seenF, eq_true h2, if_true, if_false, not_false_eq_true, not_true_eq_false, ↓reduceIte, wMix, wLog, wPic, wRep, wScr, wVM, wMd, sR_eq, sR_ne, sF_eq, sF_ne, upd_eq, upd_ne, gs_eq, gs_ne, gm_4, gm_ne, Nat.reduceBEq]; done) | (with_reducible rfl) | (simp only [seenF, eq_true h2, if_true, if_false, not_false_eq_true, not_true_eq_false, ↓reduceIte]; rfl) | rfl)
set_option maxHeartbeats 4000000 in
set_option maxRecDepth 100000 in
theorem k_X2_reds (l : Launch) (D : va_G) {cI : ClassId} {tys : List (ClassId × FieldType)} (ht0 : tys[0]? = some (cI, .int)) (aP : Nat → Nat) (P : Nat → Nat → Int32) (sz : Nat) : kI l yX2_reds cX2_reds 3 (some .int) { frames := 2, cells := 0, slots := 0, locals := 42 } D tys [.ref (aP 0)] (wPic cI aP P) (wPic cI aP P) (rdF P) 0 0 sz := by
  refine y_enterI (cc := cX2_reds) (maxL := 3) (ret := (some .int)) (own := RX2) (by decide) rfl (lv0 := [(0, .ref (aP 0))]) rfl (Nat.le_of_ble_eq_true rfl) ?_
  intro p e s m args below meth c A Z hr hlk _
  have L4 : ∀ (n i : Nat), i + n = 10 → Yy p l e { frames := 2, cells := 0, slots := 0, locals := 42 } s m args below meth c (QI D tys A (wPic cI aP P) (rdF P) below args s 0 0) D A 3 0 0 (wPic cI aP P) [(0, .ref (aP 0)), (1, .int (it (rdS P) i 0)), (2, .int (nI i))] [] 4 := by
    intro n; induction n with
    | zero =>
      intro i hi
      have hi : i = 10 := by omega
      subst hi
      refine y_iload_n Z dX2_reds_4 2 rfl rfl ?_
      refine y_bipush (v := 10) Z dX2_reds_5 (by decide) ?_
      refine y_icmp_ge (tgt := 30) Z dX2_reds_7 (by decide) (fun h1 => ?_) (fun h2 => ?_)
      · refine y_iload_n Z dX2_reds_30 1 rfl rfl ?_
        exact y_retI Z hr hlk dX2_reds_31 (by first | (simp only [rdF, h1, if_true, if_false, not_false_eq_true, not_true_eq_false, ↓reduceIte]; done) | (simp only [rdF, h1, if_true, if_false, not_false_eq_true, not_true_eq_false, ↓reduceIte, wMix, wLog, wPic, wRep, wScr, wVM, wMd, sR_eq, sR_ne, sF_eq, sF_ne, upd_eq, upd_ne, gs_eq, gs_ne, gm_4, gm_ne, Nat.reduceBEq]; done) | (with_reducible rfl) | (simp only [rdF, h1, if_true, if_false, not_false_eq_true, not_true_eq_false, ↓reduceIte]; rfl) | rfl) (by first | (simp only [rdF, h1, if_true, if_false, not_false_eq_true, not_true_eq_false, ↓reduceIte]; done) | (simp only [rdF, h1, if_true, if_false, not_false_eq_true, not_true_eq_false, ↓reduceIte, wMix, wLog, wPic, wRep, wScr, wVM, wMd, sR_eq, sR_ne, sF_eq, sF_ne, upd_eq, upd_ne, gs_eq, gs_ne, gm_4, gm_ne, Nat.reduceBEq]; done) | (with_reducible rfl) | (simp only [rdF, h1, if_true, if_false, not_false_eq_true, not_true_eq_false, ↓reduceIte]; rfl) | rfl)
      · exact absurd (nI_le (a := 10) (b := 10) (by omega) (by decide)) h2
    | succ n ih =>
      intro i hi
      refine y_iload_n Z dX2_reds_4 2 rfl rfl ?_
      refine y_bipush (v := 10) Z dX2_reds_5 (by decide) ?_
      refine y_icmp_ge (tgt := 30) Z dX2_reds_7 (by decide) (fun h3 => ?_) (fun h4 => ?_)
      · exact absurd h3 (nI_ge (a := i) (b := 10) (by omega) (by decide))
      · refine y_aload_n Z dX2_reds_10 0 rfl rfl ?_
        refine y_iload_n Z dX2_reds_11 2 rfl rfl ?_
        refine y_VI Z (k_X2_partOf l D ht0 aP P (nI i)) (y_cwV 1 Z ml_RX2_64 im_X2_partOf se_X2_partOf in_X2 co_X2_partOf rfl rfl hd_X2_partOf ⟨Nat.le_of_ble_eq_true rfl, Nat.le_of_ble_eq_true rfl⟩) [0, 1] rfl (by decide) 2 0 rfl rfl rfl rfl (Nat.le_of_ble_eq_true rfl) dX2_reds_12 ⟨Nat.le_of_ble_eq_true rfl, Nat.le_of_ble_eq_true rfl⟩ [(aP 0), (aP 1)] rfl rfl (wPic cI aP P) rfl ?_
        refine y_if_le (tgt := 24) Z dX2_reds_15 (by decide) (fun h5 => ?_) (fun h6 => ?_)
        · refine y_iinc Z [(2, .int (nI (i + 1))), (0, .ref (aP 0)), (1, .int (it (rdS P) i 0))] dX2_reds_24 2 rfl (nI_1 _) (by decide) rfl ?_
          refine y_goto (tgt := 4) Z dX2_reds_27 (by decide) ?_
          refine y_lv [1, 2, 0] rfl ?_
          refine y_eq (ws' := (wPic cI aP P)) (lv' := [(0, .ref (aP 0)), (1, .int (it (rdS P) (i + 1) 0)), (2, .int (nI (i + 1)))]) (st' := []) (by first | (simp only [it_s, rdS, h4, h5, if_true, if_false, not_false_eq_true, not_true_eq_false, ↓reduceIte]; done) | (simp only [it_s, rdS, h4, h5, if_true, if_false, not_false_eq_true, not_true_eq_false, ↓reduceIte, wMix, wLog, wPic, wRep, wScr, wVM, wMd, sR_eq, sR_ne, sF_eq, sF_ne, upd_eq, upd_ne, gs_eq, gs_ne, gm_4, gm_ne, Nat.reduceBEq]; done) | (with_reducible rfl) | (simp only [it_s, rdS, h4, h5, if_true, if_false, not_false_eq_true, not_true_eq_false, ↓reduceIte]; rfl) | rfl) (by first | (simp only [it_s, rdS, h4, h5, if_true, if_false, not_false_eq_true, not_true_eq_false, ↓reduceIte]; done) | (simp only [it_s, rdS, h4, h5, if_true, if_false, not_false_eq_true, not_true_eq_false, ↓reduceIte, wMix, wLog, wPic, wRep, wScr, wVM, wMd, sR_eq, sR_ne, sF_eq, sF_ne, upd_eq, upd_ne, gs_eq, gs_ne, gm_4, gm_ne, Nat.reduceBEq]; done) | (with_reducible rfl) | (simp only [it_s, rdS, h4, h5, if_true, if_false, not_false_eq_true, not_true_eq_false, ↓reduceIte]; rfl) | rfl) rfl ?_
          exact ih (i + 1) (by omega)
        · refine y_iload_n Z dX2_reds_18 1 rfl rfl ?_
          refine y_iconst (v := 1) Z dX2_reds_19 (by decide) ?_
          refine y_iload_n Z dX2_reds_20 2 rfl rfl ?_
          refine y_ishl Z dX2_reds_21 ?_
          refine y_ior Z dX2_reds_22 ?_
          refine y_istore_n Z [(1, .int ((it (rdS P) i 0) ||| (1 <<< ((nI i) &&& 31)))), (0, .ref (aP 0)), (2, .int (nI i))] dX2_reds_23 rfl (by decide) rfl ?_
          refine y_iinc Z [(2, .int (nI (i + 1))), (1, .int ((it (rdS P) i 0) ||| (1 <<< ((nI i) &&& 31)))), (0, .ref (aP 0))] dX2_reds_24 2 rfl (nI_1 _) (by decide) rfl ?_
          refine y_goto (tgt := 4) Z dX2_reds_27 (by decide) ?_
          refine y_lv [2, 1, 0] rfl ?_
          refine y_eq (ws' := (wPic cI aP P)) (lv' := [(0, .ref (aP 0)), (1, .int (it (rdS P) (i + 1) 0)), (2, .int (nI (i + 1)))]) (st' := []) (by first | (simp only [it_s, rdS, h4, h6, if_true, if_false, not_false_eq_true, not_true_eq_false, ↓reduceIte]; done) | (simp only [it_s, rdS, h4, h6, if_true, if_false, not_false_eq_true, not_true_eq_false, ↓reduceIte, wMix, wLog, wPic, wRep, wScr, wVM, wMd, sR_eq, sR_ne, sF_eq, sF_ne, upd_eq, upd_ne, gs_eq, gs_ne, gm_4, gm_ne, Nat.reduceBEq]; done) | (with_reducible rfl) | (simp only [it_s, rdS, h4, h6, if_true, if_false, not_false_eq_true, not_true_eq_false, ↓reduceIte]; rfl) | rfl) (by first | (simp only [it_s, rdS, h4, h6, if_true, if_false, not_false_eq_true, not_true_eq_false, ↓reduceIte]; done) | (simp only [it_s, rdS, h4, h6, if_true, if_false, not_false_eq_true, not_true_eq_false, ↓reduceIte, wMix, wLog, wPic, wRep, wScr, wVM, wMd, sR_eq, sR_ne, sF_eq, sF_ne, upd_eq, upd_ne, gs_eq, gs_ne, gm_4, gm_ne, Nat.reduceBEq]; done) | (with_reducible rfl) | (simp only [it_s, rdS, h4, h6, if_true, if_false, not_false_eq_true, not_true_eq_false, ↓reduceIte]; rfl) | rfl) rfl ?_
          exact ih (i + 1) (by omega)
  refine y_iconst (v := 0) Z dX2_reds_0 (by decide) ?_
  refine y_istore_n Z [(1, .int 0), (0, .ref (aP 0))] dX2_reds_1 rfl (by decide) rfl ?_
  refine y_iconst (v := 0) Z dX2_reds_2 (by decide) ?_
  refine y_istore_n Z [(2, .int 0), (1, .int 0), (0, .ref (aP 0))] dX2_reds_3 rfl (by decide) rfl ?_
  refine y_lv [2, 1, 0] rfl ?_
  exact L4 10 0 (by omega)
set_option maxHeartbeats 4000000 in
set_option maxRecDepth 100000 in
theorem k_X0_size (l : Launch) (D : va_G) {cI : ClassId} {tys : List (ClassId × FieldType)} (ht0 : tys[0]? = some (cI, .int)) (aL : Nat → Nat) (L : Nat → Nat → Int32) (sz : Nat) : kI l yX0_size cX0_size 1 (some .int) { frames := 0, cells := 0, slots := 0, locals := 0 } D tys [.ref (aL 0)] (wLog cI aL L) (wLog cI aL L) (L 0 0) 0 0 sz := by
  refine y_enterI (cc := cX0_size) (maxL := 1) (ret := (some .int)) (own := RX0) (by decide) rfl (lv0 := [(0, .ref (aL 0))]) rfl (Nat.le_of_ble_eq_true rfl) ?_
  intro p e s m args below meth c A Z hr hlk _
  refine y_aload_n Z dX0_size_0 0 rfl rfl ?_
  refine y_get (C := RX0) (T := TX0) (N := 2) Z 0 inlX0 rfl 0 rfl 1 (by decide) fl_RX0_13 rfl dX0_size_1 ?_
  exact y_retI Z hr hlk dX0_size_4 (by first | (with_reducible rfl) | (simp only [wMix, wLog, wPic, wRep, wScr, wVM, wMd, sR_eq, sR_ne, sF_eq, sF_ne, upd_eq, upd_ne, gs_eq, gs_ne, gm_4, gm_ne, Nat.reduceBEq]; done) | rfl) (by first | (with_reducible rfl) | (simp only [wMix, wLog, wPic, wRep, wScr, wVM, wMd, sR_eq, sR_ne, sF_eq, sF_ne, upd_eq, upd_ne, gs_eq, gs_ne, gm_4, gm_ne, Nat.reduceBEq]; done) | rfl)
set_option maxHeartbeats 4000000 in
set_option maxRecDepth 100000 in
theorem k_X0_isFull (l : Launch) (D : va_G) {cI : ClassId} {tys : List (ClassId × FieldType)} (ht0 : tys[0]? = some (cI, .int)) (aL : Nat → Nat) (L : Nat → Nat → Int32) (sz : Nat) : kI l yX0_isFull cX0_isFull 1 (some .boolean) { frames := 0, cells := 0, slots := 0, locals := 0 } D tys [.ref (aL 0)] (wLog cI aL L) (wLog cI aL L) (if L 0 0 < 100 then 0 else 1) 0 0 sz := by
  refine y_enterI (cc := cX0_isFull) (maxL := 1) (ret := (some .boolean)) (own := RX0) (by decide) rfl (lv0 := [(0, .ref (aL 0))]) rfl (Nat.le_of_ble_eq_true rfl) ?_
  intro p e s m args below meth c A Z hr hlk _
  refine y_aload_n Z dX0_isFull_0 0 rfl rfl ?_
  refine y_get (C := RX0) (T := TX0) (N := 2) Z 0 inlX0 rfl 0 rfl 1 (by decide) fl_RX0_13 rfl dX0_isFull_1 ?_
  refine y_bipush (v := 100) Z dX0_isFull_4 (by decide) ?_
  refine y_icmp_lt (tgt := 13) Z dX0_isFull_6 (by decide) (fun h1 => ?_) (fun h2 => ?_)
  · refine y_iconst (v := 0) Z dX0_isFull_13 (by decide) ?_
    exact y_retZ Z hr hlk (by decide) dX0_isFull_14 (by first | (simp only [h1, if_true, if_false, not_false_eq_true, not_true_eq_false, ↓reduceIte]; done) | (simp only [h1, if_true, if_false, not_false_eq_true, not_true_eq_false, ↓reduceIte, wMix, wLog, wPic, wRep, wScr, wVM, wMd, sR_eq, sR_ne, sF_eq, sF_ne, upd_eq, upd_ne, gs_eq, gs_ne, gm_4, gm_ne, Nat.reduceBEq]; done) | (with_reducible rfl) | (simp only [h1, if_true, if_false, not_false_eq_true, not_true_eq_false, ↓reduceIte]; rfl) | rfl) (by first | (simp only [h1, if_true, if_false, not_false_eq_true, not_true_eq_false, ↓reduceIte]; done) | (simp only [h1, if_true, if_false, not_false_eq_true, not_true_eq_false, ↓reduceIte, wMix, wLog, wPic, wRep, wScr, wVM, wMd, sR_eq, sR_ne, sF_eq, sF_ne, upd_eq, upd_ne, gs_eq, gs_ne, gm_4, gm_ne, Nat.reduceBEq]; done) | (with_reducible rfl) | (simp only [h1, if_true, if_false, not_false_eq_true, not_true_eq_false, ↓reduceIte]; rfl) | rfl)
  · refine y_iconst (v := 1) Z dX0_isFull_9 (by decide) ?_
    refine y_goto (tgt := 14) Z dX0_isFull_10 (by decide) ?_
    exact y_retZ Z hr hlk (by decide) dX0_isFull_14 (by first | (simp only [h2, if_true, if_false, not_false_eq_true, not_true_eq_false, ↓reduceIte]; done) | (simp only [h2, if_true, if_false, not_false_eq_true, not_true_eq_false, ↓reduceIte, wMix, wLog, wPic, wRep, wScr, wVM, wMd, sR_eq, sR_ne, sF_eq, sF_ne, upd_eq, upd_ne, gs_eq, gs_ne, gm_4, gm_ne, Nat.reduceBEq]; done) | (with_reducible rfl) | (simp only [h2, if_true, if_false, not_false_eq_true, not_true_eq_false, ↓reduceIte]; rfl) | rfl) (by first | (simp only [h2, if_true, if_false, not_false_eq_true, not_true_eq_false, ↓reduceIte]; done) | (simp only [h2, if_true, if_false, not_false_eq_true, not_true_eq_false, ↓reduceIte, wMix, wLog, wPic, wRep, wScr, wVM, wMd, sR_eq, sR_ne, sF_eq, sF_ne, upd_eq, upd_ne, gs_eq, gs_ne, gm_4, gm_ne, Nat.reduceBEq]; done) | (with_reducible rfl) | (simp only [h2, if_true, if_false, not_false_eq_true, not_true_eq_false, ↓reduceIte]; rfl) | rfl)
set_option maxHeartbeats 4000000 in
set_option maxRecDepth 100000 in
theorem k_X0_add (l : Launch) (D : va_G) {cI : ClassId} {tys : List (ClassId × FieldType)} (ht0 : tys[0]? = some (cI, .int)) (aL : Nat → Nat) (L : Nat → Nat → Int32) (t : Int32) (w : Int32) (a : Int32) (b : Int32) (c0 : Int32) (d0 : Int32) (sz : Nat) : kV l yX0_add cX0_add 8 none { frames := 1, cells := 0, slots := 0, locals := 22 } D tys [.ref (aL 0), .int t, .int w, .int a, .int b, .int c0, .int d0] (wLog cI aL L) (wLog cI aL (gt_ladd L t w a b c0 d0)) 0 0 sz := by
  refine y_enterV (cc := cX0_add) (maxL := 8) (ret := none) (own := RX0) (by decide) rfl (lv0 := [(0, .ref (aL 0)), (1, .int t), (2, .int w), (3, .int a), (4, .int b), (5, .int c0), (6, .int d0)]) rfl (Nat.le_of_ble_eq_true rfl) ?_
  intro p e s m args below meth c A Z hr hlk _
  refine y_aload_n Z dX0_add_0 0 rfl rfl ?_
  refine y_get (C := RX0) (T := TX0) (N := 2) Z 0 inlX0 rfl 0 rfl 1 (by decide) fl_RX0_13 rfl dX0_add_1 ?_
  refine y_bipush (v := 6) Z dX0_add_4 (by decide) ?_
  refine y_imul Z dX0_add_6 ?_
  refine y_istore Z [(7, .int ((L 0 0) * 6)), (0, .ref (aL 0)), (1, .int t), (2, .int w), (3, .int a), (4, .int b), (5, .int c0), (6, .int d0)] dX0_add_7 (by decide) rfl ?_
  refine y_aload_n Z dX0_add_9 1 rfl rfl ?_
  refine y_get (C := RX0) (T := TX0) (N := 2) Z 0 inlX0 rfl 0 rfl 0 (by decide) fl_RX0_9 rfl dX0_add_10 ?_
  refine y_iload Z dX0_add_13 0 rfl ?_
  refine y_iload_n Z dX0_add_15 2 rfl rfl ?_
  refine y_NV Z (k_X5_put l D ht0 (aL 1) 600 (L 1) ((L 0 0) * 6) t (by decide)) (y_cn (n := 3) (host := RX5) Z co_X5_put rfl rfl nm_RX0_17 in_X5 st_X5_put hs_X5_put ⟨Nat.le_of_ble_eq_true rfl, Nat.le_of_ble_eq_true rfl⟩) [1] rfl (by decide) rfl rfl (Nat.le_of_ble_eq_true rfl) dX0_add_16 ⟨Nat.le_of_ble_eq_true rfl, Nat.le_of_ble_eq_true rfl⟩ [(aL 1)] rfl rfl (wLogR cI aL (L 0 0) (putF (L 1) 600 ((L 0 0) * 6) t)) rfl ?_
  refine y_aload_n Z dX0_add_19 1 rfl rfl ?_
  refine y_get (C := RX0) (T := TX0) (N := 2) Z 0 inlX0 rfl 0 rfl 0 (by decide) fl_RX0_9 rfl dX0_add_20 ?_
  refine y_iload Z dX0_add_23 0 rfl ?_
  refine y_iconst (v := 1) Z dX0_add_25 (by decide) ?_
  refine y_iadd Z dX0_add_26 ?_
  refine y_iload_n Z dX0_add_27 3 rfl rfl ?_
  refine y_NV Z (k_X5_put l D ht0 (aL 1) 600 (putF (L 1) 600 ((L 0 0) * 6) t) (((L 0 0) * 6) + 1) w (by decide)) (y_cn (n := 3) (host := RX5) Z co_X5_put rfl rfl nm_RX0_17 in_X5 st_X5_put hs_X5_put ⟨Nat.le_of_ble_eq_true rfl, Nat.le_of_ble_eq_true rfl⟩) [1] rfl (by decide) rfl rfl (Nat.le_of_ble_eq_true rfl) dX0_add_28 ⟨Nat.le_of_ble_eq_true rfl, Nat.le_of_ble_eq_true rfl⟩ [(aL 1)] rfl rfl (wLogR cI aL (L 0 0) (putF (putF (L 1) 600 ((L 0 0) * 6) t) 600 (((L 0 0) * 6) + 1) w)) rfl ?_
  refine y_aload_n Z dX0_add_31 1 rfl rfl ?_
  refine y_get (C := RX0) (T := TX0) (N := 2) Z 0 inlX0 rfl 0 rfl 0 (by decide) fl_RX0_9 rfl dX0_add_32 ?_
  refine y_iload Z dX0_add_35 0 rfl ?_
  refine y_iconst (v := 2) Z dX0_add_37 (by decide) ?_
  refine y_iadd Z dX0_add_38 ?_
  refine y_iload_n Z dX0_add_39 4 rfl rfl ?_
  refine y_NV Z (k_X5_put l D ht0 (aL 1) 600 (putF (putF (L 1) 600 ((L 0 0) * 6) t) 600 (((L 0 0) * 6) + 1) w) (((L 0 0) * 6) + 2) a (by decide)) (y_cn (n := 3) (host := RX5) Z co_X5_put rfl rfl nm_RX0_17 in_X5 st_X5_put hs_X5_put ⟨Nat.le_of_ble_eq_true rfl, Nat.le_of_ble_eq_true rfl⟩) [1] rfl (by decide) rfl rfl (Nat.le_of_ble_eq_true rfl) dX0_add_40 ⟨Nat.le_of_ble_eq_true rfl, Nat.le_of_ble_eq_true rfl⟩ [(aL 1)] rfl rfl (wLogR cI aL (L 0 0) (putF (putF (putF (L 1) 600 ((L 0 0) * 6) t) 600 (((L 0 0) * 6) + 1) w) 600 (((L 0 0) * 6) + 2) a)) rfl ?_
  refine y_aload_n Z dX0_add_43 1 rfl rfl ?_
  refine y_get (C := RX0) (T := TX0) (N := 2) Z 0 inlX0 rfl 0 rfl 0 (by decide) fl_RX0_9 rfl dX0_add_44 ?_
  refine y_iload Z dX0_add_47 0 rfl ?_
  refine y_iconst (v := 3) Z dX0_add_49 (by decide) ?_
  refine y_iadd Z dX0_add_50 ?_
  refine y_iload Z dX0_add_51 5 rfl ?_
  refine y_NV Z (k_X5_put l D ht0 (aL 1) 600 (putF (putF (putF (L 1) 600 ((L 0 0) * 6) t) 600 (((L 0 0) * 6) + 1) w) 600 (((L 0 0) * 6) + 2) a) (((L 0 0) * 6) + 3) b (by decide)) (y_cn (n := 3) (host := RX5) Z co_X5_put rfl rfl nm_RX0_17 in_X5 st_X5_put hs_X5_put ⟨Nat.le_of_ble_eq_true rfl, Nat.le_of_ble_eq_true rfl⟩) [1] rfl (by decide) rfl rfl (Nat.le_of_ble_eq_true rfl) dX0_add_53 ⟨Nat.le_of_ble_eq_true rfl, Nat.le_of_ble_eq_true rfl⟩ [(aL 1)] rfl rfl (wLogR cI aL (L 0 0) (putF (putF (putF (putF (L 1) 600 ((L 0 0) * 6) t) 600 (((L 0 0) * 6) + 1) w) 600 (((L 0 0) * 6) + 2) a) 600 (((L 0 0) * 6) + 3) b)) rfl ?_
  refine y_aload_n Z dX0_add_56 1 rfl rfl ?_
  refine y_get (C := RX0) (T := TX0) (N := 2) Z 0 inlX0 rfl 0 rfl 0 (by decide) fl_RX0_9 rfl dX0_add_57 ?_
  refine y_iload Z dX0_add_60 0 rfl ?_
  refine y_iconst (v := 4) Z dX0_add_62 (by decide) ?_
  refine y_iadd Z dX0_add_63 ?_
  refine y_iload Z dX0_add_64 6 rfl ?_
  refine y_NV Z (k_X5_put l D ht0 (aL 1) 600 (putF (putF (putF (putF (L 1) 600 ((L 0 0) * 6) t) 600 (((L 0 0) * 6) + 1) w) 600 (((L 0 0) * 6) + 2) a) 600 (((L 0 0) * 6) + 3) b) (((L 0 0) * 6) + 4) c0 (by decide)) (y_cn (n := 3) (host := RX5) Z co_X5_put rfl rfl nm_RX0_17 in_X5 st_X5_put hs_X5_put ⟨Nat.le_of_ble_eq_true rfl, Nat.le_of_ble_eq_true rfl⟩) [1] rfl (by decide) rfl rfl (Nat.le_of_ble_eq_true rfl) dX0_add_66 ⟨Nat.le_of_ble_eq_true rfl, Nat.le_of_ble_eq_true rfl⟩ [(aL 1)] rfl rfl (wLogR cI aL (L 0 0) (putF (putF (putF (putF (putF (L 1) 600 ((L 0 0) * 6) t) 600 (((L 0 0) * 6) + 1) w) 600 (((L 0 0) * 6) + 2) a) 600 (((L 0 0) * 6) + 3) b) 600 (((L 0 0) * 6) + 4) c0)) rfl ?_
  refine y_aload_n Z dX0_add_69 1 rfl rfl ?_
  refine y_get (C := RX0) (T := TX0) (N := 2) Z 0 inlX0 rfl 0 rfl 0 (by decide) fl_RX0_9 rfl dX0_add_70 ?_
  refine y_iload Z dX0_add_73 0 rfl ?_
  refine y_iconst (v := 5) Z dX0_add_75 (by decide) ?_
  refine y_iadd Z dX0_add_76 ?_
  refine y_iload Z dX0_add_77 7 rfl ?_
  refine y_NV Z (k_X5_put l D ht0 (aL 1) 600 (putF (putF (putF (putF (putF (L 1) 600 ((L 0 0) * 6) t) 600 (((L 0 0) * 6) + 1) w) 600 (((L 0 0) * 6) + 2) a) 600 (((L 0 0) * 6) + 3) b) 600 (((L 0 0) * 6) + 4) c0) (((L 0 0) * 6) + 5) d0 (by decide)) (y_cn (n := 3) (host := RX5) Z co_X5_put rfl rfl nm_RX0_17 in_X5 st_X5_put hs_X5_put ⟨Nat.le_of_ble_eq_true rfl, Nat.le_of_ble_eq_true rfl⟩) [1] rfl (by decide) rfl rfl (Nat.le_of_ble_eq_true rfl) dX0_add_79 ⟨Nat.le_of_ble_eq_true rfl, Nat.le_of_ble_eq_true rfl⟩ [(aL 1)] rfl rfl (wLogR cI aL (L 0 0) (putF (putF (putF (putF (putF (putF (L 1) 600 ((L 0 0) * 6) t) 600 (((L 0 0) * 6) + 1) w) 600 (((L 0 0) * 6) + 2) a) 600 (((L 0 0) * 6) + 3) b) 600 (((L 0 0) * 6) + 4) c0) 600 (((L 0 0) * 6) + 5) d0)) rfl ?_
  refine y_aload_n Z dX0_add_82 1 rfl rfl ?_
  refine y_dup Z dX0_add_83 rfl ?_
  refine y_get (C := RX0) (T := TX0) (N := 2) Z 0 inlX0 rfl 0 rfl 1 (by decide) fl_RX0_13 rfl dX0_add_84 ?_
  refine y_iconst (v := 1) Z dX0_add_87 (by decide) ?_
  refine y_iadd Z dX0_add_88 ?_
  refine y_put (C := RX0) (T := TX0) (N := 2) Z 0 inlX0 rfl tyX0 tyX0_ok nmX0 0 rfl 1 (by decide) fl_RX0_13 rfl rfl rfl (Nat.le_of_ble_eq_true rfl) (wLogR cI aL ((L 0 0) + 1) (putF (putF (putF (putF (putF (putF (L 1) 600 ((L 0 0) * 6) t) 600 (((L 0 0) * 6) + 1) w) 600 (((L 0 0) * 6) + 2) a) 600 (((L 0 0) * 6) + 3) b) 600 (((L 0 0) * 6) + 4) c0) 600 (((L 0 0) * 6) + 5) d0)) rfl dX0_add_89 ?_
  exact y_retV Z hr hlk dX0_add_92 (by first | (simp only [gt_ladd, gt_linc, gt_lput, if_true, if_false, not_false_eq_true, not_true_eq_false, ↓reduceIte]; done) | (simp only [gt_ladd, gt_linc, gt_lput, if_true, if_false, not_false_eq_true, not_true_eq_false, ↓reduceIte, wMix, wLog, wPic, wRep, wScr, wVM, wMd, sR_eq, sR_ne, sF_eq, sF_ne, upd_eq, upd_ne, gs_eq, gs_ne, gm_4, gm_ne, Nat.reduceBEq]; done) | (with_reducible rfl) | (simp only [gt_ladd, gt_linc, gt_lput, if_true, if_false, not_false_eq_true, not_true_eq_false, ↓reduceIte]; rfl) | rfl)
set_option maxHeartbeats 4000000 in
set_option maxRecDepth 100000 in
theorem k_X0_tell (l : Launch) (D : va_G) {cI : ClassId} {tys : List (ClassId × FieldType)} (ht0 : tys[0]? = some (cI, .int)) (aL : Nat → Nat) (L : Nat → Nat → Int32) (a : Int32) (f : Int32) (sz : Nat) : kI l yX0_tell cX0_tell 3 (some .int) { frames := 1, cells := 0, slots := 0, locals := 21 } D tys [.ref (aL 0), .int a, .int f] (wLog cI aL L) (wLog cI aL L) (lgT L a f) 0 0 sz := by
  refine y_enterI (cc := cX0_tell) (maxL := 3) (ret := (some .int)) (own := RX0) (by decide) rfl (lv0 := [(0, .ref (aL 0)), (1, .int a), (2, .int f)]) rfl (Nat.le_of_ble_eq_true rfl) ?_
  intro p e s m args below meth c A Z hr hlk _
  refine y_aload_n Z dX0_tell_0 0 rfl rfl ?_
  refine y_get (C := RX0) (T := TX0) (N := 2) Z 0 inlX0 rfl 0 rfl 0 (by decide) fl_RX0_9 rfl dX0_tell_1 ?_
  refine y_iload_n Z dX0_tell_4 1 rfl rfl ?_
  refine y_bipush (v := 6) Z dX0_tell_5 (by decide) ?_
  refine y_imul Z dX0_tell_7 ?_
  refine y_iload_n Z dX0_tell_8 2 rfl rfl ?_
  refine y_iadd Z dX0_tell_9 ?_
  refine y_NI Z (k_X5_cell l D ht0 (aL 1) 600 (L 1) ((a * 6) + f) (by decide)) (y_cn (n := 2) (host := RX5) Z co_X5_cell rfl rfl nm_RX0_23 in_X5 st_X5_cell hs_X5_cell ⟨Nat.le_of_ble_eq_true rfl, Nat.le_of_ble_eq_true rfl⟩) [1] rfl (by decide) rfl rfl (Nat.le_of_ble_eq_true rfl) dX0_tell_10 ⟨Nat.le_of_ble_eq_true rfl, Nat.le_of_ble_eq_true rfl⟩ [(aL 1)] rfl rfl (wLog cI aL L) rfl ?_
  exact y_retI Z hr hlk dX0_tell_13 (by first | (with_reducible rfl) | (simp only [wMix, wLog, wPic, wRep, wScr, wVM, wMd, sR_eq, sR_ne, sF_eq, sF_ne, upd_eq, upd_ne, gs_eq, gs_ne, gm_4, gm_ne, Nat.reduceBEq]; done) | rfl) (by first | (with_reducible rfl) | (simp only [wMix, wLog, wPic, wRep, wScr, wVM, wMd, sR_eq, sR_ne, sF_eq, sF_ne, upd_eq, upd_ne, gs_eq, gs_ne, gm_4, gm_ne, Nat.reduceBEq]; done) | rfl)
set_option maxHeartbeats 4000000 in
set_option maxRecDepth 100000 in
theorem k_X0_timeOf (l : Launch) (D : va_G) {cI : ClassId} {tys : List (ClassId × FieldType)} (ht0 : tys[0]? = some (cI, .int)) (aL : Nat → Nat) (L : Nat → Nat → Int32) (a : Int32) (sz : Nat) : kI l yX0_timeOf cX0_timeOf 2 (some .int) { frames := 2, cells := 0, slots := 0, locals := 43 } D tys [.ref (aL 0), .int a] (wLog cI aL L) (wLog cI aL L) (lgT L a 0) 0 0 sz := by
  refine y_enterI (cc := cX0_timeOf) (maxL := 2) (ret := (some .int)) (own := RX0) (by decide) rfl (lv0 := [(0, .ref (aL 0)), (1, .int a)]) rfl (Nat.le_of_ble_eq_true rfl) ?_
  intro p e s m args below meth c A Z hr hlk _
  refine y_aload_n Z dX0_timeOf_0 0 rfl rfl ?_
  refine y_iload_n Z dX0_timeOf_1 1 rfl rfl ?_
  refine y_iconst (v := 0) Z dX0_timeOf_2 (by decide) ?_
  refine y_VI Z (k_X0_tell l D ht0 aL L a 0) (y_cwV 2 Z ml_RX0_27 im_X0_tell se_X0_tell in_X0 co_X0_tell rfl rfl hd_X0_tell ⟨Nat.le_of_ble_eq_true rfl, Nat.le_of_ble_eq_true rfl⟩) [0, 1] rfl (by decide) 0 0 rfl rfl rfl rfl (Nat.le_of_ble_eq_true rfl) dX0_timeOf_3 ⟨Nat.le_of_ble_eq_true rfl, Nat.le_of_ble_eq_true rfl⟩ [(aL 0), (aL 1)] rfl rfl (wLog cI aL L) rfl ?_
  exact y_retI Z hr hlk dX0_timeOf_6 (by first | (with_reducible rfl) | (simp only [wMix, wLog, wPic, wRep, wScr, wVM, wMd, sR_eq, sR_ne, sF_eq, sF_ne, upd_eq, upd_ne, gs_eq, gs_ne, gm_4, gm_ne, Nat.reduceBEq]; done) | rfl) (by first | (with_reducible rfl) | (simp only [wMix, wLog, wPic, wRep, wScr, wVM, wMd, sR_eq, sR_ne, sF_eq, sF_ne, upd_eq, upd_ne, gs_eq, gs_ne, gm_4, gm_ne, Nat.reduceBEq]; done) | rfl)
set_option maxHeartbeats 4000000 in
set_option maxRecDepth 100000 in
theorem k_X0_remove (l : Launch) (D : va_G) {cI : ClassId} {tys : List (ClassId × FieldType)} (ht0 : tys[0]? = some (cI, .int)) (aL : Nat → Nat) (L : Nat → Nat → Int32) (a : Int32) (h_stop : rmStop L a) (sz : Nat) : kV l yX0_remove cX0_remove 3 none { frames := 1, cells := 0, slots := 0, locals := 22 } D tys [.ref (aL 0), .int a] (wLog cI aL L) (wLog cI aL (gt_lrem L a)) 0 0 sz := by
  refine y_enterV (cc := cX0_remove) (maxL := 3) (ret := none) (own := RX0) (by decide) rfl (lv0 := [(0, .ref (aL 0)), (1, .int a)]) rfl (Nat.le_of_ble_eq_true rfl) ?_
  intro p e s m args below meth c A Z hr hlk _
  have L5 : ∀ (n : Nat) (x : (Nat → Nat → Int32) × Int32), rmC (lw rmC rmB n x) = false → lw rmC rmB n x = (lw rmC rmB 600 (L, a * 6)) → Yy p l e { frames := 1, cells := 0, slots := 0, locals := 22 } s m args below meth c (QV D tys A (wLog cI aL (gt_lrem L a)) below args s 0 0) D A 3 0 0 (wLog cI aL x.1) [(0, .ref (aL 0)), (1, .int a), (2, .int x.2)] [] 5 := by
    intro n; induction n with
    | zero =>
      intro x hc hx
      refine y_iload_n Z dX0_remove_5 2 rfl rfl ?_
      refine y_aload_n Z dX0_remove_6 0 rfl rfl ?_
      refine y_get (C := RX0) (T := TX0) (N := 2) Z 0 inlX0 rfl 0 rfl 1 (by decide) fl_RX0_13 rfl dX0_remove_7 ?_
      refine y_iconst (v := 1) Z dX0_remove_10 (by decide) ?_
      refine y_isub Z dX0_remove_11 ?_
      refine y_bipush (v := 6) Z dX0_remove_12 (by decide) ?_
      refine y_imul Z dX0_remove_14 ?_
      refine y_icmp_ge (tgt := 43) Z dX0_remove_15 (by decide) (fun h1 => ?_) (fun h2 => ?_)
      · have hb : rmC x = false := by simp only [rmC, h1, ↓reduceIte]
        have ex : x = (lw rmC rmB 600 (L, a * 6)) := by rw [← hx, lw_f hb]
        refine y_aload_n Z dX0_remove_43 0 rfl rfl ?_
        refine y_dup Z dX0_remove_44 rfl ?_
        refine y_get (C := RX0) (T := TX0) (N := 2) Z 0 inlX0 rfl 0 rfl 1 (by decide) fl_RX0_13 rfl dX0_remove_45 ?_
        refine y_iconst (v := 1) Z dX0_remove_48 (by decide) ?_
        refine y_isub Z dX0_remove_49 ?_
        refine y_put (C := RX0) (T := TX0) (N := 2) Z 0 inlX0 rfl tyX0 tyX0_ok nmX0 0 rfl 1 (by decide) fl_RX0_13 rfl rfl rfl (Nat.le_of_ble_eq_true rfl) (wLogR cI aL ((x.1 0 0) - 1) (x.1 1)) rfl dX0_remove_50 ?_
        exact y_retV Z hr hlk dX0_remove_53 (by subst ex; first | (simp only [gt_lrem, gt_lrE, h1, if_true, if_false, not_false_eq_true, not_true_eq_false, ↓reduceIte]; done) | (simp only [gt_lrem, gt_lrE, h1, if_true, if_false, not_false_eq_true, not_true_eq_false, ↓reduceIte, wMix, wLog, wPic, wRep, wScr, wVM, wMd, sR_eq, sR_ne, sF_eq, sF_ne, upd_eq, upd_ne, gs_eq, gs_ne, gm_4, gm_ne, Nat.reduceBEq]; done) | (with_reducible rfl) | (simp only [gt_lrem, gt_lrE, h1, if_true, if_false, not_false_eq_true, not_true_eq_false, ↓reduceIte]; rfl) | rfl)
      · exact absurd (show rmC x = true by simp only [rmC, h2, ↓reduceIte]) (by rw [show rmC x = false from hc]; decide)
    | succ n ih =>
      intro x hc hx
      refine y_iload_n Z dX0_remove_5 2 rfl rfl ?_
      refine y_aload_n Z dX0_remove_6 0 rfl rfl ?_
      refine y_get (C := RX0) (T := TX0) (N := 2) Z 0 inlX0 rfl 0 rfl 1 (by decide) fl_RX0_13 rfl dX0_remove_7 ?_
      refine y_iconst (v := 1) Z dX0_remove_10 (by decide) ?_
      refine y_isub Z dX0_remove_11 ?_
      refine y_bipush (v := 6) Z dX0_remove_12 (by decide) ?_
      refine y_imul Z dX0_remove_14 ?_
      refine y_icmp_ge (tgt := 43) Z dX0_remove_15 (by decide) (fun h3 => ?_) (fun h4 => ?_)
      · have hb : rmC x = false := by simp only [rmC, h3, ↓reduceIte]
        have ex : x = (lw rmC rmB 600 (L, a * 6)) := by rw [← hx, lw_f hb]
        refine y_aload_n Z dX0_remove_43 0 rfl rfl ?_
        refine y_dup Z dX0_remove_44 rfl ?_
        refine y_get (C := RX0) (T := TX0) (N := 2) Z 0 inlX0 rfl 0 rfl 1 (by decide) fl_RX0_13 rfl dX0_remove_45 ?_
        refine y_iconst (v := 1) Z dX0_remove_48 (by decide) ?_
        refine y_isub Z dX0_remove_49 ?_
        refine y_put (C := RX0) (T := TX0) (N := 2) Z 0 inlX0 rfl tyX0 tyX0_ok nmX0 0 rfl 1 (by decide) fl_RX0_13 rfl rfl rfl (Nat.le_of_ble_eq_true rfl) (wLogR cI aL ((x.1 0 0) - 1) (x.1 1)) rfl dX0_remove_50 ?_
        exact y_retV Z hr hlk dX0_remove_53 (by subst ex; first | (simp only [gt_lrem, gt_lrE, h3, if_true, if_false, not_false_eq_true, not_true_eq_false, ↓reduceIte]; done) | (simp only [gt_lrem, gt_lrE, h3, if_true, if_false, not_false_eq_true, not_true_eq_false, ↓reduceIte, wMix, wLog, wPic, wRep, wScr, wVM, wMd, sR_eq, sR_ne, sF_eq, sF_ne, upd_eq, upd_ne, gs_eq, gs_ne, gm_4, gm_ne, Nat.reduceBEq]; done) | (with_reducible rfl) | (simp only [gt_lrem, gt_lrE, h3, if_true, if_false, not_false_eq_true, not_true_eq_false, ↓reduceIte]; rfl) | rfl)
      · have hb : rmC x = true := by simp only [rmC, h4, ↓reduceIte]
        refine y_aload_n Z dX0_remove_18 0 rfl rfl ?_
        refine y_get (C := RX0) (T := TX0) (N := 2) Z 0 inlX0 rfl 0 rfl 0 (by decide) fl_RX0_9 rfl dX0_remove_19 ?_
        refine y_iload_n Z dX0_remove_22 2 rfl rfl ?_
        refine y_aload_n Z dX0_remove_23 0 rfl rfl ?_
        refine y_get (C := RX0) (T := TX0) (N := 2) Z 0 inlX0 rfl 0 rfl 0 (by decide) fl_RX0_9 rfl dX0_remove_24 ?_
        refine y_iload_n Z dX0_remove_27 2 rfl rfl ?_
        refine y_bipush (v := 6) Z dX0_remove_28 (by decide) ?_
        refine y_iadd Z dX0_remove_30 ?_
        refine y_NI Z (k_X5_cell l D ht0 (aL 1) 600 (x.1 1) (x.2 + 6) (by decide)) (y_cn (n := 2) (host := RX5) Z co_X5_cell rfl rfl nm_RX0_23 in_X5 st_X5_cell hs_X5_cell ⟨Nat.le_of_ble_eq_true rfl, Nat.le_of_ble_eq_true rfl⟩) [1] rfl (by decide) rfl rfl (Nat.le_of_ble_eq_true rfl) dX0_remove_31 ⟨Nat.le_of_ble_eq_true rfl, Nat.le_of_ble_eq_true rfl⟩ [(aL 1)] rfl rfl (wLog cI aL x.1) rfl ?_
        refine y_NV Z (k_X5_put l D ht0 (aL 1) 600 (x.1 1) x.2 (cellF (x.1 1) 600 (x.2 + 6)) (by decide)) (y_cn (n := 3) (host := RX5) Z co_X5_put rfl rfl nm_RX0_17 in_X5 st_X5_put hs_X5_put ⟨Nat.le_of_ble_eq_true rfl, Nat.le_of_ble_eq_true rfl⟩) [1] rfl (by decide) rfl rfl (Nat.le_of_ble_eq_true rfl) dX0_remove_34 ⟨Nat.le_of_ble_eq_true rfl, Nat.le_of_ble_eq_true rfl⟩ [(aL 1)] rfl rfl (wLogR cI aL (x.1 0 0) (putF (x.1 1) 600 x.2 (cellF (x.1 1) 600 (x.2 + 6)))) rfl ?_
        refine y_iinc Z [(2, .int (x.2 + 1)), (0, .ref (aL 0)), (1, .int a)] dX0_remove_37 2 rfl rfl (by decide) rfl ?_
        refine y_goto (tgt := 5) Z dX0_remove_40 (by decide) ?_
        refine y_lv [1, 2, 0] rfl ?_
        refine y_eq (ws' := (wLog cI aL ((rmB x).1))) (lv' := [(0, .ref (aL 0)), (1, .int a), (2, .int ((rmB x).2))]) (st' := []) (by first | (simp only [rmB, h4, if_true, if_false, not_false_eq_true, not_true_eq_false, ↓reduceIte]; done) | (simp only [rmB, h4, if_true, if_false, not_false_eq_true, not_true_eq_false, ↓reduceIte, wMix, wLog, wPic, wRep, wScr, wVM, wMd, sR_eq, sR_ne, sF_eq, sF_ne, upd_eq, upd_ne, gs_eq, gs_ne, gm_4, gm_ne, Nat.reduceBEq]; done) | (with_reducible rfl) | (simp only [rmB, h4, if_true, if_false, not_false_eq_true, not_true_eq_false, ↓reduceIte]; rfl) | rfl) (by first | (simp only [rmB, h4, if_true, if_false, not_false_eq_true, not_true_eq_false, ↓reduceIte]; done) | (simp only [rmB, h4, if_true, if_false, not_false_eq_true, not_true_eq_false, ↓reduceIte, wMix, wLog, wPic, wRep, wScr, wVM, wMd, sR_eq, sR_ne, sF_eq, sF_ne, upd_eq, upd_ne, gs_eq, gs_ne, gm_4, gm_ne, Nat.reduceBEq]; done) | (with_reducible rfl) | (simp only [rmB, h4, if_true, if_false, not_false_eq_true, not_true_eq_false, ↓reduceIte]; rfl) | rfl) rfl ?_
        exact ih _ (by rw [lw_t hb] at hc; exact hc) (by rw [lw_t hb] at hx; exact hx)
  refine y_iload_n Z dX0_remove_0 1 rfl rfl ?_
  refine y_bipush (v := 6) Z dX0_remove_1 (by decide) ?_
  refine y_imul Z dX0_remove_3 ?_
  refine y_istore_n Z [(2, .int (a * 6)), (0, .ref (aL 0)), (1, .int a)] dX0_remove_4 rfl (by decide) rfl ?_
  refine y_lv [1, 2, 0] rfl ?_
  exact L5 600 (L, a * 6) h_stop rfl
set_option maxHeartbeats 4000000 in
set_option maxRecDepth 100000 in
theorem k_X0_redo (l : Launch) (D : va_G) {cI : ClassId} {tys : List (ClassId × FieldType)} (ht0 : tys[0]? = some (cI, .int)) (aL : Nat → Nat) (L : Nat → Nat → Int32) (aM : Nat → Nat) (M : Nat → Nat → Int32) (act : Int32) (sz : Nat) : kV l yX0_redo cX0_redo 4 none { frames := 4, cells := 0, slots := 0, locals := 88 } D tys [.ref (aL 0), .int act, .ref (aM 0)] (wLog cI aL L ++ (wMix cI aM M)) (wLog cI aL L ++ (wMix cI aM (gt_redo L act M))) 0 0 sz := by
  refine y_enterV (cc := cX0_redo) (maxL := 4) (ret := none) (own := RX0) (by decide) rfl (lv0 := [(0, .ref (aL 0)), (1, .int act), (2, .ref (aM 0))]) rfl (Nat.le_of_ble_eq_true rfl) ?_
  intro p e s m args below meth c A Z hr hlk _
  refine y_aload_n Z dX0_redo_0 0 rfl rfl ?_
  refine y_iload_n Z dX0_redo_1 1 rfl rfl ?_
  refine y_iconst (v := 1) Z dX0_redo_2 (by decide) ?_
  refine y_VI Z (k_X0_tell l D ht0 aL L act 1) (y_cwV 2 Z ml_RX0_27 im_X0_tell se_X0_tell in_X0 co_X0_tell rfl rfl hd_X0_tell ⟨Nat.le_of_ble_eq_true rfl, Nat.le_of_ble_eq_true rfl⟩) [0, 1] rfl (by decide) 0 0 rfl rfl rfl rfl (Nat.le_of_ble_eq_true rfl) dX0_redo_3 ⟨Nat.le_of_ble_eq_true rfl, Nat.le_of_ble_eq_true rfl⟩ [(aL 0), (aL 1)] rfl rfl (wLog cI aL L ++ (wMix cI aM M)) rfl ?_
  refine y_istore_n Z [(3, .int (lgT L act 1)), (0, .ref (aL 0)), (1, .int act), (2, .ref (aM 0))] dX0_redo_6 rfl (by decide) rfl ?_
  refine y_aload_n Z dX0_redo_7 3 rfl rfl ?_
  refine y_iload_n Z dX0_redo_8 0 rfl rfl ?_
  refine y_VI Z (k_X1_isPossible l D ht0 aM M (lgT L act 1)) (y_cwV 1 Z ml_RX0_31 im_X1_isPossible se_X1_isPossible in_X1 co_X1_isPossible rfl rfl hd_X1_isPossible ⟨Nat.le_of_ble_eq_true rfl, Nat.le_of_ble_eq_true rfl⟩) [2, 3, 4, 5] rfl (by decide) 1 2 rfl rfl rfl rfl (Nat.le_of_ble_eq_true rfl) dX0_redo_9 ⟨Nat.le_of_ble_eq_true rfl, Nat.le_of_ble_eq_true rfl⟩ [(aM 0), (aM 1), (aM 2), (aM 3)] rfl rfl (wLog cI aL L ++ (wMix cI aM M)) rfl ?_
  refine y_if_eq (tgt := 45) Z dX0_redo_12 (by decide) (fun h1 => ?_) (fun h2 => ?_)
  · exact y_retV Z hr hlk dX0_redo_45 (by first | (simp only [gt_redo, eq_true h1, if_true, if_false, not_false_eq_true, not_true_eq_false, ↓reduceIte]; done) | (simp only [gt_redo, eq_true h1, if_true, if_false, not_false_eq_true, not_true_eq_false, ↓reduceIte, wMix, wLog, wPic, wRep, wScr, wVM, wMd, sR_eq, sR_ne, sF_eq, sF_ne, upd_eq, upd_ne, gs_eq, gs_ne, gm_4, gm_ne, Nat.reduceBEq]; done) | (with_reducible rfl) | (simp only [gt_redo, eq_true h1, if_true, if_false, not_false_eq_true, not_true_eq_false, ↓reduceIte]; rfl) | rfl)
  · refine y_aload_n Z dX0_redo_15 3 rfl rfl ?_
    refine y_iload_n Z dX0_redo_16 0 rfl rfl ?_
    refine y_aload_n Z dX0_redo_17 1 rfl rfl ?_
    refine y_iload_n Z dX0_redo_18 2 rfl rfl ?_
    refine y_iconst (v := 2) Z dX0_redo_19 (by decide) ?_
    refine y_VI Z (k_X0_tell l D ht0 aL L act 2) (y_cwV 2 Z ml_RX0_27 im_X0_tell se_X0_tell in_X0 co_X0_tell rfl rfl hd_X0_tell ⟨Nat.le_of_ble_eq_true rfl, Nat.le_of_ble_eq_true rfl⟩) [0, 1] rfl (by decide) 0 0 rfl rfl rfl rfl (Nat.le_of_ble_eq_true rfl) dX0_redo_20 ⟨Nat.le_of_ble_eq_true rfl, Nat.le_of_ble_eq_true rfl⟩ [(aL 0), (aL 1)] rfl rfl (wLog cI aL L ++ (wMix cI aM M)) rfl ?_
    refine y_aload_n Z dX0_redo_23 1 rfl rfl ?_
    refine y_iload_n Z dX0_redo_24 2 rfl rfl ?_
    refine y_iconst (v := 3) Z dX0_redo_25 (by decide) ?_
    refine y_VI Z (k_X0_tell l D ht0 aL L act 3) (y_cwV 2 Z ml_RX0_27 im_X0_tell se_X0_tell in_X0 co_X0_tell rfl rfl hd_X0_tell ⟨Nat.le_of_ble_eq_true rfl, Nat.le_of_ble_eq_true rfl⟩) [0, 1] rfl (by decide) 0 0 rfl rfl rfl rfl (Nat.le_of_ble_eq_true rfl) dX0_redo_26 ⟨Nat.le_of_ble_eq_true rfl, Nat.le_of_ble_eq_true rfl⟩ [(aL 0), (aL 1)] rfl rfl (wLog cI aL L ++ (wMix cI aM M)) rfl ?_
    refine y_aload_n Z dX0_redo_29 1 rfl rfl ?_
    refine y_iload_n Z dX0_redo_30 2 rfl rfl ?_
    refine y_iconst (v := 4) Z dX0_redo_31 (by decide) ?_
    refine y_VI Z (k_X0_tell l D ht0 aL L act 4) (y_cwV 2 Z ml_RX0_27 im_X0_tell se_X0_tell in_X0 co_X0_tell rfl rfl hd_X0_tell ⟨Nat.le_of_ble_eq_true rfl, Nat.le_of_ble_eq_true rfl⟩) [0, 1] rfl (by decide) 0 0 rfl rfl rfl rfl (Nat.le_of_ble_eq_true rfl) dX0_redo_32 ⟨Nat.le_of_ble_eq_true rfl, Nat.le_of_ble_eq_true rfl⟩ [(aL 0), (aL 1)] rfl rfl (wLog cI aL L ++ (wMix cI aM M)) rfl ?_
    refine y_aload_n Z dX0_redo_35 1 rfl rfl ?_
    refine y_iload_n Z dX0_redo_36 2 rfl rfl ?_
    refine y_iconst (v := 5) Z dX0_redo_37 (by decide) ?_
    refine y_VI Z (k_X0_tell l D ht0 aL L act 5) (y_cwV 2 Z ml_RX0_27 im_X0_tell se_X0_tell in_X0 co_X0_tell rfl rfl hd_X0_tell ⟨Nat.le_of_ble_eq_true rfl, Nat.le_of_ble_eq_true rfl⟩) [0, 1] rfl (by decide) 0 0 rfl rfl rfl rfl (Nat.le_of_ble_eq_true rfl) dX0_redo_38 ⟨Nat.le_of_ble_eq_true rfl, Nat.le_of_ble_eq_true rfl⟩ [(aL 0), (aL 1)] rfl rfl (wLog cI aL L ++ (wMix cI aM M)) rfl ?_
    refine y_VI Z (k_X1_perform l D ht0 aM M (lgT L act 1) (lgT L act 2) (lgT L act 3) (lgT L act 4) (lgT L act 5)) (y_cwV 5 Z ml_RX0_37 im_X1_perform se_X1_perform in_X1 co_X1_perform rfl rfl hd_X1_perform ⟨Nat.le_of_ble_eq_true rfl, Nat.le_of_ble_eq_true rfl⟩) [2, 3, 4, 5] rfl (by decide) 1 2 rfl rfl rfl rfl (Nat.le_of_ble_eq_true rfl) dX0_redo_41 ⟨Nat.le_of_ble_eq_true rfl, Nat.le_of_ble_eq_true rfl⟩ [(aM 0), (aM 1), (aM 2), (aM 3)] rfl rfl (wLog cI aL L ++ (wMix cI aM (perfM M (lgT L act 1) (lgT L act 2) (lgT L act 3) (lgT L act 4) (lgT L act 5)))) rfl ?_
    refine y_pop Z dX0_redo_44 rfl ?_
    exact y_retV Z hr hlk dX0_redo_45 (by first | (simp only [gt_redo, h2, if_true, if_false, not_false_eq_true, not_true_eq_false, ↓reduceIte]; done) | (simp only [gt_redo, h2, if_true, if_false, not_false_eq_true, not_true_eq_false, ↓reduceIte, wMix, wLog, wPic, wRep, wScr, wVM, wMd, sR_eq, sR_ne, sF_eq, sF_ne, upd_eq, upd_ne, gs_eq, gs_ne, gm_4, gm_ne, Nat.reduceBEq]; done) | (with_reducible rfl) | (simp only [gt_redo, h2, if_true, if_false, not_false_eq_true, not_true_eq_false, ↓reduceIte]; rfl) | rfl)
