def okS (q : Int32) : Prop := ¬ q < 0 ∧ q < 10
def okK (k : Int32) : Prop := ¬ k < 0 ∧ k < 3
def okR (v lo hi : Int32) : Prop := ¬ v < lo ∧ v ≤ hi
def fullF1 (L : Nat → Nat → Int32) : Int32 := if L 0 0 < 100 then 0 else 1
def myF (J : Nat → Nat → Nat → Int32) (w : Int32) : Int32 := if (if J 3 0 0 < 100 then (0 : Int32) else 1) = 0 then (if possF (J 0) w = 0 then 0 else 1) else 0
def okM (J : Nat → Nat → Nat → Int32) (w : Int32) : Prop := ¬ myF J w = 0
def okT (J : Nat → Nat → Nat → Int32) (t : Int32) : Prop := ¬ t < 0 ∧ t ≤ J 0 0 7
def okA (J : Nat → Nat → Nat → Int32) (a : Int32) : Prop := ¬ a < 0 ∧ a < J 3 0 0
def okP (J : Nat → Nat → Nat → Int32) (fr : Int32) : Prop := J 0 0 7 + fr ≤ 5000
def okU (J : Nat → Nat → Nat → Int32) : Prop := ¬ J 3 0 0 = 0
def okB (q : Int32) : Prop := ¬ q = 0
def okW (J : Nat → Nat → Nat → Int32) : Prop := (if J 7 0 0 < 120 then (0 : Int32) else 1) = 0
def vm_enact (J : Nat → Nat → Nat → Int32) (w a b c d : Int32) : Nat → Nat → Nat → Int32 := gs (gs J 0 (perfM (J 0) w a b c d)) 3 (gt_ladd (J 3) (J 0 0 7) w a b c d)
def vm_pass (J : Nat → Nat → Nat → Int32) (fr : Int32) : Nat → Nat → Nat → Int32 := gs J 0 (gt_letPass fr (J 0))
def psF (J : Nat → Nat → Nat → Int32) (w : Int32) : Int32 := if w = 8 then J 3 0 0 else tellF (J 0) w
def vm_pP (J : Nat → Nat → Nat → Int32) : Nat → Nat → Nat → Int32 := gs J 5 (gt_paint (J 0) (J 5))
def vm_bh (J : Nat → Nat → Nat → Int32) : Nat → Nat → Int32 := gt_complete (gt_copy (J 2) (J 0))
def vm_tal (J : Nat → Nat → Nat → Int32) : Nat → Nat → Nat → Int32 := gs (gs (gs J 2 (vm_bh J)) 5 (gt_paint (J 0) (J 5))) 6 (gt_paint (vm_bh J) (J 6))
def tpF (J : Nat → Nat → Nat → Int32) (q : Int32) : Int32 := if cellF (J 5 1) 10 q ≤ 0 then (if cellF (J 6 1) 10 q ≤ 0 then 0 else 1) else 2
def shF (J : Nat → Nat → Nat → Int32) (q sn : Int32) : Int32 := if sn = 0 then cellF (gt_paint (J 0) (J 5) 1) 10 q else seenF (gt_paint (J 0) (J 5)) q (J 0 0 9)
def nzF (z : Int32) : Int32 := if z = 0 then 0 else 1
set_option maxHeartbeats 4000000 in
set_option maxRecDepth 100000 in
theorem k_X5_checkSource (l : Launch) (D : va_G) {cI : ClassId} {tys : List (ClassId × FieldType)} (ht0 : tys[0]? = some (cI, .int)) (q : Int32) (h_q : okS q) (sz : Nat) : kV l yX5_checkSource cX5_checkSource 1 none { frames := 6, cells := 0, slots := 0, locals := 89 } D tys [.int q] ([] : va_W) ([] : va_W) 0 0 sz := by
  refine y_enterV (cc := cX5_checkSource) (maxL := 1) (ret := none) (own := RX5) (by decide) rfl (lv0 := [(0, .int q)]) rfl (Nat.le_of_ble_eq_true rfl) ?_
  intro p e s m args below meth c A Z hr hlk _
  refine y_iload_n Z dX5_checkSource_0 0 rfl rfl ?_
  refine y_if_lt (tgt := 10) Z dX5_checkSource_1 (by decide) (fun h1 => ?_) (fun h2 => ?_)
  · exact absurd h_q (by simp only [okS, okK, okR, okM, okT, okA, okP, okU, okB, okW, h1, if_true, if_false, not_false_eq_true, not_true_eq_false, ↓reduceIte, and_true, true_and, and_false, false_and])
  · refine y_iload_n Z dX5_checkSource_4 0 rfl rfl ?_
    refine y_bipush (v := 10) Z dX5_checkSource_5 (by decide) ?_
    refine y_icmp_lt (tgt := 18) Z dX5_checkSource_7 (by decide) (fun h3 => ?_) (fun h4 => ?_)
    · exact y_retV Z hr hlk dX5_checkSource_18 (by first | (simp only [h2, h3, if_true, if_false, not_false_eq_true, not_true_eq_false, ↓reduceIte]; done) | (simp only [h2, h3, if_true, if_false, not_false_eq_true, not_true_eq_false, ↓reduceIte, wMix, wLog, wPic, wRep, wScr, wVM, wMd, sR_eq, sR_ne, sF_eq, sF_ne, upd_eq, upd_ne, gs_eq, gs_ne, gm_4, gm_ne, Nat.reduceBEq]; done) | (with_reducible rfl) | contradiction | (simp only [h2, h3, if_true, if_false, not_false_eq_true, not_true_eq_false, ↓reduceIte]; rfl) | rfl)
    · exact absurd h_q (by simp only [okS, okK, okR, okM, okT, okA, okP, okU, okB, okW, h2, h4, if_true, if_false, not_false_eq_true, not_true_eq_false, ↓reduceIte, and_true, true_and, and_false, false_and])
set_option maxHeartbeats 4000000 in
set_option maxRecDepth 100000 in
theorem k_X5_checkSource_b0 (l : Launch) (htr : l.stackTraces = false) (D : va_G) {cI : ClassId} {tys : List (ClassId × FieldType)} (ht0 : tys[0]? = some (cI, .int)) (q : Int32) (h_bad : ¬ (okS q)) (sz : Nat) : kB l yX5_checkSource cX5_checkSource 1 none { frames := 6, cells := 1, slots := 6, locals := 89 } D tys [.int q] ([] : va_W) "java/lang/IndexOutOfBoundsException" sz := by
  refine y_enterB (cc := cX5_checkSource) (maxL := 1) (ret := none) (own := RX5) htr (by decide) rfl (lv0 := [(0, .int q)]) rfl (Nat.le_of_ble_eq_true rfl) ?_
  intro p e s m args below meth c A Z X hr hlk
  refine y_iload_n Z dX5_checkSource_0 0 rfl rfl ?_
  refine y_if_lt (tgt := 10) Z dX5_checkSource_1 (by decide) (fun h1 => ?_) (fun h2 => ?_)
  · exact y_throw Z X hlk yEx yx_f68 yx_names cl_RX5_68 in_IndexOutOfBoundsException yx_a68 yx_b68 yx_g68 dX5_checkSource_10 dX5_checkSource_13 dX5_checkSource_14 dX5_checkSource_17 (Nat.le_of_ble_eq_true rfl) (Nat.le_of_ble_eq_true rfl) (Nat.le_of_ble_eq_true rfl) (Nat.le_of_ble_eq_true rfl) (Nat.le_of_ble_eq_true rfl) (Nat.le_of_ble_eq_true rfl)
  · refine y_iload_n Z dX5_checkSource_4 0 rfl rfl ?_
    refine y_bipush (v := 10) Z dX5_checkSource_5 (by decide) ?_
    refine y_icmp_lt (tgt := 18) Z dX5_checkSource_7 (by decide) (fun h3 => ?_) (fun h4 => ?_)
    · exact absurd (show okS q by simp only [okS, okK, okR, okM, okT, okA, okP, okU, okB, okW, h2, h3, if_true, if_false, not_false_eq_true, not_true_eq_false, ↓reduceIte, and_true, true_and, and_false, false_and]) h_bad
    · exact y_throw Z X hlk yEx yx_f68 yx_names cl_RX5_68 in_IndexOutOfBoundsException yx_a68 yx_b68 yx_g68 dX5_checkSource_10 dX5_checkSource_13 dX5_checkSource_14 dX5_checkSource_17 (Nat.le_of_ble_eq_true rfl) (Nat.le_of_ble_eq_true rfl) (Nat.le_of_ble_eq_true rfl) (Nat.le_of_ble_eq_true rfl) (Nat.le_of_ble_eq_true rfl) (Nat.le_of_ble_eq_true rfl)
set_option maxHeartbeats 4000000 in
set_option maxRecDepth 100000 in
theorem k_X5_checkKeyer (l : Launch) (D : va_G) {cI : ClassId} {tys : List (ClassId × FieldType)} (ht0 : tys[0]? = some (cI, .int)) (k : Int32) (h_k : okK k) (sz : Nat) : kV l yX5_checkKeyer cX5_checkKeyer 1 none { frames := 6, cells := 0, slots := 0, locals := 89 } D tys [.int k] ([] : va_W) ([] : va_W) 0 0 sz := by
  refine y_enterV (cc := cX5_checkKeyer) (maxL := 1) (ret := none) (own := RX5) (by decide) rfl (lv0 := [(0, .int k)]) rfl (Nat.le_of_ble_eq_true rfl) ?_
  intro p e s m args below meth c A Z hr hlk _
  refine y_iload_n Z dX5_checkKeyer_0 0 rfl rfl ?_
  refine y_if_lt (tgt := 9) Z dX5_checkKeyer_1 (by decide) (fun h1 => ?_) (fun h2 => ?_)
  · exact absurd h_k (by simp only [okS, okK, okR, okM, okT, okA, okP, okU, okB, okW, h1, if_true, if_false, not_false_eq_true, not_true_eq_false, ↓reduceIte, and_true, true_and, and_false, false_and])
  · refine y_iload_n Z dX5_checkKeyer_4 0 rfl rfl ?_
    refine y_iconst (v := 3) Z dX5_checkKeyer_5 (by decide) ?_
    refine y_icmp_lt (tgt := 17) Z dX5_checkKeyer_6 (by decide) (fun h3 => ?_) (fun h4 => ?_)
    · exact y_retV Z hr hlk dX5_checkKeyer_17 (by first | (simp only [h2, h3, if_true, if_false, not_false_eq_true, not_true_eq_false, ↓reduceIte]; done) | (simp only [h2, h3, if_true, if_false, not_false_eq_true, not_true_eq_false, ↓reduceIte, wMix, wLog, wPic, wRep, wScr, wVM, wMd, sR_eq, sR_ne, sF_eq, sF_ne, upd_eq, upd_ne, gs_eq, gs_ne, gm_4, gm_ne, Nat.reduceBEq]; done) | (with_reducible rfl) | contradiction | (simp only [h2, h3, if_true, if_false, not_false_eq_true, not_true_eq_false, ↓reduceIte]; rfl) | rfl)
    · exact absurd h_k (by simp only [okS, okK, okR, okM, okT, okA, okP, okU, okB, okW, h2, h4, if_true, if_false, not_false_eq_true, not_true_eq_false, ↓reduceIte, and_true, true_and, and_false, false_and])
set_option maxHeartbeats 4000000 in
set_option maxRecDepth 100000 in
theorem k_X5_checkKeyer_b0 (l : Launch) (htr : l.stackTraces = false) (D : va_G) {cI : ClassId} {tys : List (ClassId × FieldType)} (ht0 : tys[0]? = some (cI, .int)) (k : Int32) (h_bad : ¬ (okK k)) (sz : Nat) : kB l yX5_checkKeyer cX5_checkKeyer 1 none { frames := 6, cells := 1, slots := 6, locals := 89 } D tys [.int k] ([] : va_W) "java/lang/IndexOutOfBoundsException" sz := by
  refine y_enterB (cc := cX5_checkKeyer) (maxL := 1) (ret := none) (own := RX5) htr (by decide) rfl (lv0 := [(0, .int k)]) rfl (Nat.le_of_ble_eq_true rfl) ?_
  intro p e s m args below meth c A Z X hr hlk
  refine y_iload_n Z dX5_checkKeyer_0 0 rfl rfl ?_
  refine y_if_lt (tgt := 9) Z dX5_checkKeyer_1 (by decide) (fun h1 => ?_) (fun h2 => ?_)
  · exact y_throw Z X hlk yEx yx_f68 yx_names cl_RX5_68 in_IndexOutOfBoundsException yx_a68 yx_b68 yx_g68 dX5_checkKeyer_9 dX5_checkKeyer_12 dX5_checkKeyer_13 dX5_checkKeyer_16 (Nat.le_of_ble_eq_true rfl) (Nat.le_of_ble_eq_true rfl) (Nat.le_of_ble_eq_true rfl) (Nat.le_of_ble_eq_true rfl) (Nat.le_of_ble_eq_true rfl) (Nat.le_of_ble_eq_true rfl)
  · refine y_iload_n Z dX5_checkKeyer_4 0 rfl rfl ?_
    refine y_iconst (v := 3) Z dX5_checkKeyer_5 (by decide) ?_
    refine y_icmp_lt (tgt := 17) Z dX5_checkKeyer_6 (by decide) (fun h3 => ?_) (fun h4 => ?_)
    · exact absurd (show okK k by simp only [okS, okK, okR, okM, okT, okA, okP, okU, okB, okW, h2, h3, if_true, if_false, not_false_eq_true, not_true_eq_false, ↓reduceIte, and_true, true_and, and_false, false_and]) h_bad
    · exact y_throw Z X hlk yEx yx_f68 yx_names cl_RX5_68 in_IndexOutOfBoundsException yx_a68 yx_b68 yx_g68 dX5_checkKeyer_9 dX5_checkKeyer_12 dX5_checkKeyer_13 dX5_checkKeyer_16 (Nat.le_of_ble_eq_true rfl) (Nat.le_of_ble_eq_true rfl) (Nat.le_of_ble_eq_true rfl) (Nat.le_of_ble_eq_true rfl) (Nat.le_of_ble_eq_true rfl) (Nat.le_of_ble_eq_true rfl)
set_option maxHeartbeats 4000000 in
set_option maxRecDepth 100000 in
theorem k_X5_checkRange (l : Launch) (D : va_G) {cI : ClassId} {tys : List (ClassId × FieldType)} (ht0 : tys[0]? = some (cI, .int)) (v : Int32) (lo : Int32) (hi : Int32) (h_r : okR v lo hi) (sz : Nat) : kV l yX5_checkRange cX5_checkRange 3 none { frames := 6, cells := 0, slots := 0, locals := 89 } D tys [.int v, .int lo, .int hi] ([] : va_W) ([] : va_W) 0 0 sz := by
  refine y_enterV (cc := cX5_checkRange) (maxL := 3) (ret := none) (own := RX5) (by decide) rfl (lv0 := [(0, .int v), (1, .int lo), (2, .int hi)]) rfl (Nat.le_of_ble_eq_true rfl) ?_
  intro p e s m args below meth c A Z hr hlk _
  refine y_iload_n Z dX5_checkRange_0 0 rfl rfl ?_
  refine y_iload_n Z dX5_checkRange_1 1 rfl rfl ?_
  refine y_icmp_lt (tgt := 10) Z dX5_checkRange_2 (by decide) (fun h1 => ?_) (fun h2 => ?_)
  · exact absurd h_r (by simp only [okS, okK, okR, okM, okT, okA, okP, okU, okB, okW, h1, if_true, if_false, not_false_eq_true, not_true_eq_false, ↓reduceIte, and_true, true_and, and_false, false_and])
  · refine y_iload_n Z dX5_checkRange_5 0 rfl rfl ?_
    refine y_iload_n Z dX5_checkRange_6 2 rfl rfl ?_
    refine y_icmp_le (tgt := 18) Z dX5_checkRange_7 (by decide) (fun h3 => ?_) (fun h4 => ?_)
    · exact y_retV Z hr hlk dX5_checkRange_18 (by first | (simp only [h2, h3, if_true, if_false, not_false_eq_true, not_true_eq_false, ↓reduceIte]; done) | (simp only [h2, h3, if_true, if_false, not_false_eq_true, not_true_eq_false, ↓reduceIte, wMix, wLog, wPic, wRep, wScr, wVM, wMd, sR_eq, sR_ne, sF_eq, sF_ne, upd_eq, upd_ne, gs_eq, gs_ne, gm_4, gm_ne, Nat.reduceBEq]; done) | (with_reducible rfl) | contradiction | (simp only [h2, h3, if_true, if_false, not_false_eq_true, not_true_eq_false, ↓reduceIte]; rfl) | rfl)
    · exact absurd h_r (by simp only [okS, okK, okR, okM, okT, okA, okP, okU, okB, okW, h2, h4, if_true, if_false, not_false_eq_true, not_true_eq_false, ↓reduceIte, and_true, true_and, and_false, false_and])
set_option maxHeartbeats 4000000 in
set_option maxRecDepth 100000 in
theorem k_X5_checkRange_b0 (l : Launch) (htr : l.stackTraces = false) (D : va_G) {cI : ClassId} {tys : List (ClassId × FieldType)} (ht0 : tys[0]? = some (cI, .int)) (v : Int32) (lo : Int32) (hi : Int32) (h_bad : ¬ (okR v lo hi)) (sz : Nat) : kB l yX5_checkRange cX5_checkRange 3 none { frames := 6, cells := 1, slots := 6, locals := 89 } D tys [.int v, .int lo, .int hi] ([] : va_W) "java/lang/IllegalArgumentException" sz := by
  refine y_enterB (cc := cX5_checkRange) (maxL := 3) (ret := none) (own := RX5) htr (by decide) rfl (lv0 := [(0, .int v), (1, .int lo), (2, .int hi)]) rfl (Nat.le_of_ble_eq_true rfl) ?_
  intro p e s m args below meth c A Z X hr hlk
  refine y_iload_n Z dX5_checkRange_0 0 rfl rfl ?_
  refine y_iload_n Z dX5_checkRange_1 1 rfl rfl ?_
  refine y_icmp_lt (tgt := 10) Z dX5_checkRange_2 (by decide) (fun h1 => ?_) (fun h2 => ?_)
  · exact y_throw Z X hlk yEx yx_f214 yx_names cl_RX5_214 in_IllegalArgumentException yx_a214 yx_b214 yx_g214 dX5_checkRange_10 dX5_checkRange_13 dX5_checkRange_14 dX5_checkRange_17 (Nat.le_of_ble_eq_true rfl) (Nat.le_of_ble_eq_true rfl) (Nat.le_of_ble_eq_true rfl) (Nat.le_of_ble_eq_true rfl) (Nat.le_of_ble_eq_true rfl) (Nat.le_of_ble_eq_true rfl)
  · refine y_iload_n Z dX5_checkRange_5 0 rfl rfl ?_
    refine y_iload_n Z dX5_checkRange_6 2 rfl rfl ?_
    refine y_icmp_le (tgt := 18) Z dX5_checkRange_7 (by decide) (fun h3 => ?_) (fun h4 => ?_)
    · exact absurd (show okR v lo hi by simp only [okS, okK, okR, okM, okT, okA, okP, okU, okB, okW, h2, h3, if_true, if_false, not_false_eq_true, not_true_eq_false, ↓reduceIte, and_true, true_and, and_false, false_and]) h_bad
    · exact y_throw Z X hlk yEx yx_f214 yx_names cl_RX5_214 in_IllegalArgumentException yx_a214 yx_b214 yx_g214 dX5_checkRange_10 dX5_checkRange_13 dX5_checkRange_14 dX5_checkRange_17 (Nat.le_of_ble_eq_true rfl) (Nat.le_of_ble_eq_true rfl) (Nat.le_of_ble_eq_true rfl) (Nat.le_of_ble_eq_true rfl) (Nat.le_of_ble_eq_true rfl) (Nat.le_of_ble_eq_true rfl)
set_option maxHeartbeats 4000000 in
set_option maxRecDepth 100000 in
theorem k_X5_checkAct (l : Launch) (D : va_G) {cI : ClassId} {tys : List (ClassId × FieldType)} (ht0 : tys[0]? = some (cI, .int)) (aJ : Nat → Nat) (J : Nat → Nat → Nat → Int32) (a : Int32) (h_a : okA J a) (sz : Nat) : kV l yX5_checkAct cX5_checkAct 2 none { frames := 6, cells := 0, slots := 0, locals := 89 } D tys [.ref (aJ 0), .int a] (wVM cI aJ J) (wVM cI aJ J) 0 0 sz := by
  refine y_enterV (cc := cX5_checkAct) (maxL := 2) (ret := none) (own := RX5) (by decide) rfl (lv0 := [(0, .ref (aJ 0)), (1, .int a)]) rfl (Nat.le_of_ble_eq_true rfl) ?_
  intro p e s m args below meth c A Z hr hlk _
  refine y_iload_n Z dX5_checkAct_0 1 rfl rfl ?_
  refine y_if_lt (tgt := 15) Z dX5_checkAct_1 (by decide) (fun h1 => ?_) (fun h2 => ?_)
  · exact absurd h_a (by simp only [okS, okK, okR, okM, okT, okA, okP, okU, okB, okW, h1, if_true, if_false, not_false_eq_true, not_true_eq_false, ↓reduceIte, and_true, true_and, and_false, false_and])
  · refine y_iload_n Z dX5_checkAct_4 1 rfl rfl ?_
    refine y_aload_n Z dX5_checkAct_5 0 rfl rfl ?_
    refine y_get (C := RX5) (T := TX5) (N := 8) Z 5 inlX5 rfl 0 rfl 3 (by decide) fl_RX5_25 rfl dX5_checkAct_6 ?_
    refine y_VI Z (k_X0_size l D ht0 (fun k => aJ (13 + k)) (J 3)) (y_cwV 0 Z ml_RX5_160 im_X0_size se_X0_size in_X0 co_X0_size rfl rfl hd_X0_size ⟨Nat.le_of_ble_eq_true rfl, Nat.le_of_ble_eq_true rfl⟩) [13, 14] rfl (by decide) 0 13 rfl rfl rfl rfl (Nat.le_of_ble_eq_true rfl) dX5_checkAct_9 ⟨Nat.le_of_ble_eq_true rfl, Nat.le_of_ble_eq_true rfl⟩ [(aJ 13), (aJ 14)] rfl rfl (wVM cI aJ J) rfl ?_
    refine y_icmp_lt (tgt := 23) Z dX5_checkAct_12 (by decide) (fun h3 => ?_) (fun h4 => ?_)
    · exact y_retV Z hr hlk dX5_checkAct_23 (by first | (simp only [h2, h3, if_true, if_false, not_false_eq_true, not_true_eq_false, ↓reduceIte]; done) | (simp only [h2, h3, if_true, if_false, not_false_eq_true, not_true_eq_false, ↓reduceIte, wMix, wLog, wPic, wRep, wScr, wVM, wMd, sR_eq, sR_ne, sF_eq, sF_ne, upd_eq, upd_ne, gs_eq, gs_ne, gm_4, gm_ne, Nat.reduceBEq]; done) | (with_reducible rfl) | contradiction | (simp only [h2, h3, if_true, if_false, not_false_eq_true, not_true_eq_false, ↓reduceIte]; rfl) | rfl)
    · exact absurd h_a (by simp only [okS, okK, okR, okM, okT, okA, okP, okU, okB, okW, h2, h4, if_true, if_false, not_false_eq_true, not_true_eq_false, ↓reduceIte, and_true, true_and, and_false, false_and])
set_option maxHeartbeats 4000000 in
set_option maxRecDepth 100000 in
theorem k_X5_checkAct_b0 (l : Launch) (htr : l.stackTraces = false) (D : va_G) {cI : ClassId} {tys : List (ClassId × FieldType)} (ht0 : tys[0]? = some (cI, .int)) (aJ : Nat → Nat) (J : Nat → Nat → Nat → Int32) (a : Int32) (h_bad : ¬ (okA J a)) (sz : Nat) : kB l yX5_checkAct cX5_checkAct 2 none { frames := 6, cells := 1, slots := 6, locals := 89 } D tys [.ref (aJ 0), .int a] (wVM cI aJ J) "java/lang/IndexOutOfBoundsException" sz := by
  refine y_enterB (cc := cX5_checkAct) (maxL := 2) (ret := none) (own := RX5) htr (by decide) rfl (lv0 := [(0, .ref (aJ 0)), (1, .int a)]) rfl (Nat.le_of_ble_eq_true rfl) ?_
  intro p e s m args below meth c A Z X hr hlk
  refine y_iload_n Z dX5_checkAct_0 1 rfl rfl ?_
  refine y_if_lt (tgt := 15) Z dX5_checkAct_1 (by decide) (fun h1 => ?_) (fun h2 => ?_)
  · exact y_throw Z X hlk yEx yx_f68 yx_names cl_RX5_68 in_IndexOutOfBoundsException yx_a68 yx_b68 yx_g68 dX5_checkAct_15 dX5_checkAct_18 dX5_checkAct_19 dX5_checkAct_22 (Nat.le_of_ble_eq_true rfl) (Nat.le_of_ble_eq_true rfl) (Nat.le_of_ble_eq_true rfl) (Nat.le_of_ble_eq_true rfl) (Nat.le_of_ble_eq_true rfl) (Nat.le_of_ble_eq_true rfl)
  · refine y_iload_n Z dX5_checkAct_4 1 rfl rfl ?_
    refine y_aload_n Z dX5_checkAct_5 0 rfl rfl ?_
    refine y_get (C := RX5) (T := TX5) (N := 8) Z 5 inlX5 rfl 0 rfl 3 (by decide) fl_RX5_25 rfl dX5_checkAct_6 ?_
    refine y_VI Z (k_X0_size l D ht0 (fun k => aJ (13 + k)) (J 3)) (y_cwV 0 Z ml_RX5_160 im_X0_size se_X0_size in_X0 co_X0_size rfl rfl hd_X0_size ⟨Nat.le_of_ble_eq_true rfl, Nat.le_of_ble_eq_true rfl⟩) [13, 14] rfl (by decide) 0 13 rfl rfl rfl rfl (Nat.le_of_ble_eq_true rfl) dX5_checkAct_9 ⟨Nat.le_of_ble_eq_true rfl, Nat.le_of_ble_eq_true rfl⟩ [(aJ 13), (aJ 14)] rfl rfl (wVM cI aJ J) rfl ?_
    refine y_icmp_lt (tgt := 23) Z dX5_checkAct_12 (by decide) (fun h3 => ?_) (fun h4 => ?_)
    · exact absurd (show okA J a by simp only [okS, okK, okR, okM, okT, okA, okP, okU, okB, okW, h2, h3, if_true, if_false, not_false_eq_true, not_true_eq_false, ↓reduceIte, and_true, true_and, and_false, false_and]) h_bad
    · exact y_throw Z X hlk yEx yx_f68 yx_names cl_RX5_68 in_IndexOutOfBoundsException yx_a68 yx_b68 yx_g68 dX5_checkAct_15 dX5_checkAct_18 dX5_checkAct_19 dX5_checkAct_22 (Nat.le_of_ble_eq_true rfl) (Nat.le_of_ble_eq_true rfl) (Nat.le_of_ble_eq_true rfl) (Nat.le_of_ble_eq_true rfl) (Nat.le_of_ble_eq_true rfl) (Nat.le_of_ble_eq_true rfl)
set_option maxHeartbeats 4000000 in
set_option maxRecDepth 100000 in
theorem k_X5_mayAct (l : Launch) (D : va_G) {cI : ClassId} {tys : List (ClassId × FieldType)} (ht0 : tys[0]? = some (cI, .int)) (aJ : Nat → Nat) (J : Nat → Nat → Nat → Int32) (w : Int32) (sz : Nat) : kI l yX5_mayAct cX5_mayAct 2 (some .boolean) { frames := 1, cells := 0, slots := 0, locals := 21 } D tys [.ref (aJ 0), .int w] (wVM cI aJ J) (wVM cI aJ J) (myF J w) 0 0 sz := by
  refine y_enterI (cc := cX5_mayAct) (maxL := 2) (ret := (some .boolean)) (own := RX5) (by decide) rfl (lv0 := [(0, .ref (aJ 0)), (1, .int w)]) rfl (Nat.le_of_ble_eq_true rfl) ?_
  intro p e s m args below meth c A Z hr hlk _
  refine y_aload_n Z dX5_mayAct_0 0 rfl rfl ?_
  refine y_get (C := RX5) (T := TX5) (N := 8) Z 5 inlX5 rfl 0 rfl 3 (by decide) fl_RX5_25 rfl dX5_mayAct_1 ?_
  refine y_VI Z (k_X0_isFull l D ht0 (fun k => aJ (13 + k)) (J 3)) (y_cwV 0 Z ml_RX5_217 im_X0_isFull se_X0_isFull in_X0 co_X0_isFull rfl rfl hd_X0_isFull ⟨Nat.le_of_ble_eq_true rfl, Nat.le_of_ble_eq_true rfl⟩) [13, 14] rfl (by decide) 0 13 rfl rfl rfl rfl (Nat.le_of_ble_eq_true rfl) dX5_mayAct_4 ⟨Nat.le_of_ble_eq_true rfl, Nat.le_of_ble_eq_true rfl⟩ [(aJ 13), (aJ 14)] rfl rfl (wVM cI aJ J) rfl ?_
  refine y_if_ne (tgt := 25) Z dX5_mayAct_7 (by decide) (fun h1 => ?_) (fun h2 => ?_)
  · refine y_iconst (v := 0) Z dX5_mayAct_25 (by decide) ?_
    exact y_retZ Z hr hlk (by decide) dX5_mayAct_26 (by first | (simp only [myF, h1, if_true, if_false, not_false_eq_true, not_true_eq_false, ↓reduceIte]; done) | (simp only [myF, h1, if_true, if_false, not_false_eq_true, not_true_eq_false, ↓reduceIte, wMix, wLog, wPic, wRep, wScr, wVM, wMd, sR_eq, sR_ne, sF_eq, sF_ne, upd_eq, upd_ne, gs_eq, gs_ne, gm_4, gm_ne, Nat.reduceBEq]; done) | (with_reducible rfl) | contradiction | (simp only [myF, h1, if_true, if_false, not_false_eq_true, not_true_eq_false, ↓reduceIte]; rfl) | rfl) (by first | (simp only [myF, h1, if_true, if_false, not_false_eq_true, not_true_eq_false, ↓reduceIte]; done) | (simp only [myF, h1, if_true, if_false, not_false_eq_true, not_true_eq_false, ↓reduceIte, wMix, wLog, wPic, wRep, wScr, wVM, wMd, sR_eq, sR_ne, sF_eq, sF_ne, upd_eq, upd_ne, gs_eq, gs_ne, gm_4, gm_ne, Nat.reduceBEq]; done) | (with_reducible rfl) | contradiction | (simp only [myF, h1, if_true, if_false, not_false_eq_true, not_true_eq_false, ↓reduceIte]; rfl) | rfl)
  · refine y_aload_n Z dX5_mayAct_10 0 rfl rfl ?_
    refine y_get (C := RX5) (T := TX5) (N := 8) Z 5 inlX5 rfl 0 rfl 0 (by decide) fl_RX5_10 rfl dX5_mayAct_11 ?_
    refine y_iload_n Z dX5_mayAct_14 1 rfl rfl ?_
    refine y_VI Z (k_X1_isPossible l D ht0 (fun k => aJ (1 + k)) (J 0) w) (y_cwV 1 Z ml_RX5_218 im_X1_isPossible se_X1_isPossible in_X1 co_X1_isPossible rfl rfl hd_X1_isPossible ⟨Nat.le_of_ble_eq_true rfl, Nat.le_of_ble_eq_true rfl⟩) [1, 2, 3, 4] rfl (by decide) 1 1 rfl rfl rfl rfl (Nat.le_of_ble_eq_true rfl) dX5_mayAct_15 ⟨Nat.le_of_ble_eq_true rfl, Nat.le_of_ble_eq_true rfl⟩ [(aJ 1), (aJ 2), (aJ 3), (aJ 4)] rfl rfl (wVM cI aJ J) rfl ?_
    refine y_if_eq (tgt := 25) Z dX5_mayAct_18 (by decide) (fun h3 => ?_) (fun h4 => ?_)
    · refine y_iconst (v := 0) Z dX5_mayAct_25 (by decide) ?_
      exact y_retZ Z hr hlk (by decide) dX5_mayAct_26 (by first | (simp only [myF, eq_true h2, eq_true h3, if_true, if_false, not_false_eq_true, not_true_eq_false, ↓reduceIte]; done) | (simp only [myF, eq_true h2, eq_true h3, if_true, if_false, not_false_eq_true, not_true_eq_false, ↓reduceIte, wMix, wLog, wPic, wRep, wScr, wVM, wMd, sR_eq, sR_ne, sF_eq, sF_ne, upd_eq, upd_ne, gs_eq, gs_ne, gm_4, gm_ne, Nat.reduceBEq]; done) | (with_reducible rfl) | contradiction | (simp only [myF, eq_true h2, eq_true h3, if_true, if_false, not_false_eq_true, not_true_eq_false, ↓reduceIte]; rfl) | rfl) (by first | (simp only [myF, eq_true h2, eq_true h3, if_true, if_false, not_false_eq_true, not_true_eq_false, ↓reduceIte]; done) | (simp only [myF, eq_true h2, eq_true h3, if_true, if_false, not_false_eq_true, not_true_eq_false, ↓reduceIte, wMix, wLog, wPic, wRep, wScr, wVM, wMd, sR_eq, sR_ne, sF_eq, sF_ne, upd_eq, upd_ne, gs_eq, gs_ne, gm_4, gm_ne, Nat.reduceBEq]; done) | (with_reducible rfl) | contradiction | (simp only [myF, eq_true h2, eq_true h3, if_true, if_false, not_false_eq_true, not_true_eq_false, ↓reduceIte]; rfl) | rfl)
    · refine y_iconst (v := 1) Z dX5_mayAct_21 (by decide) ?_
      refine y_goto (tgt := 26) Z dX5_mayAct_22 (by decide) ?_
      exact y_retZ Z hr hlk (by decide) dX5_mayAct_26 (by first | (simp only [myF, eq_true h2, h4, if_true, if_false, not_false_eq_true, not_true_eq_false, ↓reduceIte]; done) | (simp only [myF, eq_true h2, h4, if_true, if_false, not_false_eq_true, not_true_eq_false, ↓reduceIte, wMix, wLog, wPic, wRep, wScr, wVM, wMd, sR_eq, sR_ne, sF_eq, sF_ne, upd_eq, upd_ne, gs_eq, gs_ne, gm_4, gm_ne, Nat.reduceBEq]; done) | (with_reducible rfl) | contradiction | (simp only [myF, eq_true h2, h4, if_true, if_false, not_false_eq_true, not_true_eq_false, ↓reduceIte]; rfl) | rfl) (by first | (simp only [myF, eq_true h2, h4, if_true, if_false, not_false_eq_true, not_true_eq_false, ↓reduceIte]; done) | (simp only [myF, eq_true h2, h4, if_true, if_false, not_false_eq_true, not_true_eq_false, ↓reduceIte, wMix, wLog, wPic, wRep, wScr, wVM, wMd, sR_eq, sR_ne, sF_eq, sF_ne, upd_eq, upd_ne, gs_eq, gs_ne, gm_4, gm_ne, Nat.reduceBEq]; done) | (with_reducible rfl) | contradiction | (simp only [myF, eq_true h2, h4, if_true, if_false, not_false_eq_true, not_true_eq_false, ↓reduceIte]; rfl) | rfl)
set_option maxHeartbeats 4000000 in
set_option maxRecDepth 100000 in
theorem k_X5_enact (l : Launch) (D : va_G) {cI : ClassId} {tys : List (ClassId × FieldType)} (ht0 : tys[0]? = some (cI, .int)) (aJ : Nat → Nat) (J : Nat → Nat → Nat → Int32) (w : Int32) (a : Int32) (b : Int32) (c0 : Int32) (d0 : Int32) (h_m : okM J w) (sz : Nat) : kI l yX5_enact cX5_enact 6 (some .int) { frames := 6, cells := 0, slots := 0, locals := 89 } D tys [.ref (aJ 0), .int w, .int a, .int b, .int c0, .int d0] (wVM cI aJ J) (wVM cI aJ (vm_enact J w a b c0 d0)) (perfR (J 0) w a b c0 d0) 0 0 sz := by
  refine y_enterI (cc := cX5_enact) (maxL := 6) (ret := (some .int)) (own := RX5) (by decide) rfl (lv0 := [(0, .ref (aJ 0)), (1, .int w), (2, .int a), (3, .int b), (4, .int c0), (5, .int d0)]) rfl (Nat.le_of_ble_eq_true rfl) ?_
  intro p e s m args below meth c A Z hr hlk _
  refine y_aload_n Z dX5_enact_0 0 rfl rfl ?_
  refine y_iload_n Z dX5_enact_1 1 rfl rfl ?_
  refine y_VIw Z (k_X5_mayAct l D ht0 aJ J w) (y_cwV 1 Z ml_RX5_221 im_X5_mayAct se_X5_mayAct in_X5 co_X5_mayAct rfl rfl hd_X5_mayAct ⟨Nat.le_of_ble_eq_true rfl, Nat.le_of_ble_eq_true rfl⟩) List.nil List.nil (by simp only [List.nil_append, List.append_nil, wMix, wLog, wPic, wRep, wScr, wVM, wMd, sR_eq, sR_ne, sF_eq, sF_ne, upd_eq, upd_ne, gs_eq, gs_ne, gm_4, gm_ne, Nat.reduceBEq]) 5 0 rfl rfl rfl rfl (Nat.le_of_ble_eq_true rfl) dX5_enact_2 ⟨Nat.le_of_ble_eq_true rfl, Nat.le_of_ble_eq_true rfl⟩ (wVM cI aJ J) (by simp only [List.nil_append, List.append_nil, wMix, wLog, wPic, wRep, wScr, wVM, wMd, sR_eq, sR_ne, sF_eq, sF_ne, upd_eq, upd_ne, gs_eq, gs_ne, gm_4, gm_ne, Nat.reduceBEq]) ?_
  refine y_if_ne (tgt := 16) Z dX5_enact_5 (by decide) (fun h1 => ?_) (fun h2 => ?_)
  · refine y_aload_n Z dX5_enact_16 0 rfl rfl ?_
    refine y_get (C := RX5) (T := TX5) (N := 8) Z 5 inlX5 rfl 0 rfl 3 (by decide) fl_RX5_25 rfl dX5_enact_17 ?_
    refine y_aload_n Z dX5_enact_20 0 rfl rfl ?_
    refine y_get (C := RX5) (T := TX5) (N := 8) Z 5 inlX5 rfl 0 rfl 0 (by decide) fl_RX5_10 rfl dX5_enact_21 ?_
    refine y_getN (host := RX5) (C := RX1) (T := TX1) (N := 14) Z 1 inlX1 rfl 1 rfl 7 (by decide) nl_RX5_71 rfl dX5_enact_24 ?_
    refine y_iload_n Z dX5_enact_27 1 rfl rfl ?_
    refine y_iload_n Z dX5_enact_28 2 rfl rfl ?_
    refine y_iload_n Z dX5_enact_29 3 rfl rfl ?_
    refine y_iload Z dX5_enact_30 4 rfl ?_
    refine y_iload Z dX5_enact_32 5 rfl ?_
    refine y_VV Z (k_X0_add l D ht0 (fun k => aJ (13 + k)) (J 3) ((J 0) 0 7) w a b c0 d0) (y_cwV 6 Z ml_RX5_224 im_X0_add se_X0_add in_X0 co_X0_add rfl rfl hd_X0_add ⟨Nat.le_of_ble_eq_true rfl, Nat.le_of_ble_eq_true rfl⟩) [13, 14] rfl (by decide) 0 13 rfl rfl rfl rfl (Nat.le_of_ble_eq_true rfl) dX5_enact_34 ⟨Nat.le_of_ble_eq_true rfl, Nat.le_of_ble_eq_true rfl⟩ [(aJ 13), (aJ 14)] rfl rfl (wVMR cI aJ (J 0) (J 1) (J 2) (gt_ladd (J 3) ((J 0) 0 7) w a b c0 d0) (J 4) (J 5) (J 6) (J 7)) rfl ?_
    refine y_aload_n Z dX5_enact_37 0 rfl rfl ?_
    refine y_get (C := RX5) (T := TX5) (N := 8) Z 5 inlX5 rfl 0 rfl 0 (by decide) fl_RX5_10 rfl dX5_enact_38 ?_
    refine y_iload_n Z dX5_enact_41 1 rfl rfl ?_
    refine y_iload_n Z dX5_enact_42 2 rfl rfl ?_
    refine y_iload_n Z dX5_enact_43 3 rfl rfl ?_
    refine y_iload Z dX5_enact_44 4 rfl ?_
    refine y_iload Z dX5_enact_46 5 rfl ?_
    refine y_VI Z (k_X1_perform l D ht0 (fun k => aJ (1 + k)) (J 0) w a b c0 d0) (y_cwV 5 Z ml_RX5_227 im_X1_perform se_X1_perform in_X1 co_X1_perform rfl rfl hd_X1_perform ⟨Nat.le_of_ble_eq_true rfl, Nat.le_of_ble_eq_true rfl⟩) [1, 2, 3, 4] rfl (by decide) 1 1 rfl rfl rfl rfl (Nat.le_of_ble_eq_true rfl) dX5_enact_48 ⟨Nat.le_of_ble_eq_true rfl, Nat.le_of_ble_eq_true rfl⟩ [(aJ 1), (aJ 2), (aJ 3), (aJ 4)] rfl rfl (wVMR cI aJ (perfM (J 0) w a b c0 d0) (J 1) (J 2) (gt_ladd (J 3) ((J 0) 0 7) w a b c0 d0) (J 4) (J 5) (J 6) (J 7)) rfl ?_
    exact y_retI Z hr hlk dX5_enact_51 (by first | (simp only [vm_enact, h1, if_true, if_false, not_false_eq_true, not_true_eq_false, ↓reduceIte]; done) | (simp only [vm_enact, h1, if_true, if_false, not_false_eq_true, not_true_eq_false, ↓reduceIte, wMix, wLog, wPic, wRep, wScr, wVM, wMd, sR_eq, sR_ne, sF_eq, sF_ne, upd_eq, upd_ne, gs_eq, gs_ne, gm_4, gm_ne, Nat.reduceBEq]; done) | (with_reducible rfl) | contradiction | (simp only [vm_enact, h1, if_true, if_false, not_false_eq_true, not_true_eq_false, ↓reduceIte]; rfl) | rfl) (by first | (simp only [vm_enact, h1, if_true, if_false, not_false_eq_true, not_true_eq_false, ↓reduceIte]; done) | (simp only [vm_enact, h1, if_true, if_false, not_false_eq_true, not_true_eq_false, ↓reduceIte, wMix, wLog, wPic, wRep, wScr, wVM, wMd, sR_eq, sR_ne, sF_eq, sF_ne, upd_eq, upd_ne, gs_eq, gs_ne, gm_4, gm_ne, Nat.reduceBEq]; done) | (with_reducible rfl) | contradiction | (simp only [vm_enact, h1, if_true, if_false, not_false_eq_true, not_true_eq_false, ↓reduceIte]; rfl) | rfl)
  · exact absurd h_m (by simp only [okS, okK, okR, okM, okT, okA, okP, okU, okB, okW, eq_true h2, if_true, if_false, not_false_eq_true, not_true_eq_false, ↓reduceIte, and_true, true_and, and_false, false_and])
set_option maxHeartbeats 4000000 in
set_option maxRecDepth 100000 in
theorem k_X5_enact_b0 (l : Launch) (htr : l.stackTraces = false) (D : va_G) {cI : ClassId} {tys : List (ClassId × FieldType)} (ht0 : tys[0]? = some (cI, .int)) (aJ : Nat → Nat) (J : Nat → Nat → Nat → Int32) (w : Int32) (a : Int32) (b : Int32) (c0 : Int32) (d0 : Int32) (h_bad : ¬ (okM J w)) (sz : Nat) : kB l yX5_enact cX5_enact 6 (some .int) { frames := 6, cells := 1, slots := 6, locals := 89 } D tys [.ref (aJ 0), .int w, .int a, .int b, .int c0, .int d0] (wVM cI aJ J) "java/lang/IllegalStateException" sz := by
  refine y_enterB (cc := cX5_enact) (maxL := 6) (ret := (some .int)) (own := RX5) htr (by decide) rfl (lv0 := [(0, .ref (aJ 0)), (1, .int w), (2, .int a), (3, .int b), (4, .int c0), (5, .int d0)]) rfl (Nat.le_of_ble_eq_true rfl) ?_
  intro p e s m args below meth c A Z X hr hlk
  refine y_aload_n Z dX5_enact_0 0 rfl rfl ?_
  refine y_iload_n Z dX5_enact_1 1 rfl rfl ?_
  refine y_VIw Z (k_X5_mayAct l D ht0 aJ J w) (y_cwV 1 Z ml_RX5_221 im_X5_mayAct se_X5_mayAct in_X5 co_X5_mayAct rfl rfl hd_X5_mayAct ⟨Nat.le_of_ble_eq_true rfl, Nat.le_of_ble_eq_true rfl⟩) List.nil List.nil (by simp only [List.nil_append, List.append_nil, wMix, wLog, wPic, wRep, wScr, wVM, wMd, sR_eq, sR_ne, sF_eq, sF_ne, upd_eq, upd_ne, gs_eq, gs_ne, gm_4, gm_ne, Nat.reduceBEq]) 5 0 rfl rfl rfl rfl (Nat.le_of_ble_eq_true rfl) dX5_enact_2 ⟨Nat.le_of_ble_eq_true rfl, Nat.le_of_ble_eq_true rfl⟩ (wVM cI aJ J) (by simp only [List.nil_append, List.append_nil, wMix, wLog, wPic, wRep, wScr, wVM, wMd, sR_eq, sR_ne, sF_eq, sF_ne, upd_eq, upd_ne, gs_eq, gs_ne, gm_4, gm_ne, Nat.reduceBEq]) ?_
  refine y_if_ne (tgt := 16) Z dX5_enact_5 (by decide) (fun h1 => ?_) (fun h2 => ?_)
  · exact absurd (show okM J w by simp only [okS, okK, okR, okM, okT, okA, okP, okU, okB, okW, h1, if_true, if_false, not_false_eq_true, not_true_eq_false, ↓reduceIte, and_true, true_and, and_false, false_and]) h_bad
  · exact y_throw Z X hlk yEx yx_f75 yx_names cl_RX5_75 in_IllegalStateException yx_a75 yx_b75 yx_g75 dX5_enact_8 dX5_enact_11 dX5_enact_12 dX5_enact_15 (Nat.le_of_ble_eq_true rfl) (Nat.le_of_ble_eq_true rfl) (Nat.le_of_ble_eq_true rfl) (Nat.le_of_ble_eq_true rfl) (Nat.le_of_ble_eq_true rfl) (Nat.le_of_ble_eq_true rfl)
set_option maxHeartbeats 4000000 in
set_option maxRecDepth 100000 in
theorem k_X5_program (l : Launch) (D : va_G) {cI : ClassId} {tys : List (ClassId × FieldType)} (ht0 : tys[0]? = some (cI, .int)) (aJ : Nat → Nat) (J : Nat → Nat → Nat → Int32) (q : Int32) (h_q : okS q) (h_m : okM J 0) (sz : Nat) : kI l yX5_program cX5_program 2 (some .int) { frames := 7, cells := 0, slots := 0, locals := 114 } D tys [.ref (aJ 0), .int q] (wVM cI aJ J) (wVM cI aJ (vm_enact J 0 q (-1) (-1) (-1))) (perfR (J 0) 0 q (-1) (-1) (-1)) 0 0 sz := by
  refine y_enterI (cc := cX5_program) (maxL := 2) (ret := (some .int)) (own := RX5) (by decide) rfl (lv0 := [(0, .ref (aJ 0)), (1, .int q)]) rfl (Nat.le_of_ble_eq_true rfl) ?_
  intro p e s m args below meth c A Z hr hlk _
  refine y_iload_n Z dX5_program_0 1 rfl rfl ?_
  refine y_SV Z (k_X5_checkSource l D ht0 q h_q) (y_cwS 1 Z ml_RX5_53 st_X5_checkSource in_X5 co_X5_checkSource rfl rfl hs_X5_checkSource ⟨Nat.le_of_ble_eq_true rfl, Nat.le_of_ble_eq_true rfl⟩) [] rfl (by decide) rfl rfl (Nat.le_of_ble_eq_true rfl) dX5_program_1 ⟨Nat.le_of_ble_eq_true rfl, Nat.le_of_ble_eq_true rfl⟩ [] rfl rfl (wVM cI aJ J) rfl ?_
  refine y_aload_n Z dX5_program_4 0 rfl rfl ?_
  refine y_iconst (v := 0) Z dX5_program_5 (by decide) ?_
  refine y_iload_n Z dX5_program_6 1 rfl rfl ?_
  refine y_iconst (v := -1) Z dX5_program_7 (by decide) ?_
  refine y_iconst (v := -1) Z dX5_program_8 (by decide) ?_
  refine y_iconst (v := -1) Z dX5_program_9 (by decide) ?_
  refine y_VIw Z (k_X5_enact l D ht0 aJ J 0 q (-1) (-1) (-1) h_m) (y_cwV 5 Z ml_RX5_57 im_X5_enact se_X5_enact in_X5 co_X5_enact rfl rfl hd_X5_enact ⟨Nat.le_of_ble_eq_true rfl, Nat.le_of_ble_eq_true rfl⟩) List.nil List.nil (by simp only [List.nil_append, List.append_nil, wMix, wLog, wPic, wRep, wScr, wVM, wMd, sR_eq, sR_ne, sF_eq, sF_ne, upd_eq, upd_ne, gs_eq, gs_ne, gm_4, gm_ne, Nat.reduceBEq]) 5 0 rfl rfl rfl rfl (Nat.le_of_ble_eq_true rfl) dX5_program_10 ⟨Nat.le_of_ble_eq_true rfl, Nat.le_of_ble_eq_true rfl⟩ (wVM cI aJ (vm_enact J 0 q (-1) (-1) (-1))) (by simp only [List.nil_append, List.append_nil, wMix, wLog, wPic, wRep, wScr, wVM, wMd, sR_eq, sR_ne, sF_eq, sF_ne, upd_eq, upd_ne, gs_eq, gs_ne, gm_4, gm_ne, Nat.reduceBEq]) ?_
  exact y_retI Z hr hlk dX5_program_13 (by first | (with_reducible rfl) | (simp only [wMix, wLog, wPic, wRep, wScr, wVM, wMd, sR_eq, sR_ne, sF_eq, sF_ne, upd_eq, upd_ne, gs_eq, gs_ne, gm_4, gm_ne, Nat.reduceBEq]; done) | rfl) (by first | (with_reducible rfl) | (simp only [wMix, wLog, wPic, wRep, wScr, wVM, wMd, sR_eq, sR_ne, sF_eq, sF_ne, upd_eq, upd_ne, gs_eq, gs_ne, gm_4, gm_ne, Nat.reduceBEq]; done) | rfl)
set_option maxHeartbeats 4000000 in
set_option maxRecDepth 100000 in
theorem k_X5_program_b0 (l : Launch) (htr : l.stackTraces = false) (D : va_G) {cI : ClassId} {tys : List (ClassId × FieldType)} (ht0 : tys[0]? = some (cI, .int)) (aJ : Nat → Nat) (J : Nat → Nat → Nat → Int32) (q : Int32) (h_bad : ¬ (okS q)) (sz : Nat) : kB l yX5_program cX5_program 2 (some .int) { frames := 7, cells := 1, slots := 6, locals := 114 } D tys [.ref (aJ 0), .int q] (wVM cI aJ J) "java/lang/IndexOutOfBoundsException" sz := by
  refine y_enterB (cc := cX5_program) (maxL := 2) (ret := (some .int)) (own := RX5) htr (by decide) rfl (lv0 := [(0, .ref (aJ 0)), (1, .int q)]) rfl (Nat.le_of_ble_eq_true rfl) ?_
  intro p e s m args below meth c A Z X hr hlk
  refine y_iload_n Z dX5_program_0 1 rfl rfl ?_
  exact y_SB Z X.2.2 (k_X5_checkSource_b0 l htr D ht0 q h_bad) (y_cwS 1 Z ml_RX5_53 st_X5_checkSource in_X5 co_X5_checkSource rfl rfl hs_X5_checkSource ⟨Nat.le_of_ble_eq_true rfl, Nat.le_of_ble_eq_true rfl⟩) [] rfl (by decide) rfl rfl (Nat.le_of_ble_eq_true rfl) dX5_program_1 ⟨Nat.le_of_ble_eq_true rfl, Nat.le_of_ble_eq_true rfl⟩ rfl (y_outB Z X hlk (Nat.le_of_ble_eq_true rfl) (Nat.le_of_ble_eq_true rfl))
set_option maxHeartbeats 4000000 in
set_option maxRecDepth 100000 in
theorem k_X5_program_b1 (l : Launch) (htr : l.stackTraces = false) (D : va_G) {cI : ClassId} {tys : List (ClassId × FieldType)} (ht0 : tys[0]? = some (cI, .int)) (aJ : Nat → Nat) (J : Nat → Nat → Nat → Int32) (q : Int32) (h_q : okS q) (h_bad : ¬ (okM J 0)) (sz : Nat) : kB l yX5_program cX5_program 2 (some .int) { frames := 7, cells := 1, slots := 6, locals := 114 } D tys [.ref (aJ 0), .int q] (wVM cI aJ J) "java/lang/IllegalStateException" sz := by
  refine y_enterB (cc := cX5_program) (maxL := 2) (ret := (some .int)) (own := RX5) htr (by decide) rfl (lv0 := [(0, .ref (aJ 0)), (1, .int q)]) rfl (Nat.le_of_ble_eq_true rfl) ?_
  intro p e s m args below meth c A Z X hr hlk
  refine y_iload_n Z dX5_program_0 1 rfl rfl ?_
  refine y_SV Z (k_X5_checkSource l D ht0 q h_q) (y_cwS 1 Z ml_RX5_53 st_X5_checkSource in_X5 co_X5_checkSource rfl rfl hs_X5_checkSource ⟨Nat.le_of_ble_eq_true rfl, Nat.le_of_ble_eq_true rfl⟩) [] rfl (by decide) rfl rfl (Nat.le_of_ble_eq_true rfl) dX5_program_1 ⟨Nat.le_of_ble_eq_true rfl, Nat.le_of_ble_eq_true rfl⟩ [] rfl rfl (wVM cI aJ J) rfl ?_
  refine y_aload_n Z dX5_program_4 0 rfl rfl ?_
  refine y_iconst (v := 0) Z dX5_program_5 (by decide) ?_
  refine y_iload_n Z dX5_program_6 1 rfl rfl ?_
  refine y_iconst (v := -1) Z dX5_program_7 (by decide) ?_
  refine y_iconst (v := -1) Z dX5_program_8 (by decide) ?_
  refine y_iconst (v := -1) Z dX5_program_9 (by decide) ?_
  exact y_VBw Z X.2.2 (k_X5_enact_b0 l htr D ht0 aJ J 0 q (-1) (-1) (-1) h_bad) (y_cwV 5 Z ml_RX5_57 im_X5_enact se_X5_enact in_X5 co_X5_enact rfl rfl hd_X5_enact ⟨Nat.le_of_ble_eq_true rfl, Nat.le_of_ble_eq_true rfl⟩) List.nil List.nil (by simp only [List.nil_append, List.append_nil, wMix, wLog, wPic, wRep, wScr, wVM, wMd, sR_eq, sR_ne, sF_eq, sF_ne, upd_eq, upd_ne, gs_eq, gs_ne, gm_4, gm_ne, Nat.reduceBEq]) 5 0 rfl rfl rfl rfl (Nat.le_of_ble_eq_true rfl) dX5_program_10 ⟨Nat.le_of_ble_eq_true rfl, Nat.le_of_ble_eq_true rfl⟩ (y_outB Z X hlk (Nat.le_of_ble_eq_true rfl) (Nat.le_of_ble_eq_true rfl))
set_option maxHeartbeats 4000000 in
set_option maxRecDepth 100000 in
theorem k_X5_preview (l : Launch) (D : va_G) {cI : ClassId} {tys : List (ClassId × FieldType)} (ht0 : tys[0]? = some (cI, .int)) (aJ : Nat → Nat) (J : Nat → Nat → Nat → Int32) (q : Int32) (h_q : okS q) (h_m : okM J 1) (sz : Nat) : kI l yX5_preview cX5_preview 2 (some .int) { frames := 7, cells := 0, slots := 0, locals := 114 } D tys [.ref (aJ 0), .int q] (wVM cI aJ J) (wVM cI aJ (vm_enact J 1 q (-1) (-1) (-1))) (perfR (J 0) 1 q (-1) (-1) (-1)) 0 0 sz := by
  refine y_enterI (cc := cX5_preview) (maxL := 2) (ret := (some .int)) (own := RX5) (by decide) rfl (lv0 := [(0, .ref (aJ 0)), (1, .int q)]) rfl (Nat.le_of_ble_eq_true rfl) ?_
  intro p e s m args below meth c A Z hr hlk _
  refine y_iload_n Z dX5_preview_0 1 rfl rfl ?_
  refine y_SV Z (k_X5_checkSource l D ht0 q h_q) (y_cwS 1 Z ml_RX5_53 st_X5_checkSource in_X5 co_X5_checkSource rfl rfl hs_X5_checkSource ⟨Nat.le_of_ble_eq_true rfl, Nat.le_of_ble_eq_true rfl⟩) [] rfl (by decide) rfl rfl (Nat.le_of_ble_eq_true rfl) dX5_preview_1 ⟨Nat.le_of_ble_eq_true rfl, Nat.le_of_ble_eq_true rfl⟩ [] rfl rfl (wVM cI aJ J) rfl ?_
  refine y_aload_n Z dX5_preview_4 0 rfl rfl ?_
  refine y_iconst (v := 1) Z dX5_preview_5 (by decide) ?_
  refine y_iload_n Z dX5_preview_6 1 rfl rfl ?_
  refine y_iconst (v := -1) Z dX5_preview_7 (by decide) ?_
  refine y_iconst (v := -1) Z dX5_preview_8 (by decide) ?_
  refine y_iconst (v := -1) Z dX5_preview_9 (by decide) ?_
  refine y_VIw Z (k_X5_enact l D ht0 aJ J 1 q (-1) (-1) (-1) h_m) (y_cwV 5 Z ml_RX5_57 im_X5_enact se_X5_enact in_X5 co_X5_enact rfl rfl hd_X5_enact ⟨Nat.le_of_ble_eq_true rfl, Nat.le_of_ble_eq_true rfl⟩) List.nil List.nil (by simp only [List.nil_append, List.append_nil, wMix, wLog, wPic, wRep, wScr, wVM, wMd, sR_eq, sR_ne, sF_eq, sF_ne, upd_eq, upd_ne, gs_eq, gs_ne, gm_4, gm_ne, Nat.reduceBEq]) 5 0 rfl rfl rfl rfl (Nat.le_of_ble_eq_true rfl) dX5_preview_10 ⟨Nat.le_of_ble_eq_true rfl, Nat.le_of_ble_eq_true rfl⟩ (wVM cI aJ (vm_enact J 1 q (-1) (-1) (-1))) (by simp only [List.nil_append, List.append_nil, wMix, wLog, wPic, wRep, wScr, wVM, wMd, sR_eq, sR_ne, sF_eq, sF_ne, upd_eq, upd_ne, gs_eq, gs_ne, gm_4, gm_ne, Nat.reduceBEq]) ?_
  exact y_retI Z hr hlk dX5_preview_13 (by first | (with_reducible rfl) | (simp only [wMix, wLog, wPic, wRep, wScr, wVM, wMd, sR_eq, sR_ne, sF_eq, sF_ne, upd_eq, upd_ne, gs_eq, gs_ne, gm_4, gm_ne, Nat.reduceBEq]; done) | rfl) (by first | (with_reducible rfl) | (simp only [wMix, wLog, wPic, wRep, wScr, wVM, wMd, sR_eq, sR_ne, sF_eq, sF_ne, upd_eq, upd_ne, gs_eq, gs_ne, gm_4, gm_ne, Nat.reduceBEq]; done) | rfl)
set_option maxHeartbeats 4000000 in
set_option maxRecDepth 100000 in
theorem k_X5_preview_b0 (l : Launch) (htr : l.stackTraces = false) (D : va_G) {cI : ClassId} {tys : List (ClassId × FieldType)} (ht0 : tys[0]? = some (cI, .int)) (aJ : Nat → Nat) (J : Nat → Nat → Nat → Int32) (q : Int32) (h_bad : ¬ (okS q)) (sz : Nat) : kB l yX5_preview cX5_preview 2 (some .int) { frames := 7, cells := 1, slots := 6, locals := 114 } D tys [.ref (aJ 0), .int q] (wVM cI aJ J) "java/lang/IndexOutOfBoundsException" sz := by
  refine y_enterB (cc := cX5_preview) (maxL := 2) (ret := (some .int)) (own := RX5) htr (by decide) rfl (lv0 := [(0, .ref (aJ 0)), (1, .int q)]) rfl (Nat.le_of_ble_eq_true rfl) ?_
  intro p e s m args below meth c A Z X hr hlk
  refine y_iload_n Z dX5_preview_0 1 rfl rfl ?_
  exact y_SB Z X.2.2 (k_X5_checkSource_b0 l htr D ht0 q h_bad) (y_cwS 1 Z ml_RX5_53 st_X5_checkSource in_X5 co_X5_checkSource rfl rfl hs_X5_checkSource ⟨Nat.le_of_ble_eq_true rfl, Nat.le_of_ble_eq_true rfl⟩) [] rfl (by decide) rfl rfl (Nat.le_of_ble_eq_true rfl) dX5_preview_1 ⟨Nat.le_of_ble_eq_true rfl, Nat.le_of_ble_eq_true rfl⟩ rfl (y_outB Z X hlk (Nat.le_of_ble_eq_true rfl) (Nat.le_of_ble_eq_true rfl))
set_option maxHeartbeats 4000000 in
set_option maxRecDepth 100000 in
theorem k_X5_preview_b1 (l : Launch) (htr : l.stackTraces = false) (D : va_G) {cI : ClassId} {tys : List (ClassId × FieldType)} (ht0 : tys[0]? = some (cI, .int)) (aJ : Nat → Nat) (J : Nat → Nat → Nat → Int32) (q : Int32) (h_q : okS q) (h_bad : ¬ (okM J 1)) (sz : Nat) : kB l yX5_preview cX5_preview 2 (some .int) { frames := 7, cells := 1, slots := 6, locals := 114 } D tys [.ref (aJ 0), .int q] (wVM cI aJ J) "java/lang/IllegalStateException" sz := by
  refine y_enterB (cc := cX5_preview) (maxL := 2) (ret := (some .int)) (own := RX5) htr (by decide) rfl (lv0 := [(0, .ref (aJ 0)), (1, .int q)]) rfl (Nat.le_of_ble_eq_true rfl) ?_
  intro p e s m args below meth c A Z X hr hlk
  refine y_iload_n Z dX5_preview_0 1 rfl rfl ?_
  refine y_SV Z (k_X5_checkSource l D ht0 q h_q) (y_cwS 1 Z ml_RX5_53 st_X5_checkSource in_X5 co_X5_checkSource rfl rfl hs_X5_checkSource ⟨Nat.le_of_ble_eq_true rfl, Nat.le_of_ble_eq_true rfl⟩) [] rfl (by decide) rfl rfl (Nat.le_of_ble_eq_true rfl) dX5_preview_1 ⟨Nat.le_of_ble_eq_true rfl, Nat.le_of_ble_eq_true rfl⟩ [] rfl rfl (wVM cI aJ J) rfl ?_
  refine y_aload_n Z dX5_preview_4 0 rfl rfl ?_
  refine y_iconst (v := 1) Z dX5_preview_5 (by decide) ?_
  refine y_iload_n Z dX5_preview_6 1 rfl rfl ?_
  refine y_iconst (v := -1) Z dX5_preview_7 (by decide) ?_
  refine y_iconst (v := -1) Z dX5_preview_8 (by decide) ?_
  refine y_iconst (v := -1) Z dX5_preview_9 (by decide) ?_
  exact y_VBw Z X.2.2 (k_X5_enact_b0 l htr D ht0 aJ J 1 q (-1) (-1) (-1) h_bad) (y_cwV 5 Z ml_RX5_57 im_X5_enact se_X5_enact in_X5 co_X5_enact rfl rfl hd_X5_enact ⟨Nat.le_of_ble_eq_true rfl, Nat.le_of_ble_eq_true rfl⟩) List.nil List.nil (by simp only [List.nil_append, List.append_nil, wMix, wLog, wPic, wRep, wScr, wVM, wMd, sR_eq, sR_ne, sF_eq, sF_ne, upd_eq, upd_ne, gs_eq, gs_ne, gm_4, gm_ne, Nat.reduceBEq]) 5 0 rfl rfl rfl rfl (Nat.le_of_ble_eq_true rfl) dX5_preview_10 ⟨Nat.le_of_ble_eq_true rfl, Nat.le_of_ble_eq_true rfl⟩ (y_outB Z X hlk (Nat.le_of_ble_eq_true rfl) (Nat.le_of_ble_eq_true rfl))
set_option maxHeartbeats 4000000 in
set_option maxRecDepth 100000 in
theorem k_X5_transition (l : Launch) (D : va_G) {cI : ClassId} {tys : List (ClassId × FieldType)} (ht0 : tys[0]? = some (cI, .int)) (aJ : Nat → Nat) (J : Nat → Nat → Nat → Int32) (k : Int32) (ra : Int32) (h_k : okR k 0 2) (h_ra : okR ra 1 100) (h_m : okM J 2) (sz : Nat) : kI l yX5_transition cX5_transition 3 (some .int) { frames := 7, cells := 0, slots := 0, locals := 114 } D tys [.ref (aJ 0), .int k, .int ra] (wVM cI aJ J) (wVM cI aJ (vm_enact J 2 k ra (-1) (-1))) (perfR (J 0) 2 k ra (-1) (-1)) 0 0 sz := by
  refine y_enterI (cc := cX5_transition) (maxL := 3) (ret := (some .int)) (own := RX5) (by decide) rfl (lv0 := [(0, .ref (aJ 0)), (1, .int k), (2, .int ra)]) rfl (Nat.le_of_ble_eq_true rfl) ?_
  intro p e s m args below meth c A Z hr hlk _
  refine y_iload_n Z dX5_transition_0 1 rfl rfl ?_
  refine y_iconst (v := 0) Z dX5_transition_1 (by decide) ?_
  refine y_iconst (v := 2) Z dX5_transition_2 (by decide) ?_
  refine y_SV Z (k_X5_checkRange l D ht0 k 0 2 h_k) (y_cwS 3 Z ml_RX5_61 st_X5_checkRange in_X5 co_X5_checkRange rfl rfl hs_X5_checkRange ⟨Nat.le_of_ble_eq_true rfl, Nat.le_of_ble_eq_true rfl⟩) [] rfl (by decide) rfl rfl (Nat.le_of_ble_eq_true rfl) dX5_transition_3 ⟨Nat.le_of_ble_eq_true rfl, Nat.le_of_ble_eq_true rfl⟩ [] rfl rfl (wVM cI aJ J) rfl ?_
  refine y_iload_n Z dX5_transition_6 2 rfl rfl ?_
  refine y_iconst (v := 1) Z dX5_transition_7 (by decide) ?_
  refine y_bipush (v := 100) Z dX5_transition_8 (by decide) ?_
  refine y_SV Z (k_X5_checkRange l D ht0 ra 1 100 h_ra) (y_cwS 3 Z ml_RX5_61 st_X5_checkRange in_X5 co_X5_checkRange rfl rfl hs_X5_checkRange ⟨Nat.le_of_ble_eq_true rfl, Nat.le_of_ble_eq_true rfl⟩) [] rfl (by decide) rfl rfl (Nat.le_of_ble_eq_true rfl) dX5_transition_10 ⟨Nat.le_of_ble_eq_true rfl, Nat.le_of_ble_eq_true rfl⟩ [] rfl rfl (wVM cI aJ J) rfl ?_
  refine y_aload_n Z dX5_transition_13 0 rfl rfl ?_
  refine y_iconst (v := 2) Z dX5_transition_14 (by decide) ?_
  refine y_iload_n Z dX5_transition_15 1 rfl rfl ?_
  refine y_iload_n Z dX5_transition_16 2 rfl rfl ?_
  refine y_iconst (v := -1) Z dX5_transition_17 (by decide) ?_
  refine y_iconst (v := -1) Z dX5_transition_18 (by decide) ?_
  refine y_VIw Z (k_X5_enact l D ht0 aJ J 2 k ra (-1) (-1) h_m) (y_cwV 5 Z ml_RX5_57 im_X5_enact se_X5_enact in_X5 co_X5_enact rfl rfl hd_X5_enact ⟨Nat.le_of_ble_eq_true rfl, Nat.le_of_ble_eq_true rfl⟩) List.nil List.nil (by simp only [List.nil_append, List.append_nil, wMix, wLog, wPic, wRep, wScr, wVM, wMd, sR_eq, sR_ne, sF_eq, sF_ne, upd_eq, upd_ne, gs_eq, gs_ne, gm_4, gm_ne, Nat.reduceBEq]) 5 0 rfl rfl rfl rfl (Nat.le_of_ble_eq_true rfl) dX5_transition_19 ⟨Nat.le_of_ble_eq_true rfl, Nat.le_of_ble_eq_true rfl⟩ (wVM cI aJ (vm_enact J 2 k ra (-1) (-1))) (by simp only [List.nil_append, List.append_nil, wMix, wLog, wPic, wRep, wScr, wVM, wMd, sR_eq, sR_ne, sF_eq, sF_ne, upd_eq, upd_ne, gs_eq, gs_ne, gm_4, gm_ne, Nat.reduceBEq]) ?_
  exact y_retI Z hr hlk dX5_transition_22 (by first | (with_reducible rfl) | (simp only [wMix, wLog, wPic, wRep, wScr, wVM, wMd, sR_eq, sR_ne, sF_eq, sF_ne, upd_eq, upd_ne, gs_eq, gs_ne, gm_4, gm_ne, Nat.reduceBEq]; done) | rfl) (by first | (with_reducible rfl) | (simp only [wMix, wLog, wPic, wRep, wScr, wVM, wMd, sR_eq, sR_ne, sF_eq, sF_ne, upd_eq, upd_ne, gs_eq, gs_ne, gm_4, gm_ne, Nat.reduceBEq]; done) | rfl)
set_option maxHeartbeats 4000000 in
set_option maxRecDepth 100000 in
theorem k_X5_transition_b0 (l : Launch) (htr : l.stackTraces = false) (D : va_G) {cI : ClassId} {tys : List (ClassId × FieldType)} (ht0 : tys[0]? = some (cI, .int)) (aJ : Nat → Nat) (J : Nat → Nat → Nat → Int32) (k : Int32) (ra : Int32) (h_bad : ¬ (okR k 0 2)) (sz : Nat) : kB l yX5_transition cX5_transition 3 (some .int) { frames := 7, cells := 1, slots := 6, locals := 114 } D tys [.ref (aJ 0), .int k, .int ra] (wVM cI aJ J) "java/lang/IllegalArgumentException" sz := by
  refine y_enterB (cc := cX5_transition) (maxL := 3) (ret := (some .int)) (own := RX5) htr (by decide) rfl (lv0 := [(0, .ref (aJ 0)), (1, .int k), (2, .int ra)]) rfl (Nat.le_of_ble_eq_true rfl) ?_
  intro p e s m args below meth c A Z X hr hlk
  refine y_iload_n Z dX5_transition_0 1 rfl rfl ?_
  refine y_iconst (v := 0) Z dX5_transition_1 (by decide) ?_
  refine y_iconst (v := 2) Z dX5_transition_2 (by decide) ?_
  exact y_SB Z X.2.2 (k_X5_checkRange_b0 l htr D ht0 k 0 2 h_bad) (y_cwS 3 Z ml_RX5_61 st_X5_checkRange in_X5 co_X5_checkRange rfl rfl hs_X5_checkRange ⟨Nat.le_of_ble_eq_true rfl, Nat.le_of_ble_eq_true rfl⟩) [] rfl (by decide) rfl rfl (Nat.le_of_ble_eq_true rfl) dX5_transition_3 ⟨Nat.le_of_ble_eq_true rfl, Nat.le_of_ble_eq_true rfl⟩ rfl (y_outB Z X hlk (Nat.le_of_ble_eq_true rfl) (Nat.le_of_ble_eq_true rfl))
set_option maxHeartbeats 4000000 in
set_option maxRecDepth 100000 in
theorem k_X5_transition_b1 (l : Launch) (htr : l.stackTraces = false) (D : va_G) {cI : ClassId} {tys : List (ClassId × FieldType)} (ht0 : tys[0]? = some (cI, .int)) (aJ : Nat → Nat) (J : Nat → Nat → Nat → Int32) (k : Int32) (ra : Int32) (h_k : okR k 0 2) (h_bad : ¬ (okR ra 1 100)) (sz : Nat) : kB l yX5_transition cX5_transition 3 (some .int) { frames := 7, cells := 1, slots := 6, locals := 114 } D tys [.ref (aJ 0), .int k, .int ra] (wVM cI aJ J) "java/lang/IllegalArgumentException" sz := by
  refine y_enterB (cc := cX5_transition) (maxL := 3) (ret := (some .int)) (own := RX5) htr (by decide) rfl (lv0 := [(0, .ref (aJ 0)), (1, .int k), (2, .int ra)]) rfl (Nat.le_of_ble_eq_true rfl) ?_
  intro p e s m args below meth c A Z X hr hlk
  refine y_iload_n Z dX5_transition_0 1 rfl rfl ?_
  refine y_iconst (v := 0) Z dX5_transition_1 (by decide) ?_
  refine y_iconst (v := 2) Z dX5_transition_2 (by decide) ?_
  refine y_SV Z (k_X5_checkRange l D ht0 k 0 2 h_k) (y_cwS 3 Z ml_RX5_61 st_X5_checkRange in_X5 co_X5_checkRange rfl rfl hs_X5_checkRange ⟨Nat.le_of_ble_eq_true rfl, Nat.le_of_ble_eq_true rfl⟩) [] rfl (by decide) rfl rfl (Nat.le_of_ble_eq_true rfl) dX5_transition_3 ⟨Nat.le_of_ble_eq_true rfl, Nat.le_of_ble_eq_true rfl⟩ [] rfl rfl (wVM cI aJ J) rfl ?_
  refine y_iload_n Z dX5_transition_6 2 rfl rfl ?_
  refine y_iconst (v := 1) Z dX5_transition_7 (by decide) ?_
  refine y_bipush (v := 100) Z dX5_transition_8 (by decide) ?_
  exact y_SB Z X.2.2 (k_X5_checkRange_b0 l htr D ht0 ra 1 100 h_bad) (y_cwS 3 Z ml_RX5_61 st_X5_checkRange in_X5 co_X5_checkRange rfl rfl hs_X5_checkRange ⟨Nat.le_of_ble_eq_true rfl, Nat.le_of_ble_eq_true rfl⟩) [] rfl (by decide) rfl rfl (Nat.le_of_ble_eq_true rfl) dX5_transition_10 ⟨Nat.le_of_ble_eq_true rfl, Nat.le_of_ble_eq_true rfl⟩ rfl (y_outB Z X hlk (Nat.le_of_ble_eq_true rfl) (Nat.le_of_ble_eq_true rfl))
set_option maxHeartbeats 4000000 in
set_option maxRecDepth 100000 in
theorem k_X5_transition_b2 (l : Launch) (htr : l.stackTraces = false) (D : va_G) {cI : ClassId} {tys : List (ClassId × FieldType)} (ht0 : tys[0]? = some (cI, .int)) (aJ : Nat → Nat) (J : Nat → Nat → Nat → Int32) (k : Int32) (ra : Int32) (h_k : okR k 0 2) (h_ra : okR ra 1 100) (h_bad : ¬ (okM J 2)) (sz : Nat) : kB l yX5_transition cX5_transition 3 (some .int) { frames := 7, cells := 1, slots := 6, locals := 114 } D tys [.ref (aJ 0), .int k, .int ra] (wVM cI aJ J) "java/lang/IllegalStateException" sz := by
  refine y_enterB (cc := cX5_transition) (maxL := 3) (ret := (some .int)) (own := RX5) htr (by decide) rfl (lv0 := [(0, .ref (aJ 0)), (1, .int k), (2, .int ra)]) rfl (Nat.le_of_ble_eq_true rfl) ?_
  intro p e s m args below meth c A Z X hr hlk
  refine y_iload_n Z dX5_transition_0 1 rfl rfl ?_
  refine y_iconst (v := 0) Z dX5_transition_1 (by decide) ?_
  refine y_iconst (v := 2) Z dX5_transition_2 (by decide) ?_
  refine y_SV Z (k_X5_checkRange l D ht0 k 0 2 h_k) (y_cwS 3 Z ml_RX5_61 st_X5_checkRange in_X5 co_X5_checkRange rfl rfl hs_X5_checkRange ⟨Nat.le_of_ble_eq_true rfl, Nat.le_of_ble_eq_true rfl⟩) [] rfl (by decide) rfl rfl (Nat.le_of_ble_eq_true rfl) dX5_transition_3 ⟨Nat.le_of_ble_eq_true rfl, Nat.le_of_ble_eq_true rfl⟩ [] rfl rfl (wVM cI aJ J) rfl ?_
  refine y_iload_n Z dX5_transition_6 2 rfl rfl ?_
  refine y_iconst (v := 1) Z dX5_transition_7 (by decide) ?_
  refine y_bipush (v := 100) Z dX5_transition_8 (by decide) ?_
  refine y_SV Z (k_X5_checkRange l D ht0 ra 1 100 h_ra) (y_cwS 3 Z ml_RX5_61 st_X5_checkRange in_X5 co_X5_checkRange rfl rfl hs_X5_checkRange ⟨Nat.le_of_ble_eq_true rfl, Nat.le_of_ble_eq_true rfl⟩) [] rfl (by decide) rfl rfl (Nat.le_of_ble_eq_true rfl) dX5_transition_10 ⟨Nat.le_of_ble_eq_true rfl, Nat.le_of_ble_eq_true rfl⟩ [] rfl rfl (wVM cI aJ J) rfl ?_
  refine y_aload_n Z dX5_transition_13 0 rfl rfl ?_
  refine y_iconst (v := 2) Z dX5_transition_14 (by decide) ?_
  refine y_iload_n Z dX5_transition_15 1 rfl rfl ?_
  refine y_iload_n Z dX5_transition_16 2 rfl rfl ?_
  refine y_iconst (v := -1) Z dX5_transition_17 (by decide) ?_
  refine y_iconst (v := -1) Z dX5_transition_18 (by decide) ?_
  exact y_VBw Z X.2.2 (k_X5_enact_b0 l htr D ht0 aJ J 2 k ra (-1) (-1) h_bad) (y_cwV 5 Z ml_RX5_57 im_X5_enact se_X5_enact in_X5 co_X5_enact rfl rfl hd_X5_enact ⟨Nat.le_of_ble_eq_true rfl, Nat.le_of_ble_eq_true rfl⟩) List.nil List.nil (by simp only [List.nil_append, List.append_nil, wMix, wLog, wPic, wRep, wScr, wVM, wMd, sR_eq, sR_ne, sF_eq, sF_ne, upd_eq, upd_ne, gs_eq, gs_ne, gm_4, gm_ne, Nat.reduceBEq]) 5 0 rfl rfl rfl rfl (Nat.le_of_ble_eq_true rfl) dX5_transition_19 ⟨Nat.le_of_ble_eq_true rfl, Nat.le_of_ble_eq_true rfl⟩ (y_outB Z X hlk (Nat.le_of_ble_eq_true rfl) (Nat.le_of_ble_eq_true rfl))
set_option maxHeartbeats 4000000 in
set_option maxRecDepth 100000 in
theorem k_X5_next (l : Launch) (D : va_G) {cI : ClassId} {tys : List (ClassId × FieldType)} (ht0 : tys[0]? = some (cI, .int)) (aJ : Nat → Nat) (J : Nat → Nat → Nat → Int32) (el : Int32) (h_el : okR el 0 15) (h_m : okM J 3) (sz : Nat) : kI l yX5_next cX5_next 2 (some .int) { frames := 7, cells := 0, slots := 0, locals := 114 } D tys [.ref (aJ 0), .int el] (wVM cI aJ J) (wVM cI aJ (vm_enact J 3 el (-1) (-1) (-1))) (perfR (J 0) 3 el (-1) (-1) (-1)) 0 0 sz := by
  refine y_enterI (cc := cX5_next) (maxL := 2) (ret := (some .int)) (own := RX5) (by decide) rfl (lv0 := [(0, .ref (aJ 0)), (1, .int el)]) rfl (Nat.le_of_ble_eq_true rfl) ?_
  intro p e s m args below meth c A Z hr hlk _
  refine y_iload_n Z dX5_next_0 1 rfl rfl ?_
  refine y_iconst (v := 0) Z dX5_next_1 (by decide) ?_
  refine y_bipush (v := 15) Z dX5_next_2 (by decide) ?_
  refine y_SV Z (k_X5_checkRange l D ht0 el 0 15 h_el) (y_cwS 3 Z ml_RX5_61 st_X5_checkRange in_X5 co_X5_checkRange rfl rfl hs_X5_checkRange ⟨Nat.le_of_ble_eq_true rfl, Nat.le_of_ble_eq_true rfl⟩) [] rfl (by decide) rfl rfl (Nat.le_of_ble_eq_true rfl) dX5_next_4 ⟨Nat.le_of_ble_eq_true rfl, Nat.le_of_ble_eq_true rfl⟩ [] rfl rfl (wVM cI aJ J) rfl ?_
  refine y_aload_n Z dX5_next_7 0 rfl rfl ?_
  refine y_iconst (v := 3) Z dX5_next_8 (by decide) ?_
  refine y_iload_n Z dX5_next_9 1 rfl rfl ?_
  refine y_iconst (v := -1) Z dX5_next_10 (by decide) ?_
  refine y_iconst (v := -1) Z dX5_next_11 (by decide) ?_
  refine y_iconst (v := -1) Z dX5_next_12 (by decide) ?_
  refine y_VIw Z (k_X5_enact l D ht0 aJ J 3 el (-1) (-1) (-1) h_m) (y_cwV 5 Z ml_RX5_57 im_X5_enact se_X5_enact in_X5 co_X5_enact rfl rfl hd_X5_enact ⟨Nat.le_of_ble_eq_true rfl, Nat.le_of_ble_eq_true rfl⟩) List.nil List.nil (by simp only [List.nil_append, List.append_nil, wMix, wLog, wPic, wRep, wScr, wVM, wMd, sR_eq, sR_ne, sF_eq, sF_ne, upd_eq, upd_ne, gs_eq, gs_ne, gm_4, gm_ne, Nat.reduceBEq]) 5 0 rfl rfl rfl rfl (Nat.le_of_ble_eq_true rfl) dX5_next_13 ⟨Nat.le_of_ble_eq_true rfl, Nat.le_of_ble_eq_true rfl⟩ (wVM cI aJ (vm_enact J 3 el (-1) (-1) (-1))) (by simp only [List.nil_append, List.append_nil, wMix, wLog, wPic, wRep, wScr, wVM, wMd, sR_eq, sR_ne, sF_eq, sF_ne, upd_eq, upd_ne, gs_eq, gs_ne, gm_4, gm_ne, Nat.reduceBEq]) ?_
  exact y_retI Z hr hlk dX5_next_16 (by first | (with_reducible rfl) | (simp only [wMix, wLog, wPic, wRep, wScr, wVM, wMd, sR_eq, sR_ne, sF_eq, sF_ne, upd_eq, upd_ne, gs_eq, gs_ne, gm_4, gm_ne, Nat.reduceBEq]; done) | rfl) (by first | (with_reducible rfl) | (simp only [wMix, wLog, wPic, wRep, wScr, wVM, wMd, sR_eq, sR_ne, sF_eq, sF_ne, upd_eq, upd_ne, gs_eq, gs_ne, gm_4, gm_ne, Nat.reduceBEq]; done) | rfl)
set_option maxHeartbeats 4000000 in
set_option maxRecDepth 100000 in
theorem k_X5_next_b0 (l : Launch) (htr : l.stackTraces = false) (D : va_G) {cI : ClassId} {tys : List (ClassId × FieldType)} (ht0 : tys[0]? = some (cI, .int)) (aJ : Nat → Nat) (J : Nat → Nat → Nat → Int32) (el : Int32) (h_bad : ¬ (okR el 0 15)) (sz : Nat) : kB l yX5_next cX5_next 2 (some .int) { frames := 7, cells := 1, slots := 6, locals := 114 } D tys [.ref (aJ 0), .int el] (wVM cI aJ J) "java/lang/IllegalArgumentException" sz := by
  refine y_enterB (cc := cX5_next) (maxL := 2) (ret := (some .int)) (own := RX5) htr (by decide) rfl (lv0 := [(0, .ref (aJ 0)), (1, .int el)]) rfl (Nat.le_of_ble_eq_true rfl) ?_
  intro p e s m args below meth c A Z X hr hlk
  refine y_iload_n Z dX5_next_0 1 rfl rfl ?_
  refine y_iconst (v := 0) Z dX5_next_1 (by decide) ?_
  refine y_bipush (v := 15) Z dX5_next_2 (by decide) ?_
  exact y_SB Z X.2.2 (k_X5_checkRange_b0 l htr D ht0 el 0 15 h_bad) (y_cwS 3 Z ml_RX5_61 st_X5_checkRange in_X5 co_X5_checkRange rfl rfl hs_X5_checkRange ⟨Nat.le_of_ble_eq_true rfl, Nat.le_of_ble_eq_true rfl⟩) [] rfl (by decide) rfl rfl (Nat.le_of_ble_eq_true rfl) dX5_next_4 ⟨Nat.le_of_ble_eq_true rfl, Nat.le_of_ble_eq_true rfl⟩ rfl (y_outB Z X hlk (Nat.le_of_ble_eq_true rfl) (Nat.le_of_ble_eq_true rfl))
set_option maxHeartbeats 4000000 in
set_option maxRecDepth 100000 in
theorem k_X5_next_b1 (l : Launch) (htr : l.stackTraces = false) (D : va_G) {cI : ClassId} {tys : List (ClassId × FieldType)} (ht0 : tys[0]? = some (cI, .int)) (aJ : Nat → Nat) (J : Nat → Nat → Nat → Int32) (el : Int32) (h_el : okR el 0 15) (h_bad : ¬ (okM J 3)) (sz : Nat) : kB l yX5_next cX5_next 2 (some .int) { frames := 7, cells := 1, slots := 6, locals := 114 } D tys [.ref (aJ 0), .int el] (wVM cI aJ J) "java/lang/IllegalStateException" sz := by
  refine y_enterB (cc := cX5_next) (maxL := 2) (ret := (some .int)) (own := RX5) htr (by decide) rfl (lv0 := [(0, .ref (aJ 0)), (1, .int el)]) rfl (Nat.le_of_ble_eq_true rfl) ?_
  intro p e s m args below meth c A Z X hr hlk
  refine y_iload_n Z dX5_next_0 1 rfl rfl ?_
  refine y_iconst (v := 0) Z dX5_next_1 (by decide) ?_
  refine y_bipush (v := 15) Z dX5_next_2 (by decide) ?_
  refine y_SV Z (k_X5_checkRange l D ht0 el 0 15 h_el) (y_cwS 3 Z ml_RX5_61 st_X5_checkRange in_X5 co_X5_checkRange rfl rfl hs_X5_checkRange ⟨Nat.le_of_ble_eq_true rfl, Nat.le_of_ble_eq_true rfl⟩) [] rfl (by decide) rfl rfl (Nat.le_of_ble_eq_true rfl) dX5_next_4 ⟨Nat.le_of_ble_eq_true rfl, Nat.le_of_ble_eq_true rfl⟩ [] rfl rfl (wVM cI aJ J) rfl ?_
  refine y_aload_n Z dX5_next_7 0 rfl rfl ?_
  refine y_iconst (v := 3) Z dX5_next_8 (by decide) ?_
  refine y_iload_n Z dX5_next_9 1 rfl rfl ?_
  refine y_iconst (v := -1) Z dX5_next_10 (by decide) ?_
  refine y_iconst (v := -1) Z dX5_next_11 (by decide) ?_
  refine y_iconst (v := -1) Z dX5_next_12 (by decide) ?_
  exact y_VBw Z X.2.2 (k_X5_enact_b0 l htr D ht0 aJ J 3 el (-1) (-1) (-1) h_bad) (y_cwV 5 Z ml_RX5_57 im_X5_enact se_X5_enact in_X5 co_X5_enact rfl rfl hd_X5_enact ⟨Nat.le_of_ble_eq_true rfl, Nat.le_of_ble_eq_true rfl⟩) List.nil List.nil (by simp only [List.nil_append, List.append_nil, wMix, wLog, wPic, wRep, wScr, wVM, wMd, sR_eq, sR_ne, sF_eq, sF_ne, upd_eq, upd_ne, gs_eq, gs_ne, gm_4, gm_ne, Nat.reduceBEq]) 5 0 rfl rfl rfl rfl (Nat.le_of_ble_eq_true rfl) dX5_next_13 ⟨Nat.le_of_ble_eq_true rfl, Nat.le_of_ble_eq_true rfl⟩ (y_outB Z X hlk (Nat.le_of_ble_eq_true rfl) (Nat.le_of_ble_eq_true rfl))
set_option maxHeartbeats 4000000 in
set_option maxRecDepth 100000 in
theorem k_X5_key (l : Launch) (D : va_G) {cI : ClassId} {tys : List (ClassId × FieldType)} (ht0 : tys[0]? = some (cI, .int)) (aJ : Nat → Nat) (J : Nat → Nat → Nat → Int32) (k : Int32) (f : Int32) (o : Int32) (ar : Int32) (h_k : okK k) (h_f : okS f) (h_o : okR o 0 100) (h_ar : okR ar 1 100) (h_m : okM J 4) (sz : Nat) : kI l yX5_key cX5_key 5 (some .int) { frames := 7, cells := 0, slots := 0, locals := 114 } D tys [.ref (aJ 0), .int k, .int f, .int o, .int ar] (wVM cI aJ J) (wVM cI aJ (vm_enact J 4 k f o ar)) (perfR (J 0) 4 k f o ar) 0 0 sz := by
  refine y_enterI (cc := cX5_key) (maxL := 5) (ret := (some .int)) (own := RX5) (by decide) rfl (lv0 := [(0, .ref (aJ 0)), (1, .int k), (2, .int f), (3, .int o), (4, .int ar)]) rfl (Nat.le_of_ble_eq_true rfl) ?_
  intro p e s m args below meth c A Z hr hlk _
  refine y_iload_n Z dX5_key_0 1 rfl rfl ?_
  refine y_SV Z (k_X5_checkKeyer l D ht0 k h_k) (y_cwS 1 Z ml_RX5_65 st_X5_checkKeyer in_X5 co_X5_checkKeyer rfl rfl hs_X5_checkKeyer ⟨Nat.le_of_ble_eq_true rfl, Nat.le_of_ble_eq_true rfl⟩) [] rfl (by decide) rfl rfl (Nat.le_of_ble_eq_true rfl) dX5_key_1 ⟨Nat.le_of_ble_eq_true rfl, Nat.le_of_ble_eq_true rfl⟩ [] rfl rfl (wVM cI aJ J) rfl ?_
  refine y_iload_n Z dX5_key_4 2 rfl rfl ?_
  refine y_SV Z (k_X5_checkSource l D ht0 f h_f) (y_cwS 1 Z ml_RX5_53 st_X5_checkSource in_X5 co_X5_checkSource rfl rfl hs_X5_checkSource ⟨Nat.le_of_ble_eq_true rfl, Nat.le_of_ble_eq_true rfl⟩) [] rfl (by decide) rfl rfl (Nat.le_of_ble_eq_true rfl) dX5_key_5 ⟨Nat.le_of_ble_eq_true rfl, Nat.le_of_ble_eq_true rfl⟩ [] rfl rfl (wVM cI aJ J) rfl ?_
  refine y_iload_n Z dX5_key_8 3 rfl rfl ?_
  refine y_iconst (v := 0) Z dX5_key_9 (by decide) ?_
  refine y_bipush (v := 100) Z dX5_key_10 (by decide) ?_
  refine y_SV Z (k_X5_checkRange l D ht0 o 0 100 h_o) (y_cwS 3 Z ml_RX5_61 st_X5_checkRange in_X5 co_X5_checkRange rfl rfl hs_X5_checkRange ⟨Nat.le_of_ble_eq_true rfl, Nat.le_of_ble_eq_true rfl⟩) [] rfl (by decide) rfl rfl (Nat.le_of_ble_eq_true rfl) dX5_key_12 ⟨Nat.le_of_ble_eq_true rfl, Nat.le_of_ble_eq_true rfl⟩ [] rfl rfl (wVM cI aJ J) rfl ?_
  refine y_iload Z dX5_key_15 4 rfl ?_
  refine y_iconst (v := 1) Z dX5_key_17 (by decide) ?_
  refine y_bipush (v := 100) Z dX5_key_18 (by decide) ?_
  refine y_SV Z (k_X5_checkRange l D ht0 ar 1 100 h_ar) (y_cwS 3 Z ml_RX5_61 st_X5_checkRange in_X5 co_X5_checkRange rfl rfl hs_X5_checkRange ⟨Nat.le_of_ble_eq_true rfl, Nat.le_of_ble_eq_true rfl⟩) [] rfl (by decide) rfl rfl (Nat.le_of_ble_eq_true rfl) dX5_key_20 ⟨Nat.le_of_ble_eq_true rfl, Nat.le_of_ble_eq_true rfl⟩ [] rfl rfl (wVM cI aJ J) rfl ?_
  refine y_aload_n Z dX5_key_23 0 rfl rfl ?_
  refine y_iconst (v := 4) Z dX5_key_24 (by decide) ?_
  refine y_iload_n Z dX5_key_25 1 rfl rfl ?_
  refine y_iload_n Z dX5_key_26 2 rfl rfl ?_
  refine y_iload_n Z dX5_key_27 3 rfl rfl ?_
  refine y_iload Z dX5_key_28 4 rfl ?_
  refine y_VIw Z (k_X5_enact l D ht0 aJ J 4 k f o ar h_m) (y_cwV 5 Z ml_RX5_57 im_X5_enact se_X5_enact in_X5 co_X5_enact rfl rfl hd_X5_enact ⟨Nat.le_of_ble_eq_true rfl, Nat.le_of_ble_eq_true rfl⟩) List.nil List.nil (by simp only [List.nil_append, List.append_nil, wMix, wLog, wPic, wRep, wScr, wVM, wMd, sR_eq, sR_ne, sF_eq, sF_ne, upd_eq, upd_ne, gs_eq, gs_ne, gm_4, gm_ne, Nat.reduceBEq]) 5 0 rfl rfl rfl rfl (Nat.le_of_ble_eq_true rfl) dX5_key_30 ⟨Nat.le_of_ble_eq_true rfl, Nat.le_of_ble_eq_true rfl⟩ (wVM cI aJ (vm_enact J 4 k f o ar)) (by simp only [List.nil_append, List.append_nil, wMix, wLog, wPic, wRep, wScr, wVM, wMd, sR_eq, sR_ne, sF_eq, sF_ne, upd_eq, upd_ne, gs_eq, gs_ne, gm_4, gm_ne, Nat.reduceBEq]) ?_
  exact y_retI Z hr hlk dX5_key_33 (by first | (with_reducible rfl) | (simp only [wMix, wLog, wPic, wRep, wScr, wVM, wMd, sR_eq, sR_ne, sF_eq, sF_ne, upd_eq, upd_ne, gs_eq, gs_ne, gm_4, gm_ne, Nat.reduceBEq]; done) | rfl) (by first | (with_reducible rfl) | (simp only [wMix, wLog, wPic, wRep, wScr, wVM, wMd, sR_eq, sR_ne, sF_eq, sF_ne, upd_eq, upd_ne, gs_eq, gs_ne, gm_4, gm_ne, Nat.reduceBEq]; done) | rfl)
set_option maxHeartbeats 4000000 in
set_option maxRecDepth 100000 in
theorem k_X5_key_b0 (l : Launch) (htr : l.stackTraces = false) (D : va_G) {cI : ClassId} {tys : List (ClassId × FieldType)} (ht0 : tys[0]? = some (cI, .int)) (aJ : Nat → Nat) (J : Nat → Nat → Nat → Int32) (k : Int32) (f : Int32) (o : Int32) (ar : Int32) (h_bad : ¬ (okK k)) (sz : Nat) : kB l yX5_key cX5_key 5 (some .int) { frames := 7, cells := 1, slots := 6, locals := 114 } D tys [.ref (aJ 0), .int k, .int f, .int o, .int ar] (wVM cI aJ J) "java/lang/IndexOutOfBoundsException" sz := by
  refine y_enterB (cc := cX5_key) (maxL := 5) (ret := (some .int)) (own := RX5) htr (by decide) rfl (lv0 := [(0, .ref (aJ 0)), (1, .int k), (2, .int f), (3, .int o), (4, .int ar)]) rfl (Nat.le_of_ble_eq_true rfl) ?_
  intro p e s m args below meth c A Z X hr hlk
  refine y_iload_n Z dX5_key_0 1 rfl rfl ?_
  exact y_SB Z X.2.2 (k_X5_checkKeyer_b0 l htr D ht0 k h_bad) (y_cwS 1 Z ml_RX5_65 st_X5_checkKeyer in_X5 co_X5_checkKeyer rfl rfl hs_X5_checkKeyer ⟨Nat.le_of_ble_eq_true rfl, Nat.le_of_ble_eq_true rfl⟩) [] rfl (by decide) rfl rfl (Nat.le_of_ble_eq_true rfl) dX5_key_1 ⟨Nat.le_of_ble_eq_true rfl, Nat.le_of_ble_eq_true rfl⟩ rfl (y_outB Z X hlk (Nat.le_of_ble_eq_true rfl) (Nat.le_of_ble_eq_true rfl))
set_option maxHeartbeats 4000000 in
set_option maxRecDepth 100000 in
theorem k_X5_key_b1 (l : Launch) (htr : l.stackTraces = false) (D : va_G) {cI : ClassId} {tys : List (ClassId × FieldType)} (ht0 : tys[0]? = some (cI, .int)) (aJ : Nat → Nat) (J : Nat → Nat → Nat → Int32) (k : Int32) (f : Int32) (o : Int32) (ar : Int32) (h_k : okK k) (h_bad : ¬ (okS f)) (sz : Nat) : kB l yX5_key cX5_key 5 (some .int) { frames := 7, cells := 1, slots := 6, locals := 114 } D tys [.ref (aJ 0), .int k, .int f, .int o, .int ar] (wVM cI aJ J) "java/lang/IndexOutOfBoundsException" sz := by
  refine y_enterB (cc := cX5_key) (maxL := 5) (ret := (some .int)) (own := RX5) htr (by decide) rfl (lv0 := [(0, .ref (aJ 0)), (1, .int k), (2, .int f), (3, .int o), (4, .int ar)]) rfl (Nat.le_of_ble_eq_true rfl) ?_
  intro p e s m args below meth c A Z X hr hlk
  refine y_iload_n Z dX5_key_0 1 rfl rfl ?_
  refine y_SV Z (k_X5_checkKeyer l D ht0 k h_k) (y_cwS 1 Z ml_RX5_65 st_X5_checkKeyer in_X5 co_X5_checkKeyer rfl rfl hs_X5_checkKeyer ⟨Nat.le_of_ble_eq_true rfl, Nat.le_of_ble_eq_true rfl⟩) [] rfl (by decide) rfl rfl (Nat.le_of_ble_eq_true rfl) dX5_key_1 ⟨Nat.le_of_ble_eq_true rfl, Nat.le_of_ble_eq_true rfl⟩ [] rfl rfl (wVM cI aJ J) rfl ?_
  refine y_iload_n Z dX5_key_4 2 rfl rfl ?_
  exact y_SB Z X.2.2 (k_X5_checkSource_b0 l htr D ht0 f h_bad) (y_cwS 1 Z ml_RX5_53 st_X5_checkSource in_X5 co_X5_checkSource rfl rfl hs_X5_checkSource ⟨Nat.le_of_ble_eq_true rfl, Nat.le_of_ble_eq_true rfl⟩) [] rfl (by decide) rfl rfl (Nat.le_of_ble_eq_true rfl) dX5_key_5 ⟨Nat.le_of_ble_eq_true rfl, Nat.le_of_ble_eq_true rfl⟩ rfl (y_outB Z X hlk (Nat.le_of_ble_eq_true rfl) (Nat.le_of_ble_eq_true rfl))
set_option maxHeartbeats 4000000 in
set_option maxRecDepth 100000 in
theorem k_X5_key_b2 (l : Launch) (htr : l.stackTraces = false) (D : va_G) {cI : ClassId} {tys : List (ClassId × FieldType)} (ht0 : tys[0]? = some (cI, .int)) (aJ : Nat → Nat) (J : Nat → Nat → Nat → Int32) (k : Int32) (f : Int32) (o : Int32) (ar : Int32) (h_k : okK k) (h_f : okS f) (h_bad : ¬ (okR o 0 100)) (sz : Nat) : kB l yX5_key cX5_key 5 (some .int) { frames := 7, cells := 1, slots := 6, locals := 114 } D tys [.ref (aJ 0), .int k, .int f, .int o, .int ar] (wVM cI aJ J) "java/lang/IllegalArgumentException" sz := by
  refine y_enterB (cc := cX5_key) (maxL := 5) (ret := (some .int)) (own := RX5) htr (by decide) rfl (lv0 := [(0, .ref (aJ 0)), (1, .int k), (2, .int f), (3, .int o), (4, .int ar)]) rfl (Nat.le_of_ble_eq_true rfl) ?_
  intro p e s m args below meth c A Z X hr hlk
  refine y_iload_n Z dX5_key_0 1 rfl rfl ?_
  refine y_SV Z (k_X5_checkKeyer l D ht0 k h_k) (y_cwS 1 Z ml_RX5_65 st_X5_checkKeyer in_X5 co_X5_checkKeyer rfl rfl hs_X5_checkKeyer ⟨Nat.le_of_ble_eq_true rfl, Nat.le_of_ble_eq_true rfl⟩) [] rfl (by decide) rfl rfl (Nat.le_of_ble_eq_true rfl) dX5_key_1 ⟨Nat.le_of_ble_eq_true rfl, Nat.le_of_ble_eq_true rfl⟩ [] rfl rfl (wVM cI aJ J) rfl ?_
  refine y_iload_n Z dX5_key_4 2 rfl rfl ?_
  refine y_SV Z (k_X5_checkSource l D ht0 f h_f) (y_cwS 1 Z ml_RX5_53 st_X5_checkSource in_X5 co_X5_checkSource rfl rfl hs_X5_checkSource ⟨Nat.le_of_ble_eq_true rfl, Nat.le_of_ble_eq_true rfl⟩) [] rfl (by decide) rfl rfl (Nat.le_of_ble_eq_true rfl) dX5_key_5 ⟨Nat.le_of_ble_eq_true rfl, Nat.le_of_ble_eq_true rfl⟩ [] rfl rfl (wVM cI aJ J) rfl ?_
  refine y_iload_n Z dX5_key_8 3 rfl rfl ?_
  refine y_iconst (v := 0) Z dX5_key_9 (by decide) ?_
  refine y_bipush (v := 100) Z dX5_key_10 (by decide) ?_
  exact y_SB Z X.2.2 (k_X5_checkRange_b0 l htr D ht0 o 0 100 h_bad) (y_cwS 3 Z ml_RX5_61 st_X5_checkRange in_X5 co_X5_checkRange rfl rfl hs_X5_checkRange ⟨Nat.le_of_ble_eq_true rfl, Nat.le_of_ble_eq_true rfl⟩) [] rfl (by decide) rfl rfl (Nat.le_of_ble_eq_true rfl) dX5_key_12 ⟨Nat.le_of_ble_eq_true rfl, Nat.le_of_ble_eq_true rfl⟩ rfl (y_outB Z X hlk (Nat.le_of_ble_eq_true rfl) (Nat.le_of_ble_eq_true rfl))
set_option maxHeartbeats 4000000 in
set_option maxRecDepth 100000 in
theorem k_X5_key_b3 (l : Launch) (htr : l.stackTraces = false) (D : va_G) {cI : ClassId} {tys : List (ClassId × FieldType)} (ht0 : tys[0]? = some (cI, .int)) (aJ : Nat → Nat) (J : Nat → Nat → Nat → Int32) (k : Int32) (f : Int32) (o : Int32) (ar : Int32) (h_k : okK k) (h_f : okS f) (h_o : okR o 0 100) (h_bad : ¬ (okR ar 1 100)) (sz : Nat) : kB l yX5_key cX5_key 5 (some .int) { frames := 7, cells := 1, slots := 6, locals := 114 } D tys [.ref (aJ 0), .int k, .int f, .int o, .int ar] (wVM cI aJ J) "java/lang/IllegalArgumentException" sz := by
  refine y_enterB (cc := cX5_key) (maxL := 5) (ret := (some .int)) (own := RX5) htr (by decide) rfl (lv0 := [(0, .ref (aJ 0)), (1, .int k), (2, .int f), (3, .int o), (4, .int ar)]) rfl (Nat.le_of_ble_eq_true rfl) ?_
  intro p e s m args below meth c A Z X hr hlk
  refine y_iload_n Z dX5_key_0 1 rfl rfl ?_
  refine y_SV Z (k_X5_checkKeyer l D ht0 k h_k) (y_cwS 1 Z ml_RX5_65 st_X5_checkKeyer in_X5 co_X5_checkKeyer rfl rfl hs_X5_checkKeyer ⟨Nat.le_of_ble_eq_true rfl, Nat.le_of_ble_eq_true rfl⟩) [] rfl (by decide) rfl rfl (Nat.le_of_ble_eq_true rfl) dX5_key_1 ⟨Nat.le_of_ble_eq_true rfl, Nat.le_of_ble_eq_true rfl⟩ [] rfl rfl (wVM cI aJ J) rfl ?_
  refine y_iload_n Z dX5_key_4 2 rfl rfl ?_
  refine y_SV Z (k_X5_checkSource l D ht0 f h_f) (y_cwS 1 Z ml_RX5_53 st_X5_checkSource in_X5 co_X5_checkSource rfl rfl hs_X5_checkSource ⟨Nat.le_of_ble_eq_true rfl, Nat.le_of_ble_eq_true rfl⟩) [] rfl (by decide) rfl rfl (Nat.le_of_ble_eq_true rfl) dX5_key_5 ⟨Nat.le_of_ble_eq_true rfl, Nat.le_of_ble_eq_true rfl⟩ [] rfl rfl (wVM cI aJ J) rfl ?_
  refine y_iload_n Z dX5_key_8 3 rfl rfl ?_
  refine y_iconst (v := 0) Z dX5_key_9 (by decide) ?_
  refine y_bipush (v := 100) Z dX5_key_10 (by decide) ?_
  refine y_SV Z (k_X5_checkRange l D ht0 o 0 100 h_o) (y_cwS 3 Z ml_RX5_61 st_X5_checkRange in_X5 co_X5_checkRange rfl rfl hs_X5_checkRange ⟨Nat.le_of_ble_eq_true rfl, Nat.le_of_ble_eq_true rfl⟩) [] rfl (by decide) rfl rfl (Nat.le_of_ble_eq_true rfl) dX5_key_12 ⟨Nat.le_of_ble_eq_true rfl, Nat.le_of_ble_eq_true rfl⟩ [] rfl rfl (wVM cI aJ J) rfl ?_
  refine y_iload Z dX5_key_15 4 rfl ?_
  refine y_iconst (v := 1) Z dX5_key_17 (by decide) ?_
  refine y_bipush (v := 100) Z dX5_key_18 (by decide) ?_
  exact y_SB Z X.2.2 (k_X5_checkRange_b0 l htr D ht0 ar 1 100 h_bad) (y_cwS 3 Z ml_RX5_61 st_X5_checkRange in_X5 co_X5_checkRange rfl rfl hs_X5_checkRange ⟨Nat.le_of_ble_eq_true rfl, Nat.le_of_ble_eq_true rfl⟩) [] rfl (by decide) rfl rfl (Nat.le_of_ble_eq_true rfl) dX5_key_20 ⟨Nat.le_of_ble_eq_true rfl, Nat.le_of_ble_eq_true rfl⟩ rfl (y_outB Z X hlk (Nat.le_of_ble_eq_true rfl) (Nat.le_of_ble_eq_true rfl))
set_option maxHeartbeats 4000000 in
set_option maxRecDepth 100000 in
theorem k_X5_key_b4 (l : Launch) (htr : l.stackTraces = false) (D : va_G) {cI : ClassId} {tys : List (ClassId × FieldType)} (ht0 : tys[0]? = some (cI, .int)) (aJ : Nat → Nat) (J : Nat → Nat → Nat → Int32) (k : Int32) (f : Int32) (o : Int32) (ar : Int32) (h_k : okK k) (h_f : okS f) (h_o : okR o 0 100) (h_ar : okR ar 1 100) (h_bad : ¬ (okM J 4)) (sz : Nat) : kB l yX5_key cX5_key 5 (some .int) { frames := 7, cells := 1, slots := 6, locals := 114 } D tys [.ref (aJ 0), .int k, .int f, .int o, .int ar] (wVM cI aJ J) "java/lang/IllegalStateException" sz := by
  refine y_enterB (cc := cX5_key) (maxL := 5) (ret := (some .int)) (own := RX5) htr (by decide) rfl (lv0 := [(0, .ref (aJ 0)), (1, .int k), (2, .int f), (3, .int o), (4, .int ar)]) rfl (Nat.le_of_ble_eq_true rfl) ?_
  intro p e s m args below meth c A Z X hr hlk
  refine y_iload_n Z dX5_key_0 1 rfl rfl ?_
  refine y_SV Z (k_X5_checkKeyer l D ht0 k h_k) (y_cwS 1 Z ml_RX5_65 st_X5_checkKeyer in_X5 co_X5_checkKeyer rfl rfl hs_X5_checkKeyer ⟨Nat.le_of_ble_eq_true rfl, Nat.le_of_ble_eq_true rfl⟩) [] rfl (by decide) rfl rfl (Nat.le_of_ble_eq_true rfl) dX5_key_1 ⟨Nat.le_of_ble_eq_true rfl, Nat.le_of_ble_eq_true rfl⟩ [] rfl rfl (wVM cI aJ J) rfl ?_
  refine y_iload_n Z dX5_key_4 2 rfl rfl ?_
  refine y_SV Z (k_X5_checkSource l D ht0 f h_f) (y_cwS 1 Z ml_RX5_53 st_X5_checkSource in_X5 co_X5_checkSource rfl rfl hs_X5_checkSource ⟨Nat.le_of_ble_eq_true rfl, Nat.le_of_ble_eq_true rfl⟩) [] rfl (by decide) rfl rfl (Nat.le_of_ble_eq_true rfl) dX5_key_5 ⟨Nat.le_of_ble_eq_true rfl, Nat.le_of_ble_eq_true rfl⟩ [] rfl rfl (wVM cI aJ J) rfl ?_
  refine y_iload_n Z dX5_key_8 3 rfl rfl ?_
  refine y_iconst (v := 0) Z dX5_key_9 (by decide) ?_
  refine y_bipush (v := 100) Z dX5_key_10 (by decide) ?_
  refine y_SV Z (k_X5_checkRange l D ht0 o 0 100 h_o) (y_cwS 3 Z ml_RX5_61 st_X5_checkRange in_X5 co_X5_checkRange rfl rfl hs_X5_checkRange ⟨Nat.le_of_ble_eq_true rfl, Nat.le_of_ble_eq_true rfl⟩) [] rfl (by decide) rfl rfl (Nat.le_of_ble_eq_true rfl) dX5_key_12 ⟨Nat.le_of_ble_eq_true rfl, Nat.le_of_ble_eq_true rfl⟩ [] rfl rfl (wVM cI aJ J) rfl ?_
  refine y_iload Z dX5_key_15 4 rfl ?_
  refine y_iconst (v := 1) Z dX5_key_17 (by decide) ?_
  refine y_bipush (v := 100) Z dX5_key_18 (by decide) ?_
  refine y_SV Z (k_X5_checkRange l D ht0 ar 1 100 h_ar) (y_cwS 3 Z ml_RX5_61 st_X5_checkRange in_X5 co_X5_checkRange rfl rfl hs_X5_checkRange ⟨Nat.le_of_ble_eq_true rfl, Nat.le_of_ble_eq_true rfl⟩) [] rfl (by decide) rfl rfl (Nat.le_of_ble_eq_true rfl) dX5_key_20 ⟨Nat.le_of_ble_eq_true rfl, Nat.le_of_ble_eq_true rfl⟩ [] rfl rfl (wVM cI aJ J) rfl ?_
  refine y_aload_n Z dX5_key_23 0 rfl rfl ?_
  refine y_iconst (v := 4) Z dX5_key_24 (by decide) ?_
  refine y_iload_n Z dX5_key_25 1 rfl rfl ?_
  refine y_iload_n Z dX5_key_26 2 rfl rfl ?_
  refine y_iload_n Z dX5_key_27 3 rfl rfl ?_
  refine y_iload Z dX5_key_28 4 rfl ?_
  exact y_VBw Z X.2.2 (k_X5_enact_b0 l htr D ht0 aJ J 4 k f o ar h_bad) (y_cwV 5 Z ml_RX5_57 im_X5_enact se_X5_enact in_X5 co_X5_enact rfl rfl hd_X5_enact ⟨Nat.le_of_ble_eq_true rfl, Nat.le_of_ble_eq_true rfl⟩) List.nil List.nil (by simp only [List.nil_append, List.append_nil, wMix, wLog, wPic, wRep, wScr, wVM, wMd, sR_eq, sR_ne, sF_eq, sF_ne, upd_eq, upd_ne, gs_eq, gs_ne, gm_4, gm_ne, Nat.reduceBEq]) 5 0 rfl rfl rfl rfl (Nat.le_of_ble_eq_true rfl) dX5_key_30 ⟨Nat.le_of_ble_eq_true rfl, Nat.le_of_ble_eq_true rfl⟩ (y_outB Z X hlk (Nat.le_of_ble_eq_true rfl) (Nat.le_of_ble_eq_true rfl))
set_option maxHeartbeats 4000000 in
set_option maxRecDepth 100000 in
theorem k_X5_toggle (l : Launch) (D : va_G) {cI : ClassId} {tys : List (ClassId × FieldType)} (ht0 : tys[0]? = some (cI, .int)) (aJ : Nat → Nat) (J : Nat → Nat → Nat → Int32) (k : Int32) (h_k : okK k) (h_m : okM J 5) (sz : Nat) : kI l yX5_toggle cX5_toggle 2 (some .int) { frames := 7, cells := 0, slots := 0, locals := 114 } D tys [.ref (aJ 0), .int k] (wVM cI aJ J) (wVM cI aJ (vm_enact J 5 k (-1) (-1) (-1))) (perfR (J 0) 5 k (-1) (-1) (-1)) 0 0 sz := by
  refine y_enterI (cc := cX5_toggle) (maxL := 2) (ret := (some .int)) (own := RX5) (by decide) rfl (lv0 := [(0, .ref (aJ 0)), (1, .int k)]) rfl (Nat.le_of_ble_eq_true rfl) ?_
  intro p e s m args below meth c A Z hr hlk _
  refine y_iload_n Z dX5_toggle_0 1 rfl rfl ?_
  refine y_SV Z (k_X5_checkKeyer l D ht0 k h_k) (y_cwS 1 Z ml_RX5_65 st_X5_checkKeyer in_X5 co_X5_checkKeyer rfl rfl hs_X5_checkKeyer ⟨Nat.le_of_ble_eq_true rfl, Nat.le_of_ble_eq_true rfl⟩) [] rfl (by decide) rfl rfl (Nat.le_of_ble_eq_true rfl) dX5_toggle_1 ⟨Nat.le_of_ble_eq_true rfl, Nat.le_of_ble_eq_true rfl⟩ [] rfl rfl (wVM cI aJ J) rfl ?_
  refine y_aload_n Z dX5_toggle_4 0 rfl rfl ?_
  refine y_iconst (v := 5) Z dX5_toggle_5 (by decide) ?_
  refine y_iload_n Z dX5_toggle_6 1 rfl rfl ?_
  refine y_iconst (v := -1) Z dX5_toggle_7 (by decide) ?_
  refine y_iconst (v := -1) Z dX5_toggle_8 (by decide) ?_
  refine y_iconst (v := -1) Z dX5_toggle_9 (by decide) ?_
  refine y_VIw Z (k_X5_enact l D ht0 aJ J 5 k (-1) (-1) (-1) h_m) (y_cwV 5 Z ml_RX5_57 im_X5_enact se_X5_enact in_X5 co_X5_enact rfl rfl hd_X5_enact ⟨Nat.le_of_ble_eq_true rfl, Nat.le_of_ble_eq_true rfl⟩) List.nil List.nil (by simp only [List.nil_append, List.append_nil, wMix, wLog, wPic, wRep, wScr, wVM, wMd, sR_eq, sR_ne, sF_eq, sF_ne, upd_eq, upd_ne, gs_eq, gs_ne, gm_4, gm_ne, Nat.reduceBEq]) 5 0 rfl rfl rfl rfl (Nat.le_of_ble_eq_true rfl) dX5_toggle_10 ⟨Nat.le_of_ble_eq_true rfl, Nat.le_of_ble_eq_true rfl⟩ (wVM cI aJ (vm_enact J 5 k (-1) (-1) (-1))) (by simp only [List.nil_append, List.append_nil, wMix, wLog, wPic, wRep, wScr, wVM, wMd, sR_eq, sR_ne, sF_eq, sF_ne, upd_eq, upd_ne, gs_eq, gs_ne, gm_4, gm_ne, Nat.reduceBEq]) ?_
  exact y_retI Z hr hlk dX5_toggle_13 (by first | (with_reducible rfl) | (simp only [wMix, wLog, wPic, wRep, wScr, wVM, wMd, sR_eq, sR_ne, sF_eq, sF_ne, upd_eq, upd_ne, gs_eq, gs_ne, gm_4, gm_ne, Nat.reduceBEq]; done) | rfl) (by first | (with_reducible rfl) | (simp only [wMix, wLog, wPic, wRep, wScr, wVM, wMd, sR_eq, sR_ne, sF_eq, sF_ne, upd_eq, upd_ne, gs_eq, gs_ne, gm_4, gm_ne, Nat.reduceBEq]; done) | rfl)
set_option maxHeartbeats 4000000 in
set_option maxRecDepth 100000 in
theorem k_X5_toggle_b0 (l : Launch) (htr : l.stackTraces = false) (D : va_G) {cI : ClassId} {tys : List (ClassId × FieldType)} (ht0 : tys[0]? = some (cI, .int)) (aJ : Nat → Nat) (J : Nat → Nat → Nat → Int32) (k : Int32) (h_bad : ¬ (okK k)) (sz : Nat) : kB l yX5_toggle cX5_toggle 2 (some .int) { frames := 7, cells := 1, slots := 6, locals := 114 } D tys [.ref (aJ 0), .int k] (wVM cI aJ J) "java/lang/IndexOutOfBoundsException" sz := by
  refine y_enterB (cc := cX5_toggle) (maxL := 2) (ret := (some .int)) (own := RX5) htr (by decide) rfl (lv0 := [(0, .ref (aJ 0)), (1, .int k)]) rfl (Nat.le_of_ble_eq_true rfl) ?_
  intro p e s m args below meth c A Z X hr hlk
  refine y_iload_n Z dX5_toggle_0 1 rfl rfl ?_
  exact y_SB Z X.2.2 (k_X5_checkKeyer_b0 l htr D ht0 k h_bad) (y_cwS 1 Z ml_RX5_65 st_X5_checkKeyer in_X5 co_X5_checkKeyer rfl rfl hs_X5_checkKeyer ⟨Nat.le_of_ble_eq_true rfl, Nat.le_of_ble_eq_true rfl⟩) [] rfl (by decide) rfl rfl (Nat.le_of_ble_eq_true rfl) dX5_toggle_1 ⟨Nat.le_of_ble_eq_true rfl, Nat.le_of_ble_eq_true rfl⟩ rfl (y_outB Z X hlk (Nat.le_of_ble_eq_true rfl) (Nat.le_of_ble_eq_true rfl))
set_option maxHeartbeats 4000000 in
set_option maxRecDepth 100000 in
theorem k_X5_toggle_b1 (l : Launch) (htr : l.stackTraces = false) (D : va_G) {cI : ClassId} {tys : List (ClassId × FieldType)} (ht0 : tys[0]? = some (cI, .int)) (aJ : Nat → Nat) (J : Nat → Nat → Nat → Int32) (k : Int32) (h_k : okK k) (h_bad : ¬ (okM J 5)) (sz : Nat) : kB l yX5_toggle cX5_toggle 2 (some .int) { frames := 7, cells := 1, slots := 6, locals := 114 } D tys [.ref (aJ 0), .int k] (wVM cI aJ J) "java/lang/IllegalStateException" sz := by
  refine y_enterB (cc := cX5_toggle) (maxL := 2) (ret := (some .int)) (own := RX5) htr (by decide) rfl (lv0 := [(0, .ref (aJ 0)), (1, .int k)]) rfl (Nat.le_of_ble_eq_true rfl) ?_
  intro p e s m args below meth c A Z X hr hlk
  refine y_iload_n Z dX5_toggle_0 1 rfl rfl ?_
  refine y_SV Z (k_X5_checkKeyer l D ht0 k h_k) (y_cwS 1 Z ml_RX5_65 st_X5_checkKeyer in_X5 co_X5_checkKeyer rfl rfl hs_X5_checkKeyer ⟨Nat.le_of_ble_eq_true rfl, Nat.le_of_ble_eq_true rfl⟩) [] rfl (by decide) rfl rfl (Nat.le_of_ble_eq_true rfl) dX5_toggle_1 ⟨Nat.le_of_ble_eq_true rfl, Nat.le_of_ble_eq_true rfl⟩ [] rfl rfl (wVM cI aJ J) rfl ?_
  refine y_aload_n Z dX5_toggle_4 0 rfl rfl ?_
  refine y_iconst (v := 5) Z dX5_toggle_5 (by decide) ?_
  refine y_iload_n Z dX5_toggle_6 1 rfl rfl ?_
  refine y_iconst (v := -1) Z dX5_toggle_7 (by decide) ?_
  refine y_iconst (v := -1) Z dX5_toggle_8 (by decide) ?_
  refine y_iconst (v := -1) Z dX5_toggle_9 (by decide) ?_
  exact y_VBw Z X.2.2 (k_X5_enact_b0 l htr D ht0 aJ J 5 k (-1) (-1) (-1) h_bad) (y_cwV 5 Z ml_RX5_57 im_X5_enact se_X5_enact in_X5 co_X5_enact rfl rfl hd_X5_enact ⟨Nat.le_of_ble_eq_true rfl, Nat.le_of_ble_eq_true rfl⟩) List.nil List.nil (by simp only [List.nil_append, List.append_nil, wMix, wLog, wPic, wRep, wScr, wVM, wMd, sR_eq, sR_ne, sF_eq, sF_ne, upd_eq, upd_ne, gs_eq, gs_ne, gm_4, gm_ne, Nat.reduceBEq]) 5 0 rfl rfl rfl rfl (Nat.le_of_ble_eq_true rfl) dX5_toggle_10 ⟨Nat.le_of_ble_eq_true rfl, Nat.le_of_ble_eq_true rfl⟩ (y_outB Z X hlk (Nat.le_of_ble_eq_true rfl) (Nat.le_of_ble_eq_true rfl))
set_option maxHeartbeats 4000000 in
set_option maxRecDepth 100000 in
theorem k_X5_cut (l : Launch) (D : va_G) {cI : ClassId} {tys : List (ClassId × FieldType)} (ht0 : tys[0]? = some (cI, .int)) (aJ : Nat → Nat) (J : Nat → Nat → Nat → Int32) (h_m : okM J 6) (sz : Nat) : kI l yX5_cut cX5_cut 1 (some .int) { frames := 7, cells := 0, slots := 0, locals := 114 } D tys [.ref (aJ 0)] (wVM cI aJ J) (wVM cI aJ (vm_enact J 6 (-1) (-1) (-1) (-1))) (perfR (J 0) 6 (-1) (-1) (-1) (-1)) 0 0 sz := by
  refine y_enterI (cc := cX5_cut) (maxL := 1) (ret := (some .int)) (own := RX5) (by decide) rfl (lv0 := [(0, .ref (aJ 0))]) rfl (Nat.le_of_ble_eq_true rfl) ?_
  intro p e s m args below meth c A Z hr hlk _
  refine y_aload_n Z dX5_cut_0 0 rfl rfl ?_
  refine y_bipush (v := 6) Z dX5_cut_1 (by decide) ?_
  refine y_iconst (v := -1) Z dX5_cut_3 (by decide) ?_
  refine y_iconst (v := -1) Z dX5_cut_4 (by decide) ?_
  refine y_iconst (v := -1) Z dX5_cut_5 (by decide) ?_
  refine y_iconst (v := -1) Z dX5_cut_6 (by decide) ?_
  refine y_VIw Z (k_X5_enact l D ht0 aJ J 6 (-1) (-1) (-1) (-1) h_m) (y_cwV 5 Z ml_RX5_57 im_X5_enact se_X5_enact in_X5 co_X5_enact rfl rfl hd_X5_enact ⟨Nat.le_of_ble_eq_true rfl, Nat.le_of_ble_eq_true rfl⟩) List.nil List.nil (by simp only [List.nil_append, List.append_nil, wMix, wLog, wPic, wRep, wScr, wVM, wMd, sR_eq, sR_ne, sF_eq, sF_ne, upd_eq, upd_ne, gs_eq, gs_ne, gm_4, gm_ne, Nat.reduceBEq]) 5 0 rfl rfl rfl rfl (Nat.le_of_ble_eq_true rfl) dX5_cut_7 ⟨Nat.le_of_ble_eq_true rfl, Nat.le_of_ble_eq_true rfl⟩ (wVM cI aJ (vm_enact J 6 (-1) (-1) (-1) (-1))) (by simp only [List.nil_append, List.append_nil, wMix, wLog, wPic, wRep, wScr, wVM, wMd, sR_eq, sR_ne, sF_eq, sF_ne, upd_eq, upd_ne, gs_eq, gs_ne, gm_4, gm_ne, Nat.reduceBEq]) ?_
  exact y_retI Z hr hlk dX5_cut_10 (by first | (with_reducible rfl) | (simp only [wMix, wLog, wPic, wRep, wScr, wVM, wMd, sR_eq, sR_ne, sF_eq, sF_ne, upd_eq, upd_ne, gs_eq, gs_ne, gm_4, gm_ne, Nat.reduceBEq]; done) | rfl) (by first | (with_reducible rfl) | (simp only [wMix, wLog, wPic, wRep, wScr, wVM, wMd, sR_eq, sR_ne, sF_eq, sF_ne, upd_eq, upd_ne, gs_eq, gs_ne, gm_4, gm_ne, Nat.reduceBEq]; done) | rfl)
set_option maxHeartbeats 4000000 in
set_option maxRecDepth 100000 in
theorem k_X5_cut_b0 (l : Launch) (htr : l.stackTraces = false) (D : va_G) {cI : ClassId} {tys : List (ClassId × FieldType)} (ht0 : tys[0]? = some (cI, .int)) (aJ : Nat → Nat) (J : Nat → Nat → Nat → Int32) (h_bad : ¬ (okM J 6)) (sz : Nat) : kB l yX5_cut cX5_cut 1 (some .int) { frames := 7, cells := 1, slots := 6, locals := 114 } D tys [.ref (aJ 0)] (wVM cI aJ J) "java/lang/IllegalStateException" sz := by
  refine y_enterB (cc := cX5_cut) (maxL := 1) (ret := (some .int)) (own := RX5) htr (by decide) rfl (lv0 := [(0, .ref (aJ 0))]) rfl (Nat.le_of_ble_eq_true rfl) ?_
  intro p e s m args below meth c A Z X hr hlk
  refine y_aload_n Z dX5_cut_0 0 rfl rfl ?_
  refine y_bipush (v := 6) Z dX5_cut_1 (by decide) ?_
  refine y_iconst (v := -1) Z dX5_cut_3 (by decide) ?_
  refine y_iconst (v := -1) Z dX5_cut_4 (by decide) ?_
  refine y_iconst (v := -1) Z dX5_cut_5 (by decide) ?_
  refine y_iconst (v := -1) Z dX5_cut_6 (by decide) ?_
  exact y_VBw Z X.2.2 (k_X5_enact_b0 l htr D ht0 aJ J 6 (-1) (-1) (-1) (-1) h_bad) (y_cwV 5 Z ml_RX5_57 im_X5_enact se_X5_enact in_X5 co_X5_enact rfl rfl hd_X5_enact ⟨Nat.le_of_ble_eq_true rfl, Nat.le_of_ble_eq_true rfl⟩) List.nil List.nil (by simp only [List.nil_append, List.append_nil, wMix, wLog, wPic, wRep, wScr, wVM, wMd, sR_eq, sR_ne, sF_eq, sF_ne, upd_eq, upd_ne, gs_eq, gs_ne, gm_4, gm_ne, Nat.reduceBEq]) 5 0 rfl rfl rfl rfl (Nat.le_of_ble_eq_true rfl) dX5_cut_7 ⟨Nat.le_of_ble_eq_true rfl, Nat.le_of_ble_eq_true rfl⟩ (y_outB Z X hlk (Nat.le_of_ble_eq_true rfl) (Nat.le_of_ble_eq_true rfl))
set_option maxHeartbeats 4000000 in
set_option maxRecDepth 100000 in
theorem k_X5_auto (l : Launch) (D : va_G) {cI : ClassId} {tys : List (ClassId × FieldType)} (ht0 : tys[0]? = some (cI, .int)) (aJ : Nat → Nat) (J : Nat → Nat → Nat → Int32) (h_m : okM J 7) (sz : Nat) : kI l yX5_auto cX5_auto 1 (some .int) { frames := 7, cells := 0, slots := 0, locals := 114 } D tys [.ref (aJ 0)] (wVM cI aJ J) (wVM cI aJ (vm_enact J 7 (-1) (-1) (-1) (-1))) (perfR (J 0) 7 (-1) (-1) (-1) (-1)) 0 0 sz := by
  refine y_enterI (cc := cX5_auto) (maxL := 1) (ret := (some .int)) (own := RX5) (by decide) rfl (lv0 := [(0, .ref (aJ 0))]) rfl (Nat.le_of_ble_eq_true rfl) ?_
  intro p e s m args below meth c A Z hr hlk _
  refine y_aload_n Z dX5_auto_0 0 rfl rfl ?_
  refine y_bipush (v := 7) Z dX5_auto_1 (by decide) ?_
  refine y_iconst (v := -1) Z dX5_auto_3 (by decide) ?_
  refine y_iconst (v := -1) Z dX5_auto_4 (by decide) ?_
  refine y_iconst (v := -1) Z dX5_auto_5 (by decide) ?_
  refine y_iconst (v := -1) Z dX5_auto_6 (by decide) ?_
  refine y_VIw Z (k_X5_enact l D ht0 aJ J 7 (-1) (-1) (-1) (-1) h_m) (y_cwV 5 Z ml_RX5_57 im_X5_enact se_X5_enact in_X5 co_X5_enact rfl rfl hd_X5_enact ⟨Nat.le_of_ble_eq_true rfl, Nat.le_of_ble_eq_true rfl⟩) List.nil List.nil (by simp only [List.nil_append, List.append_nil, wMix, wLog, wPic, wRep, wScr, wVM, wMd, sR_eq, sR_ne, sF_eq, sF_ne, upd_eq, upd_ne, gs_eq, gs_ne, gm_4, gm_ne, Nat.reduceBEq]) 5 0 rfl rfl rfl rfl (Nat.le_of_ble_eq_true rfl) dX5_auto_7 ⟨Nat.le_of_ble_eq_true rfl, Nat.le_of_ble_eq_true rfl⟩ (wVM cI aJ (vm_enact J 7 (-1) (-1) (-1) (-1))) (by simp only [List.nil_append, List.append_nil, wMix, wLog, wPic, wRep, wScr, wVM, wMd, sR_eq, sR_ne, sF_eq, sF_ne, upd_eq, upd_ne, gs_eq, gs_ne, gm_4, gm_ne, Nat.reduceBEq]) ?_
  exact y_retI Z hr hlk dX5_auto_10 (by first | (with_reducible rfl) | (simp only [wMix, wLog, wPic, wRep, wScr, wVM, wMd, sR_eq, sR_ne, sF_eq, sF_ne, upd_eq, upd_ne, gs_eq, gs_ne, gm_4, gm_ne, Nat.reduceBEq]; done) | rfl) (by first | (with_reducible rfl) | (simp only [wMix, wLog, wPic, wRep, wScr, wVM, wMd, sR_eq, sR_ne, sF_eq, sF_ne, upd_eq, upd_ne, gs_eq, gs_ne, gm_4, gm_ne, Nat.reduceBEq]; done) | rfl)
set_option maxHeartbeats 4000000 in
set_option maxRecDepth 100000 in
theorem k_X5_auto_b0 (l : Launch) (htr : l.stackTraces = false) (D : va_G) {cI : ClassId} {tys : List (ClassId × FieldType)} (ht0 : tys[0]? = some (cI, .int)) (aJ : Nat → Nat) (J : Nat → Nat → Nat → Int32) (h_bad : ¬ (okM J 7)) (sz : Nat) : kB l yX5_auto cX5_auto 1 (some .int) { frames := 7, cells := 1, slots := 6, locals := 114 } D tys [.ref (aJ 0)] (wVM cI aJ J) "java/lang/IllegalStateException" sz := by
  refine y_enterB (cc := cX5_auto) (maxL := 1) (ret := (some .int)) (own := RX5) htr (by decide) rfl (lv0 := [(0, .ref (aJ 0))]) rfl (Nat.le_of_ble_eq_true rfl) ?_
  intro p e s m args below meth c A Z X hr hlk
  refine y_aload_n Z dX5_auto_0 0 rfl rfl ?_
  refine y_bipush (v := 7) Z dX5_auto_1 (by decide) ?_
  refine y_iconst (v := -1) Z dX5_auto_3 (by decide) ?_
  refine y_iconst (v := -1) Z dX5_auto_4 (by decide) ?_
  refine y_iconst (v := -1) Z dX5_auto_5 (by decide) ?_
  refine y_iconst (v := -1) Z dX5_auto_6 (by decide) ?_
  exact y_VBw Z X.2.2 (k_X5_enact_b0 l htr D ht0 aJ J 7 (-1) (-1) (-1) (-1) h_bad) (y_cwV 5 Z ml_RX5_57 im_X5_enact se_X5_enact in_X5 co_X5_enact rfl rfl hd_X5_enact ⟨Nat.le_of_ble_eq_true rfl, Nat.le_of_ble_eq_true rfl⟩) List.nil List.nil (by simp only [List.nil_append, List.append_nil, wMix, wLog, wPic, wRep, wScr, wVM, wMd, sR_eq, sR_ne, sF_eq, sF_ne, upd_eq, upd_ne, gs_eq, gs_ne, gm_4, gm_ne, Nat.reduceBEq]) 5 0 rfl rfl rfl rfl (Nat.le_of_ble_eq_true rfl) dX5_auto_7 ⟨Nat.le_of_ble_eq_true rfl, Nat.le_of_ble_eq_true rfl⟩ (y_outB Z X hlk (Nat.le_of_ble_eq_true rfl) (Nat.le_of_ble_eq_true rfl))
set_option maxHeartbeats 4000000 in
set_option maxRecDepth 100000 in
theorem k_X5_bar (l : Launch) (D : va_G) {cI : ClassId} {tys : List (ClassId × FieldType)} (ht0 : tys[0]? = some (cI, .int)) (aJ : Nat → Nat) (J : Nat → Nat → Nat → Int32) (b : Int32) (h_b : okR b 0 1000) (h_m : okM J 8) (sz : Nat) : kI l yX5_bar cX5_bar 2 (some .int) { frames := 7, cells := 0, slots := 0, locals := 114 } D tys [.ref (aJ 0), .int b] (wVM cI aJ J) (wVM cI aJ (vm_enact J 8 b (-1) (-1) (-1))) (perfR (J 0) 8 b (-1) (-1) (-1)) 0 0 sz := by
  refine y_enterI (cc := cX5_bar) (maxL := 2) (ret := (some .int)) (own := RX5) (by decide) rfl (lv0 := [(0, .ref (aJ 0)), (1, .int b)]) rfl (Nat.le_of_ble_eq_true rfl) ?_
  intro p e s m args below meth c A Z hr hlk _
  refine y_iload_n Z dX5_bar_0 1 rfl rfl ?_
  refine y_iconst (v := 0) Z dX5_bar_1 (by decide) ?_
  refine y_sipush (v := 1000) Z dX5_bar_2 (by decide) ?_
  refine y_SV Z (k_X5_checkRange l D ht0 b 0 1000 h_b) (y_cwS 3 Z ml_RX5_61 st_X5_checkRange in_X5 co_X5_checkRange rfl rfl hs_X5_checkRange ⟨Nat.le_of_ble_eq_true rfl, Nat.le_of_ble_eq_true rfl⟩) [] rfl (by decide) rfl rfl (Nat.le_of_ble_eq_true rfl) dX5_bar_5 ⟨Nat.le_of_ble_eq_true rfl, Nat.le_of_ble_eq_true rfl⟩ [] rfl rfl (wVM cI aJ J) rfl ?_
  refine y_aload_n Z dX5_bar_8 0 rfl rfl ?_
  refine y_bipush (v := 8) Z dX5_bar_9 (by decide) ?_
  refine y_iload_n Z dX5_bar_11 1 rfl rfl ?_
  refine y_iconst (v := -1) Z dX5_bar_12 (by decide) ?_
  refine y_iconst (v := -1) Z dX5_bar_13 (by decide) ?_
  refine y_iconst (v := -1) Z dX5_bar_14 (by decide) ?_
  refine y_VIw Z (k_X5_enact l D ht0 aJ J 8 b (-1) (-1) (-1) h_m) (y_cwV 5 Z ml_RX5_57 im_X5_enact se_X5_enact in_X5 co_X5_enact rfl rfl hd_X5_enact ⟨Nat.le_of_ble_eq_true rfl, Nat.le_of_ble_eq_true rfl⟩) List.nil List.nil (by simp only [List.nil_append, List.append_nil, wMix, wLog, wPic, wRep, wScr, wVM, wMd, sR_eq, sR_ne, sF_eq, sF_ne, upd_eq, upd_ne, gs_eq, gs_ne, gm_4, gm_ne, Nat.reduceBEq]) 5 0 rfl rfl rfl rfl (Nat.le_of_ble_eq_true rfl) dX5_bar_15 ⟨Nat.le_of_ble_eq_true rfl, Nat.le_of_ble_eq_true rfl⟩ (wVM cI aJ (vm_enact J 8 b (-1) (-1) (-1))) (by simp only [List.nil_append, List.append_nil, wMix, wLog, wPic, wRep, wScr, wVM, wMd, sR_eq, sR_ne, sF_eq, sF_ne, upd_eq, upd_ne, gs_eq, gs_ne, gm_4, gm_ne, Nat.reduceBEq]) ?_
  exact y_retI Z hr hlk dX5_bar_18 (by first | (with_reducible rfl) | (simp only [wMix, wLog, wPic, wRep, wScr, wVM, wMd, sR_eq, sR_ne, sF_eq, sF_ne, upd_eq, upd_ne, gs_eq, gs_ne, gm_4, gm_ne, Nat.reduceBEq]; done) | rfl) (by first | (with_reducible rfl) | (simp only [wMix, wLog, wPic, wRep, wScr, wVM, wMd, sR_eq, sR_ne, sF_eq, sF_ne, upd_eq, upd_ne, gs_eq, gs_ne, gm_4, gm_ne, Nat.reduceBEq]; done) | rfl)
set_option maxHeartbeats 4000000 in
set_option maxRecDepth 100000 in
theorem k_X5_bar_b0 (l : Launch) (htr : l.stackTraces = false) (D : va_G) {cI : ClassId} {tys : List (ClassId × FieldType)} (ht0 : tys[0]? = some (cI, .int)) (aJ : Nat → Nat) (J : Nat → Nat → Nat → Int32) (b : Int32) (h_bad : ¬ (okR b 0 1000)) (sz : Nat) : kB l yX5_bar cX5_bar 2 (some .int) { frames := 7, cells := 1, slots := 6, locals := 114 } D tys [.ref (aJ 0), .int b] (wVM cI aJ J) "java/lang/IllegalArgumentException" sz := by
  refine y_enterB (cc := cX5_bar) (maxL := 2) (ret := (some .int)) (own := RX5) htr (by decide) rfl (lv0 := [(0, .ref (aJ 0)), (1, .int b)]) rfl (Nat.le_of_ble_eq_true rfl) ?_
  intro p e s m args below meth c A Z X hr hlk
  refine y_iload_n Z dX5_bar_0 1 rfl rfl ?_
  refine y_iconst (v := 0) Z dX5_bar_1 (by decide) ?_
  refine y_sipush (v := 1000) Z dX5_bar_2 (by decide) ?_
  exact y_SB Z X.2.2 (k_X5_checkRange_b0 l htr D ht0 b 0 1000 h_bad) (y_cwS 3 Z ml_RX5_61 st_X5_checkRange in_X5 co_X5_checkRange rfl rfl hs_X5_checkRange ⟨Nat.le_of_ble_eq_true rfl, Nat.le_of_ble_eq_true rfl⟩) [] rfl (by decide) rfl rfl (Nat.le_of_ble_eq_true rfl) dX5_bar_5 ⟨Nat.le_of_ble_eq_true rfl, Nat.le_of_ble_eq_true rfl⟩ rfl (y_outB Z X hlk (Nat.le_of_ble_eq_true rfl) (Nat.le_of_ble_eq_true rfl))
set_option maxHeartbeats 4000000 in
set_option maxRecDepth 100000 in
theorem k_X5_bar_b1 (l : Launch) (htr : l.stackTraces = false) (D : va_G) {cI : ClassId} {tys : List (ClassId × FieldType)} (ht0 : tys[0]? = some (cI, .int)) (aJ : Nat → Nat) (J : Nat → Nat → Nat → Int32) (b : Int32) (h_b : okR b 0 1000) (h_bad : ¬ (okM J 8)) (sz : Nat) : kB l yX5_bar cX5_bar 2 (some .int) { frames := 7, cells := 1, slots := 6, locals := 114 } D tys [.ref (aJ 0), .int b] (wVM cI aJ J) "java/lang/IllegalStateException" sz := by
  refine y_enterB (cc := cX5_bar) (maxL := 2) (ret := (some .int)) (own := RX5) htr (by decide) rfl (lv0 := [(0, .ref (aJ 0)), (1, .int b)]) rfl (Nat.le_of_ble_eq_true rfl) ?_
  intro p e s m args below meth c A Z X hr hlk
  refine y_iload_n Z dX5_bar_0 1 rfl rfl ?_
  refine y_iconst (v := 0) Z dX5_bar_1 (by decide) ?_
  refine y_sipush (v := 1000) Z dX5_bar_2 (by decide) ?_
  refine y_SV Z (k_X5_checkRange l D ht0 b 0 1000 h_b) (y_cwS 3 Z ml_RX5_61 st_X5_checkRange in_X5 co_X5_checkRange rfl rfl hs_X5_checkRange ⟨Nat.le_of_ble_eq_true rfl, Nat.le_of_ble_eq_true rfl⟩) [] rfl (by decide) rfl rfl (Nat.le_of_ble_eq_true rfl) dX5_bar_5 ⟨Nat.le_of_ble_eq_true rfl, Nat.le_of_ble_eq_true rfl⟩ [] rfl rfl (wVM cI aJ J) rfl ?_
  refine y_aload_n Z dX5_bar_8 0 rfl rfl ?_
  refine y_bipush (v := 8) Z dX5_bar_9 (by decide) ?_
  refine y_iload_n Z dX5_bar_11 1 rfl rfl ?_
  refine y_iconst (v := -1) Z dX5_bar_12 (by decide) ?_
  refine y_iconst (v := -1) Z dX5_bar_13 (by decide) ?_
  refine y_iconst (v := -1) Z dX5_bar_14 (by decide) ?_
  exact y_VBw Z X.2.2 (k_X5_enact_b0 l htr D ht0 aJ J 8 b (-1) (-1) (-1) h_bad) (y_cwV 5 Z ml_RX5_57 im_X5_enact se_X5_enact in_X5 co_X5_enact rfl rfl hd_X5_enact ⟨Nat.le_of_ble_eq_true rfl, Nat.le_of_ble_eq_true rfl⟩) List.nil List.nil (by simp only [List.nil_append, List.append_nil, wMix, wLog, wPic, wRep, wScr, wVM, wMd, sR_eq, sR_ne, sF_eq, sF_ne, upd_eq, upd_ne, gs_eq, gs_ne, gm_4, gm_ne, Nat.reduceBEq]) 5 0 rfl rfl rfl rfl (Nat.le_of_ble_eq_true rfl) dX5_bar_15 ⟨Nat.le_of_ble_eq_true rfl, Nat.le_of_ble_eq_true rfl⟩ (y_outB Z X hlk (Nat.le_of_ble_eq_true rfl) (Nat.le_of_ble_eq_true rfl))
set_option maxHeartbeats 4000000 in
set_option maxRecDepth 100000 in
theorem k_X5_fault (l : Launch) (D : va_G) {cI : ClassId} {tys : List (ClassId × FieldType)} (ht0 : tys[0]? = some (cI, .int)) (aJ : Nat → Nat) (J : Nat → Nat → Nat → Int32) (q : Int32) (fz : Int32) (h_q : okS q) (h_b : okB q) (h_m : okM J 9) (sz : Nat) : kI l yX5_fault cX5_fault 3 (some .int) { frames := 7, cells := 0, slots := 0, locals := 114 } D tys [.ref (aJ 0), .int q, .int fz] (wVM cI aJ J) (wVM cI aJ (vm_enact J 9 q (nzF fz) (-1) (-1))) (perfR (J 0) 9 q (nzF fz) (-1) (-1)) 0 0 sz := by
  refine y_enterI (cc := cX5_fault) (maxL := 3) (ret := (some .int)) (own := RX5) (by decide) rfl (lv0 := [(0, .ref (aJ 0)), (1, .int q), (2, .int fz)]) rfl (Nat.le_of_ble_eq_true rfl) ?_
  intro p e s m args below meth c A Z hr hlk _
  refine y_iload_n Z dX5_fault_0 1 rfl rfl ?_
  refine y_SV Z (k_X5_checkSource l D ht0 q h_q) (y_cwS 1 Z ml_RX5_53 st_X5_checkSource in_X5 co_X5_checkSource rfl rfl hs_X5_checkSource ⟨Nat.le_of_ble_eq_true rfl, Nat.le_of_ble_eq_true rfl⟩) [] rfl (by decide) rfl rfl (Nat.le_of_ble_eq_true rfl) dX5_fault_1 ⟨Nat.le_of_ble_eq_true rfl, Nat.le_of_ble_eq_true rfl⟩ [] rfl rfl (wVM cI aJ J) rfl ?_
  refine y_iload_n Z dX5_fault_4 1 rfl rfl ?_
  refine y_if_ne (tgt := 16) Z dX5_fault_5 (by decide) (fun h1 => ?_) (fun h2 => ?_)
  · refine y_aload_n Z dX5_fault_16 0 rfl rfl ?_
    refine y_bipush (v := 9) Z dX5_fault_17 (by decide) ?_
    refine y_iload_n Z dX5_fault_19 1 rfl rfl ?_
    refine y_iload_n Z dX5_fault_20 2 rfl rfl ?_
    refine y_if_eq (tgt := 28) Z dX5_fault_21 (by decide) (fun h3 => ?_) (fun h4 => ?_)
    · refine y_iconst (v := 0) Z dX5_fault_28 (by decide) ?_
      refine y_iconst (v := -1) Z dX5_fault_29 (by decide) ?_
      refine y_iconst (v := -1) Z dX5_fault_30 (by decide) ?_
      refine y_VIw Z (k_X5_enact l D ht0 aJ J 9 q 0 (-1) (-1) h_m) (y_cwV 5 Z ml_RX5_57 im_X5_enact se_X5_enact in_X5 co_X5_enact rfl rfl hd_X5_enact ⟨Nat.le_of_ble_eq_true rfl, Nat.le_of_ble_eq_true rfl⟩) List.nil List.nil (by simp only [List.nil_append, List.append_nil, wMix, wLog, wPic, wRep, wScr, wVM, wMd, sR_eq, sR_ne, sF_eq, sF_ne, upd_eq, upd_ne, gs_eq, gs_ne, gm_4, gm_ne, Nat.reduceBEq]) 5 0 rfl rfl rfl rfl (Nat.le_of_ble_eq_true rfl) dX5_fault_31 ⟨Nat.le_of_ble_eq_true rfl, Nat.le_of_ble_eq_true rfl⟩ (wVM cI aJ (vm_enact J 9 q 0 (-1) (-1))) (by simp only [List.nil_append, List.append_nil, wMix, wLog, wPic, wRep, wScr, wVM, wMd, sR_eq, sR_ne, sF_eq, sF_ne, upd_eq, upd_ne, gs_eq, gs_ne, gm_4, gm_ne, Nat.reduceBEq]) ?_
      exact y_retI Z hr hlk dX5_fault_34 (by first | (simp only [nzF, h1, eq_true h3, if_true, if_false, not_false_eq_true, not_true_eq_false, ↓reduceIte]; done) | (simp only [nzF, h1, eq_true h3, if_true, if_false, not_false_eq_true, not_true_eq_false, ↓reduceIte, wMix, wLog, wPic, wRep, wScr, wVM, wMd, sR_eq, sR_ne, sF_eq, sF_ne, upd_eq, upd_ne, gs_eq, gs_ne, gm_4, gm_ne, Nat.reduceBEq]; done) | (with_reducible rfl) | contradiction | (simp only [nzF, h1, eq_true h3, if_true, if_false, not_false_eq_true, not_true_eq_false, ↓reduceIte]; rfl) | rfl) (by first | (simp only [nzF, h1, eq_true h3, if_true, if_false, not_false_eq_true, not_true_eq_false, ↓reduceIte]; done) | (simp only [nzF, h1, eq_true h3, if_true, if_false, not_false_eq_true, not_true_eq_false, ↓reduceIte, wMix, wLog, wPic, wRep, wScr, wVM, wMd, sR_eq, sR_ne, sF_eq, sF_ne, upd_eq, upd_ne, gs_eq, gs_ne, gm_4, gm_ne, Nat.reduceBEq]; done) | (with_reducible rfl) | contradiction | (simp only [nzF, h1, eq_true h3, if_true, if_false, not_false_eq_true, not_true_eq_false, ↓reduceIte]; rfl) | rfl)
    · refine y_iconst (v := 1) Z dX5_fault_24 (by decide) ?_
      refine y_goto (tgt := 29) Z dX5_fault_25 (by decide) ?_
      refine y_iconst (v := -1) Z dX5_fault_29 (by decide) ?_
      refine y_iconst (v := -1) Z dX5_fault_30 (by decide) ?_
      refine y_VIw Z (k_X5_enact l D ht0 aJ J 9 q 1 (-1) (-1) h_m) (y_cwV 5 Z ml_RX5_57 im_X5_enact se_X5_enact in_X5 co_X5_enact rfl rfl hd_X5_enact ⟨Nat.le_of_ble_eq_true rfl, Nat.le_of_ble_eq_true rfl⟩) List.nil List.nil (by simp only [List.nil_append, List.append_nil, wMix, wLog, wPic, wRep, wScr, wVM, wMd, sR_eq, sR_ne, sF_eq, sF_ne, upd_eq, upd_ne, gs_eq, gs_ne, gm_4, gm_ne, Nat.reduceBEq]) 5 0 rfl rfl rfl rfl (Nat.le_of_ble_eq_true rfl) dX5_fault_31 ⟨Nat.le_of_ble_eq_true rfl, Nat.le_of_ble_eq_true rfl⟩ (wVM cI aJ (vm_enact J 9 q 1 (-1) (-1))) (by simp only [List.nil_append, List.append_nil, wMix, wLog, wPic, wRep, wScr, wVM, wMd, sR_eq, sR_ne, sF_eq, sF_ne, upd_eq, upd_ne, gs_eq, gs_ne, gm_4, gm_ne, Nat.reduceBEq]) ?_
      exact y_retI Z hr hlk dX5_fault_34 (by first | (simp only [nzF, h1, h4, if_true, if_false, not_false_eq_true, not_true_eq_false, ↓reduceIte]; done) | (simp only [nzF, h1, h4, if_true, if_false, not_false_eq_true, not_true_eq_false, ↓reduceIte, wMix, wLog, wPic, wRep, wScr, wVM, wMd, sR_eq, sR_ne, sF_eq, sF_ne, upd_eq, upd_ne, gs_eq, gs_ne, gm_4, gm_ne, Nat.reduceBEq]; done) | (with_reducible rfl) | contradiction | (simp only [nzF, h1, h4, if_true, if_false, not_false_eq_true, not_true_eq_false, ↓reduceIte]; rfl) | rfl) (by first | (simp only [nzF, h1, h4, if_true, if_false, not_false_eq_true, not_true_eq_false, ↓reduceIte]; done) | (simp only [nzF, h1, h4, if_true, if_false, not_false_eq_true, not_true_eq_false, ↓reduceIte, wMix, wLog, wPic, wRep, wScr, wVM, wMd, sR_eq, sR_ne, sF_eq, sF_ne, upd_eq, upd_ne, gs_eq, gs_ne, gm_4, gm_ne, Nat.reduceBEq]; done) | (with_reducible rfl) | contradiction | (simp only [nzF, h1, h4, if_true, if_false, not_false_eq_true, not_true_eq_false, ↓reduceIte]; rfl) | rfl)
  · exact absurd h_b (by simp only [okS, okK, okR, okM, okT, okA, okP, okU, okB, okW, eq_true h2, if_true, if_false, not_false_eq_true, not_true_eq_false, ↓reduceIte, and_true, true_and, and_false, false_and])
set_option maxHeartbeats 4000000 in
set_option maxRecDepth 100000 in
theorem k_X5_fault_b0 (l : Launch) (htr : l.stackTraces = false) (D : va_G) {cI : ClassId} {tys : List (ClassId × FieldType)} (ht0 : tys[0]? = some (cI, .int)) (aJ : Nat → Nat) (J : Nat → Nat → Nat → Int32) (q : Int32) (fz : Int32) (h_bad : ¬ (okS q)) (sz : Nat) : kB l yX5_fault cX5_fault 3 (some .int) { frames := 7, cells := 1, slots := 6, locals := 114 } D tys [.ref (aJ 0), .int q, .int fz] (wVM cI aJ J) "java/lang/IndexOutOfBoundsException" sz := by
  refine y_enterB (cc := cX5_fault) (maxL := 3) (ret := (some .int)) (own := RX5) htr (by decide) rfl (lv0 := [(0, .ref (aJ 0)), (1, .int q), (2, .int fz)]) rfl (Nat.le_of_ble_eq_true rfl) ?_
  intro p e s m args below meth c A Z X hr hlk
  refine y_iload_n Z dX5_fault_0 1 rfl rfl ?_
  exact y_SB Z X.2.2 (k_X5_checkSource_b0 l htr D ht0 q h_bad) (y_cwS 1 Z ml_RX5_53 st_X5_checkSource in_X5 co_X5_checkSource rfl rfl hs_X5_checkSource ⟨Nat.le_of_ble_eq_true rfl, Nat.le_of_ble_eq_true rfl⟩) [] rfl (by decide) rfl rfl (Nat.le_of_ble_eq_true rfl) dX5_fault_1 ⟨Nat.le_of_ble_eq_true rfl, Nat.le_of_ble_eq_true rfl⟩ rfl (y_outB Z X hlk (Nat.le_of_ble_eq_true rfl) (Nat.le_of_ble_eq_true rfl))
set_option maxHeartbeats 4000000 in
set_option maxRecDepth 100000 in
theorem k_X5_fault_b1 (l : Launch) (htr : l.stackTraces = false) (D : va_G) {cI : ClassId} {tys : List (ClassId × FieldType)} (ht0 : tys[0]? = some (cI, .int)) (aJ : Nat → Nat) (J : Nat → Nat → Nat → Int32) (q : Int32) (fz : Int32) (h_q : okS q) (h_bad : ¬ (okB q)) (sz : Nat) : kB l yX5_fault cX5_fault 3 (some .int) { frames := 7, cells := 1, slots := 6, locals := 114 } D tys [.ref (aJ 0), .int q, .int fz] (wVM cI aJ J) "java/lang/IndexOutOfBoundsException" sz := by
  refine y_enterB (cc := cX5_fault) (maxL := 3) (ret := (some .int)) (own := RX5) htr (by decide) rfl (lv0 := [(0, .ref (aJ 0)), (1, .int q), (2, .int fz)]) rfl (Nat.le_of_ble_eq_true rfl) ?_
  intro p e s m args below meth c A Z X hr hlk
  refine y_iload_n Z dX5_fault_0 1 rfl rfl ?_
  refine y_SV Z (k_X5_checkSource l D ht0 q h_q) (y_cwS 1 Z ml_RX5_53 st_X5_checkSource in_X5 co_X5_checkSource rfl rfl hs_X5_checkSource ⟨Nat.le_of_ble_eq_true rfl, Nat.le_of_ble_eq_true rfl⟩) [] rfl (by decide) rfl rfl (Nat.le_of_ble_eq_true rfl) dX5_fault_1 ⟨Nat.le_of_ble_eq_true rfl, Nat.le_of_ble_eq_true rfl⟩ [] rfl rfl (wVM cI aJ J) rfl ?_
  refine y_iload_n Z dX5_fault_4 1 rfl rfl ?_
  refine y_if_ne (tgt := 16) Z dX5_fault_5 (by decide) (fun h1 => ?_) (fun h2 => ?_)
  · exact absurd (show okB q by simp only [okS, okK, okR, okM, okT, okA, okP, okU, okB, okW, h1, if_true, if_false, not_false_eq_true, not_true_eq_false, ↓reduceIte, and_true, true_and, and_false, false_and]) h_bad
  · exact y_throw Z X hlk yEx yx_f68 yx_names cl_RX5_68 in_IndexOutOfBoundsException yx_a68 yx_b68 yx_g68 dX5_fault_8 dX5_fault_11 dX5_fault_12 dX5_fault_15 (Nat.le_of_ble_eq_true rfl) (Nat.le_of_ble_eq_true rfl) (Nat.le_of_ble_eq_true rfl) (Nat.le_of_ble_eq_true rfl) (Nat.le_of_ble_eq_true rfl) (Nat.le_of_ble_eq_true rfl)
set_option maxHeartbeats 4000000 in
set_option maxRecDepth 100000 in
theorem k_X5_fault_b2 (l : Launch) (htr : l.stackTraces = false) (D : va_G) {cI : ClassId} {tys : List (ClassId × FieldType)} (ht0 : tys[0]? = some (cI, .int)) (aJ : Nat → Nat) (J : Nat → Nat → Nat → Int32) (q : Int32) (fz : Int32) (h_q : okS q) (h_b : okB q) (h_bad : ¬ (okM J 9)) (sz : Nat) : kB l yX5_fault cX5_fault 3 (some .int) { frames := 7, cells := 1, slots := 6, locals := 114 } D tys [.ref (aJ 0), .int q, .int fz] (wVM cI aJ J) "java/lang/IllegalStateException" sz := by
  refine y_enterB (cc := cX5_fault) (maxL := 3) (ret := (some .int)) (own := RX5) htr (by decide) rfl (lv0 := [(0, .ref (aJ 0)), (1, .int q), (2, .int fz)]) rfl (Nat.le_of_ble_eq_true rfl) ?_
  intro p e s m args below meth c A Z X hr hlk
  refine y_iload_n Z dX5_fault_0 1 rfl rfl ?_
  refine y_SV Z (k_X5_checkSource l D ht0 q h_q) (y_cwS 1 Z ml_RX5_53 st_X5_checkSource in_X5 co_X5_checkSource rfl rfl hs_X5_checkSource ⟨Nat.le_of_ble_eq_true rfl, Nat.le_of_ble_eq_true rfl⟩) [] rfl (by decide) rfl rfl (Nat.le_of_ble_eq_true rfl) dX5_fault_1 ⟨Nat.le_of_ble_eq_true rfl, Nat.le_of_ble_eq_true rfl⟩ [] rfl rfl (wVM cI aJ J) rfl ?_
  refine y_iload_n Z dX5_fault_4 1 rfl rfl ?_
  refine y_if_ne (tgt := 16) Z dX5_fault_5 (by decide) (fun h1 => ?_) (fun h2 => ?_)
  · refine y_aload_n Z dX5_fault_16 0 rfl rfl ?_
    refine y_bipush (v := 9) Z dX5_fault_17 (by decide) ?_
    refine y_iload_n Z dX5_fault_19 1 rfl rfl ?_
    refine y_iload_n Z dX5_fault_20 2 rfl rfl ?_
    refine y_if_eq (tgt := 28) Z dX5_fault_21 (by decide) (fun h3 => ?_) (fun h4 => ?_)
    · refine y_iconst (v := 0) Z dX5_fault_28 (by decide) ?_
      refine y_iconst (v := -1) Z dX5_fault_29 (by decide) ?_
      refine y_iconst (v := -1) Z dX5_fault_30 (by decide) ?_
      exact y_VBw Z X.2.2 (k_X5_enact_b0 l htr D ht0 aJ J 9 q 0 (-1) (-1) h_bad) (y_cwV 5 Z ml_RX5_57 im_X5_enact se_X5_enact in_X5 co_X5_enact rfl rfl hd_X5_enact ⟨Nat.le_of_ble_eq_true rfl, Nat.le_of_ble_eq_true rfl⟩) List.nil List.nil (by simp only [List.nil_append, List.append_nil, wMix, wLog, wPic, wRep, wScr, wVM, wMd, sR_eq, sR_ne, sF_eq, sF_ne, upd_eq, upd_ne, gs_eq, gs_ne, gm_4, gm_ne, Nat.reduceBEq]) 5 0 rfl rfl rfl rfl (Nat.le_of_ble_eq_true rfl) dX5_fault_31 ⟨Nat.le_of_ble_eq_true rfl, Nat.le_of_ble_eq_true rfl⟩ (y_outB Z X hlk (Nat.le_of_ble_eq_true rfl) (Nat.le_of_ble_eq_true rfl))
    · refine y_iconst (v := 1) Z dX5_fault_24 (by decide) ?_
      refine y_goto (tgt := 29) Z dX5_fault_25 (by decide) ?_
      refine y_iconst (v := -1) Z dX5_fault_29 (by decide) ?_
      refine y_iconst (v := -1) Z dX5_fault_30 (by decide) ?_
      exact y_VBw Z X.2.2 (k_X5_enact_b0 l htr D ht0 aJ J 9 q 1 (-1) (-1) h_bad) (y_cwV 5 Z ml_RX5_57 im_X5_enact se_X5_enact in_X5 co_X5_enact rfl rfl hd_X5_enact ⟨Nat.le_of_ble_eq_true rfl, Nat.le_of_ble_eq_true rfl⟩) List.nil List.nil (by simp only [List.nil_append, List.append_nil, wMix, wLog, wPic, wRep, wScr, wVM, wMd, sR_eq, sR_ne, sF_eq, sF_ne, upd_eq, upd_ne, gs_eq, gs_ne, gm_4, gm_ne, Nat.reduceBEq]) 5 0 rfl rfl rfl rfl (Nat.le_of_ble_eq_true rfl) dX5_fault_31 ⟨Nat.le_of_ble_eq_true rfl, Nat.le_of_ble_eq_true rfl⟩ (y_outB Z X hlk (Nat.le_of_ble_eq_true rfl) (Nat.le_of_ble_eq_true rfl))
  · exact absurd h_b (by simp only [okS, okK, okR, okM, okT, okA, okP, okU, okB, okW, eq_true h2, if_true, if_false, not_false_eq_true, not_true_eq_false, ↓reduceIte, and_true, true_and, and_false, false_and])
set_option maxHeartbeats 4000000 in
set_option maxRecDepth 100000 in
theorem k_X5_pass (l : Launch) (D : va_G) {cI : ClassId} {tys : List (ClassId × FieldType)} (ht0 : tys[0]? = some (cI, .int)) (aJ : Nat → Nat) (J : Nat → Nat → Nat → Int32) (fr : Int32) (h_f : okR fr 0 500) (h_p : okP J fr) (sz : Nat) : kI l yX5_pass cX5_pass 2 (some .int) { frames := 7, cells := 0, slots := 0, locals := 111 } D tys [.ref (aJ 0), .int fr] (wVM cI aJ J) (wVM cI aJ (vm_pass J fr)) (gt_letPass fr (J 0) 0 7) 0 0 sz := by
  refine y_enterI (cc := cX5_pass) (maxL := 2) (ret := (some .int)) (own := RX5) (by decide) rfl (lv0 := [(0, .ref (aJ 0)), (1, .int fr)]) rfl (Nat.le_of_ble_eq_true rfl) ?_
  intro p e s m args below meth c A Z hr hlk _
  refine y_iload_n Z dX5_pass_0 1 rfl rfl ?_
  refine y_iconst (v := 0) Z dX5_pass_1 (by decide) ?_
  refine y_sipush (v := 500) Z dX5_pass_2 (by decide) ?_
  refine y_SV Z (k_X5_checkRange l D ht0 fr 0 500 h_f) (y_cwS 3 Z ml_RX5_61 st_X5_checkRange in_X5 co_X5_checkRange rfl rfl hs_X5_checkRange ⟨Nat.le_of_ble_eq_true rfl, Nat.le_of_ble_eq_true rfl⟩) [] rfl (by decide) rfl rfl (Nat.le_of_ble_eq_true rfl) dX5_pass_5 ⟨Nat.le_of_ble_eq_true rfl, Nat.le_of_ble_eq_true rfl⟩ [] rfl rfl (wVM cI aJ J) rfl ?_
  refine y_aload_n Z dX5_pass_8 0 rfl rfl ?_
  refine y_get (C := RX5) (T := TX5) (N := 8) Z 5 inlX5 rfl 0 rfl 0 (by decide) fl_RX5_10 rfl dX5_pass_9 ?_
  refine y_getN (host := RX5) (C := RX1) (T := TX1) (N := 14) Z 1 inlX1 rfl 1 rfl 7 (by decide) nl_RX5_71 rfl dX5_pass_12 ?_
  refine y_iload_n Z dX5_pass_15 1 rfl rfl ?_
  refine y_iadd Z dX5_pass_16 ?_
  refine y_sipush (v := 5000) Z dX5_pass_17 (by decide) ?_
  refine y_icmp_le (tgt := 31) Z dX5_pass_20 (by decide) (fun h1 => ?_) (fun h2 => ?_)
  · refine y_aload_n Z dX5_pass_31 0 rfl rfl ?_
    refine y_get (C := RX5) (T := TX5) (N := 8) Z 5 inlX5 rfl 0 rfl 0 (by decide) fl_RX5_10 rfl dX5_pass_32 ?_
    refine y_iload_n Z dX5_pass_35 1 rfl rfl ?_
    refine y_VV Z (k_X1_letPass l D ht0 (fun k => aJ (1 + k)) (J 0) fr) (y_cwV 1 Z ml_RX5_78 im_X1_letPass se_X1_letPass in_X1 co_X1_letPass rfl rfl hd_X1_letPass ⟨Nat.le_of_ble_eq_true rfl, Nat.le_of_ble_eq_true rfl⟩) [1, 2, 3, 4] rfl (by decide) 1 1 rfl rfl rfl rfl (Nat.le_of_ble_eq_true rfl) dX5_pass_36 ⟨Nat.le_of_ble_eq_true rfl, Nat.le_of_ble_eq_true rfl⟩ [(aJ 1), (aJ 2), (aJ 3), (aJ 4)] rfl rfl (wVMR cI aJ (gt_letPass fr (J 0)) (J 1) (J 2) (J 3) (J 4) (J 5) (J 6) (J 7)) rfl ?_
    refine y_aload_n Z dX5_pass_39 0 rfl rfl ?_
    refine y_get (C := RX5) (T := TX5) (N := 8) Z 5 inlX5 rfl 0 rfl 0 (by decide) fl_RX5_10 rfl dX5_pass_40 ?_
    refine y_getN (host := RX5) (C := RX1) (T := TX1) (N := 14) Z 1 inlX1 rfl 1 rfl 7 (by decide) nl_RX5_71 rfl dX5_pass_43 ?_
    exact y_retI Z hr hlk dX5_pass_46 (by first | (simp only [vm_pass, h1, if_true, if_false, not_false_eq_true, not_true_eq_false, ↓reduceIte]; done) | (simp only [vm_pass, h1, if_true, if_false, not_false_eq_true, not_true_eq_false, ↓reduceIte, wMix, wLog, wPic, wRep, wScr, wVM, wMd, sR_eq, sR_ne, sF_eq, sF_ne, upd_eq, upd_ne, gs_eq, gs_ne, gm_4, gm_ne, Nat.reduceBEq]; done) | (with_reducible rfl) | contradiction | (simp only [vm_pass, h1, if_true, if_false, not_false_eq_true, not_true_eq_false, ↓reduceIte]; rfl) | rfl) (by first | (simp only [vm_pass, h1, if_true, if_false, not_false_eq_true, not_true_eq_false, ↓reduceIte]; done) | (simp only [vm_pass, h1, if_true, if_false, not_false_eq_true, not_true_eq_false, ↓reduceIte, wMix, wLog, wPic, wRep, wScr, wVM, wMd, sR_eq, sR_ne, sF_eq, sF_ne, upd_eq, upd_ne, gs_eq, gs_ne, gm_4, gm_ne, Nat.reduceBEq]; done) | (with_reducible rfl) | contradiction | (simp only [vm_pass, h1, if_true, if_false, not_false_eq_true, not_true_eq_false, ↓reduceIte]; rfl) | rfl)
  · exact absurd h_p (by simp only [okS, okK, okR, okM, okT, okA, okP, okU, okB, okW, h2, if_true, if_false, not_false_eq_true, not_true_eq_false, ↓reduceIte, and_true, true_and, and_false, false_and])
set_option maxHeartbeats 4000000 in
set_option maxRecDepth 100000 in
theorem k_X5_pass_b0 (l : Launch) (htr : l.stackTraces = false) (D : va_G) {cI : ClassId} {tys : List (ClassId × FieldType)} (ht0 : tys[0]? = some (cI, .int)) (aJ : Nat → Nat) (J : Nat → Nat → Nat → Int32) (fr : Int32) (h_bad : ¬ (okR fr 0 500)) (sz : Nat) : kB l yX5_pass cX5_pass 2 (some .int) { frames := 7, cells := 1, slots := 6, locals := 111 } D tys [.ref (aJ 0), .int fr] (wVM cI aJ J) "java/lang/IllegalArgumentException" sz := by
  refine y_enterB (cc := cX5_pass) (maxL := 2) (ret := (some .int)) (own := RX5) htr (by decide) rfl (lv0 := [(0, .ref (aJ 0)), (1, .int fr)]) rfl (Nat.le_of_ble_eq_true rfl) ?_
  intro p e s m args below meth c A Z X hr hlk
  refine y_iload_n Z dX5_pass_0 1 rfl rfl ?_
  refine y_iconst (v := 0) Z dX5_pass_1 (by decide) ?_
  refine y_sipush (v := 500) Z dX5_pass_2 (by decide) ?_
  exact y_SB Z X.2.2 (k_X5_checkRange_b0 l htr D ht0 fr 0 500 h_bad) (y_cwS 3 Z ml_RX5_61 st_X5_checkRange in_X5 co_X5_checkRange rfl rfl hs_X5_checkRange ⟨Nat.le_of_ble_eq_true rfl, Nat.le_of_ble_eq_true rfl⟩) [] rfl (by decide) rfl rfl (Nat.le_of_ble_eq_true rfl) dX5_pass_5 ⟨Nat.le_of_ble_eq_true rfl, Nat.le_of_ble_eq_true rfl⟩ rfl (y_outB Z X hlk (Nat.le_of_ble_eq_true rfl) (Nat.le_of_ble_eq_true rfl))
set_option maxHeartbeats 4000000 in
set_option maxRecDepth 100000 in
theorem k_X5_pass_b1 (l : Launch) (htr : l.stackTraces = false) (D : va_G) {cI : ClassId} {tys : List (ClassId × FieldType)} (ht0 : tys[0]? = some (cI, .int)) (aJ : Nat → Nat) (J : Nat → Nat → Nat → Int32) (fr : Int32) (h_f : okR fr 0 500) (h_bad : ¬ (okP J fr)) (sz : Nat) : kB l yX5_pass cX5_pass 2 (some .int) { frames := 7, cells := 1, slots := 6, locals := 111 } D tys [.ref (aJ 0), .int fr] (wVM cI aJ J) "java/lang/IllegalStateException" sz := by
  refine y_enterB (cc := cX5_pass) (maxL := 2) (ret := (some .int)) (own := RX5) htr (by decide) rfl (lv0 := [(0, .ref (aJ 0)), (1, .int fr)]) rfl (Nat.le_of_ble_eq_true rfl) ?_
  intro p e s m args below meth c A Z X hr hlk
  refine y_iload_n Z dX5_pass_0 1 rfl rfl ?_
  refine y_iconst (v := 0) Z dX5_pass_1 (by decide) ?_
  refine y_sipush (v := 500) Z dX5_pass_2 (by decide) ?_
  refine y_SV Z (k_X5_checkRange l D ht0 fr 0 500 h_f) (y_cwS 3 Z ml_RX5_61 st_X5_checkRange in_X5 co_X5_checkRange rfl rfl hs_X5_checkRange ⟨Nat.le_of_ble_eq_true rfl, Nat.le_of_ble_eq_true rfl⟩) [] rfl (by decide) rfl rfl (Nat.le_of_ble_eq_true rfl) dX5_pass_5 ⟨Nat.le_of_ble_eq_true rfl, Nat.le_of_ble_eq_true rfl⟩ [] rfl rfl (wVM cI aJ J) rfl ?_
  refine y_aload_n Z dX5_pass_8 0 rfl rfl ?_
  refine y_get (C := RX5) (T := TX5) (N := 8) Z 5 inlX5 rfl 0 rfl 0 (by decide) fl_RX5_10 rfl dX5_pass_9 ?_
  refine y_getN (host := RX5) (C := RX1) (T := TX1) (N := 14) Z 1 inlX1 rfl 1 rfl 7 (by decide) nl_RX5_71 rfl dX5_pass_12 ?_
  refine y_iload_n Z dX5_pass_15 1 rfl rfl ?_
  refine y_iadd Z dX5_pass_16 ?_
  refine y_sipush (v := 5000) Z dX5_pass_17 (by decide) ?_
  refine y_icmp_le (tgt := 31) Z dX5_pass_20 (by decide) (fun h1 => ?_) (fun h2 => ?_)
  · exact absurd (show okP J fr by simp only [okS, okK, okR, okM, okT, okA, okP, okU, okB, okW, h1, if_true, if_false, not_false_eq_true, not_true_eq_false, ↓reduceIte, and_true, true_and, and_false, false_and]) h_bad
  · exact y_throw Z X hlk yEx yx_f75 yx_names cl_RX5_75 in_IllegalStateException yx_a75 yx_b75 yx_g75 dX5_pass_23 dX5_pass_26 dX5_pass_27 dX5_pass_30 (Nat.le_of_ble_eq_true rfl) (Nat.le_of_ble_eq_true rfl) (Nat.le_of_ble_eq_true rfl) (Nat.le_of_ble_eq_true rfl) (Nat.le_of_ble_eq_true rfl) (Nat.le_of_ble_eq_true rfl)
set_option maxHeartbeats 4000000 in
set_option maxRecDepth 100000 in
theorem k_X5_presentSetting (l : Launch) (D : va_G) {cI : ClassId} {tys : List (ClassId × FieldType)} (ht0 : tys[0]? = some (cI, .int)) (aJ : Nat → Nat) (J : Nat → Nat → Nat → Int32) (w : Int32) (sz : Nat) : kI l yX5_presentSetting cX5_presentSetting 2 (some .int) { frames := 1, cells := 0, slots := 0, locals := 21 } D tys [.ref (aJ 0), .int w] (wVM cI aJ J) (wVM cI aJ J) (psF J w) 0 0 sz := by
  refine y_enterI (cc := cX5_presentSetting) (maxL := 2) (ret := (some .int)) (own := RX5) (by decide) rfl (lv0 := [(0, .ref (aJ 0)), (1, .int w)]) rfl (Nat.le_of_ble_eq_true rfl) ?_
  intro p e s m args below meth c A Z hr hlk _
  refine y_iload_n Z dX5_presentSetting_0 1 rfl rfl ?_
  refine y_bipush (v := 8) Z dX5_presentSetting_1 (by decide) ?_
  refine y_icmp_ne (tgt := 16) Z dX5_presentSetting_3 (by decide) (fun h1 => ?_) (fun h2 => ?_)
  · refine y_aload_n Z dX5_presentSetting_16 0 rfl rfl ?_
    refine y_get (C := RX5) (T := TX5) (N := 8) Z 5 inlX5 rfl 0 rfl 0 (by decide) fl_RX5_10 rfl dX5_presentSetting_17 ?_
    refine y_iload_n Z dX5_presentSetting_20 1 rfl rfl ?_
    refine y_VI Z (k_X1_tellSetting l D ht0 (fun k => aJ (1 + k)) (J 0) w) (y_cwV 1 Z ml_RX5_123 im_X1_tellSetting se_X1_tellSetting in_X1 co_X1_tellSetting rfl rfl hd_X1_tellSetting ⟨Nat.le_of_ble_eq_true rfl, Nat.le_of_ble_eq_true rfl⟩) [1, 2, 3, 4] rfl (by decide) 1 1 rfl rfl rfl rfl (Nat.le_of_ble_eq_true rfl) dX5_presentSetting_21 ⟨Nat.le_of_ble_eq_true rfl, Nat.le_of_ble_eq_true rfl⟩ [(aJ 1), (aJ 2), (aJ 3), (aJ 4)] rfl rfl (wVM cI aJ J) rfl ?_
    exact y_retI Z hr hlk dX5_presentSetting_24 (by first | (simp only [psF, h1, if_true, if_false, not_false_eq_true, not_true_eq_false, ↓reduceIte]; done) | (simp only [psF, h1, if_true, if_false, not_false_eq_true, not_true_eq_false, ↓reduceIte, wMix, wLog, wPic, wRep, wScr, wVM, wMd, sR_eq, sR_ne, sF_eq, sF_ne, upd_eq, upd_ne, gs_eq, gs_ne, gm_4, gm_ne, Nat.reduceBEq]; done) | (with_reducible rfl) | contradiction | (simp only [psF, h1, if_true, if_false, not_false_eq_true, not_true_eq_false, ↓reduceIte]; rfl) | rfl) (by first | (simp only [psF, h1, if_true, if_false, not_false_eq_true, not_true_eq_false, ↓reduceIte]; done) | (simp only [psF, h1, if_true, if_false, not_false_eq_true, not_true_eq_false, ↓reduceIte, wMix, wLog, wPic, wRep, wScr, wVM, wMd, sR_eq, sR_ne, sF_eq, sF_ne, upd_eq, upd_ne, gs_eq, gs_ne, gm_4, gm_ne, Nat.reduceBEq]; done) | (with_reducible rfl) | contradiction | (simp only [psF, h1, if_true, if_false, not_false_eq_true, not_true_eq_false, ↓reduceIte]; rfl) | rfl)
  · refine y_aload_n Z dX5_presentSetting_6 0 rfl rfl ?_
    refine y_get (C := RX5) (T := TX5) (N := 8) Z 5 inlX5 rfl 0 rfl 3 (by decide) fl_RX5_25 rfl dX5_presentSetting_7 ?_
    refine y_VI Z (k_X0_size l D ht0 (fun k => aJ (13 + k)) (J 3)) (y_cwV 0 Z ml_RX5_160 im_X0_size se_X0_size in_X0 co_X0_size rfl rfl hd_X0_size ⟨Nat.le_of_ble_eq_true rfl, Nat.le_of_ble_eq_true rfl⟩) [13, 14] rfl (by decide) 0 13 rfl rfl rfl rfl (Nat.le_of_ble_eq_true rfl) dX5_presentSetting_10 ⟨Nat.le_of_ble_eq_true rfl, Nat.le_of_ble_eq_true rfl⟩ [(aJ 13), (aJ 14)] rfl rfl (wVM cI aJ J) rfl ?_
    refine y_goto (tgt := 24) Z dX5_presentSetting_13 (by decide) ?_
    exact y_retI Z hr hlk dX5_presentSetting_24 (by first | (simp only [psF, eq_true h2, if_true, if_false, not_false_eq_true, not_true_eq_false, ↓reduceIte]; done) | (simp only [psF, eq_true h2, if_true, if_false, not_false_eq_true, not_true_eq_false, ↓reduceIte, wMix, wLog, wPic, wRep, wScr, wVM, wMd, sR_eq, sR_ne, sF_eq, sF_ne, upd_eq, upd_ne, gs_eq, gs_ne, gm_4, gm_ne, Nat.reduceBEq]; done) | (with_reducible rfl) | contradiction | (simp only [psF, eq_true h2, if_true, if_false, not_false_eq_true, not_true_eq_false, ↓reduceIte]; rfl) | rfl) (by first | (simp only [psF, eq_true h2, if_true, if_false, not_false_eq_true, not_true_eq_false, ↓reduceIte]; done) | (simp only [psF, eq_true h2, if_true, if_false, not_false_eq_true, not_true_eq_false, ↓reduceIte, wMix, wLog, wPic, wRep, wScr, wVM, wMd, sR_eq, sR_ne, sF_eq, sF_ne, upd_eq, upd_ne, gs_eq, gs_ne, gm_4, gm_ne, Nat.reduceBEq]; done) | (with_reducible rfl) | contradiction | (simp only [psF, eq_true h2, if_true, if_false, not_false_eq_true, not_true_eq_false, ↓reduceIte]; rfl) | rfl)
set_option maxHeartbeats 4000000 in
set_option maxRecDepth 100000 in
theorem k_X5_setting (l : Launch) (D : va_G) {cI : ClassId} {tys : List (ClassId × FieldType)} (ht0 : tys[0]? = some (cI, .int)) (aJ : Nat → Nat) (J : Nat → Nat → Nat → Int32) (w : Int32) (h_w : okR w 0 8) (sz : Nat) : kI l yX5_setting cX5_setting 2 (some .int) { frames := 7, cells := 0, slots := 0, locals := 111 } D tys [.ref (aJ 0), .int w] (wVM cI aJ J) (wVM cI aJ J) (psF J w) 0 0 sz := by
  refine y_enterI (cc := cX5_setting) (maxL := 2) (ret := (some .int)) (own := RX5) (by decide) rfl (lv0 := [(0, .ref (aJ 0)), (1, .int w)]) rfl (Nat.le_of_ble_eq_true rfl) ?_
  intro p e s m args below meth c A Z hr hlk _
  refine y_iload_n Z dX5_setting_0 1 rfl rfl ?_
  refine y_iconst (v := 0) Z dX5_setting_1 (by decide) ?_
  refine y_bipush (v := 8) Z dX5_setting_2 (by decide) ?_
  refine y_SV Z (k_X5_checkRange l D ht0 w 0 8 h_w) (y_cwS 3 Z ml_RX5_61 st_X5_checkRange in_X5 co_X5_checkRange rfl rfl hs_X5_checkRange ⟨Nat.le_of_ble_eq_true rfl, Nat.le_of_ble_eq_true rfl⟩) [] rfl (by decide) rfl rfl (Nat.le_of_ble_eq_true rfl) dX5_setting_4 ⟨Nat.le_of_ble_eq_true rfl, Nat.le_of_ble_eq_true rfl⟩ [] rfl rfl (wVM cI aJ J) rfl ?_
  refine y_aload_n Z dX5_setting_7 0 rfl rfl ?_
  refine y_iload_n Z dX5_setting_8 1 rfl rfl ?_
  refine y_VIw Z (k_X5_presentSetting l D ht0 aJ J w) (y_cwV 1 Z ml_RX5_81 im_X5_presentSetting se_X5_presentSetting in_X5 co_X5_presentSetting rfl rfl hd_X5_presentSetting ⟨Nat.le_of_ble_eq_true rfl, Nat.le_of_ble_eq_true rfl⟩) List.nil List.nil (by simp only [List.nil_append, List.append_nil, wMix, wLog, wPic, wRep, wScr, wVM, wMd, sR_eq, sR_ne, sF_eq, sF_ne, upd_eq, upd_ne, gs_eq, gs_ne, gm_4, gm_ne, Nat.reduceBEq]) 5 0 rfl rfl rfl rfl (Nat.le_of_ble_eq_true rfl) dX5_setting_9 ⟨Nat.le_of_ble_eq_true rfl, Nat.le_of_ble_eq_true rfl⟩ (wVM cI aJ J) (by simp only [List.nil_append, List.append_nil, wMix, wLog, wPic, wRep, wScr, wVM, wMd, sR_eq, sR_ne, sF_eq, sF_ne, upd_eq, upd_ne, gs_eq, gs_ne, gm_4, gm_ne, Nat.reduceBEq]) ?_
  exact y_retI Z hr hlk dX5_setting_12 (by first | (with_reducible rfl) | (simp only [wMix, wLog, wPic, wRep, wScr, wVM, wMd, sR_eq, sR_ne, sF_eq, sF_ne, upd_eq, upd_ne, gs_eq, gs_ne, gm_4, gm_ne, Nat.reduceBEq]; done) | rfl) (by first | (with_reducible rfl) | (simp only [wMix, wLog, wPic, wRep, wScr, wVM, wMd, sR_eq, sR_ne, sF_eq, sF_ne, upd_eq, upd_ne, gs_eq, gs_ne, gm_4, gm_ne, Nat.reduceBEq]; done) | rfl)
set_option maxHeartbeats 4000000 in
set_option maxRecDepth 100000 in
theorem k_X5_setting_b0 (l : Launch) (htr : l.stackTraces = false) (D : va_G) {cI : ClassId} {tys : List (ClassId × FieldType)} (ht0 : tys[0]? = some (cI, .int)) (aJ : Nat → Nat) (J : Nat → Nat → Nat → Int32) (w : Int32) (h_bad : ¬ (okR w 0 8)) (sz : Nat) : kB l yX5_setting cX5_setting 2 (some .int) { frames := 7, cells := 1, slots := 6, locals := 111 } D tys [.ref (aJ 0), .int w] (wVM cI aJ J) "java/lang/IllegalArgumentException" sz := by
  refine y_enterB (cc := cX5_setting) (maxL := 2) (ret := (some .int)) (own := RX5) htr (by decide) rfl (lv0 := [(0, .ref (aJ 0)), (1, .int w)]) rfl (Nat.le_of_ble_eq_true rfl) ?_
  intro p e s m args below meth c A Z X hr hlk
  refine y_iload_n Z dX5_setting_0 1 rfl rfl ?_
  refine y_iconst (v := 0) Z dX5_setting_1 (by decide) ?_
  refine y_bipush (v := 8) Z dX5_setting_2 (by decide) ?_
  exact y_SB Z X.2.2 (k_X5_checkRange_b0 l htr D ht0 w 0 8 h_bad) (y_cwS 3 Z ml_RX5_61 st_X5_checkRange in_X5 co_X5_checkRange rfl rfl hs_X5_checkRange ⟨Nat.le_of_ble_eq_true rfl, Nat.le_of_ble_eq_true rfl⟩) [] rfl (by decide) rfl rfl (Nat.le_of_ble_eq_true rfl) dX5_setting_4 ⟨Nat.le_of_ble_eq_true rfl, Nat.le_of_ble_eq_true rfl⟩ rfl (y_outB Z X hlk (Nat.le_of_ble_eq_true rfl) (Nat.le_of_ble_eq_true rfl))
set_option maxHeartbeats 4000000 in
set_option maxRecDepth 100000 in
theorem k_X5_share (l : Launch) (D : va_G) {cI : ClassId} {tys : List (ClassId × FieldType)} (ht0 : tys[0]? = some (cI, .int)) (aJ : Nat → Nat) (J : Nat → Nat → Nat → Int32) (q : Int32) (sn : Int32) (h_q : okS q) (sz : Nat) : kI l yX5_share cX5_share 3 (some .int) { frames := 7, cells := 0, slots := 0, locals := 109 } D tys [.ref (aJ 0), .int q, .int sn] (wVM cI aJ J) (wVM cI aJ (vm_pP J)) (shF J q sn) 0 0 sz := by
  refine y_enterI (cc := cX5_share) (maxL := 3) (ret := (some .int)) (own := RX5) (by decide) rfl (lv0 := [(0, .ref (aJ 0)), (1, .int q), (2, .int sn)]) rfl (Nat.le_of_ble_eq_true rfl) ?_
  intro p e s m args below meth c A Z hr hlk _
  refine y_iload_n Z dX5_share_0 1 rfl rfl ?_
  refine y_SV Z (k_X5_checkSource l D ht0 q h_q) (y_cwS 1 Z ml_RX5_53 st_X5_checkSource in_X5 co_X5_checkSource rfl rfl hs_X5_checkSource ⟨Nat.le_of_ble_eq_true rfl, Nat.le_of_ble_eq_true rfl⟩) [] rfl (by decide) rfl rfl (Nat.le_of_ble_eq_true rfl) dX5_share_1 ⟨Nat.le_of_ble_eq_true rfl, Nat.le_of_ble_eq_true rfl⟩ [] rfl rfl (wVM cI aJ J) rfl ?_
  refine y_aload_n Z dX5_share_4 0 rfl rfl ?_
  refine y_get (C := RX5) (T := TX5) (N := 8) Z 5 inlX5 rfl 0 rfl 5 (by decide) fl_RX5_39 rfl dX5_share_5 ?_
  refine y_aload_n Z dX5_share_8 0 rfl rfl ?_
  refine y_get (C := RX5) (T := TX5) (N := 8) Z 5 inlX5 rfl 0 rfl 0 (by decide) fl_RX5_10 rfl dX5_share_9 ?_
  refine y_VV Z (k_X2_paint l D ht0 (fun k => aJ (20 + k)) (J 5) (fun k => aJ (1 + k)) (J 0)) (y_cwV 1 Z ml_RX5_89 im_X2_paint se_X2_paint in_X2 co_X2_paint rfl rfl hd_X2_paint ⟨Nat.le_of_ble_eq_true rfl, Nat.le_of_ble_eq_true rfl⟩) [20, 21, 1, 2, 3, 4] rfl (by decide) 2 20 rfl rfl rfl rfl (Nat.le_of_ble_eq_true rfl) dX5_share_12 ⟨Nat.le_of_ble_eq_true rfl, Nat.le_of_ble_eq_true rfl⟩ [(aJ 20), (aJ 21), (aJ 1), (aJ 2), (aJ 3), (aJ 4)] rfl rfl (wVMR cI aJ (J 0) (J 1) (J 2) (J 3) (J 4) (gt_paint (J 0) (J 5)) (J 6) (J 7)) rfl ?_
  refine y_iload_n Z dX5_share_15 2 rfl rfl ?_
  refine y_if_eq (tgt := 37) Z dX5_share_16 (by decide) (fun h1 => ?_) (fun h2 => ?_)
  · refine y_aload_n Z dX5_share_37 0 rfl rfl ?_
    refine y_get (C := RX5) (T := TX5) (N := 8) Z 5 inlX5 rfl 0 rfl 5 (by decide) fl_RX5_39 rfl dX5_share_38 ?_
    refine y_iload_n Z dX5_share_41 1 rfl rfl ?_
    refine y_VI Z (k_X2_partOf l D ht0 (fun k => aJ (20 + k)) (gt_paint (J 0) (J 5)) q) (y_cwV 1 Z ml_RX5_99 im_X2_partOf se_X2_partOf in_X2 co_X2_partOf rfl rfl hd_X2_partOf ⟨Nat.le_of_ble_eq_true rfl, Nat.le_of_ble_eq_true rfl⟩) [20, 21] rfl (by decide) 2 20 rfl rfl rfl rfl (Nat.le_of_ble_eq_true rfl) dX5_share_42 ⟨Nat.le_of_ble_eq_true rfl, Nat.le_of_ble_eq_true rfl⟩ [(aJ 20), (aJ 21)] rfl rfl (wVMR cI aJ (J 0) (J 1) (J 2) (J 3) (J 4) (gt_paint (J 0) (J 5)) (J 6) (J 7)) rfl ?_
    exact y_retI Z hr hlk dX5_share_45 (by first | (simp only [vm_pP, shF, eq_true h1, if_true, if_false, not_false_eq_true, not_true_eq_false, ↓reduceIte]; done) | (simp only [vm_pP, shF, eq_true h1, if_true, if_false, not_false_eq_true, not_true_eq_false, ↓reduceIte, wMix, wLog, wPic, wRep, wScr, wVM, wMd, sR_eq, sR_ne, sF_eq, sF_ne, upd_eq, upd_ne, gs_eq, gs_ne, gm_4, gm_ne, Nat.reduceBEq]; done) | (with_reducible rfl) | contradiction | (simp only [vm_pP, shF, eq_true h1, if_true, if_false, not_false_eq_true, not_true_eq_false, ↓reduceIte]; rfl) | rfl) (by first | (simp only [vm_pP, shF, eq_true h1, if_true, if_false, not_false_eq_true, not_true_eq_false, ↓reduceIte]; done) | (simp only [vm_pP, shF, eq_true h1, if_true, if_false, not_false_eq_true, not_true_eq_false, ↓reduceIte, wMix, wLog, wPic, wRep, wScr, wVM, wMd, sR_eq, sR_ne, sF_eq, sF_ne, upd_eq, upd_ne, gs_eq, gs_ne, gm_4, gm_ne, Nat.reduceBEq]; done) | (with_reducible rfl) | contradiction | (simp only [vm_pP, shF, eq_true h1, if_true, if_false, not_false_eq_true, not_true_eq_false, ↓reduceIte]; rfl) | rfl)
  · refine y_aload_n Z dX5_share_19 0 rfl rfl ?_
    refine y_get (C := RX5) (T := TX5) (N := 8) Z 5 inlX5 rfl 0 rfl 5 (by decide) fl_RX5_39 rfl dX5_share_20 ?_
    refine y_iload_n Z dX5_share_23 1 rfl rfl ?_
    refine y_aload_n Z dX5_share_24 0 rfl rfl ?_
    refine y_get (C := RX5) (T := TX5) (N := 8) Z 5 inlX5 rfl 0 rfl 0 (by decide) fl_RX5_10 rfl dX5_share_25 ?_
    refine y_getN (host := RX5) (C := RX1) (T := TX1) (N := 14) Z 1 inlX1 rfl 1 rfl 9 (by decide) nl_RX5_93 rfl dX5_share_28 ?_
    refine y_VI Z (k_X2_seenOf l D ht0 (fun k => aJ (20 + k)) (gt_paint (J 0) (J 5)) q ((J 0) 0 9)) (y_cwV 2 Z ml_RX5_96 im_X2_seenOf se_X2_seenOf in_X2 co_X2_seenOf rfl rfl hd_X2_seenOf ⟨Nat.le_of_ble_eq_true rfl, Nat.le_of_ble_eq_true rfl⟩) [20, 21] rfl (by decide) 2 20 rfl rfl rfl rfl (Nat.le_of_ble_eq_true rfl) dX5_share_31 ⟨Nat.le_of_ble_eq_true rfl, Nat.le_of_ble_eq_true rfl⟩ [(aJ 20), (aJ 21)] rfl rfl (wVMR cI aJ (J 0) (J 1) (J 2) (J 3) (J 4) (gt_paint (J 0) (J 5)) (J 6) (J 7)) rfl ?_
    refine y_goto (tgt := 45) Z dX5_share_34 (by decide) ?_
    exact y_retI Z hr hlk dX5_share_45 (by first | (simp only [vm_pP, shF, h2, if_true, if_false, not_false_eq_true, not_true_eq_false, ↓reduceIte]; done) | (simp only [vm_pP, shF, h2, if_true, if_false, not_false_eq_true, not_true_eq_false, ↓reduceIte, wMix, wLog, wPic, wRep, wScr, wVM, wMd, sR_eq, sR_ne, sF_eq, sF_ne, upd_eq, upd_ne, gs_eq, gs_ne, gm_4, gm_ne, Nat.reduceBEq]; done) | (with_reducible rfl) | contradiction | (simp only [vm_pP, shF, h2, if_true, if_false, not_false_eq_true, not_true_eq_false, ↓reduceIte]; rfl) | rfl) (by first | (simp only [vm_pP, shF, h2, if_true, if_false, not_false_eq_true, not_true_eq_false, ↓reduceIte]; done) | (simp only [vm_pP, shF, h2, if_true, if_false, not_false_eq_true, not_true_eq_false, ↓reduceIte, wMix, wLog, wPic, wRep, wScr, wVM, wMd, sR_eq, sR_ne, sF_eq, sF_ne, upd_eq, upd_ne, gs_eq, gs_ne, gm_4, gm_ne, Nat.reduceBEq]; done) | (with_reducible rfl) | contradiction | (simp only [vm_pP, shF, h2, if_true, if_false, not_false_eq_true, not_true_eq_false, ↓reduceIte]; rfl) | rfl)
set_option maxHeartbeats 4000000 in
set_option maxRecDepth 100000 in
theorem k_X5_share_b0 (l : Launch) (htr : l.stackTraces = false) (D : va_G) {cI : ClassId} {tys : List (ClassId × FieldType)} (ht0 : tys[0]? = some (cI, .int)) (aJ : Nat → Nat) (J : Nat → Nat → Nat → Int32) (q : Int32) (sn : Int32) (h_bad : ¬ (okS q)) (sz : Nat) : kB l yX5_share cX5_share 3 (some .int) { frames := 7, cells := 1, slots := 6, locals := 109 } D tys [.ref (aJ 0), .int q, .int sn] (wVM cI aJ J) "java/lang/IndexOutOfBoundsException" sz := by
  refine y_enterB (cc := cX5_share) (maxL := 3) (ret := (some .int)) (own := RX5) htr (by decide) rfl (lv0 := [(0, .ref (aJ 0)), (1, .int q), (2, .int sn)]) rfl (Nat.le_of_ble_eq_true rfl) ?_
  intro p e s m args below meth c A Z X hr hlk
  refine y_iload_n Z dX5_share_0 1 rfl rfl ?_
  exact y_SB Z X.2.2 (k_X5_checkSource_b0 l htr D ht0 q h_bad) (y_cwS 1 Z ml_RX5_53 st_X5_checkSource in_X5 co_X5_checkSource rfl rfl hs_X5_checkSource ⟨Nat.le_of_ble_eq_true rfl, Nat.le_of_ble_eq_true rfl⟩) [] rfl (by decide) rfl rfl (Nat.le_of_ble_eq_true rfl) dX5_share_1 ⟨Nat.le_of_ble_eq_true rfl, Nat.le_of_ble_eq_true rfl⟩ rfl (y_outB Z X hlk (Nat.le_of_ble_eq_true rfl) (Nat.le_of_ble_eq_true rfl))
set_option maxHeartbeats 4000000 in
set_option maxRecDepth 100000 in
theorem k_X5_paintTallies (l : Launch) (D : va_G) {cI : ClassId} {tys : List (ClassId × FieldType)} (ht0 : tys[0]? = some (cI, .int)) (aJ : Nat → Nat) (J : Nat → Nat → Nat → Int32) (sz : Nat) : kV l yX5_paintTallies cX5_paintTallies 1 none { frames := 4, cells := 0, slots := 0, locals := 91 } D tys [.ref (aJ 0)] (wVM cI aJ J) (wVM cI aJ (vm_tal J)) 0 0 sz := by
  refine y_enterV (cc := cX5_paintTallies) (maxL := 1) (ret := none) (own := RX5) (by decide) rfl (lv0 := [(0, .ref (aJ 0))]) rfl (Nat.le_of_ble_eq_true rfl) ?_
  intro p e s m args below meth c A Z hr hlk _
  refine y_aload_n Z dX5_paintTallies_0 0 rfl rfl ?_
  refine y_get (C := RX5) (T := TX5) (N := 8) Z 5 inlX5 rfl 0 rfl 5 (by decide) fl_RX5_39 rfl dX5_paintTallies_1 ?_
  refine y_aload_n Z dX5_paintTallies_4 0 rfl rfl ?_
  refine y_get (C := RX5) (T := TX5) (N := 8) Z 5 inlX5 rfl 0 rfl 0 (by decide) fl_RX5_10 rfl dX5_paintTallies_5 ?_
  refine y_VV Z (k_X2_paint l D ht0 (fun k => aJ (20 + k)) (J 5) (fun k => aJ (1 + k)) (J 0)) (y_cwV 1 Z ml_RX5_89 im_X2_paint se_X2_paint in_X2 co_X2_paint rfl rfl hd_X2_paint ⟨Nat.le_of_ble_eq_true rfl, Nat.le_of_ble_eq_true rfl⟩) [20, 21, 1, 2, 3, 4] rfl (by decide) 2 20 rfl rfl rfl rfl (Nat.le_of_ble_eq_true rfl) dX5_paintTallies_8 ⟨Nat.le_of_ble_eq_true rfl, Nat.le_of_ble_eq_true rfl⟩ [(aJ 20), (aJ 21), (aJ 1), (aJ 2), (aJ 3), (aJ 4)] rfl rfl (wVMR cI aJ (J 0) (J 1) (J 2) (J 3) (J 4) (gt_paint (J 0) (J 5)) (J 6) (J 7)) rfl ?_
  refine y_aload_n Z dX5_paintTallies_11 0 rfl rfl ?_
  refine y_get (C := RX5) (T := TX5) (N := 8) Z 5 inlX5 rfl 0 rfl 2 (by decide) fl_RX5_19 rfl dX5_paintTallies_12 ?_
  refine y_aload_n Z dX5_paintTallies_15 0 rfl rfl ?_
  refine y_get (C := RX5) (T := TX5) (N := 8) Z 5 inlX5 rfl 0 rfl 0 (by decide) fl_RX5_10 rfl dX5_paintTallies_16 ?_
  refine y_VV Z (k_X1_copy l D ht0 (fun k => aJ (9 + k)) (J 2) (fun k => aJ (1 + k)) (J 0)) (y_cwV 1 Z ml_RX5_184 im_X1_copy se_X1_copy in_X1 co_X1_copy rfl rfl hd_X1_copy ⟨Nat.le_of_ble_eq_true rfl, Nat.le_of_ble_eq_true rfl⟩) [9, 10, 11, 12, 1, 2, 3, 4] rfl (by decide) 1 9 rfl rfl rfl rfl (Nat.le_of_ble_eq_true rfl) dX5_paintTallies_19 ⟨Nat.le_of_ble_eq_true rfl, Nat.le_of_ble_eq_true rfl⟩ [(aJ 9), (aJ 10), (aJ 11), (aJ 12), (aJ 1), (aJ 2), (aJ 3), (aJ 4)] rfl rfl (wVMR cI aJ (J 0) (J 1) (gt_copy (J 2) (J 0)) (J 3) (J 4) (gt_paint (J 0) (J 5)) (J 6) (J 7)) rfl ?_
  refine y_aload_n Z dX5_paintTallies_22 0 rfl rfl ?_
  refine y_get (C := RX5) (T := TX5) (N := 8) Z 5 inlX5 rfl 0 rfl 2 (by decide) fl_RX5_19 rfl dX5_paintTallies_23 ?_
  refine y_VV Z (k_X1_complete l D ht0 (fun k => aJ (9 + k)) (gt_copy (J 2) (J 0))) (y_cwV 0 Z ml_RX5_243 im_X1_complete se_X1_complete in_X1 co_X1_complete rfl rfl hd_X1_complete ⟨Nat.le_of_ble_eq_true rfl, Nat.le_of_ble_eq_true rfl⟩) [9, 10, 11, 12] rfl (by decide) 1 9 rfl rfl rfl rfl (Nat.le_of_ble_eq_true rfl) dX5_paintTallies_26 ⟨Nat.le_of_ble_eq_true rfl, Nat.le_of_ble_eq_true rfl⟩ [(aJ 9), (aJ 10), (aJ 11), (aJ 12)] rfl rfl (wVMR cI aJ (J 0) (J 1) (gt_complete (gt_copy (J 2) (J 0))) (J 3) (J 4) (gt_paint (J 0) (J 5)) (J 6) (J 7)) rfl ?_
  refine y_aload_n Z dX5_paintTallies_29 0 rfl rfl ?_
  refine y_get (C := RX5) (T := TX5) (N := 8) Z 5 inlX5 rfl 0 rfl 6 (by decide) fl_RX5_43 rfl dX5_paintTallies_30 ?_
  refine y_aload_n Z dX5_paintTallies_33 0 rfl rfl ?_
  refine y_get (C := RX5) (T := TX5) (N := 8) Z 5 inlX5 rfl 0 rfl 2 (by decide) fl_RX5_19 rfl dX5_paintTallies_34 ?_
  refine y_VV Z (k_X2_paint l D ht0 (fun k => aJ (22 + k)) (J 6) (fun k => aJ (9 + k)) (gt_complete (gt_copy (J 2) (J 0)))) (y_cwV 1 Z ml_RX5_89 im_X2_paint se_X2_paint in_X2 co_X2_paint rfl rfl hd_X2_paint ⟨Nat.le_of_ble_eq_true rfl, Nat.le_of_ble_eq_true rfl⟩) [22, 23, 9, 10, 11, 12] rfl (by decide) 2 22 rfl rfl rfl rfl (Nat.le_of_ble_eq_true rfl) dX5_paintTallies_37 ⟨Nat.le_of_ble_eq_true rfl, Nat.le_of_ble_eq_true rfl⟩ [(aJ 22), (aJ 23), (aJ 9), (aJ 10), (aJ 11), (aJ 12)] rfl rfl (wVMR cI aJ (J 0) (J 1) (gt_complete (gt_copy (J 2) (J 0))) (J 3) (J 4) (gt_paint (J 0) (J 5)) (gt_paint (gt_complete (gt_copy (J 2) (J 0))) (J 6)) (J 7)) rfl ?_
  exact y_retV Z hr hlk dX5_paintTallies_40 (by first | (simp only [vm_tal, vm_bh, if_true, if_false, not_false_eq_true, not_true_eq_false, ↓reduceIte]; done) | (simp only [vm_tal, vm_bh, if_true, if_false, not_false_eq_true, not_true_eq_false, ↓reduceIte, wMix, wLog, wPic, wRep, wScr, wVM, wMd, sR_eq, sR_ne, sF_eq, sF_ne, upd_eq, upd_ne, gs_eq, gs_ne, gm_4, gm_ne, Nat.reduceBEq]; done) | (with_reducible rfl) | contradiction | (simp only [vm_tal, vm_bh, if_true, if_false, not_false_eq_true, not_true_eq_false, ↓reduceIte]; rfl) | rfl)
set_option maxHeartbeats 4000000 in
set_option maxRecDepth 100000 in
theorem k_X5_tallyPainted (l : Launch) (D : va_G) {cI : ClassId} {tys : List (ClassId × FieldType)} (ht0 : tys[0]? = some (cI, .int)) (aJ : Nat → Nat) (J : Nat → Nat → Nat → Int32) (q : Int32) (sz : Nat) : kI l yX5_tallyPainted cX5_tallyPainted 2 (some .int) { frames := 2, cells := 0, slots := 0, locals := 42 } D tys [.ref (aJ 0), .int q] (wVM cI aJ J) (wVM cI aJ J) (tpF J q) 0 0 sz := by
  refine y_enterI (cc := cX5_tallyPainted) (maxL := 2) (ret := (some .int)) (own := RX5) (by decide) rfl (lv0 := [(0, .ref (aJ 0)), (1, .int q)]) rfl (Nat.le_of_ble_eq_true rfl) ?_
  intro p e s m args below meth c A Z hr hlk _
  refine y_aload_n Z dX5_tallyPainted_0 0 rfl rfl ?_
  refine y_get (C := RX5) (T := TX5) (N := 8) Z 5 inlX5 rfl 0 rfl 5 (by decide) fl_RX5_39 rfl dX5_tallyPainted_1 ?_
  refine y_iload_n Z dX5_tallyPainted_4 1 rfl rfl ?_
  refine y_VI Z (k_X2_partOf l D ht0 (fun k => aJ (20 + k)) (J 5) q) (y_cwV 1 Z ml_RX5_99 im_X2_partOf se_X2_partOf in_X2 co_X2_partOf rfl rfl hd_X2_partOf ⟨Nat.le_of_ble_eq_true rfl, Nat.le_of_ble_eq_true rfl⟩) [20, 21] rfl (by decide) 2 20 rfl rfl rfl rfl (Nat.le_of_ble_eq_true rfl) dX5_tallyPainted_5 ⟨Nat.le_of_ble_eq_true rfl, Nat.le_of_ble_eq_true rfl⟩ [(aJ 20), (aJ 21)] rfl rfl (wVM cI aJ J) rfl ?_
  refine y_if_le (tgt := 13) Z dX5_tallyPainted_8 (by decide) (fun h1 => ?_) (fun h2 => ?_)
  · refine y_aload_n Z dX5_tallyPainted_13 0 rfl rfl ?_
    refine y_get (C := RX5) (T := TX5) (N := 8) Z 5 inlX5 rfl 0 rfl 6 (by decide) fl_RX5_43 rfl dX5_tallyPainted_14 ?_
    refine y_iload_n Z dX5_tallyPainted_17 1 rfl rfl ?_
    refine y_VI Z (k_X2_partOf l D ht0 (fun k => aJ (22 + k)) (J 6) q) (y_cwV 1 Z ml_RX5_99 im_X2_partOf se_X2_partOf in_X2 co_X2_partOf rfl rfl hd_X2_partOf ⟨Nat.le_of_ble_eq_true rfl, Nat.le_of_ble_eq_true rfl⟩) [22, 23] rfl (by decide) 2 22 rfl rfl rfl rfl (Nat.le_of_ble_eq_true rfl) dX5_tallyPainted_18 ⟨Nat.le_of_ble_eq_true rfl, Nat.le_of_ble_eq_true rfl⟩ [(aJ 22), (aJ 23)] rfl rfl (wVM cI aJ J) rfl ?_
    refine y_if_le (tgt := 28) Z dX5_tallyPainted_21 (by decide) (fun h3 => ?_) (fun h4 => ?_)
    · refine y_iconst (v := 0) Z dX5_tallyPainted_28 (by decide) ?_
      exact y_retI Z hr hlk dX5_tallyPainted_29 (by first | (simp only [tpF, h1, h3, if_true, if_false, not_false_eq_true, not_true_eq_false, ↓reduceIte]; done) | (simp only [tpF, h1, h3, if_true, if_false, not_false_eq_true, not_true_eq_false, ↓reduceIte, wMix, wLog, wPic, wRep, wScr, wVM, wMd, sR_eq, sR_ne, sF_eq, sF_ne, upd_eq, upd_ne, gs_eq, gs_ne, gm_4, gm_ne, Nat.reduceBEq]; done) | (with_reducible rfl) | contradiction | (simp only [tpF, h1, h3, if_true, if_false, not_false_eq_true, not_true_eq_false, ↓reduceIte]; rfl) | rfl) (by first | (simp only [tpF, h1, h3, if_true, if_false, not_false_eq_true, not_true_eq_false, ↓reduceIte]; done) | (simp only [tpF, h1, h3, if_true, if_false, not_false_eq_true, not_true_eq_false, ↓reduceIte, wMix, wLog, wPic, wRep, wScr, wVM, wMd, sR_eq, sR_ne, sF_eq, sF_ne, upd_eq, upd_ne, gs_eq, gs_ne, gm_4, gm_ne, Nat.reduceBEq]; done) | (with_reducible rfl) | contradiction | (simp only [tpF, h1, h3, if_true, if_false, not_false_eq_true, not_true_eq_false, ↓reduceIte]; rfl) | rfl)
    · refine y_iconst (v := 1) Z dX5_tallyPainted_24 (by decide) ?_
      refine y_goto (tgt := 29) Z dX5_tallyPainted_25 (by decide) ?_
      exact y_retI Z hr hlk dX5_tallyPainted_29 (by first | (simp only [tpF, h1, h4, if_true, if_false, not_false_eq_true, not_true_eq_false, ↓reduceIte]; done) | (simp only [tpF, h1, h4, if_true, if_false, not_false_eq_true, not_true_eq_false, ↓reduceIte, wMix, wLog, wPic, wRep, wScr, wVM, wMd, sR_eq, sR_ne, sF_eq, sF_ne, upd_eq, upd_ne, gs_eq, gs_ne, gm_4, gm_ne, Nat.reduceBEq]; done) | (with_reducible rfl) | contradiction | (simp only [tpF, h1, h4, if_true, if_false, not_false_eq_true, not_true_eq_false, ↓reduceIte]; rfl) | rfl) (by first | (simp only [tpF, h1, h4, if_true, if_false, not_false_eq_true, not_true_eq_false, ↓reduceIte]; done) | (simp only [tpF, h1, h4, if_true, if_false, not_false_eq_true, not_true_eq_false, ↓reduceIte, wMix, wLog, wPic, wRep, wScr, wVM, wMd, sR_eq, sR_ne, sF_eq, sF_ne, upd_eq, upd_ne, gs_eq, gs_ne, gm_4, gm_ne, Nat.reduceBEq]; done) | (with_reducible rfl) | contradiction | (simp only [tpF, h1, h4, if_true, if_false, not_false_eq_true, not_true_eq_false, ↓reduceIte]; rfl) | rfl)
  · refine y_iconst (v := 2) Z dX5_tallyPainted_11 (by decide) ?_
    exact y_retI Z hr hlk dX5_tallyPainted_12 (by first | (simp only [tpF, h2, if_true, if_false, not_false_eq_true, not_true_eq_false, ↓reduceIte]; done) | (simp only [tpF, h2, if_true, if_false, not_false_eq_true, not_true_eq_false, ↓reduceIte, wMix, wLog, wPic, wRep, wScr, wVM, wMd, sR_eq, sR_ne, sF_eq, sF_ne, upd_eq, upd_ne, gs_eq, gs_ne, gm_4, gm_ne, Nat.reduceBEq]; done) | (with_reducible rfl) | contradiction | (simp only [tpF, h2, if_true, if_false, not_false_eq_true, not_true_eq_false, ↓reduceIte]; rfl) | rfl) (by first | (simp only [tpF, h2, if_true, if_false, not_false_eq_true, not_true_eq_false, ↓reduceIte]; done) | (simp only [tpF, h2, if_true, if_false, not_false_eq_true, not_true_eq_false, ↓reduceIte, wMix, wLog, wPic, wRep, wScr, wVM, wMd, sR_eq, sR_ne, sF_eq, sF_ne, upd_eq, upd_ne, gs_eq, gs_ne, gm_4, gm_ne, Nat.reduceBEq]; done) | (with_reducible rfl) | contradiction | (simp only [tpF, h2, if_true, if_false, not_false_eq_true, not_true_eq_false, ↓reduceIte]; rfl) | rfl)
set_option maxHeartbeats 4000000 in
set_option maxRecDepth 100000 in
theorem k_X5_tally (l : Launch) (D : va_G) {cI : ClassId} {tys : List (ClassId × FieldType)} (ht0 : tys[0]? = some (cI, .int)) (aJ : Nat → Nat) (J : Nat → Nat → Nat → Int32) (q : Int32) (h_q : okS q) (sz : Nat) : kI l yX5_tally cX5_tally 2 (some .int) { frames := 7, cells := 0, slots := 0, locals := 111 } D tys [.ref (aJ 0), .int q] (wVM cI aJ J) (wVM cI aJ (vm_tal J)) (tpF (vm_tal J) q) 0 0 sz := by
  refine y_enterI (cc := cX5_tally) (maxL := 2) (ret := (some .int)) (own := RX5) (by decide) rfl (lv0 := [(0, .ref (aJ 0)), (1, .int q)]) rfl (Nat.le_of_ble_eq_true rfl) ?_
  intro p e s m args below meth c A Z hr hlk _
  refine y_iload_n Z dX5_tally_0 1 rfl rfl ?_
  refine y_SV Z (k_X5_checkSource l D ht0 q h_q) (y_cwS 1 Z ml_RX5_53 st_X5_checkSource in_X5 co_X5_checkSource rfl rfl hs_X5_checkSource ⟨Nat.le_of_ble_eq_true rfl, Nat.le_of_ble_eq_true rfl⟩) [] rfl (by decide) rfl rfl (Nat.le_of_ble_eq_true rfl) dX5_tally_1 ⟨Nat.le_of_ble_eq_true rfl, Nat.le_of_ble_eq_true rfl⟩ [] rfl rfl (wVM cI aJ J) rfl ?_
  refine y_aload_n Z dX5_tally_4 0 rfl rfl ?_
  refine y_VVw Z (k_X5_paintTallies l D ht0 aJ J) (y_cwV 0 Z ml_RX5_102 im_X5_paintTallies se_X5_paintTallies in_X5 co_X5_paintTallies rfl rfl hd_X5_paintTallies ⟨Nat.le_of_ble_eq_true rfl, Nat.le_of_ble_eq_true rfl⟩) List.nil List.nil (by simp only [List.nil_append, List.append_nil, wMix, wLog, wPic, wRep, wScr, wVM, wMd, sR_eq, sR_ne, sF_eq, sF_ne, upd_eq, upd_ne, gs_eq, gs_ne, gm_4, gm_ne, Nat.reduceBEq]) 5 0 rfl rfl rfl rfl (Nat.le_of_ble_eq_true rfl) dX5_tally_5 ⟨Nat.le_of_ble_eq_true rfl, Nat.le_of_ble_eq_true rfl⟩ (wVM cI aJ (vm_tal J)) (by simp only [List.nil_append, List.append_nil, wMix, wLog, wPic, wRep, wScr, wVM, wMd, sR_eq, sR_ne, sF_eq, sF_ne, upd_eq, upd_ne, gs_eq, gs_ne, gm_4, gm_ne, Nat.reduceBEq]) ?_
  refine y_aload_n Z dX5_tally_8 0 rfl rfl ?_
  refine y_iload_n Z dX5_tally_9 1 rfl rfl ?_
  refine y_VIw Z (k_X5_tallyPainted l D ht0 aJ (vm_tal J) q) (y_cwV 1 Z ml_RX5_105 im_X5_tallyPainted se_X5_tallyPainted in_X5 co_X5_tallyPainted rfl rfl hd_X5_tallyPainted ⟨Nat.le_of_ble_eq_true rfl, Nat.le_of_ble_eq_true rfl⟩) List.nil List.nil (by simp only [List.nil_append, List.append_nil, wMix, wLog, wPic, wRep, wScr, wVM, wMd, sR_eq, sR_ne, sF_eq, sF_ne, upd_eq, upd_ne, gs_eq, gs_ne, gm_4, gm_ne, Nat.reduceBEq]) 5 0 rfl rfl rfl rfl (Nat.le_of_ble_eq_true rfl) dX5_tally_10 ⟨Nat.le_of_ble_eq_true rfl, Nat.le_of_ble_eq_true rfl⟩ (wVM cI aJ (vm_tal J)) (by simp only [List.nil_append, List.append_nil, wMix, wLog, wPic, wRep, wScr, wVM, wMd, sR_eq, sR_ne, sF_eq, sF_ne, upd_eq, upd_ne, gs_eq, gs_ne, gm_4, gm_ne, Nat.reduceBEq]) ?_
  exact y_retI Z hr hlk dX5_tally_13 (by first | (with_reducible rfl) | (simp only [wMix, wLog, wPic, wRep, wScr, wVM, wMd, sR_eq, sR_ne, sF_eq, sF_ne, upd_eq, upd_ne, gs_eq, gs_ne, gm_4, gm_ne, Nat.reduceBEq]; done) | rfl) (by first | (with_reducible rfl) | (simp only [wMix, wLog, wPic, wRep, wScr, wVM, wMd, sR_eq, sR_ne, sF_eq, sF_ne, upd_eq, upd_ne, gs_eq, gs_ne, gm_4, gm_ne, Nat.reduceBEq]; done) | rfl)
set_option maxHeartbeats 4000000 in
set_option maxRecDepth 100000 in
theorem k_X5_tally_b0 (l : Launch) (htr : l.stackTraces = false) (D : va_G) {cI : ClassId} {tys : List (ClassId × FieldType)} (ht0 : tys[0]? = some (cI, .int)) (aJ : Nat → Nat) (J : Nat → Nat → Nat → Int32) (q : Int32) (h_bad : ¬ (okS q)) (sz : Nat) : kB l yX5_tally cX5_tally 2 (some .int) { frames := 7, cells := 1, slots := 6, locals := 111 } D tys [.ref (aJ 0), .int q] (wVM cI aJ J) "java/lang/IndexOutOfBoundsException" sz := by
  refine y_enterB (cc := cX5_tally) (maxL := 2) (ret := (some .int)) (own := RX5) htr (by decide) rfl (lv0 := [(0, .ref (aJ 0)), (1, .int q)]) rfl (Nat.le_of_ble_eq_true rfl) ?_
  intro p e s m args below meth c A Z X hr hlk
  refine y_iload_n Z dX5_tally_0 1 rfl rfl ?_
  exact y_SB Z X.2.2 (k_X5_checkSource_b0 l htr D ht0 q h_bad) (y_cwS 1 Z ml_RX5_53 st_X5_checkSource in_X5 co_X5_checkSource rfl rfl hs_X5_checkSource ⟨Nat.le_of_ble_eq_true rfl, Nat.le_of_ble_eq_true rfl⟩) [] rfl (by decide) rfl rfl (Nat.le_of_ble_eq_true rfl) dX5_tally_1 ⟨Nat.le_of_ble_eq_true rfl, Nat.le_of_ble_eq_true rfl⟩ rfl (y_outB Z X hlk (Nat.le_of_ble_eq_true rfl) (Nat.le_of_ble_eq_true rfl))
set_option maxHeartbeats 4000000 in
set_option maxRecDepth 100000 in
theorem k_X5_act (l : Launch) (D : va_G) {cI : ClassId} {tys : List (ClassId × FieldType)} (ht0 : tys[0]? = some (cI, .int)) (aJ : Nat → Nat) (J : Nat → Nat → Nat → Int32) (a : Int32) (w : Int32) (h_a : okA J a) (h_w : okR w 0 3) (sz : Nat) : kI l yX5_act cX5_act 3 (some .int) { frames := 7, cells := 0, slots := 0, locals := 111 } D tys [.ref (aJ 0), .int a, .int w] (wVM cI aJ J) (wVM cI aJ J) (lgT (J 3) a w) 0 0 sz := by
  refine y_enterI (cc := cX5_act) (maxL := 3) (ret := (some .int)) (own := RX5) (by decide) rfl (lv0 := [(0, .ref (aJ 0)), (1, .int a), (2, .int w)]) rfl (Nat.le_of_ble_eq_true rfl) ?_
  intro p e s m args below meth c A Z hr hlk _
  refine y_aload_n Z dX5_act_0 0 rfl rfl ?_
  refine y_iload_n Z dX5_act_1 1 rfl rfl ?_
  refine y_VVw Z (k_X5_checkAct l D ht0 aJ J a h_a) (y_cwV 1 Z ml_RX5_148 im_X5_checkAct se_X5_checkAct in_X5 co_X5_checkAct rfl rfl hd_X5_checkAct ⟨Nat.le_of_ble_eq_true rfl, Nat.le_of_ble_eq_true rfl⟩) List.nil List.nil (by simp only [List.nil_append, List.append_nil, wMix, wLog, wPic, wRep, wScr, wVM, wMd, sR_eq, sR_ne, sF_eq, sF_ne, upd_eq, upd_ne, gs_eq, gs_ne, gm_4, gm_ne, Nat.reduceBEq]) 5 0 rfl rfl rfl rfl (Nat.le_of_ble_eq_true rfl) dX5_act_2 ⟨Nat.le_of_ble_eq_true rfl, Nat.le_of_ble_eq_true rfl⟩ (wVM cI aJ J) (by simp only [List.nil_append, List.append_nil, wMix, wLog, wPic, wRep, wScr, wVM, wMd, sR_eq, sR_ne, sF_eq, sF_ne, upd_eq, upd_ne, gs_eq, gs_ne, gm_4, gm_ne, Nat.reduceBEq]) ?_
  refine y_iload_n Z dX5_act_5 2 rfl rfl ?_
  refine y_iconst (v := 0) Z dX5_act_6 (by decide) ?_
  refine y_iconst (v := 3) Z dX5_act_7 (by decide) ?_
  refine y_SV Z (k_X5_checkRange l D ht0 w 0 3 h_w) (y_cwS 3 Z ml_RX5_61 st_X5_checkRange in_X5 co_X5_checkRange rfl rfl hs_X5_checkRange ⟨Nat.le_of_ble_eq_true rfl, Nat.le_of_ble_eq_true rfl⟩) [] rfl (by decide) rfl rfl (Nat.le_of_ble_eq_true rfl) dX5_act_8 ⟨Nat.le_of_ble_eq_true rfl, Nat.le_of_ble_eq_true rfl⟩ [] rfl rfl (wVM cI aJ J) rfl ?_
  refine y_aload_n Z dX5_act_11 0 rfl rfl ?_
  refine y_get (C := RX5) (T := TX5) (N := 8) Z 5 inlX5 rfl 0 rfl 3 (by decide) fl_RX5_25 rfl dX5_act_12 ?_
  refine y_iload_n Z dX5_act_15 1 rfl rfl ?_
  refine y_iload_n Z dX5_act_16 2 rfl rfl ?_
  refine y_VI Z (k_X0_tell l D ht0 (fun k => aJ (13 + k)) (J 3) a w) (y_cwV 2 Z ml_RX5_151 im_X0_tell se_X0_tell in_X0 co_X0_tell rfl rfl hd_X0_tell ⟨Nat.le_of_ble_eq_true rfl, Nat.le_of_ble_eq_true rfl⟩) [13, 14] rfl (by decide) 0 13 rfl rfl rfl rfl (Nat.le_of_ble_eq_true rfl) dX5_act_17 ⟨Nat.le_of_ble_eq_true rfl, Nat.le_of_ble_eq_true rfl⟩ [(aJ 13), (aJ 14)] rfl rfl (wVM cI aJ J) rfl ?_
  exact y_retI Z hr hlk dX5_act_20 (by first | (with_reducible rfl) | (simp only [wMix, wLog, wPic, wRep, wScr, wVM, wMd, sR_eq, sR_ne, sF_eq, sF_ne, upd_eq, upd_ne, gs_eq, gs_ne, gm_4, gm_ne, Nat.reduceBEq]; done) | rfl) (by first | (with_reducible rfl) | (simp only [wMix, wLog, wPic, wRep, wScr, wVM, wMd, sR_eq, sR_ne, sF_eq, sF_ne, upd_eq, upd_ne, gs_eq, gs_ne, gm_4, gm_ne, Nat.reduceBEq]; done) | rfl)
set_option maxHeartbeats 4000000 in
set_option maxRecDepth 100000 in
theorem k_X5_act_b0 (l : Launch) (htr : l.stackTraces = false) (D : va_G) {cI : ClassId} {tys : List (ClassId × FieldType)} (ht0 : tys[0]? = some (cI, .int)) (aJ : Nat → Nat) (J : Nat → Nat → Nat → Int32) (a : Int32) (w : Int32) (h_bad : ¬ (okA J a)) (sz : Nat) : kB l yX5_act cX5_act 3 (some .int) { frames := 7, cells := 1, slots := 6, locals := 111 } D tys [.ref (aJ 0), .int a, .int w] (wVM cI aJ J) "java/lang/IndexOutOfBoundsException" sz := by
  refine y_enterB (cc := cX5_act) (maxL := 3) (ret := (some .int)) (own := RX5) htr (by decide) rfl (lv0 := [(0, .ref (aJ 0)), (1, .int a), (2, .int w)]) rfl (Nat.le_of_ble_eq_true rfl) ?_
  intro p e s m args below meth c A Z X hr hlk
  refine y_aload_n Z dX5_act_0 0 rfl rfl ?_
  refine y_iload_n Z dX5_act_1 1 rfl rfl ?_
  exact y_VBw Z X.2.2 (k_X5_checkAct_b0 l htr D ht0 aJ J a h_bad) (y_cwV 1 Z ml_RX5_148 im_X5_checkAct se_X5_checkAct in_X5 co_X5_checkAct rfl rfl hd_X5_checkAct ⟨Nat.le_of_ble_eq_true rfl, Nat.le_of_ble_eq_true rfl⟩) List.nil List.nil (by simp only [List.nil_append, List.append_nil, wMix, wLog, wPic, wRep, wScr, wVM, wMd, sR_eq, sR_ne, sF_eq, sF_ne, upd_eq, upd_ne, gs_eq, gs_ne, gm_4, gm_ne, Nat.reduceBEq]) 5 0 rfl rfl rfl rfl (Nat.le_of_ble_eq_true rfl) dX5_act_2 ⟨Nat.le_of_ble_eq_true rfl, Nat.le_of_ble_eq_true rfl⟩ (y_outB Z X hlk (Nat.le_of_ble_eq_true rfl) (Nat.le_of_ble_eq_true rfl))
set_option maxHeartbeats 4000000 in
set_option maxRecDepth 100000 in
theorem k_X5_act_b1 (l : Launch) (htr : l.stackTraces = false) (D : va_G) {cI : ClassId} {tys : List (ClassId × FieldType)} (ht0 : tys[0]? = some (cI, .int)) (aJ : Nat → Nat) (J : Nat → Nat → Nat → Int32) (a : Int32) (w : Int32) (h_a : okA J a) (h_bad : ¬ (okR w 0 3)) (sz : Nat) : kB l yX5_act cX5_act 3 (some .int) { frames := 7, cells := 1, slots := 6, locals := 111 } D tys [.ref (aJ 0), .int a, .int w] (wVM cI aJ J) "java/lang/IllegalArgumentException" sz := by
  refine y_enterB (cc := cX5_act) (maxL := 3) (ret := (some .int)) (own := RX5) htr (by decide) rfl (lv0 := [(0, .ref (aJ 0)), (1, .int a), (2, .int w)]) rfl (Nat.le_of_ble_eq_true rfl) ?_
  intro p e s m args below meth c A Z X hr hlk
  refine y_aload_n Z dX5_act_0 0 rfl rfl ?_
  refine y_iload_n Z dX5_act_1 1 rfl rfl ?_
  refine y_VVw Z (k_X5_checkAct l D ht0 aJ J a h_a) (y_cwV 1 Z ml_RX5_148 im_X5_checkAct se_X5_checkAct in_X5 co_X5_checkAct rfl rfl hd_X5_checkAct ⟨Nat.le_of_ble_eq_true rfl, Nat.le_of_ble_eq_true rfl⟩) List.nil List.nil (by simp only [List.nil_append, List.append_nil, wMix, wLog, wPic, wRep, wScr, wVM, wMd, sR_eq, sR_ne, sF_eq, sF_ne, upd_eq, upd_ne, gs_eq, gs_ne, gm_4, gm_ne, Nat.reduceBEq]) 5 0 rfl rfl rfl rfl (Nat.le_of_ble_eq_true rfl) dX5_act_2 ⟨Nat.le_of_ble_eq_true rfl, Nat.le_of_ble_eq_true rfl⟩ (wVM cI aJ J) (by simp only [List.nil_append, List.append_nil, wMix, wLog, wPic, wRep, wScr, wVM, wMd, sR_eq, sR_ne, sF_eq, sF_ne, upd_eq, upd_ne, gs_eq, gs_ne, gm_4, gm_ne, Nat.reduceBEq]) ?_
  refine y_iload_n Z dX5_act_5 2 rfl rfl ?_
  refine y_iconst (v := 0) Z dX5_act_6 (by decide) ?_
  refine y_iconst (v := 3) Z dX5_act_7 (by decide) ?_
  exact y_SB Z X.2.2 (k_X5_checkRange_b0 l htr D ht0 w 0 3 h_bad) (y_cwS 3 Z ml_RX5_61 st_X5_checkRange in_X5 co_X5_checkRange rfl rfl hs_X5_checkRange ⟨Nat.le_of_ble_eq_true rfl, Nat.le_of_ble_eq_true rfl⟩) [] rfl (by decide) rfl rfl (Nat.le_of_ble_eq_true rfl) dX5_act_8 ⟨Nat.le_of_ble_eq_true rfl, Nat.le_of_ble_eq_true rfl⟩ rfl (y_outB Z X hlk (Nat.le_of_ble_eq_true rfl) (Nat.le_of_ble_eq_true rfl))
