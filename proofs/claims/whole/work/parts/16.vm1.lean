def okS (q : Int32) : Prop := ¬ q < 0 ∧ q < 10
def okK (k : Int32) : Prop := ¬ k < 0 ∧ k < 3
def okR (v lo hi : Int32) : Prop := ¬ v < lo ∧ v ≤ hi
def fullF1 (L : Nat → Nat → Int32) : Int32 := if L 0 0 < 100 then 0 else 1
def myF (J : Nat → Nat → Nat → Int32) (w : Int32) : Int32 := if (if J 3 0 0 < 100 then (0 : Int32) else 1) = 0 then (if possF (J 0) w = 0 then 0 else 1) else 0
def okM (J : Nat → Nat → Nat → Int32) (w : Int32) : Prop := ¬ myF J w = 0
def okT (J : Nat → Nat → Nat → Int32) (t : Int32) : Prop := ¬ t < 0 ∧ t ≤ J 0 0 7
def okA (J : Nat → Nat → Nat → Int32) (a : Int32) : Prop := ¬ a < 0 ∧ a < J 3 0 0
def okP (J : Nat → Nat → Nat → Int32) (fr : Int32) : Prop := J 0 0 7 + fr ≤ 5000
def okU (J : Nat → Nat → Nat → Int32) : Prop := ¬ J 3 0 0 = 0
def okB (q : Int32) : Prop := ¬ q = 0
def okW (J : Nat → Nat → Nat → Int32) : Prop := (if J 7 0 0 < 120 then (0 : Int32) else 1) = 0
def vm_enact (J : Nat → Nat → Nat → Int32) (w a b c d : Int32) : Nat → Nat → Nat → Int32 := gs (gs J 0 (perfM (J 0) w a b c d)) 3 (gt_ladd (J 3) (J 0 0 7) w a b c d)
def vm_pass (J : Nat → Nat → Nat → Int32) (fr : Int32) : Nat → Nat → Nat → Int32 := gs J 0 (gt_letPass fr (J 0))
def psF (J : Nat → Nat → Nat → Int32) (w : Int32) : Int32 := if w = 8 then J 3 0 0 else tellF (J 0) w
def vm_pP (J : Nat → Nat → Nat → Int32) : Nat → Nat → Nat → Int32 := gs J 5 (gt_paint (J 0) (J 5))
def vm_bh (J : Nat → Nat → Nat → Int32) : Nat → Nat → Int32 := gt_complete (gt_copy (J 2) (J 0))
def vm_tal (J : Nat → Nat → Nat → Int32) : Nat → Nat → Nat → Int32 := gs (gs (gs J 2 (vm_bh J)) 5 (gt_paint (J 0) (J 5))) 6 (gt_paint (vm_bh J) (J 6))
def tpF (J : Nat → Nat → Nat → Int32) (q : Int32) : Int32 := if cellF (J 5 1) 10 q ≤ 0 then (if cellF (J 6 1) 10 q ≤ 0 then 0 else 1) else 2
def shF (J : Nat → Nat → Nat → Int32) (q sn : Int32) : Int32 := if sn = 0 then cellF (gt_paint (J 0) (J 5) 1) 10 q else seenF (gt_paint (J 0) (J 5)) q (J 0 0 9)
def nzF (z : Int32) : Int32 := if z = 0 then 0 else 1
set_option maxHeartbeats 200000 in
set_option maxRecDepth 100000 in
theorem k_X5_checkSource (l : Launch) (D : va_G) {cI : ClassId} {tys : List (ClassId × FieldType)} (ht0 : tys[0]? = some (cI, .int)) (q : Int32) (h_q : okS q) (sz : Nat) : kV l yX5_checkSource cX5_checkSource 1 none { frames := 6, cells := 0, slots := 0, locals := 89 } D tys [.int q] ([] : va_W) ([] : va_W) 0 0 sz := by
  refine y_enterV (cc := cX5_checkSource) (maxL := 1) (ret := none) (own := RX5) (by decide) rfl (lv0 := [(0, .int q)]) rfl (Nat.le_of_ble_eq_true rfl) ?_
  intro p e s m args below meth c A Z hr hlk _
  refine y_iload_n Z dX5_checkSource_0 0 rfl rfl ?_
  refine y_if_lt (tgt := 10) Z dX5_checkSource_1 (by decide) (fun h1 => ?_) (fun h2 => ?_)
  · exact absurd h_q (by simp only [okS, okK, okR, okM, okT, okA, okP, okU, okB, okW, h1, if_true, if_false, not_false_eq_true, not_true_eq_false, ↓reduceIte, and_true, true_and, and_false, false_and])
  · refine y_iload_n Z dX5_checkSource_4 0 rfl rfl ?_
    refine y_bipush (v := 10) Z dX5_checkSource_5 (by decide) ?_
    refine y_icmp_lt (tgt := 18) Z dX5_checkSource_7 (by decide) (fun h3 => ?_) (fun h4 => ?_)
    · exact y_retV Z hr hlk dX5_checkSource_18 (by first | (simp only [h2, h3, if_true, if_false, not_false_eq_true, not_true_eq_false, ↓reduceIte]; done) | (simp only [h2, h3, if_true, if_false, not_false_eq_true, not_true_eq_false, ↓reduceIte, wMix, wLog, wPic, wRep, wScr, wVM, wMd, sR_eq, sR_ne, sF_eq, sF_ne, upd_eq, upd_ne, gs_eq, gs_ne, gm_4, gm_ne, Nat.reduceBEq]; done) | (with_reducible rfl) | contradiction | (simp only [h2, h3, if_true, if_false, not_false_eq_true, not_true_eq_false, ↓reduceIte]; rfl) | rfl)
    · exact absurd h_q (by simp only [okS, okK, okR, okM, okT, okA, okP, okU, okB, okW, h2, h4, if_true, if_false, not_false_eq_true, not_true_eq_false, ↓reduceIte, and_true, true_and, and_false, false_and])
set_option maxHeartbeats 200000 in
set_option maxRecDepth 100000 in
theorem k_X5_checkSource_b0 (l : Launch) (htr : l.stackTraces = false) (D : va_G) {cI : ClassId} {tys : List (ClassId × FieldType)} (ht0 : tys[0]? = some (cI, .int)) (q : Int32) (h_bad : ¬ (okS q)) (sz : Nat) : kB l yX5_checkSource cX5_checkSource 1 none { frames := 6, cells := 1, slots := 6, locals := 89 } D tys [.int q] ([] : va_W) "java/lang/IndexOutOfBoundsException" sz := by
  refine y_enterB (cc := cX5_checkSource) (maxL := 1) (ret := none) (own := RX5) htr (by decide) rfl (lv0 := [(0, .int q)]) rfl (Nat.le_of_ble_eq_true rfl) ?_
  intro p e s m args below meth c A Z X hr hlk
  refine y_iload_n Z dX5_checkSource_0 0 rfl rfl ?_
  refine y_if_lt (tgt := 10) Z dX5_checkSource_1 (by decide) (fun h1 => ?_) (fun h2 => ?_)
  · exact y_throw Z X hlk yEx yx_f68 yx_names cl_RX5_68 in_IndexOutOfBoundsException yx_a68 yx_b68 yx_g68 dX5_checkSource_10 dX5_checkSource_13 dX5_checkSource_14 dX5_checkSource_17 (Nat.le_of_ble_eq_true rfl) (Nat.le_of_ble_eq_true rfl) (Nat.le_of_ble_eq_true rfl) (Nat.le_of_ble_eq_true rfl) (Nat.le_of_ble_eq_true rfl) (Nat.le_of_ble_eq_true rfl)
  · refine y_iload_n Z dX5_checkSource_4 0 rfl rfl ?_
    refine y_bipush (v := 10) Z dX5_checkSource_5 (by decide) ?_
    refine y_icmp_lt (tgt := 18) Z dX5_checkSource_7 (by decide) (fun h3 => ?_) (fun h4 => ?_)
    · exact absurd (show okS q by simp only [okS, okK, okR, okM, okT, okA, okP, okU, okB, okW, h2, h3, if_true, if_false, not_false_eq_true, not_true_eq_false, ↓reduceIte, and_true, true_and, and_false, false_and]) h_bad
    · exact y_throw Z X hlk yEx yx_f68 yx_names cl_RX5_68 in_IndexOutOfBoundsException yx_a68 yx_b68 yx_g68 dX5_checkSource_10 dX5_checkSource_13 dX5_checkSource_14 dX5_checkSource_17 (Nat.le_of_ble_eq_true rfl) (Nat.le_of_ble_eq_true rfl) (Nat.le_of_ble_eq_true rfl) (Nat.le_of_ble_eq_true rfl) (Nat.le_of_ble_eq_true rfl) (Nat.le_of_ble_eq_true rfl)
set_option maxHeartbeats 200000 in
set_option maxRecDepth 100000 in
theorem k_X5_checkKeyer (l : Launch) (D : va_G) {cI : ClassId} {tys : List (ClassId × FieldType)} (ht0 : tys[0]? = some (cI, .int)) (k : Int32) (h_k : okK k) (sz : Nat) : kV l yX5_checkKeyer cX5_checkKeyer 1 none { frames := 6, cells := 0, slots := 0, locals := 89 } D tys [.int k] ([] : va_W) ([] : va_W) 0 0 sz := by
  refine y_enterV (cc := cX5_checkKeyer) (maxL := 1) (ret := none) (own := RX5) (by decide) rfl (lv0 := [(0, .int k)]) rfl (Nat.le_of_ble_eq_true rfl) ?_
  intro p e s m args below meth c A Z hr hlk _
  refine y_iload_n Z dX5_checkKeyer_0 0 rfl rfl ?_
  refine y_if_lt (tgt := 9) Z dX5_checkKeyer_1 (by decide) (fun h1 => ?_) (fun h2 => ?_)
  · exact absurd h_k (by simp only [okS, okK, okR, okM, okT, okA, okP, okU, okB, okW, h1, if_true, if_false, not_false_eq_true, not_true_eq_false, ↓reduceIte, and_true, true_and, and_false, false_and])
  · refine y_iload_n Z dX5_checkKeyer_4 0 rfl rfl ?_
    refine y_iconst (v := 3) Z dX5_checkKeyer_5 (by decide) ?_
    refine y_icmp_lt (tgt := 17) Z dX5_checkKeyer_6 (by decide) (fun h3 => ?_) (fun h4 => ?_)
    · exact y_retV Z hr hlk dX5_checkKeyer_17 (by first | (simp only [h2, h3, if_true, if_false, not_false_eq_true, not_true_eq_false, ↓reduceIte]; done) | (simp only [h2, h3, if_true, if_false, not_false_eq_true, not_true_eq_false, ↓reduceIte, wMix, wLog, wPic, wRep, wScr, wVM, wMd, sR_eq, sR_ne, sF_eq, sF_ne, upd_eq, upd_ne, gs_eq, gs_ne, gm_4, gm_ne, Nat.reduceBEq]; done) | (with_reducible rfl) | contradiction | (simp only [h2, h3, if_true, if_false, not_false_eq_true, not_true_eq_false, ↓reduceIte]; rfl) | rfl)
    · exact absurd h_k (by simp only [okS, okK, okR, okM, okT, okA, okP, okU, okB, okW, h2, h4, if_true, if_false, not_false_eq_true, not_true_eq_false, ↓reduceIte, and_true, true_and, and_false, false_and])
set_option maxHeartbeats 200000 in
set_option maxRecDepth 100000 in
theorem k_X5_checkKeyer_b0 (l : Launch) (htr : l.stackTraces = false) (D : va_G) {cI : ClassId} {tys : List (ClassId × FieldType)} (ht0 : tys[0]? = some (cI, .int)) (k : Int32) (h_bad : ¬ (okK k)) (sz : Nat) : kB l yX5_checkKeyer cX5_checkKeyer 1 none { frames := 6, cells := 1, slots := 6, locals := 89 } D tys [.int k] ([] : va_W) "java/lang/IndexOutOfBoundsException" sz := by
  refine y_enterB (cc := cX5_checkKeyer) (maxL := 1) (ret := none) (own := RX5) htr (by decide) rfl (lv0 := [(0, .int k)]) rfl (Nat.le_of_ble_eq_true rfl) ?_
  intro p e s m args below meth c A Z X hr hlk
  refine y_iload_n Z dX5_checkKeyer_0 0 rfl rfl ?_
  refine y_if_lt (tgt := 9) Z dX5_checkKeyer_1 (by decide) (fun h1 => ?_) (fun h2 => ?_)
  · exact y_throw Z X hlk yEx yx_f68 yx_names cl_RX5_68 in_IndexOutOfBoundsException yx_a68 yx_b68 yx_g68 dX5_checkKeyer_9 dX5_checkKeyer_12 dX5_checkKeyer_13 dX5_checkKeyer_16 (Nat.le_of_ble_eq_true rfl) (Nat.le_of_ble_eq_true rfl) (Nat.le_of_ble_eq_true rfl) (Nat.le_of_ble_eq_true rfl) (Nat.le_of_ble_eq_true rfl) (Nat.le_of_ble_eq_true rfl)
  · refine y_iload_n Z dX5_checkKeyer_4 0 rfl rfl ?_
    refine y_iconst (v := 3) Z dX5_checkKeyer_5 (by decide) ?_
    refine y_icmp_lt (tgt := 17) Z dX5_checkKeyer_6 (by decide) (fun h3 => ?_) (fun h4 => ?_)
    · exact absurd (show okK k by simp only [okS, okK, okR, okM, okT, okA, okP, okU, okB, okW, h2, h3, if_true, if_false, not_false_eq_true, not_true_eq_false, ↓reduceIte, and_true, true_and, and_false, false_and]) h_bad
    · exact y_throw Z X hlk yEx yx_f68 yx_names cl_RX5_68 in_IndexOutOfBoundsException yx_a68 yx_b68 yx_g68 dX5_checkKeyer_9 dX5_checkKeyer_12 dX5_checkKeyer_13 dX5_checkKeyer_16 (Nat.le_of_ble_eq_true rfl) (Nat.le_of_ble_eq_true rfl) (Nat.le_of_ble_eq_true rfl) (Nat.le_of_ble_eq_true rfl) (Nat.le_of_ble_eq_true rfl) (Nat.le_of_ble_eq_true rfl)
set_option maxHeartbeats 200000 in
set_option maxRecDepth 100000 in
theorem k_X5_checkRange (l : Launch) (D : va_G) {cI : ClassId} {tys : List (ClassId × FieldType)} (ht0 : tys[0]? = some (cI, .int)) (v : Int32) (lo : Int32) (hi : Int32) (h_r : okR v lo hi) (sz : Nat) : kV l yX5_checkRange cX5_checkRange 3 none { frames := 6, cells := 0, slots := 0, locals := 89 } D tys [.int v, .int lo, .int hi] ([] : va_W) ([] : va_W) 0 0 sz := by
  refine y_enterV (cc := cX5_checkRange) (maxL := 3) (ret := none) (own := RX5) (by decide) rfl (lv0 := [(0, .int v), (1, .int lo), (2, .int hi)]) rfl (Nat.le_of_ble_eq_true rfl) ?_
  intro p e s m args below meth c A Z hr hlk _
  refine y_iload_n Z dX5_checkRange_0 0 rfl rfl ?_
  refine y_iload_n Z dX5_checkRange_1 1 rfl rfl ?_
  refine y_icmp_lt (tgt := 10) Z dX5_checkRange_2 (by decide) (fun h1 => ?_) (fun h2 => ?_)
  · exact absurd h_r (by simp only [okS, okK, okR, okM, okT, okA, okP, okU, okB, okW, h1, if_true, if_false, not_false_eq_true, not_true_eq_false, ↓reduceIte, and_true, true_and, and_false, false_and])
  · refine y_iload_n Z dX5_checkRange_5 0 rfl rfl ?_
    refine y_iload_n Z dX5_checkRange_6 2 rfl rfl ?_
    refine y_icmp_le (tgt := 18) Z dX5_checkRange_7 (by decide) (fun h3 => ?_) (fun h4 => ?_)
    · exact y_retV Z hr hlk dX5_checkRange_18 (by first | (simp only [h2, h3, if_true, if_false, not_false_eq_true, not_true_eq_false, ↓reduceIte]; done) | (simp only [h2, h3, if_true, if_false, not_false_eq_true, not_true_eq_false, ↓reduceIte, wMix, wLog, wPic, wRep, wScr, wVM, wMd, sR_eq, sR_ne, sF_eq, sF_ne, upd_eq, upd_ne, gs_eq, gs_ne, gm_4, gm_ne, Nat.reduceBEq]; done) | (with_reducible rfl) | contradiction | (simp only [h2, h3, if_true, if_false, not_false_eq_true, not_true_eq_false, ↓reduceIte]; rfl) | rfl)
    · exact absurd h_r (by simp only [okS, okK, okR, okM, okT, okA, okP, okU, okB, okW, h2, h4, if_true, if_false, not_false_eq_true, not_true_eq_false, ↓reduceIte, and_true, true_and, and_false, false_and])
set_option maxHeartbeats 200000 in
set_option maxRecDepth 100000 in
theorem k_X5_checkRange_b0 (l : Launch) (htr : l.stackTraces = false) (D : va_G) {cI : ClassId} {tys : List (ClassId × FieldType)} (ht0 : tys[0]? = some (cI, .int)) (v : Int32) (lo : Int32) (hi : Int32) (h_bad : ¬ (okR v lo hi)) (sz : Nat) : kB l yX5_checkRange cX5_checkRange 3 none { frames := 6, cells := 1, slots := 6, locals := 89 } D tys [.int v, .int lo, .int hi] ([] : va_W) "java/lang/IllegalArgumentException" sz := by
  refine y_enterB (cc := cX5_checkRange) (maxL := 3) (ret := none) (own := RX5) htr (by decide) rfl (lv0 := [(0, .int v), (1, .int lo), (2, .int hi)]) rfl (Nat.le_of_ble_eq_true rfl) ?_
  intro p e s m args below meth c A Z X hr hlk
  refine y_iload_n Z dX5_checkRange_0 0 rfl rfl ?_
  refine y_iload_n Z dX5_checkRange_1 1 rfl rfl ?_
  refine y_icmp_lt (tgt := 10) Z dX5_checkRange_2 (by decide) (fun h1 => ?_) (fun h2 => ?_)
  · exact y_throw Z X hlk yEx yx_f211 yx_names cl_RX5_211 in_IllegalArgumentException yx_a211 yx_b211 yx_g211 dX5_checkRange_10 dX5_checkRange_13 dX5_checkRange_14 dX5_checkRange_17 (Nat.le_of_ble_eq_true rfl) (Nat.le_of_ble_eq_true rfl) (Nat.le_of_ble_eq_true rfl) (Nat.le_of_ble_eq_true rfl) (Nat.le_of_ble_eq_true rfl) (Nat.le_of_ble_eq_true rfl)
  · refine y_iload_n Z dX5_checkRange_5 0 rfl rfl ?_
    refine y_iload_n Z dX5_checkRange_6 2 rfl rfl ?_
    refine y_icmp_le (tgt := 18) Z dX5_checkRange_7 (by decide) (fun h3 => ?_) (fun h4 => ?_)
    · exact absurd (show okR v lo hi by simp only [okS, okK, okR, okM, okT, okA, okP, okU, okB, okW, h2, h3, if_true, if_false, not_false_eq_true, not_true_eq_false, ↓reduceIte, and_true, true_and, and_false, false_and]) h_bad
    · exact y_throw Z X hlk yEx yx_f211 yx_names cl_RX5_211 in_IllegalArgumentException yx_a211 yx_b211 yx_g211 dX5_checkRange_10 dX5_checkRange_13 dX5_checkRange_14 dX5_checkRange_17 (Nat.le_of_ble_eq_true rfl) (Nat.le_of_ble_eq_true rfl) (Nat.le_of_ble_eq_true rfl) (Nat.le_of_ble_eq_true rfl) (Nat.le_of_ble_eq_true rfl) (Nat.le_of_ble_eq_true rfl)
set_option maxHeartbeats 200000 in
set_option maxRecDepth 100000 in
theorem k_X5_checkTime (l : Launch) (D : va_G) {cI : ClassId} {tys : List (ClassId × FieldType)} (ht0 : tys[0]? = some (cI, .int)) (aJ : Nat → Nat) (J : Nat → Nat → Nat → Int32) (t : Int32) (h_t : okT J t) (sz : Nat) : kV l yX5_checkTime cX5_checkTime 2 none { frames := 6, cells := 0, slots := 0, locals := 89 } D tys [.ref (aJ 0), .int t] (wVM cI aJ J) (wVM cI aJ J) 0 0 sz := by
  refine y_enterV (cc := cX5_checkTime) (maxL := 2) (ret := none) (own := RX5) (by decide) rfl (lv0 := [(0, .ref (aJ 0)), (1, .int t)]) rfl (Nat.le_of_ble_eq_true rfl) ?_
  intro p e s m args below meth c A Z hr hlk _
  refine y_iload_n Z dX5_checkTime_0 1 rfl rfl ?_
  refine y_if_lt (tgt := 15) Z dX5_checkTime_1 (by decide) (fun h1 => ?_) (fun h2 => ?_)
  · exact absurd h_t (by simp only [okS, okK, okR, okM, okT, okA, okP, okU, okB, okW, h1, if_true, if_false, not_false_eq_true, not_true_eq_false, ↓reduceIte, and_true, true_and, and_false, false_and])
  · refine y_iload_n Z dX5_checkTime_4 1 rfl rfl ?_
    refine y_aload_n Z dX5_checkTime_5 0 rfl rfl ?_
    refine y_get (C := RX5) (T := TX5) (N := 8) Z 5 inlX5 rfl 0 rfl 0 (by decide) fl_RX5_10 rfl dX5_checkTime_6 ?_
    refine y_getN (host := RX5) (C := RX1) (T := TX1) (N := 14) Z 1 inlX1 rfl 1 rfl 7 (by decide) nl_RX5_71 rfl dX5_checkTime_9 ?_
    refine y_icmp_le (tgt := 23) Z dX5_checkTime_12 (by decide) (fun h3 => ?_) (fun h4 => ?_)
    · exact y_retV Z hr hlk dX5_checkTime_23 (by first | (simp only [h2, h3, if_true, if_false, not_false_eq_true, not_true_eq_false, ↓reduceIte]; done) | (simp only [h2, h3, if_true, if_false, not_false_eq_true, not_true_eq_false, ↓reduceIte, wMix, wLog, wPic, wRep, wScr, wVM, wMd, sR_eq, sR_ne, sF_eq, sF_ne, upd_eq, upd_ne, gs_eq, gs_ne, gm_4, gm_ne, Nat.reduceBEq]; done) | (with_reducible rfl) | contradiction | (simp only [h2, h3, if_true, if_false, not_false_eq_true, not_true_eq_false, ↓reduceIte]; rfl) | rfl)
    · exact absurd h_t (by simp only [okS, okK, okR, okM, okT, okA, okP, okU, okB, okW, h2, h4, if_true, if_false, not_false_eq_true, not_true_eq_false, ↓reduceIte, and_true, true_and, and_false, false_and])
set_option maxHeartbeats 200000 in
set_option maxRecDepth 100000 in
theorem k_X5_checkTime_b0 (l : Launch) (htr : l.stackTraces = false) (D : va_G) {cI : ClassId} {tys : List (ClassId × FieldType)} (ht0 : tys[0]? = some (cI, .int)) (aJ : Nat → Nat) (J : Nat → Nat → Nat → Int32) (t : Int32) (h_bad : ¬ (okT J t)) (sz : Nat) : kB l yX5_checkTime cX5_checkTime 2 none { frames := 6, cells := 1, slots := 6, locals := 89 } D tys [.ref (aJ 0), .int t] (wVM cI aJ J) "java/lang/IndexOutOfBoundsException" sz := by
  refine y_enterB (cc := cX5_checkTime) (maxL := 2) (ret := none) (own := RX5) htr (by decide) rfl (lv0 := [(0, .ref (aJ 0)), (1, .int t)]) rfl (Nat.le_of_ble_eq_true rfl) ?_
  intro p e s m args below meth c A Z X hr hlk
  refine y_iload_n Z dX5_checkTime_0 1 rfl rfl ?_
  refine y_if_lt (tgt := 15) Z dX5_checkTime_1 (by decide) (fun h1 => ?_) (fun h2 => ?_)
  · exact y_throw Z X hlk yEx yx_f68 yx_names cl_RX5_68 in_IndexOutOfBoundsException yx_a68 yx_b68 yx_g68 dX5_checkTime_15 dX5_checkTime_18 dX5_checkTime_19 dX5_checkTime_22 (Nat.le_of_ble_eq_true rfl) (Nat.le_of_ble_eq_true rfl) (Nat.le_of_ble_eq_true rfl) (Nat.le_of_ble_eq_true rfl) (Nat.le_of_ble_eq_true rfl) (Nat.le_of_ble_eq_true rfl)
  · refine y_iload_n Z dX5_checkTime_4 1 rfl rfl ?_
    refine y_aload_n Z dX5_checkTime_5 0 rfl rfl ?_
    refine y_get (C := RX5) (T := TX5) (N := 8) Z 5 inlX5 rfl 0 rfl 0 (by decide) fl_RX5_10 rfl dX5_checkTime_6 ?_
    refine y_getN (host := RX5) (C := RX1) (T := TX1) (N := 14) Z 1 inlX1 rfl 1 rfl 7 (by decide) nl_RX5_71 rfl dX5_checkTime_9 ?_
    refine y_icmp_le (tgt := 23) Z dX5_checkTime_12 (by decide) (fun h3 => ?_) (fun h4 => ?_)
    · exact absurd (show okT J t by simp only [okS, okK, okR, okM, okT, okA, okP, okU, okB, okW, h2, h3, if_true, if_false, not_false_eq_true, not_true_eq_false, ↓reduceIte, and_true, true_and, and_false, false_and]) h_bad
    · exact y_throw Z X hlk yEx yx_f68 yx_names cl_RX5_68 in_IndexOutOfBoundsException yx_a68 yx_b68 yx_g68 dX5_checkTime_15 dX5_checkTime_18 dX5_checkTime_19 dX5_checkTime_22 (Nat.le_of_ble_eq_true rfl) (Nat.le_of_ble_eq_true rfl) (Nat.le_of_ble_eq_true rfl) (Nat.le_of_ble_eq_true rfl) (Nat.le_of_ble_eq_true rfl) (Nat.le_of_ble_eq_true rfl)
set_option maxHeartbeats 200000 in
set_option maxRecDepth 100000 in
theorem k_X5_checkAct (l : Launch) (D : va_G) {cI : ClassId} {tys : List (ClassId × FieldType)} (ht0 : tys[0]? = some (cI, .int)) (aJ : Nat → Nat) (J : Nat → Nat → Nat → Int32) (a : Int32) (h_a : okA J a) (sz : Nat) : kV l yX5_checkAct cX5_checkAct 2 none { frames := 6, cells := 0, slots := 0, locals := 89 } D tys [.ref (aJ 0), .int a] (wVM cI aJ J) (wVM cI aJ J) 0 0 sz := by
  refine y_enterV (cc := cX5_checkAct) (maxL := 2) (ret := none) (own := RX5) (by decide) rfl (lv0 := [(0, .ref (aJ 0)), (1, .int a)]) rfl (Nat.le_of_ble_eq_true rfl) ?_
  intro p e s m args below meth c A Z hr hlk _
  refine y_iload_n Z dX5_checkAct_0 1 rfl rfl ?_
  refine y_if_lt (tgt := 15) Z dX5_checkAct_1 (by decide) (fun h1 => ?_) (fun h2 => ?_)
  · exact absurd h_a (by simp only [okS, okK, okR, okM, okT, okA, okP, okU, okB, okW, h1, if_true, if_false, not_false_eq_true, not_true_eq_false, ↓reduceIte, and_true, true_and, and_false, false_and])
  · refine y_iload_n Z dX5_checkAct_4 1 rfl rfl ?_
    refine y_aload_n Z dX5_checkAct_5 0 rfl rfl ?_
    refine y_get (C := RX5) (T := TX5) (N := 8) Z 5 inlX5 rfl 0 rfl 3 (by decide) fl_RX5_25 rfl dX5_checkAct_6 ?_
    refine y_VI Z (k_X0_size l D ht0 (fun k => aJ (13 + k)) (J 3)) (y_cwV 0 Z ml_RX5_157 im_X0_size se_X0_size in_X0 co_X0_size rfl rfl hd_X0_size ⟨Nat.le_of_ble_eq_true rfl, Nat.le_of_ble_eq_true rfl⟩) [13, 14] rfl (by decide) 0 13 rfl rfl rfl rfl (Nat.le_of_ble_eq_true rfl) dX5_checkAct_9 ⟨Nat.le_of_ble_eq_true rfl, Nat.le_of_ble_eq_true rfl⟩ [(aJ 13), (aJ 14)] rfl rfl (wVM cI aJ J) rfl ?_
    refine y_icmp_lt (tgt := 23) Z dX5_checkAct_12 (by decide) (fun h3 => ?_) (fun h4 => ?_)
    · exact y_retV Z hr hlk dX5_checkAct_23 (by first | (simp only [h2, h3, if_true, if_false, not_false_eq_true, not_true_eq_false, ↓reduceIte]; done) | (simp only [h2, h3, if_true, if_false, not_false_eq_true, not_true_eq_false, ↓reduceIte, wMix, wLog, wPic, wRep, wScr, wVM, wMd, sR_eq, sR_ne, sF_eq, sF_ne, upd_eq, upd_ne, gs_eq, gs_ne, gm_4, gm_ne, Nat.reduceBEq]; done) | (with_reducible rfl) | contradiction | (simp only [h2, h3, if_true, if_false, not_false_eq_true, not_true_eq_false, ↓reduceIte]; rfl) | rfl)
    · exact absurd h_a (by simp only [okS, okK, okR, okM, okT, okA, okP, okU, okB, okW, h2, h4, if_true, if_false, not_false_eq_true, not_true_eq_false, ↓reduceIte, and_true, true_and, and_false, false_and])
set_option maxHeartbeats 200000 in
set_option maxRecDepth 100000 in
theorem k_X5_checkAct_b0 (l : Launch) (htr : l.stackTraces = false) (D : va_G) {cI : ClassId} {tys : List (ClassId × FieldType)} (ht0 : tys[0]? = some (cI, .int)) (aJ : Nat → Nat) (J : Nat → Nat → Nat → Int32) (a : Int32) (h_bad : ¬ (okA J a)) (sz : Nat) : kB l yX5_checkAct cX5_checkAct 2 none { frames := 6, cells := 1, slots := 6, locals := 89 } D tys [.ref (aJ 0), .int a] (wVM cI aJ J) "java/lang/IndexOutOfBoundsException" sz := by
  refine y_enterB (cc := cX5_checkAct) (maxL := 2) (ret := none) (own := RX5) htr (by decide) rfl (lv0 := [(0, .ref (aJ 0)), (1, .int a)]) rfl (Nat.le_of_ble_eq_true rfl) ?_
  intro p e s m args below meth c A Z X hr hlk
  refine y_iload_n Z dX5_checkAct_0 1 rfl rfl ?_
  refine y_if_lt (tgt := 15) Z dX5_checkAct_1 (by decide) (fun h1 => ?_) (fun h2 => ?_)
  · exact y_throw Z X hlk yEx yx_f68 yx_names cl_RX5_68 in_IndexOutOfBoundsException yx_a68 yx_b68 yx_g68 dX5_checkAct_15 dX5_checkAct_18 dX5_checkAct_19 dX5_checkAct_22 (Nat.le_of_ble_eq_true rfl) (Nat.le_of_ble_eq_true rfl) (Nat.le_of_ble_eq_true rfl) (Nat.le_of_ble_eq_true rfl) (Nat.le_of_ble_eq_true rfl) (Nat.le_of_ble_eq_true rfl)
  · refine y_iload_n Z dX5_checkAct_4 1 rfl rfl ?_
    refine y_aload_n Z dX5_checkAct_5 0 rfl rfl ?_
    refine y_get (C := RX5) (T := TX5) (N := 8) Z 5 inlX5 rfl 0 rfl 3 (by decide) fl_RX5_25 rfl dX5_checkAct_6 ?_
    refine y_VI Z (k_X0_size l D ht0 (fun k => aJ (13 + k)) (J 3)) (y_cwV 0 Z ml_RX5_157 im_X0_size se_X0_size in_X0 co_X0_size rfl rfl hd_X0_size ⟨Nat.le_of_ble_eq_true rfl, Nat.le_of_ble_eq_true rfl⟩) [13, 14] rfl (by decide) 0 13 rfl rfl rfl rfl (Nat.le_of_ble_eq_true rfl) dX5_checkAct_9 ⟨Nat.le_of_ble_eq_true rfl, Nat.le_of_ble_eq_true rfl⟩ [(aJ 13), (aJ 14)] rfl rfl (wVM cI aJ J) rfl ?_
    refine y_icmp_lt (tgt := 23) Z dX5_checkAct_12 (by decide) (fun h3 => ?_) (fun h4 => ?_)
    · exact absurd (show okA J a by simp only [okS, okK, okR, okM, okT, okA, okP, okU, okB, okW, h2, h3, if_true, if_false, not_false_eq_true, not_true_eq_false, ↓reduceIte, and_true, true_and, and_false, false_and]) h_bad
    · exact y_throw Z X hlk yEx yx_f68 yx_names cl_RX5_68 in_IndexOutOfBoundsException yx_a68 yx_b68 yx_g68 dX5_checkAct_15 dX5_checkAct_18 dX5_checkAct_19 dX5_checkAct_22 (Nat.le_of_ble_eq_true rfl) (Nat.le_of_ble_eq_true rfl) (Nat.le_of_ble_eq_true rfl) (Nat.le_of_ble_eq_true rfl) (Nat.le_of_ble_eq_true rfl) (Nat.le_of_ble_eq_true rfl)
set_option maxHeartbeats 200000 in
set_option maxRecDepth 100000 in
theorem k_X5_mayAct (l : Launch) (D : va_G) {cI : ClassId} {tys : List (ClassId × FieldType)} (ht0 : tys[0]? = some (cI, .int)) (aJ : Nat → Nat) (J : Nat → Nat → Nat → Int32) (w : Int32) (sz : Nat) : kI l yX5_mayAct cX5_mayAct 2 (some .boolean) { frames := 1, cells := 0, slots := 0, locals := 21 } D tys [.ref (aJ 0), .int w] (wVM cI aJ J) (wVM cI aJ J) (myF J w) 0 0 sz := by
  refine y_enterI (cc := cX5_mayAct) (maxL := 2) (ret := (some .boolean)) (own := RX5) (by decide) rfl (lv0 := [(0, .ref (aJ 0)), (1, .int w)]) rfl (Nat.le_of_ble_eq_true rfl) ?_
  intro p e s m args below meth c A Z hr hlk _
  refine y_aload_n Z dX5_mayAct_0 0 rfl rfl ?_
  refine y_get (C := RX5) (T := TX5) (N := 8) Z 5 inlX5 rfl 0 rfl 3 (by decide) fl_RX5_25 rfl dX5_mayAct_1 ?_
  refine y_VI Z (k_X0_isFull l D ht0 (fun k => aJ (13 + k)) (J 3)) (y_cwV 0 Z ml_RX5_214 im_X0_isFull se_X0_isFull in_X0 co_X0_isFull rfl rfl hd_X0_isFull ⟨Nat.le_of_ble_eq_true rfl, Nat.le_of_ble_eq_true rfl⟩) [13, 14] rfl (by decide) 0 13 rfl rfl rfl rfl (Nat.le_of_ble_eq_true rfl) dX5_mayAct_4 ⟨Nat.le_of_ble_eq_true rfl, Nat.le_of_ble_eq_true rfl⟩ [(aJ 13), (aJ 14)] rfl rfl (wVM cI aJ J) rfl ?_
  refine y_if_ne (tgt := 25) Z dX5_mayAct_7 (by decide) (fun h1 => ?_) (fun h2 => ?_)
  · refine y_iconst (v := 0) Z dX5_mayAct_25 (by decide) ?_
    exact y_retZ Z hr hlk (by decide) dX5_mayAct_26 (by first | (simp only [myF, h1, if_true, if_false, not_false_eq_true, not_true_eq_false, ↓reduceIte]; done) | (simp only [myF, h1, if_true, if_false, not_false_eq_true, not_true_eq_false, ↓reduceIte, wMix, wLog, wPic, wRep, wScr, wVM, wMd, sR_eq, sR_ne, sF_eq, sF_ne, upd_eq, upd_ne, gs_eq, gs_ne, gm_4, gm_ne, Nat.reduceBEq]; done) | (with_reducible rfl) | contradiction | (simp only [myF, h1, if_true, if_false, not_false_eq_true, not_true_eq_false, ↓reduceIte]; rfl) | rfl) (by first | (simp only [myF, h1, if_true, if_false, not_false_eq_true, not_true_eq_false, ↓reduceIte]; done) | (simp only [myF, h1, if_true, if_false, not_false_eq_true, not_true_eq_false, ↓reduceIte, wMix, wLog, wPic, wRep, wScr, wVM, wMd, sR_eq, sR_ne, sF_eq, sF_ne, upd_eq, upd_ne, gs_eq, gs_ne, gm_4, gm_ne, Nat.reduceBEq]; done) | (with_reducible rfl) | contradiction | (simp only [myF, h1, if_true, if_false, not_false_eq_true, not_true_eq_false, ↓reduceIte]; rfl) | rfl)
  · refine y_aload_n Z dX5_mayAct_10 0 rfl rfl ?_
    refine y_get (C := RX5) (T := TX5) (N := 8) Z 5 inlX5 rfl 0 rfl 0 (by decide) fl_RX5_10 rfl dX5_mayAct_11 ?_
    refine y_iload_n Z dX5_mayAct_14 1 rfl rfl ?_
    refine y_VI Z (k_X1_isPossible l D ht0 (fun k => aJ (1 + k)) (J 0) w) (y_cwV 1 Z ml_RX5_215 im_X1_isPossible se_X1_isPossible in_X1 co_X1_isPossible rfl rfl hd_X1_isPossible ⟨Nat.le_of_ble_eq_true rfl, Nat.le_of_ble_eq_true rfl⟩) [1, 2, 3, 4] rfl (by decide) 1 1 rfl rfl rfl rfl (Nat.le_of_ble_eq_true rfl) dX5_mayAct_15 ⟨Nat.le_of_ble_eq_true rfl, Nat.le_of_ble_eq_true rfl⟩ [(aJ 1), (aJ 2), (aJ 3), (aJ 4)] rfl rfl (wVM cI aJ J) rfl ?_
    refine y_if_eq (tgt := 25) Z dX5_mayAct_18 (by decide) (fun h3 => ?_) (fun h4 => ?_)
    · refine y_iconst (v := 0) Z dX5_mayAct_25 (by decide) ?_
      exact y_retZ Z hr hlk (by decide) dX5_mayAct_26 (by first | (simp only [myF, eq_true h2, eq_true h3, if_true, if_false, not_false_eq_true, not_true_eq_false, ↓reduceIte]; done) | (simp only [myF, eq_true h2, eq_true h3, if_true, if_false, not_false_eq_true, not_true_eq_false, ↓reduceIte, wMix, wLog, wPic, wRep, wScr, wVM, wMd, sR_eq, sR_ne, sF_eq, sF_ne, upd_eq, upd_ne, gs_eq, gs_ne, gm_4, gm_ne, Nat.reduceBEq]; done) | (with_reducible rfl) | contradiction | (simp only [myF, eq_true h2, eq_true h3, if_true, if_false, not_false_eq_true, not_true_eq_false, ↓reduceIte]; rfl) | rfl) (by first | (simp only [myF, eq_true h2, eq_true h3, if_true, if_false, not_false_eq_true, not_true_eq_false, ↓reduceIte]; done) | (simp only [myF, eq_true h2, eq_true h3, if_true, if_false, not_false_eq_true, not_true_eq_false, ↓reduceIte, wMix, wLog, wPic, wRep, wScr, wVM, wMd, sR_eq, sR_ne, sF_eq, sF_ne, upd_eq, upd_ne, gs_eq, gs_ne, gm_4, gm_ne, Nat.reduceBEq]; done) | (with_reducible rfl) | contradiction | (simp only [myF, eq_true h2, eq_true h3, if_true, if_false, not_false_eq_true, not_true_eq_false, ↓reduceIte]; rfl) | rfl)
    · refine y_iconst (v := 1) Z dX5_mayAct_21 (by decide) ?_
      refine y_goto (tgt := 26) Z dX5_mayAct_22 (by decide) ?_
      exact y_retZ Z hr hlk (by decide) dX5_mayAct_26 (by first | (simp only [myF, eq_true h2, h4, if_true, if_false, not_false_eq_true, not_true_eq_false, ↓reduceIte]; done) | (simp only [myF, eq_true h2, h4, if_true, if_false, not_false_eq_true, not_true_eq_false, ↓reduceIte, wMix, wLog, wPic, wRep, wScr, wVM, wMd, sR_eq, sR_ne, sF_eq, sF_ne, upd_eq, upd_ne, gs_eq, gs_ne, gm_4, gm_ne, Nat.reduceBEq]; done) | (with_reducible rfl) | contradiction | (simp only [myF, eq_true h2, h4, if_true, if_false, not_false_eq_true, not_true_eq_false, ↓reduceIte]; rfl) | rfl) (by first | (simp only [myF, eq_true h2, h4, if_true, if_false, not_false_eq_true, not_true_eq_false, ↓reduceIte]; done) | (simp only [myF, eq_true h2, h4, if_true, if_false, not_false_eq_true, not_true_eq_false, ↓reduceIte, wMix, wLog, wPic, wRep, wScr, wVM, wMd, sR_eq, sR_ne, sF_eq, sF_ne, upd_eq, upd_ne, gs_eq, gs_ne, gm_4, gm_ne, Nat.reduceBEq]; done) | (with_reducible rfl) | contradiction | (simp only [myF, eq_true h2, h4, if_true, if_false, not_false_eq_true, not_true_eq_false, ↓reduceIte]; rfl) | rfl)
set_option maxHeartbeats 200000 in
set_option maxRecDepth 100000 in
theorem k_X5_enact (l : Launch) (D : va_G) {cI : ClassId} {tys : List (ClassId × FieldType)} (ht0 : tys[0]? = some (cI, .int)) (aJ : Nat → Nat) (J : Nat → Nat → Nat → Int32) (w : Int32) (a : Int32) (b : Int32) (c0 : Int32) (d0 : Int32) (h_m : okM J w) (sz : Nat) : kI l yX5_enact cX5_enact 6 (some .int) { frames := 6, cells := 0, slots := 0, locals := 89 } D tys [.ref (aJ 0), .int w, .int a, .int b, .int c0, .int d0] (wVM cI aJ J) (wVM cI aJ (vm_enact J w a b c0 d0)) (perfR (J 0) w a b c0 d0) 0 0 sz := by
  refine y_enterI (cc := cX5_enact) (maxL := 6) (ret := (some .int)) (own := RX5) (by decide) rfl (lv0 := [(0, .ref (aJ 0)), (1, .int w), (2, .int a), (3, .int b), (4, .int c0), (5, .int d0)]) rfl (Nat.le_of_ble_eq_true rfl) ?_
  intro p e s m args below meth c A Z hr hlk _
  refine y_aload_n Z dX5_enact_0 0 rfl rfl ?_
  refine y_iload_n Z dX5_enact_1 1 rfl rfl ?_
  refine y_VI Z (k_X5_mayAct l D ht0 aJ J w) (y_cwV 1 Z ml_RX5_218 im_X5_mayAct se_X5_mayAct in_X5 co_X5_mayAct rfl rfl hd_X5_mayAct ⟨Nat.le_of_ble_eq_true rfl, Nat.le_of_ble_eq_true rfl⟩) [0, 1, 2, 3, 4, 5, 6, 7, 8, 9, 10, 11, 12, 13, 14, 15, 16, 17, 18, 19, 20, 21, 22, 23, 24, 25, 26] rfl (by decide) 5 0 rfl rfl rfl rfl (Nat.le_of_ble_eq_true rfl) dX5_enact_2 ⟨Nat.le_of_ble_eq_true rfl, Nat.le_of_ble_eq_true rfl⟩ [(aJ 0), (aJ 1), (aJ 2), (aJ 3), (aJ 4), (aJ 5), (aJ 6), (aJ 7), (aJ 8), (aJ 9), (aJ 10), (aJ 11), (aJ 12), (aJ 13), (aJ 14), (aJ 15), (aJ 16), (aJ 17), (aJ 18), (aJ 19), (aJ 20), (aJ 21), (aJ 22), (aJ 23), (aJ 24), (aJ 25), (aJ 26)] rfl rfl (wVM cI aJ J) rfl ?_
  refine y_if_ne (tgt := 16) Z dX5_enact_5 (by decide) (fun h1 => ?_) (fun h2 => ?_)
  · refine y_aload_n Z dX5_enact_16 0 rfl rfl ?_
    refine y_get (C := RX5) (T := TX5) (N := 8) Z 5 inlX5 rfl 0 rfl 3 (by decide) fl_RX5_25 rfl dX5_enact_17 ?_
    refine y_aload_n Z dX5_enact_20 0 rfl rfl ?_
    refine y_get (C := RX5) (T := TX5) (N := 8) Z 5 inlX5 rfl 0 rfl 0 (by decide) fl_RX5_10 rfl dX5_enact_21 ?_
    refine y_getN (host := RX5) (C := RX1) (T := TX1) (N := 14) Z 1 inlX1 rfl 1 rfl 7 (by decide) nl_RX5_71 rfl dX5_enact_24 ?_
    refine y_iload_n Z dX5_enact_27 1 rfl rfl ?_
    refine y_iload_n Z dX5_enact_28 2 rfl rfl ?_
    refine y_iload_n Z dX5_enact_29 3 rfl rfl ?_
    refine y_iload Z dX5_enact_30 4 rfl ?_
    refine y_iload Z dX5_enact_32 5 rfl ?_
    refine y_VV Z (k_X0_add l D ht0 (fun k => aJ (13 + k)) (J 3) ((J 0) 0 7) w a b c0 d0) (y_cwV 6 Z ml_RX5_221 im_X0_add se_X0_add in_X0 co_X0_add rfl rfl hd_X0_add ⟨Nat.le_of_ble_eq_true rfl, Nat.le_of_ble_eq_true rfl⟩) [13, 14] rfl (by decide) 0 13 rfl rfl rfl rfl (Nat.le_of_ble_eq_true rfl) dX5_enact_34 ⟨Nat.le_of_ble_eq_true rfl, Nat.le_of_ble_eq_true rfl⟩ [(aJ 13), (aJ 14)] rfl rfl (wVMR cI aJ (J 0) (J 1) (J 2) (gt_ladd (J 3) ((J 0) 0 7) w a b c0 d0) (J 4) (J 5) (J 6) (J 7)) rfl ?_
    refine y_aload_n Z dX5_enact_37 0 rfl rfl ?_
    refine y_get (C := RX5) (T := TX5) (N := 8) Z 5 inlX5 rfl 0 rfl 0 (by decide) fl_RX5_10 rfl dX5_enact_38 ?_
    refine y_iload_n Z dX5_enact_41 1 rfl rfl ?_
    refine y_iload_n Z dX5_enact_42 2 rfl rfl ?_
    refine y_iload_n Z dX5_enact_43 3 rfl rfl ?_
    refine y_iload Z dX5_enact_44 4 rfl ?_
    refine y_iload Z dX5_enact_46 5 rfl ?_
    refine y_VI Z (k_X1_perform l D ht0 (fun k => aJ (1 + k)) (J 0) w a b c0 d0) (y_cwV 5 Z ml_RX5_224 im_X1_perform se_X1_perform in_X1 co_X1_perform rfl rfl hd_X1_perform ⟨Nat.le_of_ble_eq_true rfl, Nat.le_of_ble_eq_true rfl⟩) [1, 2, 3, 4] rfl (by decide) 1 1 rfl rfl rfl rfl (Nat.le_of_ble_eq_true rfl) dX5_enact_48 ⟨Nat.le_of_ble_eq_true rfl, Nat.le_of_ble_eq_true rfl⟩ [(aJ 1), (aJ 2), (aJ 3), (aJ 4)] rfl rfl (wVMR cI aJ (perfM (J 0) w a b c0 d0) (J 1) (J 2) (gt_ladd (J 3) ((J 0) 0 7) w a b c0 d0) (J 4) (J 5) (J 6) (J 7)) rfl ?_
    exact y_retI Z hr hlk dX5_enact_51 (by first | (simp only [vm_enact, h1, if_true, if_false, not_false_eq_true, not_true_eq_false, ↓reduceIte]; done) | (simp only [vm_enact, h1, if_true, if_false, not_false_eq_true, not_true_eq_false, ↓reduceIte, wMix, wLog, wPic, wRep, wScr, wVM, wMd, sR_eq, sR_ne, sF_eq, sF_ne, upd_eq, upd_ne, gs_eq, gs_ne, gm_4, gm_ne, Nat.reduceBEq]; done) | (with_reducible rfl) | contradiction | (simp only [vm_enact, h1, if_true, if_false, not_false_eq_true, not_true_eq_false, ↓reduceIte]; rfl) | rfl) (by first | (simp only [vm_enact, h1, if_true, if_false, not_false_eq_true, not_true_eq_false, ↓reduceIte]; done) | (simp only [vm_enact, h1, if_true, if_false, not_false_eq_true, not_true_eq_false, ↓reduceIte, wMix, wLog, wPic, wRep, wScr, wVM, wMd, sR_eq, sR_ne, sF_eq, sF_ne, upd_eq, upd_ne, gs_eq, gs_ne, gm_4, gm_ne, Nat.reduceBEq]; done) | (with_reducible rfl) | contradiction | (simp only [vm_enact, h1, if_true, if_false, not_false_eq_true, not_true_eq_false, ↓reduceIte]; rfl) | rfl)
  · exact absurd h_m (by simp only [okS, okK, okR, okM, okT, okA, okP, okU, okB, okW, eq_true h2, if_true, if_false, not_false_eq_true, not_true_eq_false, ↓reduceIte, and_true, true_and, and_false, false_and])
set_option maxHeartbeats 200000 in
set_option maxRecDepth 100000 in
theorem k_X5_enact_b0 (l : Launch) (htr : l.stackTraces = false) (D : va_G) {cI : ClassId} {tys : List (ClassId × FieldType)} (ht0 : tys[0]? = some (cI, .int)) (aJ : Nat → Nat) (J : Nat → Nat → Nat → Int32) (w : Int32) (a : Int32) (b : Int32) (c0 : Int32) (d0 : Int32) (h_bad : ¬ (okM J w)) (sz : Nat) : kB l yX5_enact cX5_enact 6 (some .int) { frames := 6, cells := 1, slots := 6, locals := 89 } D tys [.ref (aJ 0), .int w, .int a, .int b, .int c0, .int d0] (wVM cI aJ J) "java/lang/IllegalStateException" sz := by
  refine y_enterB (cc := cX5_enact) (maxL := 6) (ret := (some .int)) (own := RX5) htr (by decide) rfl (lv0 := [(0, .ref (aJ 0)), (1, .int w), (2, .int a), (3, .int b), (4, .int c0), (5, .int d0)]) rfl (Nat.le_of_ble_eq_true rfl) ?_
  intro p e s m args below meth c A Z X hr hlk
  refine y_aload_n Z dX5_enact_0 0 rfl rfl ?_
  refine y_iload_n Z dX5_enact_1 1 rfl rfl ?_
  refine y_VI Z (k_X5_mayAct l D ht0 aJ J w) (y_cwV 1 Z ml_RX5_218 im_X5_mayAct se_X5_mayAct in_X5 co_X5_mayAct rfl rfl hd_X5_mayAct ⟨Nat.le_of_ble_eq_true rfl, Nat.le_of_ble_eq_true rfl⟩) [0, 1, 2, 3, 4, 5, 6, 7, 8, 9, 10, 11, 12, 13, 14, 15, 16, 17, 18, 19, 20, 21, 22, 23, 24, 25, 26] rfl (by decide) 5 0 rfl rfl rfl rfl (Nat.le_of_ble_eq_true rfl) dX5_enact_2 ⟨Nat.le_of_ble_eq_true rfl, Nat.le_of_ble_eq_true rfl⟩ [(aJ 0), (aJ 1), (aJ 2), (aJ 3), (aJ 4), (aJ 5), (aJ 6), (aJ 7), (aJ 8), (aJ 9), (aJ 10), (aJ 11), (aJ 12), (aJ 13), (aJ 14), (aJ 15), (aJ 16), (aJ 17), (aJ 18), (aJ 19), (aJ 20), (aJ 21), (aJ 22), (aJ 23), (aJ 24), (aJ 25), (aJ 26)] rfl rfl (wVM cI aJ J) rfl ?_
  refine y_if_ne (tgt := 16) Z dX5_enact_5 (by decide) (fun h1 => ?_) (fun h2 => ?_)
  · exact absurd (show okM J w by simp only [okS, okK, okR, okM, okT, okA, okP, okU, okB, okW, h1, if_true, if_false, not_false_eq_true, not_true_eq_false, ↓reduceIte, and_true, true_and, and_false, false_and]) h_bad
  · exact y_throw Z X hlk yEx yx_f75 yx_names cl_RX5_75 in_IllegalStateException yx_a75 yx_b75 yx_g75 dX5_enact_8 dX5_enact_11 dX5_enact_12 dX5_enact_15 (Nat.le_of_ble_eq_true rfl) (Nat.le_of_ble_eq_true rfl) (Nat.le_of_ble_eq_true rfl) (Nat.le_of_ble_eq_true rfl) (Nat.le_of_ble_eq_true rfl) (Nat.le_of_ble_eq_true rfl)
