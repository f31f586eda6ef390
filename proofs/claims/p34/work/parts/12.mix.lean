def bitF (q k : Int32) : Int32 := if (q >>> (k &&& 31)) &&& 1 = 0 then 0 else 1
def onF (M : Nat → Nat → Int32) (k : Int32) : Int32 := if (M 0 10 >>> (k &&& 31)) &&& 1 = 0 then 0 else 1
def mvF (M : Nat → Nat → Int32) (k : Int32) : Int32 := if (M 0 4 >>> ((1 + k) &&& 31)) &&& 1 = 0 then 0 else 1
def mbF (M : Nat → Nat → Int32) : Int32 := if M 0 4 &&& 1 = 0 then 0 else 1
def fullF (M : Nat → Nat → Int32) (k : Int32) : Int32 := cellF (M 2) 3 k * cellF (M 3) 3 k
def coverF (M : Nat → Nat → Int32) (k : Int32) : Int32 := if mvF M k = 0 then (if onF M k = 0 then 0 else fullF M k) else fullF M k * (if onF M k = 0 then M 0 5 else 1000 - M 0 5) / 1000
def gt_cp2 (M : Nat → Nat → Int32) : Nat → Nat → Int32 := sF (sF (sF M 0 10 (M 0 10 ^^^ (M 0 4 >>> (1 &&& 31)))) 0 5 0) 0 6 (-1)
def gt_cp3 (M : Nat → Nat → Int32) : Nat → Nat → Int32 := sF (sF M 0 0 (M 0 1)) 0 1 (M 0 0)
def gt_complete (M : Nat → Nat → Int32) : Nat → Nat → Int32 := if mbF M = 0 then gt_cp2 M else gt_cp2 (gt_cp3 M)
def gt_lp3 (fr : Int32) (M : Nat → Nat → Int32) : Nat → Nat → Int32 := sF (sF (sF M 0 7 (M 0 7 + fr)) 0 6 (M 0 6 + fr)) 0 5 (if M 0 3 ≤ 0 then 0 else (M 0 6 + fr) * 1000 / M 0 3)
def gt_rc (M : Nat → Nat → Int32) : Nat → Nat → Int32 := sF M 0 8 (M 0 8 + 1)
def gt_lp2 (fr : Int32) (M : Nat → Nat → Int32) : Nat → Nat → Int32 := if fr < (if 1 < M 0 3 - M 0 6 then M 0 3 - M 0 6 else 1) then gt_lp3 fr M else gt_rc (gt_complete (sF M 0 7 (M 0 7 + fr)))
def gt_letPass (fr : Int32) (M : Nat → Nat → Int32) : Nat → Nat → Int32 := if 0 < fr then (if M 0 6 = -1 then sF M 0 7 (M 0 7 + fr) else gt_lp2 fr M) else M
def tellF (M : Nat → Nat → Int32) (w : Int32) : Int32 := if w = 0 then M 0 0 else if w = 1 then M 0 1 else if w = 2 then M 0 2 else if w = 3 then M 0 3 else if w = 4 then M 0 4 else if w = 5 then M 0 5 else if w = 6 then M 0 6 else if w = 7 then M 0 7 else -1
def tellK (M : Nat → Nat → Int32) (k w : Int32) : Int32 := if w = 0 then cellF (M 1) 3 k else if w = 1 then cellF (M 2) 3 k else if w = 2 then cellF (M 3) 3 k else if onF M k = 0 then 0 else 1
def possF (M : Nat → Nat → Int32) (w : Int32) : Int32 := if w = 3 then (if M 0 5 = 0 then (if M 0 6 = -1 then 1 else 0) else 0) else if w = 7 then (if M 0 5 = 0 then (if M 0 6 = -1 then 1 else 0) else 0) else if w = 8 then (if M 0 6 = -1 then 1 else 0) else 1
def gt_mput (r : Nat) (i v : Int32) (M : Nat → Nat → Int32) : Nat → Nat → Int32 := sR M r (putF (M r) 3 i v)
def gt_setKeyer (M : Nat → Nat → Int32) (k f o a : Int32) : Nat → Nat → Int32 := gt_mput 3 k a (gt_mput 2 k o (gt_mput 1 k f M))
def gt_switch (M : Nat → Nat → Int32) (k : Int32) : Nat → Nat → Int32 := sF M 0 10 (M 0 10 ^^^ (1 <<< (k &&& 31)))
def gt_setPos (M : Nat → Nat → Int32) (v : Int32) : Nat → Nat → Int32 := if v = 1000 then gt_complete (sF M 0 5 v) else sF M 0 5 v
def gt_setFault (M : Nat → Nat → Int32) (a b : Int32) : Nat → Nat → Int32 := sF M 0 9 ((M 0 9 &&& ((1 <<< (a &&& 31)) ^^^ (-1))) ||| (b <<< (a &&& 31)))
def swR (M : Nat → Nat → Int32) (k : Int32) : Int32 := if onF (gt_switch M k) k = 0 then 0 else 1
def perfR (M : Nat → Nat → Int32) (w a b c d : Int32) : Int32 := if w = 0 then M 0 0 else if w = 1 then M 0 1 else if w = 2 then M 0 2 else if w = 3 then M 0 4 else if w = 4 then cellF (M 1) 3 a else if w = 5 then swR M a else if w = 6 then gt_complete M 0 0 else if w = 7 then M 0 3 else if w = 8 then M 0 5 else if w = 9 then (M 0 9 >>> (a &&& 31)) &&& 1 else -1
def perfM (M : Nat → Nat → Int32) (w a b c d : Int32) : Nat → Nat → Int32 := if w = 0 then sF M 0 0 a else if w = 1 then sF M 0 1 a else if w = 2 then sF (sF M 0 2 a) 0 3 b else if w = 3 then sF M 0 4 a else if w = 4 then gt_setKeyer M a b c d else if w = 5 then gt_switch M a else if w = 6 then gt_complete M else if w = 7 then sF M 0 6 0 else if w = 8 then gt_setPos M a else if w = 9 then gt_setFault M a b else M
def gt_resetI (M : Nat → Nat → Int32) : Nat → Nat → Int32 := sF (sF (sF (sF (sF (sF (sF (sF (sF (sF (sF M 0 0 1) 0 1 2) 0 2 0) 0 3 25) 0 4 1) 0 5 0) 0 6 (-1)) 0 7 0) 0 8 0) 0 9 0) 0 10 0
def gt_resetS (k : Nat) (M : Nat → Nat → Int32) : Nat → Nat → Int32 := gt_mput 3 (nI k) 25 (gt_mput 2 (nI k) 100 (gt_mput 1 (nI k) (3 + nI k) M))
def gt_reset (M : Nat → Nat → Int32) : Nat → Nat → Int32 := it gt_resetS 3 (gt_resetI M)
def gt_copyI (M N : Nat → Nat → Int32) : Nat → Nat → Int32 := sF (sF (sF (sF (sF (sF (sF (sF (sF (sF (sF M 0 0 (N 0 0)) 0 1 (N 0 1)) 0 2 (N 0 2)) 0 3 (N 0 3)) 0 4 (N 0 4)) 0 5 (N 0 5)) 0 6 (N 0 6)) 0 7 (N 0 7)) 0 8 (N 0 8)) 0 9 (N 0 9)) 0 10 (N 0 10)
def gt_copyS (N : Nat → Nat → Int32) (k : Nat) (M : Nat → Nat → Int32) : Nat → Nat → Int32 := gt_mput 3 (nI k) (cellF (N 3) 3 (nI k)) (gt_mput 2 (nI k) (cellF (N 2) 3 (nI k)) (gt_mput 1 (nI k) (cellF (N 1) 3 (nI k)) M))
def gt_copy (M N : Nat → Nat → Int32) : Nat → Nat → Int32 := it (gt_copyS N) 3 (gt_copyI M N)
set_option maxHeartbeats 4000000 in
set_option maxRecDepth 100000 in
theorem k_X5_cell (l : Launch) (D : va_G) {cI : ClassId} {tys : List (ClassId × FieldType)} (ht0 : tys[0]? = some (cI, .int)) (a0 n : Nat) (f : Nat → Int32) (i : Int32) (h_n : n < 2 ^ 31) (sz : Nat) : kI l yX5_cell cX5_cell 2 (some .int) { frames := 0, cells := 0, slots := 0, locals := 0 } D tys [.ref a0, .int i] (wArr cI a0 n f) (wArr cI a0 n f) (cellF f n i) 0 0 sz := by
  refine y_enterI (cc := cX5_cell) (maxL := 2) (ret := (some .int)) (own := RX5) (by decide) rfl (lv0 := [(0, .ref a0), (1, .int i)]) rfl (Nat.le_of_ble_eq_true rfl) ?_
  intro p e s m args below meth c A Z hr hlk _
  refine y_iload_n Z dX5_cell_0 1 rfl rfl ?_
  refine y_if_lt (tgt := 16) Z dX5_cell_1 (by decide) (fun h1 => ?_) (fun h2 => ?_)
  · refine y_iconst (v := -1) Z dX5_cell_16 (by decide) ?_
    exact y_retI Z hr hlk dX5_cell_17 (by first | (simp only [cellF, h1, if_true, if_false, not_false_eq_true, not_true_eq_false, ↓reduceIte]; done) | (simp only [cellF, h1, if_true, if_false, not_false_eq_true, not_true_eq_false, ↓reduceIte, wMix, wLog, wPic, wRep, wScr, wVM, wMd, sR_eq, sR_ne, sF_eq, sF_ne, upd_eq, upd_ne, gs_eq, gs_ne, gm_4, gm_ne, Nat.reduceBEq]; done) | (with_reducible rfl) | (simp only [cellF, h1, if_true, if_false, not_false_eq_true, not_true_eq_false, ↓reduceIte]; rfl) | rfl) (by first | (simp only [cellF, h1, if_true, if_false, not_false_eq_true, not_true_eq_false, ↓reduceIte]; done) | (simp only [cellF, h1, if_true, if_false, not_false_eq_true, not_true_eq_false, ↓reduceIte, wMix, wLog, wPic, wRep, wScr, wVM, wMd, sR_eq, sR_ne, sF_eq, sF_ne, upd_eq, upd_ne, gs_eq, gs_ne, gm_4, gm_ne, Nat.reduceBEq]; done) | (with_reducible rfl) | (simp only [cellF, h1, if_true, if_false, not_false_eq_true, not_true_eq_false, ↓reduceIte]; rfl) | rfl)
  · refine y_iload_n Z dX5_cell_4 1 rfl rfl ?_
    refine y_aload_n Z dX5_cell_5 0 rfl rfl ?_
    refine y_alen Z 0 0 rfl ht0 dX5_cell_6 ?_
    refine y_icmp_ge (tgt := 16) Z dX5_cell_7 (by decide) (fun h3 => ?_) (fun h4 => ?_)
    · refine y_iconst (v := -1) Z dX5_cell_16 (by decide) ?_
      exact y_retI Z hr hlk dX5_cell_17 (by first | (simp only [cellF, h2, h3, if_true, if_false, not_false_eq_true, not_true_eq_false, ↓reduceIte]; done) | (simp only [cellF, h2, h3, if_true, if_false, not_false_eq_true, not_true_eq_false, ↓reduceIte, wMix, wLog, wPic, wRep, wScr, wVM, wMd, sR_eq, sR_ne, sF_eq, sF_ne, upd_eq, upd_ne, gs_eq, gs_ne, gm_4, gm_ne, Nat.reduceBEq]; done) | (with_reducible rfl) | (simp only [cellF, h2, h3, if_true, if_false, not_false_eq_true, not_true_eq_false, ↓reduceIte]; rfl) | rfl) (by first | (simp only [cellF, h2, h3, if_true, if_false, not_false_eq_true, not_true_eq_false, ↓reduceIte]; done) | (simp only [cellF, h2, h3, if_true, if_false, not_false_eq_true, not_true_eq_false, ↓reduceIte, wMix, wLog, wPic, wRep, wScr, wVM, wMd, sR_eq, sR_ne, sF_eq, sF_ne, upd_eq, upd_ne, gs_eq, gs_ne, gm_4, gm_ne, Nat.reduceBEq]; done) | (with_reducible rfl) | (simp only [cellF, h2, h3, if_true, if_false, not_false_eq_true, not_true_eq_false, ↓reduceIte]; rfl) | rfl)
    · refine y_aload_n Z dX5_cell_10 0 rfl rfl ?_
      refine y_iload_n Z dX5_cell_11 1 rfl rfl ?_
      refine y_iald Z 0 0 rfl ht0 (y_vin h_n h2 h4) (Int32.toNatClampNeg i) rfl dX5_cell_12 ?_
      refine y_goto (tgt := 17) Z dX5_cell_13 (by decide) ?_
      exact y_retI Z hr hlk dX5_cell_17 (by first | (simp only [cellF, h2, h4, if_true, if_false, not_false_eq_true, not_true_eq_false, ↓reduceIte]; done) | (simp only [cellF, h2, h4, if_true, if_false, not_false_eq_true, not_true_eq_false, ↓reduceIte, wMix, wLog, wPic, wRep, wScr, wVM, wMd, sR_eq, sR_ne, sF_eq, sF_ne, upd_eq, upd_ne, gs_eq, gs_ne, gm_4, gm_ne, Nat.reduceBEq]; done) | (with_reducible rfl) | (simp only [cellF, h2, h4, if_true, if_false, not_false_eq_true, not_true_eq_false, ↓reduceIte]; rfl) | rfl) (by first | (simp only [cellF, h2, h4, if_true, if_false, not_false_eq_true, not_true_eq_false, ↓reduceIte]; done) | (simp only [cellF, h2, h4, if_true, if_false, not_false_eq_true, not_true_eq_false, ↓reduceIte, wMix, wLog, wPic, wRep, wScr, wVM, wMd, sR_eq, sR_ne, sF_eq, sF_ne, upd_eq, upd_ne, gs_eq, gs_ne, gm_4, gm_ne, Nat.reduceBEq]; done) | (with_reducible rfl) | (simp only [cellF, h2, h4, if_true, if_false, not_false_eq_true, not_true_eq_false, ↓reduceIte]; rfl) | rfl)
set_option maxHeartbeats 4000000 in
set_option maxRecDepth 100000 in
theorem k_X5_put (l : Launch) (D : va_G) {cI : ClassId} {tys : List (ClassId × FieldType)} (ht0 : tys[0]? = some (cI, .int)) (a0 n : Nat) (f : Nat → Int32) (i : Int32) (v : Int32) (h_n : n < 2 ^ 31) (sz : Nat) : kV l yX5_put cX5_put 3 none { frames := 0, cells := 0, slots := 0, locals := 0 } D tys [.ref a0, .int i, .int v] (wArr cI a0 n f) (wArr cI a0 n (putF f n i v)) 0 0 sz := by
  refine y_enterV (cc := cX5_put) (maxL := 3) (ret := none) (own := RX5) (by decide) rfl (lv0 := [(0, .ref a0), (1, .int i), (2, .int v)]) rfl (Nat.le_of_ble_eq_true rfl) ?_
  intro p e s m args below meth c A Z hr hlk _
  refine y_iload_n Z dX5_put_0 1 rfl rfl ?_
  refine y_if_lt (tgt := 14) Z dX5_put_1 (by decide) (fun h1 => ?_) (fun h2 => ?_)
  · exact y_retV Z hr hlk dX5_put_14 (by first | (simp only [putF, h1, if_true, if_false, not_false_eq_true, not_true_eq_false, ↓reduceIte]; done) | (simp only [putF, h1, if_true, if_false, not_false_eq_true, not_true_eq_false, ↓reduceIte, wMix, wLog, wPic, wRep, wScr, wVM, wMd, sR_eq, sR_ne, sF_eq, sF_ne, upd_eq, upd_ne, gs_eq, gs_ne, gm_4, gm_ne, Nat.reduceBEq]; done) | (with_reducible rfl) | (simp only [putF, h1, if_true, if_false, not_false_eq_true, not_true_eq_false, ↓reduceIte]; rfl) | rfl)
  · refine y_iload_n Z dX5_put_4 1 rfl rfl ?_
    refine y_aload_n Z dX5_put_5 0 rfl rfl ?_
    refine y_alen Z 0 0 rfl ht0 dX5_put_6 ?_
    refine y_icmp_ge (tgt := 14) Z dX5_put_7 (by decide) (fun h3 => ?_) (fun h4 => ?_)
    · exact y_retV Z hr hlk dX5_put_14 (by first | (simp only [putF, h2, h3, if_true, if_false, not_false_eq_true, not_true_eq_false, ↓reduceIte]; done) | (simp only [putF, h2, h3, if_true, if_false, not_false_eq_true, not_true_eq_false, ↓reduceIte, wMix, wLog, wPic, wRep, wScr, wVM, wMd, sR_eq, sR_ne, sF_eq, sF_ne, upd_eq, upd_ne, gs_eq, gs_ne, gm_4, gm_ne, Nat.reduceBEq]; done) | (with_reducible rfl) | (simp only [putF, h2, h3, if_true, if_false, not_false_eq_true, not_true_eq_false, ↓reduceIte]; rfl) | rfl)
    · refine y_aload_n Z dX5_put_10 0 rfl rfl ?_
      refine y_iload_n Z dX5_put_11 1 rfl rfl ?_
      refine y_iload_n Z dX5_put_12 2 rfl rfl ?_
      refine y_iast Z 0 0 rfl ht0 (y_vin h_n h2 h4) (Int32.toNatClampNeg i) rfl (wArr cI a0 n (upd f (Int32.toNatClampNeg i) v)) rfl dX5_put_13 ?_
      exact y_retV Z hr hlk dX5_put_14 (by first | (simp only [putF, h2, h4, if_true, if_false, not_false_eq_true, not_true_eq_false, ↓reduceIte]; done) | (simp only [putF, h2, h4, if_true, if_false, not_false_eq_true, not_true_eq_false, ↓reduceIte, wMix, wLog, wPic, wRep, wScr, wVM, wMd, sR_eq, sR_ne, sF_eq, sF_ne, upd_eq, upd_ne, gs_eq, gs_ne, gm_4, gm_ne, Nat.reduceBEq]; done) | (with_reducible rfl) | (simp only [putF, h2, h4, if_true, if_false, not_false_eq_true, not_true_eq_false, ↓reduceIte]; rfl) | rfl)
set_option maxHeartbeats 4000000 in
set_option maxRecDepth 100000 in
theorem k_X5_hasSource (l : Launch) (D : va_G) {cI : ClassId} {tys : List (ClassId × FieldType)} (ht0 : tys[0]? = some (cI, .int)) (q : Int32) (k : Int32) (sz : Nat) : kI l yX5_hasSource cX5_hasSource 2 (some .boolean) { frames := 0, cells := 0, slots := 0, locals := 0 } D tys [.int q, .int k] ([] : va_W) ([] : va_W) (bitF q k) 0 0 sz := by
  refine y_enterI (cc := cX5_hasSource) (maxL := 2) (ret := (some .boolean)) (own := RX5) (by decide) rfl (lv0 := [(0, .int q), (1, .int k)]) rfl (Nat.le_of_ble_eq_true rfl) ?_
  intro p e s m args below meth c A Z hr hlk _
  refine y_iload_n Z dX5_hasSource_0 0 rfl rfl ?_
  refine y_iload_n Z dX5_hasSource_1 1 rfl rfl ?_
  refine y_ishr Z dX5_hasSource_2 ?_
  refine y_iconst (v := 1) Z dX5_hasSource_3 (by decide) ?_
  refine y_iand Z dX5_hasSource_4 ?_
  refine y_if_eq (tgt := 12) Z dX5_hasSource_5 (by decide) (fun h1 => ?_) (fun h2 => ?_)
  · refine y_iconst (v := 0) Z dX5_hasSource_12 (by decide) ?_
    exact y_retZ Z hr hlk (by decide) dX5_hasSource_13 (by first | (simp only [bitF, eq_true h1, if_true, if_false, not_false_eq_true, not_true_eq_false, ↓reduceIte]; done) | (simp only [bitF, eq_true h1, if_true, if_false, not_false_eq_true, not_true_eq_false, ↓reduceIte, wMix, wLog, wPic, wRep, wScr, wVM, wMd, sR_eq, sR_ne, sF_eq, sF_ne, upd_eq, upd_ne, gs_eq, gs_ne, gm_4, gm_ne, Nat.reduceBEq]; done) | (with_reducible rfl) | (simp only [bitF, eq_true h1, if_true, if_false, not_false_eq_true, not_true_eq_false, ↓reduceIte]; rfl) | rfl) (by first | (simp only [bitF, eq_true h1, if_true, if_false, not_false_eq_true, not_true_eq_false, ↓reduceIte]; done) | (simp only [bitF, eq_true h1, if_true, if_false, not_false_eq_true, not_true_eq_false, ↓reduceIte, wMix, wLog, wPic, wRep, wScr, wVM, wMd, sR_eq, sR_ne, sF_eq, sF_ne, upd_eq, upd_ne, gs_eq, gs_ne, gm_4, gm_ne, Nat.reduceBEq]; done) | (with_reducible rfl) | (simp only [bitF, eq_true h1, if_true, if_false, not_false_eq_true, not_true_eq_false, ↓reduceIte]; rfl) | rfl)
  · refine y_iconst (v := 1) Z dX5_hasSource_8 (by decide) ?_
    refine y_goto (tgt := 13) Z dX5_hasSource_9 (by decide) ?_
    exact y_retZ Z hr hlk (by decide) dX5_hasSource_13 (by first | (simp only [bitF, h2, if_true, if_false, not_false_eq_true, not_true_eq_false, ↓reduceIte]; done) | (simp only [bitF, h2, if_true, if_false, not_false_eq_true, not_true_eq_false, ↓reduceIte, wMix, wLog, wPic, wRep, wScr, wVM, wMd, sR_eq, sR_ne, sF_eq, sF_ne, upd_eq, upd_ne, gs_eq, gs_ne, gm_4, gm_ne, Nat.reduceBEq]; done) | (with_reducible rfl) | (simp only [bitF, h2, if_true, if_false, not_false_eq_true, not_true_eq_false, ↓reduceIte]; rfl) | rfl) (by first | (simp only [bitF, h2, if_true, if_false, not_false_eq_true, not_true_eq_false, ↓reduceIte]; done) | (simp only [bitF, h2, if_true, if_false, not_false_eq_true, not_true_eq_false, ↓reduceIte, wMix, wLog, wPic, wRep, wScr, wVM, wMd, sR_eq, sR_ne, sF_eq, sF_ne, upd_eq, upd_ne, gs_eq, gs_ne, gm_4, gm_ne, Nat.reduceBEq]; done) | (with_reducible rfl) | (simp only [bitF, h2, if_true, if_false, not_false_eq_true, not_true_eq_false, ↓reduceIte]; rfl) | rfl)
set_option maxHeartbeats 4000000 in
set_option maxRecDepth 100000 in
theorem k_X1_isOn (l : Launch) (D : va_G) {cI : ClassId} {tys : List (ClassId × FieldType)} (ht0 : tys[0]? = some (cI, .int)) (aM : Nat → Nat) (M : Nat → Nat → Int32) (k : Int32) (sz : Nat) : kI l yX1_isOn cX1_isOn 2 (some .boolean) { frames := 0, cells := 0, slots := 0, locals := 0 } D tys [.ref (aM 0), .int k] (wMix cI aM M) (wMix cI aM M) (onF M k) 0 0 sz := by
  refine y_enterI (cc := cX1_isOn) (maxL := 2) (ret := (some .boolean)) (own := RX1) (by decide) rfl (lv0 := [(0, .ref (aM 0)), (1, .int k)]) rfl (Nat.le_of_ble_eq_true rfl) ?_
  intro p e s m args below meth c A Z hr hlk _
  refine y_aload_n Z dX1_isOn_0 0 rfl rfl ?_
  refine y_get (C := RX1) (T := TX1) (N := 14) Z 1 inlX1 rfl 0 rfl 10 (by decide) fl_RX1_55 rfl dX1_isOn_1 ?_
  refine y_iload_n Z dX1_isOn_4 1 rfl rfl ?_
  refine y_ishr Z dX1_isOn_5 ?_
  refine y_iconst (v := 1) Z dX1_isOn_6 (by decide) ?_
  refine y_iand Z dX1_isOn_7 ?_
  refine y_if_eq (tgt := 15) Z dX1_isOn_8 (by decide) (fun h1 => ?_) (fun h2 => ?_)
  · refine y_iconst (v := 0) Z dX1_isOn_15 (by decide) ?_
    exact y_retZ Z hr hlk (by decide) dX1_isOn_16 (by first | (simp only [onF, eq_true h1, if_true, if_false, not_false_eq_true, not_true_eq_false, ↓reduceIte]; done) | (simp only [onF, eq_true h1, if_true, if_false, not_false_eq_true, not_true_eq_false, ↓reduceIte, wMix, wLog, wPic, wRep, wScr, wVM, wMd, sR_eq, sR_ne, sF_eq, sF_ne, upd_eq, upd_ne, gs_eq, gs_ne, gm_4, gm_ne, Nat.reduceBEq]; done) | (with_reducible rfl) | (simp only [onF, eq_true h1, if_true, if_false, not_false_eq_true, not_true_eq_false, ↓reduceIte]; rfl) | rfl) (by first | (simp only [onF, eq_true h1, if_true, if_false, not_false_eq_true, not_true_eq_false, ↓reduceIte]; done) | (simp only [onF, eq_true h1, if_true, if_false, not_false_eq_true, not_true_eq_false, ↓reduceIte, wMix, wLog, wPic, wRep, wScr, wVM, wMd, sR_eq, sR_ne, sF_eq, sF_ne, upd_eq, upd_ne, gs_eq, gs_ne, gm_4, gm_ne, Nat.reduceBEq]; done) | (with_reducible rfl) | (simp only [onF, eq_true h1, if_true, if_false, not_false_eq_true, not_true_eq_false, ↓reduceIte]; rfl) | rfl)
  · refine y_iconst (v := 1) Z dX1_isOn_11 (by decide) ?_
    refine y_goto (tgt := 16) Z dX1_isOn_12 (by decide) ?_
    exact y_retZ Z hr hlk (by decide) dX1_isOn_16 (by first | (simp only [onF, h2, if_true, if_false, not_false_eq_true, not_true_eq_false, ↓reduceIte]; done) | (simp only [onF, h2, if_true, if_false, not_false_eq_true, not_true_eq_false, ↓reduceIte, wMix, wLog, wPic, wRep, wScr, wVM, wMd, sR_eq, sR_ne, sF_eq, sF_ne, upd_eq, upd_ne, gs_eq, gs_ne, gm_4, gm_ne, Nat.reduceBEq]; done) | (with_reducible rfl) | (simp only [onF, h2, if_true, if_false, not_false_eq_true, not_true_eq_false, ↓reduceIte]; rfl) | rfl) (by first | (simp only [onF, h2, if_true, if_false, not_false_eq_true, not_true_eq_false, ↓reduceIte]; done) | (simp only [onF, h2, if_true, if_false, not_false_eq_true, not_true_eq_false, ↓reduceIte, wMix, wLog, wPic, wRep, wScr, wVM, wMd, sR_eq, sR_ne, sF_eq, sF_ne, upd_eq, upd_ne, gs_eq, gs_ne, gm_4, gm_ne, Nat.reduceBEq]; done) | (with_reducible rfl) | (simp only [onF, h2, if_true, if_false, not_false_eq_true, not_true_eq_false, ↓reduceIte]; rfl) | rfl)
set_option maxHeartbeats 4000000 in
set_option maxRecDepth 100000 in
theorem k_X1_moves (l : Launch) (D : va_G) {cI : ClassId} {tys : List (ClassId × FieldType)} (ht0 : tys[0]? = some (cI, .int)) (aM : Nat → Nat) (M : Nat → Nat → Int32) (k : Int32) (sz : Nat) : kI l yX1_moves cX1_moves 2 (some .boolean) { frames := 0, cells := 0, slots := 0, locals := 0 } D tys [.ref (aM 0), .int k] (wMix cI aM M) (wMix cI aM M) (mvF M k) 0 0 sz := by
  refine y_enterI (cc := cX1_moves) (maxL := 2) (ret := (some .boolean)) (own := RX1) (by decide) rfl (lv0 := [(0, .ref (aM 0)), (1, .int k)]) rfl (Nat.le_of_ble_eq_true rfl) ?_
  intro p e s m args below meth c A Z hr hlk _
  refine y_aload_n Z dX1_moves_0 0 rfl rfl ?_
  refine y_get (C := RX1) (T := TX1) (N := 14) Z 1 inlX1 rfl 0 rfl 4 (by decide) fl_RX1_37 rfl dX1_moves_1 ?_
  refine y_iconst (v := 1) Z dX1_moves_4 (by decide) ?_
  refine y_iload_n Z dX1_moves_5 1 rfl rfl ?_
  refine y_iadd Z dX1_moves_6 ?_
  refine y_ishr Z dX1_moves_7 ?_
  refine y_iconst (v := 1) Z dX1_moves_8 (by decide) ?_
  refine y_iand Z dX1_moves_9 ?_
  refine y_if_eq (tgt := 17) Z dX1_moves_10 (by decide) (fun h1 => ?_) (fun h2 => ?_)
  · refine y_iconst (v := 0) Z dX1_moves_17 (by decide) ?_
    exact y_retZ Z hr hlk (by decide) dX1_moves_18 (by first | (simp only [mvF, eq_true h1, if_true, if_false, not_false_eq_true, not_true_eq_false, ↓reduceIte]; done) | (simp only [mvF, eq_true h1, if_true, if_false, not_false_eq_true, not_true_eq_false, ↓reduceIte, wMix, wLog, wPic, wRep, wScr, wVM, wMd, sR_eq, sR_ne, sF_eq, sF_ne, upd_eq, upd_ne, gs_eq, gs_ne, gm_4, gm_ne, Nat.reduceBEq]; done) | (with_reducible rfl) | (simp only [mvF, eq_true h1, if_true, if_false, not_false_eq_true, not_true_eq_false, ↓reduceIte]; rfl) | rfl) (by first | (simp only [mvF, eq_true h1, if_true, if_false, not_false_eq_true, not_true_eq_false, ↓reduceIte]; done) | (simp only [mvF, eq_true h1, if_true, if_false, not_false_eq_true, not_true_eq_false, ↓reduceIte, wMix, wLog, wPic, wRep, wScr, wVM, wMd, sR_eq, sR_ne, sF_eq, sF_ne, upd_eq, upd_ne, gs_eq, gs_ne, gm_4, gm_ne, Nat.reduceBEq]; done) | (with_reducible rfl) | (simp only [mvF, eq_true h1, if_true, if_false, not_false_eq_true, not_true_eq_false, ↓reduceIte]; rfl) | rfl)
  · refine y_iconst (v := 1) Z dX1_moves_13 (by decide) ?_
    refine y_goto (tgt := 18) Z dX1_moves_14 (by decide) ?_
    exact y_retZ Z hr hlk (by decide) dX1_moves_18 (by first | (simp only [mvF, h2, if_true, if_false, not_false_eq_true, not_true_eq_false, ↓reduceIte]; done) | (simp only [mvF, h2, if_true, if_false, not_false_eq_true, not_true_eq_false, ↓reduceIte, wMix, wLog, wPic, wRep, wScr, wVM, wMd, sR_eq, sR_ne, sF_eq, sF_ne, upd_eq, upd_ne, gs_eq, gs_ne, gm_4, gm_ne, Nat.reduceBEq]; done) | (with_reducible rfl) | (simp only [mvF, h2, if_true, if_false, not_false_eq_true, not_true_eq_false, ↓reduceIte]; rfl) | rfl) (by first | (simp only [mvF, h2, if_true, if_false, not_false_eq_true, not_true_eq_false, ↓reduceIte]; done) | (simp only [mvF, h2, if_true, if_false, not_false_eq_true, not_true_eq_false, ↓reduceIte, wMix, wLog, wPic, wRep, wScr, wVM, wMd, sR_eq, sR_ne, sF_eq, sF_ne, upd_eq, upd_ne, gs_eq, gs_ne, gm_4, gm_ne, Nat.reduceBEq]; done) | (with_reducible rfl) | (simp only [mvF, h2, if_true, if_false, not_false_eq_true, not_true_eq_false, ↓reduceIte]; rfl) | rfl)
set_option maxHeartbeats 4000000 in
set_option maxRecDepth 100000 in
theorem k_X1_movesBackground (l : Launch) (D : va_G) {cI : ClassId} {tys : List (ClassId × FieldType)} (ht0 : tys[0]? = some (cI, .int)) (aM : Nat → Nat) (M : Nat → Nat → Int32) (sz : Nat) : kI l yX1_movesBackground cX1_movesBackground 1 (some .boolean) { frames := 0, cells := 0, slots := 0, locals := 0 } D tys [.ref (aM 0)] (wMix cI aM M) (wMix cI aM M) (mbF M) 0 0 sz := by
  refine y_enterI (cc := cX1_movesBackground) (maxL := 1) (ret := (some .boolean)) (own := RX1) (by decide) rfl (lv0 := [(0, .ref (aM 0))]) rfl (Nat.le_of_ble_eq_true rfl) ?_
  intro p e s m args below meth c A Z hr hlk _
  refine y_aload_n Z dX1_movesBackground_0 0 rfl rfl ?_
  refine y_get (C := RX1) (T := TX1) (N := 14) Z 1 inlX1 rfl 0 rfl 4 (by decide) fl_RX1_37 rfl dX1_movesBackground_1 ?_
  refine y_iconst (v := 1) Z dX1_movesBackground_4 (by decide) ?_
  refine y_iand Z dX1_movesBackground_5 ?_
  refine y_if_eq (tgt := 13) Z dX1_movesBackground_6 (by decide) (fun h1 => ?_) (fun h2 => ?_)
  · refine y_iconst (v := 0) Z dX1_movesBackground_13 (by decide) ?_
    exact y_retZ Z hr hlk (by decide) dX1_movesBackground_14 (by first | (simp only [mbF, eq_true h1, if_true, if_false, not_false_eq_true, not_true_eq_false, ↓reduceIte]; done) | (simp only [mbF, eq_true h1, if_true, if_false, not_false_eq_true, not_true_eq_false, ↓reduceIte, wMix, wLog, wPic, wRep, wScr, wVM, wMd, sR_eq, sR_ne, sF_eq, sF_ne, upd_eq, upd_ne, gs_eq, gs_ne, gm_4, gm_ne, Nat.reduceBEq]; done) | (with_reducible rfl) | (simp only [mbF, eq_true h1, if_true, if_false, not_false_eq_true, not_true_eq_false, ↓reduceIte]; rfl) | rfl) (by first | (simp only [mbF, eq_true h1, if_true, if_false, not_false_eq_true, not_true_eq_false, ↓reduceIte]; done) | (simp only [mbF, eq_true h1, if_true, if_false, not_false_eq_true, not_true_eq_false, ↓reduceIte, wMix, wLog, wPic, wRep, wScr, wVM, wMd, sR_eq, sR_ne, sF_eq, sF_ne, upd_eq, upd_ne, gs_eq, gs_ne, gm_4, gm_ne, Nat.reduceBEq]; done) | (with_reducible rfl) | (simp only [mbF, eq_true h1, if_true, if_false, not_false_eq_true, not_true_eq_false, ↓reduceIte]; rfl) | rfl)
  · refine y_iconst (v := 1) Z dX1_movesBackground_9 (by decide) ?_
    refine y_goto (tgt := 14) Z dX1_movesBackground_10 (by decide) ?_
    exact y_retZ Z hr hlk (by decide) dX1_movesBackground_14 (by first | (simp only [mbF, h2, if_true, if_false, not_false_eq_true, not_true_eq_false, ↓reduceIte]; done) | (simp only [mbF, h2, if_true, if_false, not_false_eq_true, not_true_eq_false, ↓reduceIte, wMix, wLog, wPic, wRep, wScr, wVM, wMd, sR_eq, sR_ne, sF_eq, sF_ne, upd_eq, upd_ne, gs_eq, gs_ne, gm_4, gm_ne, Nat.reduceBEq]; done) | (with_reducible rfl) | (simp only [mbF, h2, if_true, if_false, not_false_eq_true, not_true_eq_false, ↓reduceIte]; rfl) | rfl) (by first | (simp only [mbF, h2, if_true, if_false, not_false_eq_true, not_true_eq_false, ↓reduceIte]; done) | (simp only [mbF, h2, if_true, if_false, not_false_eq_true, not_true_eq_false, ↓reduceIte, wMix, wLog, wPic, wRep, wScr, wVM, wMd, sR_eq, sR_ne, sF_eq, sF_ne, upd_eq, upd_ne, gs_eq, gs_ne, gm_4, gm_ne, Nat.reduceBEq]; done) | (with_reducible rfl) | (simp only [mbF, h2, if_true, if_false, not_false_eq_true, not_true_eq_false, ↓reduceIte]; rfl) | rfl)
set_option maxHeartbeats 4000000 in
set_option maxRecDepth 100000 in
theorem k_X1_fillOf (l : Launch) (D : va_G) {cI : ClassId} {tys : List (ClassId × FieldType)} (ht0 : tys[0]? = some (cI, .int)) (aM : Nat → Nat) (M : Nat → Nat → Int32) (k : Int32) (sz : Nat) : kI l yX1_fillOf cX1_fillOf 2 (some .int) { frames := 1, cells := 0, slots := 0, locals := 21 } D tys [.ref (aM 0), .int k] (wMix cI aM M) (wMix cI aM M) (cellF (M 1) 3 k) 0 0 sz := by
  refine y_enterI (cc := cX1_fillOf) (maxL := 2) (ret := (some .int)) (own := RX1) (by decide) rfl (lv0 := [(0, .ref (aM 0)), (1, .int k)]) rfl (Nat.le_of_ble_eq_true rfl) ?_
  intro p e s m args below meth c A Z hr hlk _
  refine y_aload_n Z dX1_fillOf_0 0 rfl rfl ?_
  refine y_get (C := RX1) (T := TX1) (N := 14) Z 1 inlX1 rfl 0 rfl 11 (by decide) fl_RX1_9 rfl dX1_fillOf_1 ?_
  refine y_iload_n Z dX1_fillOf_4 1 rfl rfl ?_
  refine y_NI Z (k_X5_cell l D ht0 (aM 1) 3 (M 1) k (by decide)) (y_cn (n := 2) (host := RX5) Z co_X5_cell rfl rfl nm_RX1_62 in_X5 st_X5_cell hs_X5_cell ⟨Nat.le_of_ble_eq_true rfl, Nat.le_of_ble_eq_true rfl⟩) [1] rfl (by decide) rfl rfl (Nat.le_of_ble_eq_true rfl) dX1_fillOf_5 ⟨Nat.le_of_ble_eq_true rfl, Nat.le_of_ble_eq_true rfl⟩ [(aM 1)] rfl rfl (wMix cI aM M) rfl ?_
  exact y_retI Z hr hlk dX1_fillOf_8 (by first | (with_reducible rfl) | (simp only [wMix, wLog, wPic, wRep, wScr, wVM, wMd, sR_eq, sR_ne, sF_eq, sF_ne, upd_eq, upd_ne, gs_eq, gs_ne, gm_4, gm_ne, Nat.reduceBEq]; done) | rfl) (by first | (with_reducible rfl) | (simp only [wMix, wLog, wPic, wRep, wScr, wVM, wMd, sR_eq, sR_ne, sF_eq, sF_ne, upd_eq, upd_ne, gs_eq, gs_ne, gm_4, gm_ne, Nat.reduceBEq]; done) | rfl)
set_option maxHeartbeats 4000000 in
set_option maxRecDepth 100000 in
theorem k_X1_complete (l : Launch) (D : va_G) {cI : ClassId} {tys : List (ClassId × FieldType)} (ht0 : tys[0]? = some (cI, .int)) (aM : Nat → Nat) (M : Nat → Nat → Int32) (sz : Nat) : kV l yX1_complete cX1_complete 2 none { frames := 1, cells := 0, slots := 0, locals := 20 } D tys [.ref (aM 0)] (wMix cI aM M) (wMix cI aM (gt_complete M)) 0 0 sz := by
  refine y_enterV (cc := cX1_complete) (maxL := 2) (ret := none) (own := RX1) (by decide) rfl (lv0 := [(0, .ref (aM 0))]) rfl (Nat.le_of_ble_eq_true rfl) ?_
  intro p e s m args below meth c A Z hr hlk _
  refine y_aload_n Z dX1_complete_0 0 rfl rfl ?_
  refine y_VI Z (k_X1_movesBackground l D ht0 aM M) (y_cwV 0 Z ml_RX1_100 im_X1_movesBackground se_X1_movesBackground in_X1 co_X1_movesBackground rfl rfl hd_X1_movesBackground ⟨Nat.le_of_ble_eq_true rfl, Nat.le_of_ble_eq_true rfl⟩) [0, 1, 2, 3] rfl (by decide) 1 0 rfl rfl rfl rfl (Nat.le_of_ble_eq_true rfl) dX1_complete_1 ⟨Nat.le_of_ble_eq_true rfl, Nat.le_of_ble_eq_true rfl⟩ [(aM 0), (aM 1), (aM 2), (aM 3)] rfl rfl (wMix cI aM M) rfl ?_
  refine y_if_eq (tgt := 25) Z dX1_complete_4 (by decide) (fun h1 => ?_) (fun h2 => ?_)
  · refine y_aload_n Z dX1_complete_25 0 rfl rfl ?_
    refine y_dup Z dX1_complete_26 rfl ?_
    refine y_get (C := RX1) (T := TX1) (N := 14) Z 1 inlX1 rfl 0 rfl 10 (by decide) fl_RX1_55 rfl dX1_complete_27 ?_
    refine y_aload_n Z dX1_complete_30 0 rfl rfl ?_
    refine y_get (C := RX1) (T := TX1) (N := 14) Z 1 inlX1 rfl 0 rfl 4 (by decide) fl_RX1_37 rfl dX1_complete_31 ?_
    refine y_iconst (v := 1) Z dX1_complete_34 (by decide) ?_
    refine y_ishr Z dX1_complete_35 ?_
    refine y_ixor Z dX1_complete_36 ?_
    refine y_put (C := RX1) (T := TX1) (N := 14) Z 1 inlX1 rfl tyX1 tyX1_ok nmX1 0 rfl 10 (by decide) fl_RX1_55 rfl rfl rfl (Nat.le_of_ble_eq_true rfl) (wMixR cI aM (M 0 0) (M 0 1) (M 0 2) (M 0 3) (M 0 4) (M 0 5) (M 0 6) (M 0 7) (M 0 8) (M 0 9) ((M 0 10) ^^^ ((M 0 4) >>> (1 &&& 31))) (M 1) (M 2) (M 3)) rfl dX1_complete_37 ?_
    refine y_aload_n Z dX1_complete_40 0 rfl rfl ?_
    refine y_iconst (v := 0) Z dX1_complete_41 (by decide) ?_
    refine y_put (C := RX1) (T := TX1) (N := 14) Z 1 inlX1 rfl tyX1 tyX1_ok nmX1 0 rfl 5 (by decide) fl_RX1_40 rfl rfl rfl (Nat.le_of_ble_eq_true rfl) (wMixR cI aM (M 0 0) (M 0 1) (M 0 2) (M 0 3) (M 0 4) 0 (M 0 6) (M 0 7) (M 0 8) (M 0 9) ((M 0 10) ^^^ ((M 0 4) >>> (1 &&& 31))) (M 1) (M 2) (M 3)) rfl dX1_complete_42 ?_
    refine y_aload_n Z dX1_complete_45 0 rfl rfl ?_
    refine y_iconst (v := -1) Z dX1_complete_46 (by decide) ?_
    refine y_put (C := RX1) (T := TX1) (N := 14) Z 1 inlX1 rfl tyX1 tyX1_ok nmX1 0 rfl 6 (by decide) fl_RX1_43 rfl rfl rfl (Nat.le_of_ble_eq_true rfl) (wMixR cI aM (M 0 0) (M 0 1) (M 0 2) (M 0 3) (M 0 4) 0 (-1) (M 0 7) (M 0 8) (M 0 9) ((M 0 10) ^^^ ((M 0 4) >>> (1 &&& 31))) (M 1) (M 2) (M 3)) rfl dX1_complete_47 ?_
    exact y_retV Z hr hlk dX1_complete_50 (by first | (simp only [gt_complete, gt_cp2, gt_cp3, eq_true h1, if_true, if_false, not_false_eq_true, not_true_eq_false, ↓reduceIte]; done) | (simp only [gt_complete, gt_cp2, gt_cp3, eq_true h1, if_true, if_false, not_false_eq_true, not_true_eq_false, ↓reduceIte, wMix, wLog, wPic, wRep, wScr, wVM, wMd, sR_eq, sR_ne, sF_eq, sF_ne, upd_eq, upd_ne, gs_eq, gs_ne, gm_4, gm_ne, Nat.reduceBEq]; done) | (with_reducible rfl) | (simp only [gt_complete, gt_cp2, gt_cp3, eq_true h1, if_true, if_false, not_false_eq_true, not_true_eq_false, ↓reduceIte]; rfl) | rfl)
  · refine y_aload_n Z dX1_complete_7 0 rfl rfl ?_
    refine y_get (C := RX1) (T := TX1) (N := 14) Z 1 inlX1 rfl 0 rfl 0 (by decide) fl_RX1_24 rfl dX1_complete_8 ?_
    refine y_istore_n Z [(1, .int (M 0 0)), (0, .ref (aM 0))] dX1_complete_11 rfl (by decide) rfl ?_
    refine y_aload_n Z dX1_complete_12 1 rfl rfl ?_
    refine y_aload_n Z dX1_complete_13 1 rfl rfl ?_
    refine y_get (C := RX1) (T := TX1) (N := 14) Z 1 inlX1 rfl 0 rfl 1 (by decide) fl_RX1_28 rfl dX1_complete_14 ?_
    refine y_put (C := RX1) (T := TX1) (N := 14) Z 1 inlX1 rfl tyX1 tyX1_ok nmX1 0 rfl 0 (by decide) fl_RX1_24 rfl rfl rfl (Nat.le_of_ble_eq_true rfl) (wMixR cI aM (M 0 1) (M 0 1) (M 0 2) (M 0 3) (M 0 4) (M 0 5) (M 0 6) (M 0 7) (M 0 8) (M 0 9) (M 0 10) (M 1) (M 2) (M 3)) rfl dX1_complete_17 ?_
    refine y_aload_n Z dX1_complete_20 1 rfl rfl ?_
    refine y_iload_n Z dX1_complete_21 0 rfl rfl ?_
    refine y_put (C := RX1) (T := TX1) (N := 14) Z 1 inlX1 rfl tyX1 tyX1_ok nmX1 0 rfl 1 (by decide) fl_RX1_28 rfl rfl rfl (Nat.le_of_ble_eq_true rfl) (wMixR cI aM (M 0 1) (M 0 0) (M 0 2) (M 0 3) (M 0 4) (M 0 5) (M 0 6) (M 0 7) (M 0 8) (M 0 9) (M 0 10) (M 1) (M 2) (M 3)) rfl dX1_complete_22 ?_
    refine y_aload_n Z dX1_complete_25 1 rfl rfl ?_
    refine y_dup Z dX1_complete_26 rfl ?_
    refine y_get (C := RX1) (T := TX1) (N := 14) Z 1 inlX1 rfl 0 rfl 10 (by decide) fl_RX1_55 rfl dX1_complete_27 ?_
    refine y_aload_n Z dX1_complete_30 1 rfl rfl ?_
    refine y_get (C := RX1) (T := TX1) (N := 14) Z 1 inlX1 rfl 0 rfl 4 (by decide) fl_RX1_37 rfl dX1_complete_31 ?_
    refine y_iconst (v := 1) Z dX1_complete_34 (by decide) ?_
    refine y_ishr Z dX1_complete_35 ?_
    refine y_ixor Z dX1_complete_36 ?_
    refine y_put (C := RX1) (T := TX1) (N := 14) Z 1 inlX1 rfl tyX1 tyX1_ok nmX1 0 rfl 10 (by decide) fl_RX1_55 rfl rfl rfl (Nat.le_of_ble_eq_true rfl) (wMixR cI aM (M 0 1) (M 0 0) (M 0 2) (M 0 3) (M 0 4) (M 0 5) (M 0 6) (M 0 7) (M 0 8) (M 0 9) ((M 0 10) ^^^ ((M 0 4) >>> (1 &&& 31))) (M 1) (M 2) (M 3)) rfl dX1_complete_37 ?_
    refine y_aload_n Z dX1_complete_40 1 rfl rfl ?_
    refine y_iconst (v := 0) Z dX1_complete_41 (by decide) ?_
    refine y_put (C := RX1) (T := TX1) (N := 14) Z 1 inlX1 rfl tyX1 tyX1_ok nmX1 0 rfl 5 (by decide) fl_RX1_40 rfl rfl rfl (Nat.le_of_ble_eq_true rfl) (wMixR cI aM (M 0 1) (M 0 0) (M 0 2) (M 0 3) (M 0 4) 0 (M 0 6) (M 0 7) (M 0 8) (M 0 9) ((M 0 10) ^^^ ((M 0 4) >>> (1 &&& 31))) (M 1) (M 2) (M 3)) rfl dX1_complete_42 ?_
    refine y_aload_n Z dX1_complete_45 1 rfl rfl ?_
    refine y_iconst (v := -1) Z dX1_complete_46 (by decide) ?_
    refine y_put (C := RX1) (T := TX1) (N := 14) Z 1 inlX1 rfl tyX1 tyX1_ok nmX1 0 rfl 6 (by decide) fl_RX1_43 rfl rfl rfl (Nat.le_of_ble_eq_true rfl) (wMixR cI aM (M 0 1) (M 0 0) (M 0 2) (M 0 3) (M 0 4) 0 (-1) (M 0 7) (M 0 8) (M 0 9) ((M 0 10) ^^^ ((M 0 4) >>> (1 &&& 31))) (M 1) (M 2) (M 3)) rfl dX1_complete_47 ?_
    exact y_retV Z hr hlk dX1_complete_50 (by first | (simp only [gt_complete, gt_cp2, gt_cp3, h2, if_true, if_false, not_false_eq_true, not_true_eq_false, ↓reduceIte]; done) | (simp only [gt_complete, gt_cp2, gt_cp3, h2, if_true, if_false, not_false_eq_true, not_true_eq_false, ↓reduceIte, wMix, wLog, wPic, wRep, wScr, wVM, wMd, sR_eq, sR_ne, sF_eq, sF_ne, upd_eq, upd_ne, gs_eq, gs_ne, gm_4, gm_ne, Nat.reduceBEq]; done) | (with_reducible rfl) | (simp only [gt_complete, gt_cp2, gt_cp3, h2, if_true, if_false, not_false_eq_true, not_true_eq_false, ↓reduceIte]; rfl) | rfl)
set_option maxHeartbeats 4000000 in
set_option maxRecDepth 100000 in
theorem k_X1_letPass (l : Launch) (D : va_G) {cI : ClassId} {tys : List (ClassId × FieldType)} (ht0 : tys[0]? = some (cI, .int)) (aM : Nat → Nat) (M : Nat → Nat → Int32) (fr : Int32) (sz : Nat) : kV l yX1_letPass cX1_letPass 2 none { frames := 2, cells := 0, slots := 0, locals := 41 } D tys [.ref (aM 0), .int fr] (wMix cI aM M) (wMix cI aM (gt_letPass fr M)) 0 0 sz := by
  refine y_enterV (cc := cX1_letPass) (maxL := 2) (ret := none) (own := RX1) (by decide) rfl (lv0 := [(0, .ref (aM 0)), (1, .int fr)]) rfl (Nat.le_of_ble_eq_true rfl) ?_
  intro p e s m args below meth c A Z hr hlk _
  refine y_iload_n Z dX1_letPass_0 1 rfl rfl ?_
  refine y_if_gt (tgt := 5) Z dX1_letPass_1 (by decide) (fun h1 => ?_) (fun h2 => ?_)
  · refine y_aload_n Z dX1_letPass_5 0 rfl rfl ?_
    refine y_dup Z dX1_letPass_6 rfl ?_
    refine y_get (C := RX1) (T := TX1) (N := 14) Z 1 inlX1 rfl 0 rfl 7 (by decide) fl_RX1_46 rfl dX1_letPass_7 ?_
    refine y_iload_n Z dX1_letPass_10 1 rfl rfl ?_
    refine y_iadd Z dX1_letPass_11 ?_
    refine y_put (C := RX1) (T := TX1) (N := 14) Z 1 inlX1 rfl tyX1 tyX1_ok nmX1 0 rfl 7 (by decide) fl_RX1_46 rfl rfl rfl (Nat.le_of_ble_eq_true rfl) (wMixR cI aM (M 0 0) (M 0 1) (M 0 2) (M 0 3) (M 0 4) (M 0 5) (M 0 6) ((M 0 7) + fr) (M 0 8) (M 0 9) (M 0 10) (M 1) (M 2) (M 3)) rfl dX1_letPass_12 ?_
    refine y_aload_n Z dX1_letPass_15 0 rfl rfl ?_
    refine y_get (C := RX1) (T := TX1) (N := 14) Z 1 inlX1 rfl 0 rfl 6 (by decide) fl_RX1_43 rfl dX1_letPass_16 ?_
    refine y_iconst (v := -1) Z dX1_letPass_19 (by decide) ?_
    refine y_icmp_ne (tgt := 24) Z dX1_letPass_20 (by decide) (fun h3 => ?_) (fun h4 => ?_)
    · refine y_iload_n Z dX1_letPass_24 1 rfl rfl ?_
      refine y_iconst (v := 1) Z dX1_letPass_25 (by decide) ?_
      refine y_aload_n Z dX1_letPass_26 0 rfl rfl ?_
      refine y_get (C := RX1) (T := TX1) (N := 14) Z 1 inlX1 rfl 0 rfl 3 (by decide) fl_RX1_34 rfl dX1_letPass_27 ?_
      refine y_aload_n Z dX1_letPass_30 0 rfl rfl ?_
      refine y_get (C := RX1) (T := TX1) (N := 14) Z 1 inlX1 rfl 0 rfl 6 (by decide) fl_RX1_43 rfl dX1_letPass_31 ?_
      refine y_isub Z dX1_letPass_34 ?_
      refine y_mmax Z ml_RX1_104 st_mmax in_Math co_mmax (Nat.le_of_ble_eq_true rfl) (Nat.le_of_ble_eq_true rfl) (Nat.le_of_ble_eq_true rfl) (Nat.le_of_ble_eq_true rfl) dX1_letPass_35 ?_
      refine y_icmp_lt (tgt := 58) Z dX1_letPass_38 (by decide) (fun h5 => ?_) (fun h6 => ?_)
      · refine y_aload_n Z dX1_letPass_58 0 rfl rfl ?_
        refine y_dup Z dX1_letPass_59 rfl ?_
        refine y_get (C := RX1) (T := TX1) (N := 14) Z 1 inlX1 rfl 0 rfl 6 (by decide) fl_RX1_43 rfl dX1_letPass_60 ?_
        refine y_iload_n Z dX1_letPass_63 1 rfl rfl ?_
        refine y_iadd Z dX1_letPass_64 ?_
        refine y_put (C := RX1) (T := TX1) (N := 14) Z 1 inlX1 rfl tyX1 tyX1_ok nmX1 0 rfl 6 (by decide) fl_RX1_43 rfl rfl rfl (Nat.le_of_ble_eq_true rfl) (wMixR cI aM (M 0 0) (M 0 1) (M 0 2) (M 0 3) (M 0 4) (M 0 5) ((M 0 6) + fr) ((M 0 7) + fr) (M 0 8) (M 0 9) (M 0 10) (M 1) (M 2) (M 3)) rfl dX1_letPass_65 ?_
        refine y_aload_n Z dX1_letPass_68 0 rfl rfl ?_
        refine y_aload_n Z dX1_letPass_69 0 rfl rfl ?_
        refine y_get (C := RX1) (T := TX1) (N := 14) Z 1 inlX1 rfl 0 rfl 3 (by decide) fl_RX1_34 rfl dX1_letPass_70 ?_
        refine y_if_le (tgt := 92) Z dX1_letPass_73 (by decide) (fun h7 => ?_) (fun h8 => ?_)
        · refine y_iconst (v := 0) Z dX1_letPass_92 (by decide) ?_
          refine y_put (C := RX1) (T := TX1) (N := 14) Z 1 inlX1 rfl tyX1 tyX1_ok nmX1 0 rfl 5 (by decide) fl_RX1_40 rfl rfl rfl (Nat.le_of_ble_eq_true rfl) (wMixR cI aM (M 0 0) (M 0 1) (M 0 2) (M 0 3) (M 0 4) 0 ((M 0 6) + fr) ((M 0 7) + fr) (M 0 8) (M 0 9) (M 0 10) (M 1) (M 2) (M 3)) rfl dX1_letPass_93 ?_
          exact y_retV Z hr hlk dX1_letPass_96 (by first | (simp only [gt_letPass, gt_lp2, gt_lp3, gt_rc, h1, h3, h5, h7, if_true, if_false, not_false_eq_true, not_true_eq_false, ↓reduceIte]; done) | (simp only [gt_letPass, gt_lp2, gt_lp3, gt_rc, h1, h3, h5, h7, if_true, if_false, not_false_eq_true, not_true_eq_false, ↓reduceIte, wMix, wLog, wPic, wRep, wScr, wVM, wMd, sR_eq, sR_ne, sF_eq, sF_ne, upd_eq, upd_ne, gs_eq, gs_ne, gm_4, gm_ne, Nat.reduceBEq]; done) | (with_reducible rfl) | (simp only [gt_letPass, gt_lp2, gt_lp3, gt_rc, h1, h3, h5, h7, if_true, if_false, not_false_eq_true, not_true_eq_false, ↓reduceIte]; rfl) | rfl)
        · refine y_aload_n Z dX1_letPass_76 0 rfl rfl ?_
          refine y_get (C := RX1) (T := TX1) (N := 14) Z 1 inlX1 rfl 0 rfl 6 (by decide) fl_RX1_43 rfl dX1_letPass_77 ?_
          refine y_sipush (v := 1000) Z dX1_letPass_80 (by decide) ?_
          refine y_imul Z dX1_letPass_83 ?_
          refine y_aload_n Z dX1_letPass_84 0 rfl rfl ?_
          refine y_get (C := RX1) (T := TX1) (N := 14) Z 1 inlX1 rfl 0 rfl 3 (by decide) fl_RX1_34 rfl dX1_letPass_85 ?_
          refine y_idiv Z dX1_letPass_88 (fun e0 => h8 (by rw [e0]; decide)) ?_
          refine y_goto (tgt := 93) Z dX1_letPass_89 (by decide) ?_
          refine y_put (C := RX1) (T := TX1) (N := 14) Z 1 inlX1 rfl tyX1 tyX1_ok nmX1 0 rfl 5 (by decide) fl_RX1_40 rfl rfl rfl (Nat.le_of_ble_eq_true rfl) (wMixR cI aM (M 0 0) (M 0 1) (M 0 2) (M 0 3) (M 0 4) ((((M 0 6) + fr) * 1000) / (M 0 3)) ((M 0 6) + fr) ((M 0 7) + fr) (M 0 8) (M 0 9) (M 0 10) (M 1) (M 2) (M 3)) rfl dX1_letPass_93 ?_
          exact y_retV Z hr hlk dX1_letPass_96 (by first | (simp only [gt_letPass, gt_lp2, gt_lp3, gt_rc, h1, h3, h5, h8, if_true, if_false, not_false_eq_true, not_true_eq_false, ↓reduceIte]; done) | (simp only [gt_letPass, gt_lp2, gt_lp3, gt_rc, h1, h3, h5, h8, if_true, if_false, not_false_eq_true, not_true_eq_false, ↓reduceIte, wMix, wLog, wPic, wRep, wScr, wVM, wMd, sR_eq, sR_ne, sF_eq, sF_ne, upd_eq, upd_ne, gs_eq, gs_ne, gm_4, gm_ne, Nat.reduceBEq]; done) | (with_reducible rfl) | (simp only [gt_letPass, gt_lp2, gt_lp3, gt_rc, h1, h3, h5, h8, if_true, if_false, not_false_eq_true, not_true_eq_false, ↓reduceIte]; rfl) | rfl)
      · refine y_aload_n Z dX1_letPass_41 0 rfl rfl ?_
        refine y_VV Z (k_X1_complete l D ht0 aM (sF M 0 7 ((M 0 7) + fr))) (y_cwV 0 Z ml_RX1_87 im_X1_complete se_X1_complete in_X1 co_X1_complete rfl rfl hd_X1_complete ⟨Nat.le_of_ble_eq_true rfl, Nat.le_of_ble_eq_true rfl⟩) [0, 1, 2, 3] rfl (by decide) 1 0 rfl rfl rfl rfl (Nat.le_of_ble_eq_true rfl) dX1_letPass_42 ⟨Nat.le_of_ble_eq_true rfl, Nat.le_of_ble_eq_true rfl⟩ [(aM 0), (aM 1), (aM 2), (aM 3)] rfl rfl (wMix cI aM (gt_complete (sF M 0 7 ((M 0 7) + fr)))) rfl ?_
        refine y_aload_n Z dX1_letPass_45 0 rfl rfl ?_
        refine y_dup Z dX1_letPass_46 rfl ?_
        refine y_get (C := RX1) (T := TX1) (N := 14) Z 1 inlX1 rfl 0 rfl 8 (by decide) fl_RX1_49 rfl dX1_letPass_47 ?_
        refine y_iconst (v := 1) Z dX1_letPass_50 (by decide) ?_
        refine y_iadd Z dX1_letPass_51 ?_
        refine y_put (C := RX1) (T := TX1) (N := 14) Z 1 inlX1 rfl tyX1 tyX1_ok nmX1 0 rfl 8 (by decide) fl_RX1_49 rfl rfl rfl (Nat.le_of_ble_eq_true rfl) (wMixR cI aM ((gt_complete (sF M 0 7 ((M 0 7) + fr))) 0 0) ((gt_complete (sF M 0 7 ((M 0 7) + fr))) 0 1) ((gt_complete (sF M 0 7 ((M 0 7) + fr))) 0 2) ((gt_complete (sF M 0 7 ((M 0 7) + fr))) 0 3) ((gt_complete (sF M 0 7 ((M 0 7) + fr))) 0 4) ((gt_complete (sF M 0 7 ((M 0 7) + fr))) 0 5) ((gt_complete (sF M 0 7 ((M 0 7) + fr))) 0 6) ((gt_complete (sF M 0 7 ((M 0 7) + fr))) 0 7) (((gt_complete (sF M 0 7 ((M 0 7) + fr))) 0 8) + 1) ((gt_complete (sF M 0 7 ((M 0 7) + fr))) 0 9) ((gt_complete (sF M 0 7 ((M 0 7) + fr))) 0 10) ((gt_complete (sF M 0 7 ((M 0 7) + fr))) 1) ((gt_complete (sF M 0 7 ((M 0 7) + fr))) 2) ((gt_complete (sF M 0 7 ((M 0 7) + fr))) 3)) rfl dX1_letPass_52 ?_
        refine y_goto (tgt := 96) Z dX1_letPass_55 (by decide) ?_
        exact y_retV Z hr hlk dX1_letPass_96 (by first | (simp only [gt_letPass, gt_lp2, gt_lp3, gt_rc, h1, h3, h6, if_true, if_false, not_false_eq_true, not_true_eq_false, ↓reduceIte]; done) | (simp only [gt_letPass, gt_lp2, gt_lp3, gt_rc, h1, h3, h6, if_true, if_false, not_false_eq_true, not_true_eq_false, ↓reduceIte, wMix, wLog, wPic, wRep, wScr, wVM, wMd, sR_eq, sR_ne, sF_eq, sF_ne, upd_eq, upd_ne, gs_eq, gs_ne, gm_4, gm_ne, Nat.reduceBEq]; done) | (with_reducible rfl) | (simp only [gt_letPass, gt_lp2, gt_lp3, gt_rc, h1, h3, h6, if_true, if_false, not_false_eq_true, not_true_eq_false, ↓reduceIte]; rfl) | rfl)
    · exact y_retV Z hr hlk dX1_letPass_23 (by first | (simp only [gt_letPass, gt_lp2, gt_lp3, gt_rc, h1, eq_true h4, if_true, if_false, not_false_eq_true, not_true_eq_false, ↓reduceIte]; done) | (simp only [gt_letPass, gt_lp2, gt_lp3, gt_rc, h1, eq_true h4, if_true, if_false, not_false_eq_true, not_true_eq_false, ↓reduceIte, wMix, wLog, wPic, wRep, wScr, wVM, wMd, sR_eq, sR_ne, sF_eq, sF_ne, upd_eq, upd_ne, gs_eq, gs_ne, gm_4, gm_ne, Nat.reduceBEq]; done) | (with_reducible rfl) | (simp only [gt_letPass, gt_lp2, gt_lp3, gt_rc, h1, eq_true h4, if_true, if_false, not_false_eq_true, not_true_eq_false, ↓reduceIte]; rfl) | rfl)
  · exact y_retV Z hr hlk dX1_letPass_4 (by first | (simp only [gt_letPass, gt_lp2, gt_lp3, gt_rc, h2, if_true, if_false, not_false_eq_true, not_true_eq_false, ↓reduceIte]; done) | (simp only [gt_letPass, gt_lp2, gt_lp3, gt_rc, h2, if_true, if_false, not_false_eq_true, not_true_eq_false, ↓reduceIte, wMix, wLog, wPic, wRep, wScr, wVM, wMd, sR_eq, sR_ne, sF_eq, sF_ne, upd_eq, upd_ne, gs_eq, gs_ne, gm_4, gm_ne, Nat.reduceBEq]; done) | (with_reducible rfl) | (simp only [gt_letPass, gt_lp2, gt_lp3, gt_rc, h2, if_true, if_false, not_false_eq_true, not_true_eq_false, ↓reduceIte]; rfl) | rfl)
set_option maxHeartbeats 4000000 in
set_option maxRecDepth 100000 in
theorem k_X1_coverOf (l : Launch) (D : va_G) {cI : ClassId} {tys : List (ClassId × FieldType)} (ht0 : tys[0]? = some (cI, .int)) (aM : Nat → Nat) (M : Nat → Nat → Int32) (k : Int32) (sz : Nat) : kI l yX1_coverOf cX1_coverOf 4 (some .int) { frames := 1, cells := 0, slots := 0, locals := 21 } D tys [.ref (aM 0), .int k] (wMix cI aM M) (wMix cI aM M) (coverF M k) 0 0 sz := by
  refine y_enterI (cc := cX1_coverOf) (maxL := 4) (ret := (some .int)) (own := RX1) (by decide) rfl (lv0 := [(0, .ref (aM 0)), (1, .int k)]) rfl (Nat.le_of_ble_eq_true rfl) ?_
  intro p e s m args below meth c A Z hr hlk _
  refine y_aload_n Z dX1_coverOf_0 0 rfl rfl ?_
  refine y_get (C := RX1) (T := TX1) (N := 14) Z 1 inlX1 rfl 0 rfl 12 (by decide) fl_RX1_15 rfl dX1_coverOf_1 ?_
  refine y_iload_n Z dX1_coverOf_4 1 rfl rfl ?_
  refine y_NI Z (k_X5_cell l D ht0 (aM 2) 3 (M 2) k (by decide)) (y_cn (n := 2) (host := RX5) Z co_X5_cell rfl rfl nm_RX1_62 in_X5 st_X5_cell hs_X5_cell ⟨Nat.le_of_ble_eq_true rfl, Nat.le_of_ble_eq_true rfl⟩) [2] rfl (by decide) rfl rfl (Nat.le_of_ble_eq_true rfl) dX1_coverOf_5 ⟨Nat.le_of_ble_eq_true rfl, Nat.le_of_ble_eq_true rfl⟩ [(aM 2)] rfl rfl (wMix cI aM M) rfl ?_
  refine y_aload_n Z dX1_coverOf_8 0 rfl rfl ?_
  refine y_get (C := RX1) (T := TX1) (N := 14) Z 1 inlX1 rfl 0 rfl 13 (by decide) fl_RX1_18 rfl dX1_coverOf_9 ?_
  refine y_iload_n Z dX1_coverOf_12 1 rfl rfl ?_
  refine y_NI Z (k_X5_cell l D ht0 (aM 3) 3 (M 3) k (by decide)) (y_cn (n := 2) (host := RX5) Z co_X5_cell rfl rfl nm_RX1_62 in_X5 st_X5_cell hs_X5_cell ⟨Nat.le_of_ble_eq_true rfl, Nat.le_of_ble_eq_true rfl⟩) [3] rfl (by decide) rfl rfl (Nat.le_of_ble_eq_true rfl) dX1_coverOf_13 ⟨Nat.le_of_ble_eq_true rfl, Nat.le_of_ble_eq_true rfl⟩ [(aM 3)] rfl rfl (wMix cI aM M) rfl ?_
  refine y_imul Z dX1_coverOf_16 ?_
  refine y_istore_n Z [(2, .int (cellF (M 2) 3 k * cellF (M 3) 3 k)), (0, .ref (aM 0)), (1, .int k)] dX1_coverOf_17 rfl (by decide) rfl ?_
  refine y_aload_n Z dX1_coverOf_18 1 rfl rfl ?_
  refine y_iload_n Z dX1_coverOf_19 2 rfl rfl ?_
  refine y_VI Z (k_X1_moves l D ht0 aM M k) (y_cwV 1 Z ml_RX1_109 im_X1_moves se_X1_moves in_X1 co_X1_moves rfl rfl hd_X1_moves ⟨Nat.le_of_ble_eq_true rfl, Nat.le_of_ble_eq_true rfl⟩) [0, 1, 2, 3] rfl (by decide) 1 0 rfl rfl rfl rfl (Nat.le_of_ble_eq_true rfl) dX1_coverOf_20 ⟨Nat.le_of_ble_eq_true rfl, Nat.le_of_ble_eq_true rfl⟩ [(aM 0), (aM 1), (aM 2), (aM 3)] rfl rfl (wMix cI aM M) rfl ?_
  refine y_if_ne (tgt := 40) Z dX1_coverOf_23 (by decide) (fun h1 => ?_) (fun h2 => ?_)
  · refine y_aload_n Z dX1_coverOf_40 1 rfl rfl ?_
    refine y_iload_n Z dX1_coverOf_41 2 rfl rfl ?_
    refine y_VI Z (k_X1_isOn l D ht0 aM M k) (y_cwV 1 Z ml_RX1_96 im_X1_isOn se_X1_isOn in_X1 co_X1_isOn rfl rfl hd_X1_isOn ⟨Nat.le_of_ble_eq_true rfl, Nat.le_of_ble_eq_true rfl⟩) [0, 1, 2, 3] rfl (by decide) 1 0 rfl rfl rfl rfl (Nat.le_of_ble_eq_true rfl) dX1_coverOf_42 ⟨Nat.le_of_ble_eq_true rfl, Nat.le_of_ble_eq_true rfl⟩ [(aM 0), (aM 1), (aM 2), (aM 3)] rfl rfl (wMix cI aM M) rfl ?_
    refine y_if_eq (tgt := 59) Z dX1_coverOf_45 (by decide) (fun h3 => ?_) (fun h4 => ?_)
    · refine y_aload_n Z dX1_coverOf_59 1 rfl rfl ?_
      refine y_get (C := RX1) (T := TX1) (N := 14) Z 1 inlX1 rfl 0 rfl 5 (by decide) fl_RX1_40 rfl dX1_coverOf_60 ?_
      refine y_istore_n Z [(3, .int (M 0 5)), (2, .int (cellF (M 2) 3 k * cellF (M 3) 3 k)), (0, .ref (aM 0)), (1, .int k)] dX1_coverOf_63 rfl (by decide) rfl ?_
      refine y_iload_n Z dX1_coverOf_64 1 rfl rfl ?_
      refine y_iload_n Z dX1_coverOf_65 0 rfl rfl ?_
      refine y_imul Z dX1_coverOf_66 ?_
      refine y_sipush (v := 1000) Z dX1_coverOf_67 (by decide) ?_
      refine y_idiv Z dX1_coverOf_70 (by decide) ?_
      exact y_retI Z hr hlk dX1_coverOf_71 (by first | (simp only [coverF, fullF, h1, eq_true h3, if_true, if_false, not_false_eq_true, not_true_eq_false, ↓reduceIte]; done) | (simp only [coverF, fullF, h1, eq_true h3, if_true, if_false, not_false_eq_true, not_true_eq_false, ↓reduceIte, wMix, wLog, wPic, wRep, wScr, wVM, wMd, sR_eq, sR_ne, sF_eq, sF_ne, upd_eq, upd_ne, gs_eq, gs_ne, gm_4, gm_ne, Nat.reduceBEq]; done) | (with_reducible rfl) | (simp only [coverF, fullF, h1, eq_true h3, if_true, if_false, not_false_eq_true, not_true_eq_false, ↓reduceIte]; rfl) | rfl) (by first | (simp only [coverF, fullF, h1, eq_true h3, if_true, if_false, not_false_eq_true, not_true_eq_false, ↓reduceIte]; done) | (simp only [coverF, fullF, h1, eq_true h3, if_true, if_false, not_false_eq_true, not_true_eq_false, ↓reduceIte, wMix, wLog, wPic, wRep, wScr, wVM, wMd, sR_eq, sR_ne, sF_eq, sF_ne, upd_eq, upd_ne, gs_eq, gs_ne, gm_4, gm_ne, Nat.reduceBEq]; done) | (with_reducible rfl) | (simp only [coverF, fullF, h1, eq_true h3, if_true, if_false, not_false_eq_true, not_true_eq_false, ↓reduceIte]; rfl) | rfl)
    · refine y_sipush (v := 1000) Z dX1_coverOf_48 (by decide) ?_
      refine y_aload_n Z dX1_coverOf_51 1 rfl rfl ?_
      refine y_get (C := RX1) (T := TX1) (N := 14) Z 1 inlX1 rfl 0 rfl 5 (by decide) fl_RX1_40 rfl dX1_coverOf_52 ?_
      refine y_isub Z dX1_coverOf_55 ?_
      refine y_goto (tgt := 63) Z dX1_coverOf_56 (by decide) ?_
      refine y_istore_n Z [(3, .int (1000 - (M 0 5))), (2, .int (cellF (M 2) 3 k * cellF (M 3) 3 k)), (0, .ref (aM 0)), (1, .int k)] dX1_coverOf_63 rfl (by decide) rfl ?_
      refine y_iload_n Z dX1_coverOf_64 1 rfl rfl ?_
      refine y_iload_n Z dX1_coverOf_65 0 rfl rfl ?_
      refine y_imul Z dX1_coverOf_66 ?_
      refine y_sipush (v := 1000) Z dX1_coverOf_67 (by decide) ?_
      refine y_idiv Z dX1_coverOf_70 (by decide) ?_
      exact y_retI Z hr hlk dX1_coverOf_71 (by first | (simp only [coverF, fullF, h1, h4, if_true, if_false, not_false_eq_true, not_true_eq_false, ↓reduceIte]; done) | (simp only [coverF, fullF, h1, h4, if_true, if_false, not_false_eq_true, not_true_eq_false, ↓reduceIte, wMix, wLog, wPic, wRep, wScr, wVM, wMd, sR_eq, sR_ne, sF_eq, sF_ne, upd_eq, upd_ne, gs_eq, gs_ne, gm_4, gm_ne, Nat.reduceBEq]; done) | (with_reducible rfl) | (simp only [coverF, fullF, h1, h4, if_true, if_false, not_false_eq_true, not_true_eq_false, ↓reduceIte]; rfl) | rfl) (by first | (simp only [coverF, fullF, h1, h4, if_true, if_false, not_false_eq_true, not_true_eq_false, ↓reduceIte]; done) | (simp only [coverF, fullF, h1, h4, if_true, if_false, not_false_eq_true, not_true_eq_false, ↓reduceIte, wMix, wLog, wPic, wRep, wScr, wVM, wMd, sR_eq, sR_ne, sF_eq, sF_ne, upd_eq, upd_ne, gs_eq, gs_ne, gm_4, gm_ne, Nat.reduceBEq]; done) | (with_reducible rfl) | (simp only [coverF, fullF, h1, h4, if_true, if_false, not_false_eq_true, not_true_eq_false, ↓reduceIte]; rfl) | rfl)
  · refine y_aload_n Z dX1_coverOf_26 1 rfl rfl ?_
    refine y_iload_n Z dX1_coverOf_27 2 rfl rfl ?_
    refine y_VI Z (k_X1_isOn l D ht0 aM M k) (y_cwV 1 Z ml_RX1_96 im_X1_isOn se_X1_isOn in_X1 co_X1_isOn rfl rfl hd_X1_isOn ⟨Nat.le_of_ble_eq_true rfl, Nat.le_of_ble_eq_true rfl⟩) [0, 1, 2, 3] rfl (by decide) 1 0 rfl rfl rfl rfl (Nat.le_of_ble_eq_true rfl) dX1_coverOf_28 ⟨Nat.le_of_ble_eq_true rfl, Nat.le_of_ble_eq_true rfl⟩ [(aM 0), (aM 1), (aM 2), (aM 3)] rfl rfl (wMix cI aM M) rfl ?_
    refine y_if_eq (tgt := 38) Z dX1_coverOf_31 (by decide) (fun h5 => ?_) (fun h6 => ?_)
    · refine y_iconst (v := 0) Z dX1_coverOf_38 (by decide) ?_
      exact y_retI Z hr hlk dX1_coverOf_39 (by first | (simp only [coverF, fullF, eq_true h2, eq_true h5, if_true, if_false, not_false_eq_true, not_true_eq_false, ↓reduceIte]; done) | (simp only [coverF, fullF, eq_true h2, eq_true h5, if_true, if_false, not_false_eq_true, not_true_eq_false, ↓reduceIte, wMix, wLog, wPic, wRep, wScr, wVM, wMd, sR_eq, sR_ne, sF_eq, sF_ne, upd_eq, upd_ne, gs_eq, gs_ne, gm_4, gm_ne, Nat.reduceBEq]; done) | (with_reducible rfl) | (simp only [coverF, fullF, eq_true h2, eq_true h5, if_true, if_false, not_false_eq_true, not_true_eq_false, ↓reduceIte]; rfl) | rfl) (by first | (simp only [coverF, fullF, eq_true h2, eq_true h5, if_true, if_false, not_false_eq_true, not_true_eq_false, ↓reduceIte]; done) | (simp only [coverF, fullF, eq_true h2, eq_true h5, if_true, if_false, not_false_eq_true, not_true_eq_false, ↓reduceIte, wMix, wLog, wPic, wRep, wScr, wVM, wMd, sR_eq, sR_ne, sF_eq, sF_ne, upd_eq, upd_ne, gs_eq, gs_ne, gm_4, gm_ne, Nat.reduceBEq]; done) | (with_reducible rfl) | (simp only [coverF, fullF, eq_true h2, eq_true h5, if_true, if_false, not_false_eq_true, not_true_eq_false, ↓reduceIte]; rfl) | rfl)
    · refine y_iload_n Z dX1_coverOf_34 0 rfl rfl ?_
      refine y_goto (tgt := 39) Z dX1_coverOf_35 (by decide) ?_
      exact y_retI Z hr hlk dX1_coverOf_39 (by first | (simp only [coverF, fullF, eq_true h2, h6, if_true, if_false, not_false_eq_true, not_true_eq_false, ↓reduceIte]; done) | (simp only [coverF, fullF, eq_true h2, h6, if_true, if_false, not_false_eq_true, not_true_eq_false, ↓reduceIte, wMix, wLog, wPic, wRep, wScr, wVM, wMd, sR_eq, sR_ne, sF_eq, sF_ne, upd_eq, upd_ne, gs_eq, gs_ne, gm_4, gm_ne, Nat.reduceBEq]; done) | (with_reducible rfl) | (simp only [coverF, fullF, eq_true h2, h6, if_true, if_false, not_false_eq_true, not_true_eq_false, ↓reduceIte]; rfl) | rfl) (by first | (simp only [coverF, fullF, eq_true h2, h6, if_true, if_false, not_false_eq_true, not_true_eq_false, ↓reduceIte]; done) | (simp only [coverF, fullF, eq_true h2, h6, if_true, if_false, not_false_eq_true, not_true_eq_false, ↓reduceIte, wMix, wLog, wPic, wRep, wScr, wVM, wMd, sR_eq, sR_ne, sF_eq, sF_ne, upd_eq, upd_ne, gs_eq, gs_ne, gm_4, gm_ne, Nat.reduceBEq]; done) | (with_reducible rfl) | (simp only [coverF, fullF, eq_true h2, h6, if_true, if_false, not_false_eq_true, not_true_eq_false, ↓reduceIte]; rfl) | rfl)
set_option maxHeartbeats 4000000 in
set_option maxRecDepth 100000 in
theorem k_X1_tellSetting (l : Launch) (D : va_G) {cI : ClassId} {tys : List (ClassId × FieldType)} (ht0 : tys[0]? = some (cI, .int)) (aM : Nat → Nat) (M : Nat → Nat → Int32) (w : Int32) (sz : Nat) : kI l yX1_tellSetting cX1_tellSetting 2 (some .int) { frames := 0, cells := 0, slots := 0, locals := 0 } D tys [.ref (aM 0), .int w] (wMix cI aM M) (wMix cI aM M) (tellF M w) 0 0 sz := by
  refine y_enterI (cc := cX1_tellSetting) (maxL := 2) (ret := (some .int)) (own := RX1) (by decide) rfl (lv0 := [(0, .ref (aM 0)), (1, .int w)]) rfl (Nat.le_of_ble_eq_true rfl) ?_
  intro p e s m args below meth c A Z hr hlk _
  refine y_iload_n Z dX1_tellSetting_0 1 rfl rfl ?_
  rcases y_sw w 0 7 (by decide) with hs1 | ⟨j2, hj, hs1⟩
  · refine y_tableOut (tgt := 88) Z dX1_tellSetting_1 hs1 (by decide) ?_
    have hs1_0 : ¬ w = 0 := y_swn hs1 0 (by decide) (by decide)
    have hs1_1 : ¬ w = 1 := y_swn hs1 1 (by decide) (by decide)
    have hs1_2 : ¬ w = 2 := y_swn hs1 2 (by decide) (by decide)
    have hs1_3 : ¬ w = 3 := y_swn hs1 3 (by decide) (by decide)
    have hs1_4 : ¬ w = 4 := y_swn hs1 4 (by decide) (by decide)
    have hs1_5 : ¬ w = 5 := y_swn hs1 5 (by decide) (by decide)
    have hs1_6 : ¬ w = 6 := y_swn hs1 6 (by decide) (by decide)
    have hs1_7 : ¬ w = 7 := y_swn hs1 7 (by decide) (by decide)
    refine y_iconst (v := -1) Z dX1_tellSetting_88 (by decide) ?_
    exact y_retI Z hr hlk dX1_tellSetting_89 (by first | (simp only [tellF, hs1_0, hs1_1, hs1_2, hs1_3, hs1_4, hs1_5, hs1_6, hs1_7, if_true, if_false, not_false_eq_true, not_true_eq_false, ↓reduceIte]; done) | (simp only [tellF, hs1_0, hs1_1, hs1_2, hs1_3, hs1_4, hs1_5, hs1_6, hs1_7, if_true, if_false, not_false_eq_true, not_true_eq_false, ↓reduceIte, wMix, wLog, wPic, wRep, wScr, wVM, wMd, sR_eq, sR_ne, sF_eq, sF_ne, upd_eq, upd_ne, gs_eq, gs_ne, gm_4, gm_ne, Nat.reduceBEq]; done) | (with_reducible rfl) | (simp only [tellF, hs1_0, hs1_1, hs1_2, hs1_3, hs1_4, hs1_5, hs1_6, hs1_7, if_true, if_false, not_false_eq_true, not_true_eq_false, ↓reduceIte]; rfl) | rfl) (by first | (simp only [tellF, hs1_0, hs1_1, hs1_2, hs1_3, hs1_4, hs1_5, hs1_6, hs1_7, if_true, if_false, not_false_eq_true, not_true_eq_false, ↓reduceIte]; done) | (simp only [tellF, hs1_0, hs1_1, hs1_2, hs1_3, hs1_4, hs1_5, hs1_6, hs1_7, if_true, if_false, not_false_eq_true, not_true_eq_false, ↓reduceIte, wMix, wLog, wPic, wRep, wScr, wVM, wMd, sR_eq, sR_ne, sF_eq, sF_ne, upd_eq, upd_ne, gs_eq, gs_ne, gm_4, gm_ne, Nat.reduceBEq]; done) | (with_reducible rfl) | (simp only [tellF, hs1_0, hs1_1, hs1_2, hs1_3, hs1_4, hs1_5, hs1_6, hs1_7, if_true, if_false, not_false_eq_true, not_true_eq_false, ↓reduceIte]; rfl) | rfl)
  · rcases (show j2 = 0 ∨ j2 = 1 ∨ j2 = 2 ∨ j2 = 3 ∨ j2 = 4 ∨ j2 = 5 ∨ j2 = 6 ∨ j2 = 7 by omega) with rfl | rfl | rfl | rfl | rfl | rfl | rfl | rfl
    · replace hs1 : w = 0 := hs1
      refine y_tableIn (tgt := 48) (off := 47) Z dX1_tellSetting_1 (by rw [hs1]; decide) (by rw [hs1]; decide) (by rw [hs1]; rfl) (by decide) ?_
      refine y_aload_n Z dX1_tellSetting_48 0 rfl rfl ?_
      refine y_get (C := RX1) (T := TX1) (N := 14) Z 1 inlX1 rfl 0 rfl 0 (by decide) fl_RX1_24 rfl dX1_tellSetting_49 ?_
      exact y_retI Z hr hlk dX1_tellSetting_52 (by subst hs1; first | (simp only [tellF, if_true, if_false, not_false_eq_true, not_true_eq_false, ↓reduceIte]; done) | (simp only [tellF, if_true, if_false, not_false_eq_true, not_true_eq_false, ↓reduceIte, wMix, wLog, wPic, wRep, wScr, wVM, wMd, sR_eq, sR_ne, sF_eq, sF_ne, upd_eq, upd_ne, gs_eq, gs_ne, gm_4, gm_ne, Nat.reduceBEq]; done) | (with_reducible rfl) | (simp only [tellF, if_true, if_false, not_false_eq_true, not_true_eq_false, ↓reduceIte]; rfl) | rfl) (by subst hs1; first | (simp only [tellF, if_true, if_false, not_false_eq_true, not_true_eq_false, ↓reduceIte]; done) | (simp only [tellF, if_true, if_false, not_false_eq_true, not_true_eq_false, ↓reduceIte, wMix, wLog, wPic, wRep, wScr, wVM, wMd, sR_eq, sR_ne, sF_eq, sF_ne, upd_eq, upd_ne, gs_eq, gs_ne, gm_4, gm_ne, Nat.reduceBEq]; done) | (with_reducible rfl) | (simp only [tellF, if_true, if_false, not_false_eq_true, not_true_eq_false, ↓reduceIte]; rfl) | rfl)
    · replace hs1 : w = 1 := hs1
      refine y_tableIn (tgt := 53) (off := 52) Z dX1_tellSetting_1 (by rw [hs1]; decide) (by rw [hs1]; decide) (by rw [hs1]; rfl) (by decide) ?_
      refine y_aload_n Z dX1_tellSetting_53 0 rfl rfl ?_
      refine y_get (C := RX1) (T := TX1) (N := 14) Z 1 inlX1 rfl 0 rfl 1 (by decide) fl_RX1_28 rfl dX1_tellSetting_54 ?_
      exact y_retI Z hr hlk dX1_tellSetting_57 (by subst hs1; first | (simp only [tellF, if_true, if_false, not_false_eq_true, not_true_eq_false, ↓reduceIte]; done) | (simp only [tellF, if_true, if_false, not_false_eq_true, not_true_eq_false, ↓reduceIte, wMix, wLog, wPic, wRep, wScr, wVM, wMd, sR_eq, sR_ne, sF_eq, sF_ne, upd_eq, upd_ne, gs_eq, gs_ne, gm_4, gm_ne, Nat.reduceBEq]; done) | (with_reducible rfl) | (simp only [tellF, if_true, if_false, not_false_eq_true, not_true_eq_false, ↓reduceIte]; rfl) | rfl) (by subst hs1; first | (simp only [tellF, if_true, if_false, not_false_eq_true, not_true_eq_false, ↓reduceIte]; done) | (simp only [tellF, if_true, if_false, not_false_eq_true, not_true_eq_false, ↓reduceIte, wMix, wLog, wPic, wRep, wScr, wVM, wMd, sR_eq, sR_ne, sF_eq, sF_ne, upd_eq, upd_ne, gs_eq, gs_ne, gm_4, gm_ne, Nat.reduceBEq]; done) | (with_reducible rfl) | (simp only [tellF, if_true, if_false, not_false_eq_true, not_true_eq_false, ↓reduceIte]; rfl) | rfl)
    · replace hs1 : w = 2 := hs1
      refine y_tableIn (tgt := 58) (off := 57) Z dX1_tellSetting_1 (by rw [hs1]; decide) (by rw [hs1]; decide) (by rw [hs1]; rfl) (by decide) ?_
      refine y_aload_n Z dX1_tellSetting_58 0 rfl rfl ?_
      refine y_get (C := RX1) (T := TX1) (N := 14) Z 1 inlX1 rfl 0 rfl 2 (by decide) fl_RX1_31 rfl dX1_tellSetting_59 ?_
      exact y_retI Z hr hlk dX1_tellSetting_62 (by subst hs1; first | (simp only [tellF, if_true, if_false, not_false_eq_true, not_true_eq_false, ↓reduceIte]; done) | (simp only [tellF, if_true, if_false, not_false_eq_true, not_true_eq_false, ↓reduceIte, wMix, wLog, wPic, wRep, wScr, wVM, wMd, sR_eq, sR_ne, sF_eq, sF_ne, upd_eq, upd_ne, gs_eq, gs_ne, gm_4, gm_ne, Nat.reduceBEq]; done) | (with_reducible rfl) | (simp only [tellF, if_true, if_false, not_false_eq_true, not_true_eq_false, ↓reduceIte]; rfl) | rfl) (by subst hs1; first | (simp only [tellF, if_true, if_false, not_false_eq_true, not_true_eq_false, ↓reduceIte]; done) | (simp only [tellF, if_true, if_false, not_false_eq_true, not_true_eq_false, ↓reduceIte, wMix, wLog, wPic, wRep, wScr, wVM, wMd, sR_eq, sR_ne, sF_eq, sF_ne, upd_eq, upd_ne, gs_eq, gs_ne, gm_4, gm_ne, Nat.reduceBEq]; done) | (with_reducible rfl) | (simp only [tellF, if_true, if_false, not_false_eq_true, not_true_eq_false, ↓reduceIte]; rfl) | rfl)
    · replace hs1 : w = 3 := hs1
      refine y_tableIn (tgt := 63) (off := 62) Z dX1_tellSetting_1 (by rw [hs1]; decide) (by rw [hs1]; decide) (by rw [hs1]; rfl) (by decide) ?_
      refine y_aload_n Z dX1_tellSetting_63 0 rfl rfl ?_
      refine y_get (C := RX1) (T := TX1) (N := 14) Z 1 inlX1 rfl 0 rfl 3 (by decide) fl_RX1_34 rfl dX1_tellSetting_64 ?_
      exact y_retI Z hr hlk dX1_tellSetting_67 (by subst hs1; first | (simp only [tellF, if_true, if_false, not_false_eq_true, not_true_eq_false, ↓reduceIte]; done) | (simp only [tellF, if_true, if_false, not_false_eq_true, not_true_eq_false, ↓reduceIte, wMix, wLog, wPic, wRep, wScr, wVM, wMd, sR_eq, sR_ne, sF_eq, sF_ne, upd_eq, upd_ne, gs_eq, gs_ne, gm_4, gm_ne, Nat.reduceBEq]; done) | (with_reducible rfl) | (simp only [tellF, if_true, if_false, not_false_eq_true, not_true_eq_false, ↓reduceIte]; rfl) | rfl) (by subst hs1; first | (simp only [tellF, if_true, if_false, not_false_eq_true, not_true_eq_false, ↓reduceIte]; done) | (simp only [tellF, if_true, if_false, not_false_eq_true, not_true_eq_false, ↓reduceIte, wMix, wLog, wPic, wRep, wScr, wVM, wMd, sR_eq, sR_ne, sF_eq, sF_ne, upd_eq, upd_ne, gs_eq, gs_ne, gm_4, gm_ne, Nat.reduceBEq]; done) | (with_reducible rfl) | (simp only [tellF, if_true, if_false, not_false_eq_true, not_true_eq_false, ↓reduceIte]; rfl) | rfl)
    · replace hs1 : w = 4 := hs1
      refine y_tableIn (tgt := 68) (off := 67) Z dX1_tellSetting_1 (by rw [hs1]; decide) (by rw [hs1]; decide) (by rw [hs1]; rfl) (by decide) ?_
      refine y_aload_n Z dX1_tellSetting_68 0 rfl rfl ?_
      refine y_get (C := RX1) (T := TX1) (N := 14) Z 1 inlX1 rfl 0 rfl 4 (by decide) fl_RX1_37 rfl dX1_tellSetting_69 ?_
      exact y_retI Z hr hlk dX1_tellSetting_72 (by subst hs1; first | (simp only [tellF, if_true, if_false, not_false_eq_true, not_true_eq_false, ↓reduceIte]; done) | (simp only [tellF, if_true, if_false, not_false_eq_true, not_true_eq_false, ↓reduceIte, wMix, wLog, wPic, wRep, wScr, wVM, wMd, sR_eq, sR_ne, sF_eq, sF_ne, upd_eq, upd_ne, gs_eq, gs_ne, gm_4, gm_ne, Nat.reduceBEq]; done) | (with_reducible rfl) | (simp only [tellF, if_true, if_false, not_false_eq_true, not_true_eq_false, ↓reduceIte]; rfl) | rfl) (by subst hs1; first | (simp only [tellF, if_true, if_false, not_false_eq_true, not_true_eq_false, ↓reduceIte]; done) | (simp only [tellF, if_true, if_false, not_false_eq_true, not_true_eq_false, ↓reduceIte, wMix, wLog, wPic, wRep, wScr, wVM, wMd, sR_eq, sR_ne, sF_eq, sF_ne, upd_eq, upd_ne, gs_eq, gs_ne, gm_4, gm_ne, Nat.reduceBEq]; done) | (with_reducible rfl) | (simp only [tellF, if_true, if_false, not_false_eq_true, not_true_eq_false, ↓reduceIte]; rfl) | rfl)
    · replace hs1 : w = 5 := hs1
      refine y_tableIn (tgt := 73) (off := 72) Z dX1_tellSetting_1 (by rw [hs1]; decide) (by rw [hs1]; decide) (by rw [hs1]; rfl) (by decide) ?_
      refine y_aload_n Z dX1_tellSetting_73 0 rfl rfl ?_
      refine y_get (C := RX1) (T := TX1) (N := 14) Z 1 inlX1 rfl 0 rfl 5 (by decide) fl_RX1_40 rfl dX1_tellSetting_74 ?_
      exact y_retI Z hr hlk dX1_tellSetting_77 (by subst hs1; first | (simp only [tellF, if_true, if_false, not_false_eq_true, not_true_eq_false, ↓reduceIte]; done) | (simp only [tellF, if_true, if_false, not_false_eq_true, not_true_eq_false, ↓reduceIte, wMix, wLog, wPic, wRep, wScr, wVM, wMd, sR_eq, sR_ne, sF_eq, sF_ne, upd_eq, upd_ne, gs_eq, gs_ne, gm_4, gm_ne, Nat.reduceBEq]; done) | (with_reducible rfl) | (simp only [tellF, if_true, if_false, not_false_eq_true, not_true_eq_false, ↓reduceIte]; rfl) | rfl) (by subst hs1; first | (simp only [tellF, if_true, if_false, not_false_eq_true, not_true_eq_false, ↓reduceIte]; done) | (simp only [tellF, if_true, if_false, not_false_eq_true, not_true_eq_false, ↓reduceIte, wMix, wLog, wPic, wRep, wScr, wVM, wMd, sR_eq, sR_ne, sF_eq, sF_ne, upd_eq, upd_ne, gs_eq, gs_ne, gm_4, gm_ne, Nat.reduceBEq]; done) | (with_reducible rfl) | (simp only [tellF, if_true, if_false, not_false_eq_true, not_true_eq_false, ↓reduceIte]; rfl) | rfl)
    · replace hs1 : w = 6 := hs1
      refine y_tableIn (tgt := 78) (off := 77) Z dX1_tellSetting_1 (by rw [hs1]; decide) (by rw [hs1]; decide) (by rw [hs1]; rfl) (by decide) ?_
      refine y_aload_n Z dX1_tellSetting_78 0 rfl rfl ?_
      refine y_get (C := RX1) (T := TX1) (N := 14) Z 1 inlX1 rfl 0 rfl 6 (by decide) fl_RX1_43 rfl dX1_tellSetting_79 ?_
      exact y_retI Z hr hlk dX1_tellSetting_82 (by subst hs1; first | (simp only [tellF, if_true, if_false, not_false_eq_true, not_true_eq_false, ↓reduceIte]; done) | (simp only [tellF, if_true, if_false, not_false_eq_true, not_true_eq_false, ↓reduceIte, wMix, wLog, wPic, wRep, wScr, wVM, wMd, sR_eq, sR_ne, sF_eq, sF_ne, upd_eq, upd_ne, gs_eq, gs_ne, gm_4, gm_ne, Nat.reduceBEq]; done) | (with_reducible rfl) | (simp only [tellF, if_true, if_false, not_false_eq_true, not_true_eq_false, ↓reduceIte]; rfl) | rfl) (by subst hs1; first | (simp only [tellF, if_true, if_false, not_false_eq_true, not_true_eq_false, ↓reduceIte]; done) | (simp only [tellF, if_true, if_false, not_false_eq_true, not_true_eq_false, ↓reduceIte, wMix, wLog, wPic, wRep, wScr, wVM, wMd, sR_eq, sR_ne, sF_eq, sF_ne, upd_eq, upd_ne, gs_eq, gs_ne, gm_4, gm_ne, Nat.reduceBEq]; done) | (with_reducible rfl) | (simp only [tellF, if_true, if_false, not_false_eq_true, not_true_eq_false, ↓reduceIte]; rfl) | rfl)
    · replace hs1 : w = 7 := hs1
      refine y_tableIn (tgt := 83) (off := 82) Z dX1_tellSetting_1 (by rw [hs1]; decide) (by rw [hs1]; decide) (by rw [hs1]; rfl) (by decide) ?_
      refine y_aload_n Z dX1_tellSetting_83 0 rfl rfl ?_
      refine y_get (C := RX1) (T := TX1) (N := 14) Z 1 inlX1 rfl 0 rfl 7 (by decide) fl_RX1_46 rfl dX1_tellSetting_84 ?_
      exact y_retI Z hr hlk dX1_tellSetting_87 (by subst hs1; first | (simp only [tellF, if_true, if_false, not_false_eq_true, not_true_eq_false, ↓reduceIte]; done) | (simp only [tellF, if_true, if_false, not_false_eq_true, not_true_eq_false, ↓reduceIte, wMix, wLog, wPic, wRep, wScr, wVM, wMd, sR_eq, sR_ne, sF_eq, sF_ne, upd_eq, upd_ne, gs_eq, gs_ne, gm_4, gm_ne, Nat.reduceBEq]; done) | (with_reducible rfl) | (simp only [tellF, if_true, if_false, not_false_eq_true, not_true_eq_false, ↓reduceIte]; rfl) | rfl) (by subst hs1; first | (simp only [tellF, if_true, if_false, not_false_eq_true, not_true_eq_false, ↓reduceIte]; done) | (simp only [tellF, if_true, if_false, not_false_eq_true, not_true_eq_false, ↓reduceIte, wMix, wLog, wPic, wRep, wScr, wVM, wMd, sR_eq, sR_ne, sF_eq, sF_ne, upd_eq, upd_ne, gs_eq, gs_ne, gm_4, gm_ne, Nat.reduceBEq]; done) | (with_reducible rfl) | (simp only [tellF, if_true, if_false, not_false_eq_true, not_true_eq_false, ↓reduceIte]; rfl) | rfl)
set_option maxHeartbeats 4000000 in
set_option maxRecDepth 100000 in
theorem k_X1_tellKeyer (l : Launch) (D : va_G) {cI : ClassId} {tys : List (ClassId × FieldType)} (ht0 : tys[0]? = some (cI, .int)) (aM : Nat → Nat) (M : Nat → Nat → Int32) (k : Int32) (w : Int32) (sz : Nat) : kI l yX1_tellKeyer cX1_tellKeyer 3 (some .int) { frames := 1, cells := 0, slots := 0, locals := 21 } D tys [.ref (aM 0), .int k, .int w] (wMix cI aM M) (wMix cI aM M) (tellK M k w) 0 0 sz := by
  refine y_enterI (cc := cX1_tellKeyer) (maxL := 3) (ret := (some .int)) (own := RX1) (by decide) rfl (lv0 := [(0, .ref (aM 0)), (1, .int k), (2, .int w)]) rfl (Nat.le_of_ble_eq_true rfl) ?_
  intro p e s m args below meth c A Z hr hlk _
  refine y_iload_n Z dX1_tellKeyer_0 2 rfl rfl ?_
  rcases y_sw w 0 2 (by decide) with hs1 | ⟨j2, hj, hs1⟩
  · refine y_tableOut (tgt := 55) Z dX1_tellKeyer_1 hs1 (by decide) ?_
    have hs1_0 : ¬ w = 0 := y_swn hs1 0 (by decide) (by decide)
    have hs1_1 : ¬ w = 1 := y_swn hs1 1 (by decide) (by decide)
    have hs1_2 : ¬ w = 2 := y_swn hs1 2 (by decide) (by decide)
    refine y_aload_n Z dX1_tellKeyer_55 0 rfl rfl ?_
    refine y_iload_n Z dX1_tellKeyer_56 1 rfl rfl ?_
    refine y_VI Z (k_X1_isOn l D ht0 aM M k) (y_cwV 1 Z ml_RX1_96 im_X1_isOn se_X1_isOn in_X1 co_X1_isOn rfl rfl hd_X1_isOn ⟨Nat.le_of_ble_eq_true rfl, Nat.le_of_ble_eq_true rfl⟩) [0, 1, 2, 3] rfl (by decide) 1 0 rfl rfl rfl rfl (Nat.le_of_ble_eq_true rfl) dX1_tellKeyer_57 ⟨Nat.le_of_ble_eq_true rfl, Nat.le_of_ble_eq_true rfl⟩ [(aM 0), (aM 1), (aM 2), (aM 3)] rfl rfl (wMix cI aM M) rfl ?_
    refine y_if_eq (tgt := 67) Z dX1_tellKeyer_60 (by decide) (fun h3 => ?_) (fun h4 => ?_)
    · refine y_iconst (v := 0) Z dX1_tellKeyer_67 (by decide) ?_
      exact y_retI Z hr hlk dX1_tellKeyer_68 (by first | (simp only [tellK, hs1_0, hs1_1, hs1_2, eq_true h3, if_true, if_false, not_false_eq_true, not_true_eq_false, ↓reduceIte]; done) | (simp only [tellK, hs1_0, hs1_1, hs1_2, eq_true h3, if_true, if_false, not_false_eq_true, not_true_eq_false, ↓reduceIte, wMix, wLog, wPic, wRep, wScr, wVM, wMd, sR_eq, sR_ne, sF_eq, sF_ne, upd_eq, upd_ne, gs_eq, gs_ne, gm_4, gm_ne, Nat.reduceBEq]; done) | (with_reducible rfl) | (simp only [tellK, hs1_0, hs1_1, hs1_2, eq_true h3, if_true, if_false, not_false_eq_true, not_true_eq_false, ↓reduceIte]; rfl) | rfl) (by first | (simp only [tellK, hs1_0, hs1_1, hs1_2, eq_true h3, if_true, if_false, not_false_eq_true, not_true_eq_false, ↓reduceIte]; done) | (simp only [tellK, hs1_0, hs1_1, hs1_2, eq_true h3, if_true, if_false, not_false_eq_true, not_true_eq_false, ↓reduceIte, wMix, wLog, wPic, wRep, wScr, wVM, wMd, sR_eq, sR_ne, sF_eq, sF_ne, upd_eq, upd_ne, gs_eq, gs_ne, gm_4, gm_ne, Nat.reduceBEq]; done) | (with_reducible rfl) | (simp only [tellK, hs1_0, hs1_1, hs1_2, eq_true h3, if_true, if_false, not_false_eq_true, not_true_eq_false, ↓reduceIte]; rfl) | rfl)
    · refine y_iconst (v := 1) Z dX1_tellKeyer_63 (by decide) ?_
      refine y_goto (tgt := 68) Z dX1_tellKeyer_64 (by decide) ?_
      exact y_retI Z hr hlk dX1_tellKeyer_68 (by first | (simp only [tellK, hs1_0, hs1_1, hs1_2, h4, if_true, if_false, not_false_eq_true, not_true_eq_false, ↓reduceIte]; done) | (simp only [tellK, hs1_0, hs1_1, hs1_2, h4, if_true, if_false, not_false_eq_true, not_true_eq_false, ↓reduceIte, wMix, wLog, wPic, wRep, wScr, wVM, wMd, sR_eq, sR_ne, sF_eq, sF_ne, upd_eq, upd_ne, gs_eq, gs_ne, gm_4, gm_ne, Nat.reduceBEq]; done) | (with_reducible rfl) | (simp only [tellK, hs1_0, hs1_1, hs1_2, h4, if_true, if_false, not_false_eq_true, not_true_eq_false, ↓reduceIte]; rfl) | rfl) (by first | (simp only [tellK, hs1_0, hs1_1, hs1_2, h4, if_true, if_false, not_false_eq_true, not_true_eq_false, ↓reduceIte]; done) | (simp only [tellK, hs1_0, hs1_1, hs1_2, h4, if_true, if_false, not_false_eq_true, not_true_eq_false, ↓reduceIte, wMix, wLog, wPic, wRep, wScr, wVM, wMd, sR_eq, sR_ne, sF_eq, sF_ne, upd_eq, upd_ne, gs_eq, gs_ne, gm_4, gm_ne, Nat.reduceBEq]; done) | (with_reducible rfl) | (simp only [tellK, hs1_0, hs1_1, hs1_2, h4, if_true, if_false, not_false_eq_true, not_true_eq_false, ↓reduceIte]; rfl) | rfl)
  · rcases (show j2 = 0 ∨ j2 = 1 ∨ j2 = 2 by omega) with rfl | rfl | rfl
    · replace hs1 : w = 0 := hs1
      refine y_tableIn (tgt := 28) (off := 27) Z dX1_tellKeyer_1 (by rw [hs1]; decide) (by rw [hs1]; decide) (by rw [hs1]; rfl) (by decide) ?_
      refine y_aload_n Z dX1_tellKeyer_28 0 rfl rfl ?_
      refine y_get (C := RX1) (T := TX1) (N := 14) Z 1 inlX1 rfl 0 rfl 11 (by decide) fl_RX1_9 rfl dX1_tellKeyer_29 ?_
      refine y_iload_n Z dX1_tellKeyer_32 1 rfl rfl ?_
      refine y_NI Z (k_X5_cell l D ht0 (aM 1) 3 (M 1) k (by decide)) (y_cn (n := 2) (host := RX5) Z co_X5_cell rfl rfl nm_RX1_62 in_X5 st_X5_cell hs_X5_cell ⟨Nat.le_of_ble_eq_true rfl, Nat.le_of_ble_eq_true rfl⟩) [1] rfl (by decide) rfl rfl (Nat.le_of_ble_eq_true rfl) dX1_tellKeyer_33 ⟨Nat.le_of_ble_eq_true rfl, Nat.le_of_ble_eq_true rfl⟩ [(aM 1)] rfl rfl (wMix cI aM M) rfl ?_
      exact y_retI Z hr hlk dX1_tellKeyer_36 (by subst hs1; first | (simp only [tellK, if_true, if_false, not_false_eq_true, not_true_eq_false, ↓reduceIte]; done) | (simp only [tellK, if_true, if_false, not_false_eq_true, not_true_eq_false, ↓reduceIte, wMix, wLog, wPic, wRep, wScr, wVM, wMd, sR_eq, sR_ne, sF_eq, sF_ne, upd_eq, upd_ne, gs_eq, gs_ne, gm_4, gm_ne, Nat.reduceBEq]; done) | (with_reducible rfl) | (simp only [tellK, if_true, if_false, not_false_eq_true, not_true_eq_false, ↓reduceIte]; rfl) | rfl) (by subst hs1; first | (simp only [tellK, if_true, if_false, not_false_eq_true, not_true_eq_false, ↓reduceIte]; done) | (simp only [tellK, if_true, if_false, not_false_eq_true, not_true_eq_false, ↓reduceIte, wMix, wLog, wPic, wRep, wScr, wVM, wMd, sR_eq, sR_ne, sF_eq, sF_ne, upd_eq, upd_ne, gs_eq, gs_ne, gm_4, gm_ne, Nat.reduceBEq]; done) | (with_reducible rfl) | (simp only [tellK, if_true, if_false, not_false_eq_true, not_true_eq_false, ↓reduceIte]; rfl) | rfl)
    · replace hs1 : w = 1 := hs1
      refine y_tableIn (tgt := 37) (off := 36) Z dX1_tellKeyer_1 (by rw [hs1]; decide) (by rw [hs1]; decide) (by rw [hs1]; rfl) (by decide) ?_
      refine y_aload_n Z dX1_tellKeyer_37 0 rfl rfl ?_
      refine y_get (C := RX1) (T := TX1) (N := 14) Z 1 inlX1 rfl 0 rfl 12 (by decide) fl_RX1_15 rfl dX1_tellKeyer_38 ?_
      refine y_iload_n Z dX1_tellKeyer_41 1 rfl rfl ?_
      refine y_NI Z (k_X5_cell l D ht0 (aM 2) 3 (M 2) k (by decide)) (y_cn (n := 2) (host := RX5) Z co_X5_cell rfl rfl nm_RX1_62 in_X5 st_X5_cell hs_X5_cell ⟨Nat.le_of_ble_eq_true rfl, Nat.le_of_ble_eq_true rfl⟩) [2] rfl (by decide) rfl rfl (Nat.le_of_ble_eq_true rfl) dX1_tellKeyer_42 ⟨Nat.le_of_ble_eq_true rfl, Nat.le_of_ble_eq_true rfl⟩ [(aM 2)] rfl rfl (wMix cI aM M) rfl ?_
      exact y_retI Z hr hlk dX1_tellKeyer_45 (by subst hs1; first | (simp only [tellK, if_true, if_false, not_false_eq_true, not_true_eq_false, ↓reduceIte]; done) | (simp only [tellK, if_true, if_false, not_false_eq_true, not_true_eq_false, ↓reduceIte, wMix, wLog, wPic, wRep, wScr, wVM, wMd, sR_eq, sR_ne, sF_eq, sF_ne, upd_eq, upd_ne, gs_eq, gs_ne, gm_4, gm_ne, Nat.reduceBEq]; done) | (with_reducible rfl) | (simp only [tellK, if_true, if_false, not_false_eq_true, not_true_eq_false, ↓reduceIte]; rfl) | rfl) (by subst hs1; first | (simp only [tellK, if_true, if_false, not_false_eq_true, not_true_eq_false, ↓reduceIte]; done) | (simp only [tellK, if_true, if_false, not_false_eq_true, not_true_eq_false, ↓reduceIte, wMix, wLog, wPic, wRep, wScr, wVM, wMd, sR_eq, sR_ne, sF_eq, sF_ne, upd_eq, upd_ne, gs_eq, gs_ne, gm_4, gm_ne, Nat.reduceBEq]; done) | (with_reducible rfl) | (simp only [tellK, if_true, if_false, not_false_eq_true, not_true_eq_false, ↓reduceIte]; rfl) | rfl)
    · replace hs1 : w = 2 := hs1
      refine y_tableIn (tgt := 46) (off := 45) Z dX1_tellKeyer_1 (by rw [hs1]; decide) (by rw [hs1]; decide) (by rw [hs1]; rfl) (by decide) ?_
      refine y_aload_n Z dX1_tellKeyer_46 0 rfl rfl ?_
      refine y_get (C := RX1) (T := TX1) (N := 14) Z 1 inlX1 rfl 0 rfl 13 (by decide) fl_RX1_18 rfl dX1_tellKeyer_47 ?_
      refine y_iload_n Z dX1_tellKeyer_50 1 rfl rfl ?_
      refine y_NI Z (k_X5_cell l D ht0 (aM 3) 3 (M 3) k (by decide)) (y_cn (n := 2) (host := RX5) Z co_X5_cell rfl rfl nm_RX1_62 in_X5 st_X5_cell hs_X5_cell ⟨Nat.le_of_ble_eq_true rfl, Nat.le_of_ble_eq_true rfl⟩) [3] rfl (by decide) rfl rfl (Nat.le_of_ble_eq_true rfl) dX1_tellKeyer_51 ⟨Nat.le_of_ble_eq_true rfl, Nat.le_of_ble_eq_true rfl⟩ [(aM 3)] rfl rfl (wMix cI aM M) rfl ?_
      exact y_retI Z hr hlk dX1_tellKeyer_54 (by subst hs1; first | (simp only [tellK, if_true, if_false, not_false_eq_true, not_true_eq_false, ↓reduceIte]; done) | (simp only [tellK, if_true, if_false, not_false_eq_true, not_true_eq_false, ↓reduceIte, wMix, wLog, wPic, wRep, wScr, wVM, wMd, sR_eq, sR_ne, sF_eq, sF_ne, upd_eq, upd_ne, gs_eq, gs_ne, gm_4, gm_ne, Nat.reduceBEq]; done) | (with_reducible rfl) | (simp only [tellK, if_true, if_false, not_false_eq_true, not_true_eq_false, ↓reduceIte]; rfl) | rfl) (by subst hs1; first | (simp only [tellK, if_true, if_false, not_false_eq_true, not_true_eq_false, ↓reduceIte]; done) | (simp only [tellK, if_true, if_false, not_false_eq_true, not_true_eq_false, ↓reduceIte, wMix, wLog, wPic, wRep, wScr, wVM, wMd, sR_eq, sR_ne, sF_eq, sF_ne, upd_eq, upd_ne, gs_eq, gs_ne, gm_4, gm_ne, Nat.reduceBEq]; done) | (with_reducible rfl) | (simp only [tellK, if_true, if_false, not_false_eq_true, not_true_eq_false, ↓reduceIte]; rfl) | rfl)
set_option maxHeartbeats 4000000 in
set_option maxRecDepth 100000 in
theorem k_X1_setProgram (l : Launch) (D : va_G) {cI : ClassId} {tys : List (ClassId × FieldType)} (ht0 : tys[0]? = some (cI, .int)) (aM : Nat → Nat) (M : Nat → Nat → Int32) (v : Int32) (sz : Nat) : kI l yX1_setProgram cX1_setProgram 3 (some .int) { frames := 0, cells := 0, slots := 0, locals := 0 } D tys [.ref (aM 0), .int v] (wMix cI aM M) (wMix cI aM (sF M 0 0 v)) (M 0 0) 0 0 sz := by
  refine y_enterI (cc := cX1_setProgram) (maxL := 3) (ret := (some .int)) (own := RX1) (by decide) rfl (lv0 := [(0, .ref (aM 0)), (1, .int v)]) rfl (Nat.le_of_ble_eq_true rfl) ?_
  intro p e s m args below meth c A Z hr hlk _
  refine y_aload_n Z dX1_setProgram_0 0 rfl rfl ?_
  refine y_get (C := RX1) (T := TX1) (N := 14) Z 1 inlX1 rfl 0 rfl 0 (by decide) fl_RX1_24 rfl dX1_setProgram_1 ?_
  refine y_istore_n Z [(2, .int (M 0 0)), (0, .ref (aM 0)), (1, .int v)] dX1_setProgram_4 rfl (by decide) rfl ?_
  refine y_aload_n Z dX1_setProgram_5 1 rfl rfl ?_
  refine y_iload_n Z dX1_setProgram_6 2 rfl rfl ?_
  refine y_put (C := RX1) (T := TX1) (N := 14) Z 1 inlX1 rfl tyX1 tyX1_ok nmX1 0 rfl 0 (by decide) fl_RX1_24 rfl rfl rfl (Nat.le_of_ble_eq_true rfl) (wMixR cI aM v (M 0 1) (M 0 2) (M 0 3) (M 0 4) (M 0 5) (M 0 6) (M 0 7) (M 0 8) (M 0 9) (M 0 10) (M 1) (M 2) (M 3)) rfl dX1_setProgram_7 ?_
  refine y_iload_n Z dX1_setProgram_10 0 rfl rfl ?_
  exact y_retI Z hr hlk dX1_setProgram_11 (by first | (with_reducible rfl) | (simp only [wMix, wLog, wPic, wRep, wScr, wVM, wMd, sR_eq, sR_ne, sF_eq, sF_ne, upd_eq, upd_ne, gs_eq, gs_ne, gm_4, gm_ne, Nat.reduceBEq]; done) | rfl) (by first | (with_reducible rfl) | (simp only [wMix, wLog, wPic, wRep, wScr, wVM, wMd, sR_eq, sR_ne, sF_eq, sF_ne, upd_eq, upd_ne, gs_eq, gs_ne, gm_4, gm_ne, Nat.reduceBEq]; done) | rfl)
set_option maxHeartbeats 4000000 in
set_option maxRecDepth 100000 in
theorem k_X1_setPreview (l : Launch) (D : va_G) {cI : ClassId} {tys : List (ClassId × FieldType)} (ht0 : tys[0]? = some (cI, .int)) (aM : Nat → Nat) (M : Nat → Nat → Int32) (v : Int32) (sz : Nat) : kI l yX1_setPreview cX1_setPreview 3 (some .int) { frames := 0, cells := 0, slots := 0, locals := 0 } D tys [.ref (aM 0), .int v] (wMix cI aM M) (wMix cI aM (sF M 0 1 v)) (M 0 1) 0 0 sz := by
  refine y_enterI (cc := cX1_setPreview) (maxL := 3) (ret := (some .int)) (own := RX1) (by decide) rfl (lv0 := [(0, .ref (aM 0)), (1, .int v)]) rfl (Nat.le_of_ble_eq_true rfl) ?_
  intro p e s m args below meth c A Z hr hlk _
  refine y_aload_n Z dX1_setPreview_0 0 rfl rfl ?_
  refine y_get (C := RX1) (T := TX1) (N := 14) Z 1 inlX1 rfl 0 rfl 1 (by decide) fl_RX1_28 rfl dX1_setPreview_1 ?_
  refine y_istore_n Z [(2, .int (M 0 1)), (0, .ref (aM 0)), (1, .int v)] dX1_setPreview_4 rfl (by decide) rfl ?_
  refine y_aload_n Z dX1_setPreview_5 1 rfl rfl ?_
  refine y_iload_n Z dX1_setPreview_6 2 rfl rfl ?_
  refine y_put (C := RX1) (T := TX1) (N := 14) Z 1 inlX1 rfl tyX1 tyX1_ok nmX1 0 rfl 1 (by decide) fl_RX1_28 rfl rfl rfl (Nat.le_of_ble_eq_true rfl) (wMixR cI aM (M 0 0) v (M 0 2) (M 0 3) (M 0 4) (M 0 5) (M 0 6) (M 0 7) (M 0 8) (M 0 9) (M 0 10) (M 1) (M 2) (M 3)) rfl dX1_setPreview_7 ?_
  refine y_iload_n Z dX1_setPreview_10 0 rfl rfl ?_
  exact y_retI Z hr hlk dX1_setPreview_11 (by first | (with_reducible rfl) | (simp only [wMix, wLog, wPic, wRep, wScr, wVM, wMd, sR_eq, sR_ne, sF_eq, sF_ne, upd_eq, upd_ne, gs_eq, gs_ne, gm_4, gm_ne, Nat.reduceBEq]; done) | rfl) (by first | (with_reducible rfl) | (simp only [wMix, wLog, wPic, wRep, wScr, wVM, wMd, sR_eq, sR_ne, sF_eq, sF_ne, upd_eq, upd_ne, gs_eq, gs_ne, gm_4, gm_ne, Nat.reduceBEq]; done) | rfl)
set_option maxHeartbeats 4000000 in
set_option maxRecDepth 100000 in
theorem k_X1_setElements (l : Launch) (D : va_G) {cI : ClassId} {tys : List (ClassId × FieldType)} (ht0 : tys[0]? = some (cI, .int)) (aM : Nat → Nat) (M : Nat → Nat → Int32) (v : Int32) (sz : Nat) : kI l yX1_setElements cX1_setElements 3 (some .int) { frames := 0, cells := 0, slots := 0, locals := 0 } D tys [.ref (aM 0), .int v] (wMix cI aM M) (wMix cI aM (sF M 0 4 v)) (M 0 4) 0 0 sz := by
  refine y_enterI (cc := cX1_setElements) (maxL := 3) (ret := (some .int)) (own := RX1) (by decide) rfl (lv0 := [(0, .ref (aM 0)), (1, .int v)]) rfl (Nat.le_of_ble_eq_true rfl) ?_
  intro p e s m args below meth c A Z hr hlk _
  refine y_aload_n Z dX1_setElements_0 0 rfl rfl ?_
  refine y_get (C := RX1) (T := TX1) (N := 14) Z 1 inlX1 rfl 0 rfl 4 (by decide) fl_RX1_37 rfl dX1_setElements_1 ?_
  refine y_istore_n Z [(2, .int (M 0 4)), (0, .ref (aM 0)), (1, .int v)] dX1_setElements_4 rfl (by decide) rfl ?_
  refine y_aload_n Z dX1_setElements_5 1 rfl rfl ?_
  refine y_iload_n Z dX1_setElements_6 2 rfl rfl ?_
  refine y_put (C := RX1) (T := TX1) (N := 14) Z 1 inlX1 rfl tyX1 tyX1_ok nmX1 0 rfl 4 (by decide) fl_RX1_37 rfl rfl rfl (Nat.le_of_ble_eq_true rfl) (wMixR cI aM (M 0 0) (M 0 1) (M 0 2) (M 0 3) v (M 0 5) (M 0 6) (M 0 7) (M 0 8) (M 0 9) (M 0 10) (M 1) (M 2) (M 3)) rfl dX1_setElements_7 ?_
  refine y_iload_n Z dX1_setElements_10 0 rfl rfl ?_
  exact y_retI Z hr hlk dX1_setElements_11 (by first | (with_reducible rfl) | (simp only [wMix, wLog, wPic, wRep, wScr, wVM, wMd, sR_eq, sR_ne, sF_eq, sF_ne, upd_eq, upd_ne, gs_eq, gs_ne, gm_4, gm_ne, Nat.reduceBEq]; done) | rfl) (by first | (with_reducible rfl) | (simp only [wMix, wLog, wPic, wRep, wScr, wVM, wMd, sR_eq, sR_ne, sF_eq, sF_ne, upd_eq, upd_ne, gs_eq, gs_ne, gm_4, gm_ne, Nat.reduceBEq]; done) | rfl)
set_option maxHeartbeats 4000000 in
set_option maxRecDepth 100000 in
theorem k_X1_setKindAndRate (l : Launch) (D : va_G) {cI : ClassId} {tys : List (ClassId × FieldType)} (ht0 : tys[0]? = some (cI, .int)) (aM : Nat → Nat) (M : Nat → Nat → Int32) (v : Int32) (w : Int32) (sz : Nat) : kI l yX1_setKindAndRate cX1_setKindAndRate 4 (some .int) { frames := 0, cells := 0, slots := 0, locals := 0 } D tys [.ref (aM 0), .int v, .int w] (wMix cI aM M) (wMix cI aM (sF (sF M 0 2 v) 0 3 w)) (M 0 2) 0 0 sz := by
  refine y_enterI (cc := cX1_setKindAndRate) (maxL := 4) (ret := (some .int)) (own := RX1) (by decide) rfl (lv0 := [(0, .ref (aM 0)), (1, .int v), (2, .int w)]) rfl (Nat.le_of_ble_eq_true rfl) ?_
  intro p e s m args below meth c A Z hr hlk _
  refine y_aload_n Z dX1_setKindAndRate_0 0 rfl rfl ?_
  refine y_get (C := RX1) (T := TX1) (N := 14) Z 1 inlX1 rfl 0 rfl 2 (by decide) fl_RX1_31 rfl dX1_setKindAndRate_1 ?_
  refine y_istore_n Z [(3, .int (M 0 2)), (0, .ref (aM 0)), (1, .int v), (2, .int w)] dX1_setKindAndRate_4 rfl (by decide) rfl ?_
  refine y_aload_n Z dX1_setKindAndRate_5 1 rfl rfl ?_
  refine y_iload_n Z dX1_setKindAndRate_6 2 rfl rfl ?_
  refine y_put (C := RX1) (T := TX1) (N := 14) Z 1 inlX1 rfl tyX1 tyX1_ok nmX1 0 rfl 2 (by decide) fl_RX1_31 rfl rfl rfl (Nat.le_of_ble_eq_true rfl) (wMixR cI aM (M 0 0) (M 0 1) v (M 0 3) (M 0 4) (M 0 5) (M 0 6) (M 0 7) (M 0 8) (M 0 9) (M 0 10) (M 1) (M 2) (M 3)) rfl dX1_setKindAndRate_7 ?_
  refine y_aload_n Z dX1_setKindAndRate_10 1 rfl rfl ?_
  refine y_iload_n Z dX1_setKindAndRate_11 3 rfl rfl ?_
  refine y_put (C := RX1) (T := TX1) (N := 14) Z 1 inlX1 rfl tyX1 tyX1_ok nmX1 0 rfl 3 (by decide) fl_RX1_34 rfl rfl rfl (Nat.le_of_ble_eq_true rfl) (wMixR cI aM (M 0 0) (M 0 1) v w (M 0 4) (M 0 5) (M 0 6) (M 0 7) (M 0 8) (M 0 9) (M 0 10) (M 1) (M 2) (M 3)) rfl dX1_setKindAndRate_12 ?_
  refine y_iload_n Z dX1_setKindAndRate_15 0 rfl rfl ?_
  exact y_retI Z hr hlk dX1_setKindAndRate_16 (by first | (with_reducible rfl) | (simp only [wMix, wLog, wPic, wRep, wScr, wVM, wMd, sR_eq, sR_ne, sF_eq, sF_ne, upd_eq, upd_ne, gs_eq, gs_ne, gm_4, gm_ne, Nat.reduceBEq]; done) | rfl) (by first | (with_reducible rfl) | (simp only [wMix, wLog, wPic, wRep, wScr, wVM, wMd, sR_eq, sR_ne, sF_eq, sF_ne, upd_eq, upd_ne, gs_eq, gs_ne, gm_4, gm_ne, Nat.reduceBEq]; done) | rfl)
set_option maxHeartbeats 4000000 in
set_option maxRecDepth 100000 in
theorem k_X1_setKeyer (l : Launch) (D : va_G) {cI : ClassId} {tys : List (ClassId × FieldType)} (ht0 : tys[0]? = some (cI, .int)) (aM : Nat → Nat) (M : Nat → Nat → Int32) (k : Int32) (f : Int32) (o : Int32) (ar : Int32) (sz : Nat) : kI l yX1_setKeyer cX1_setKeyer 6 (some .int) { frames := 1, cells := 0, slots := 0, locals := 22 } D tys [.ref (aM 0), .int k, .int f, .int o, .int ar] (wMix cI aM M) (wMix cI aM (gt_setKeyer M k f o ar)) (cellF (M 1) 3 k) 0 0 sz := by
  refine y_enterI (cc := cX1_setKeyer) (maxL := 6) (ret := (some .int)) (own := RX1) (by decide) rfl (lv0 := [(0, .ref (aM 0)), (1, .int k), (2, .int f), (3, .int o), (4, .int ar)]) rfl (Nat.le_of_ble_eq_true rfl) ?_
  intro p e s m args below meth c A Z hr hlk _
  refine y_aload_n Z dX1_setKeyer_0 0 rfl rfl ?_
  refine y_get (C := RX1) (T := TX1) (N := 14) Z 1 inlX1 rfl 0 rfl 11 (by decide) fl_RX1_9 rfl dX1_setKeyer_1 ?_
  refine y_iload_n Z dX1_setKeyer_4 1 rfl rfl ?_
  refine y_NI Z (k_X5_cell l D ht0 (aM 1) 3 (M 1) k (by decide)) (y_cn (n := 2) (host := RX5) Z co_X5_cell rfl rfl nm_RX1_62 in_X5 st_X5_cell hs_X5_cell ⟨Nat.le_of_ble_eq_true rfl, Nat.le_of_ble_eq_true rfl⟩) [1] rfl (by decide) rfl rfl (Nat.le_of_ble_eq_true rfl) dX1_setKeyer_5 ⟨Nat.le_of_ble_eq_true rfl, Nat.le_of_ble_eq_true rfl⟩ [(aM 1)] rfl rfl (wMix cI aM M) rfl ?_
  refine y_istore Z [(5, .int (cellF (M 1) 3 k)), (0, .ref (aM 0)), (1, .int k), (2, .int f), (3, .int o), (4, .int ar)] dX1_setKeyer_8 (by decide) rfl ?_
  refine y_aload_n Z dX1_setKeyer_10 1 rfl rfl ?_
  refine y_get (C := RX1) (T := TX1) (N := 14) Z 1 inlX1 rfl 0 rfl 11 (by decide) fl_RX1_9 rfl dX1_setKeyer_11 ?_
  refine y_iload_n Z dX1_setKeyer_14 2 rfl rfl ?_
  refine y_iload_n Z dX1_setKeyer_15 3 rfl rfl ?_
  refine y_NV Z (k_X5_put l D ht0 (aM 1) 3 (M 1) k f (by decide)) (y_cn (n := 3) (host := RX5) Z co_X5_put rfl rfl nm_RX1_58 in_X5 st_X5_put hs_X5_put ⟨Nat.le_of_ble_eq_true rfl, Nat.le_of_ble_eq_true rfl⟩) [1] rfl (by decide) rfl rfl (Nat.le_of_ble_eq_true rfl) dX1_setKeyer_16 ⟨Nat.le_of_ble_eq_true rfl, Nat.le_of_ble_eq_true rfl⟩ [(aM 1)] rfl rfl (wMixR cI aM (M 0 0) (M 0 1) (M 0 2) (M 0 3) (M 0 4) (M 0 5) (M 0 6) (M 0 7) (M 0 8) (M 0 9) (M 0 10) (putF (M 1) 3 k f) (M 2) (M 3)) rfl ?_
  refine y_aload_n Z dX1_setKeyer_19 1 rfl rfl ?_
  refine y_get (C := RX1) (T := TX1) (N := 14) Z 1 inlX1 rfl 0 rfl 12 (by decide) fl_RX1_15 rfl dX1_setKeyer_20 ?_
  refine y_iload_n Z dX1_setKeyer_23 2 rfl rfl ?_
  refine y_iload_n Z dX1_setKeyer_24 4 rfl rfl ?_
  refine y_NV Z (k_X5_put l D ht0 (aM 2) 3 (M 2) k o (by decide)) (y_cn (n := 3) (host := RX5) Z co_X5_put rfl rfl nm_RX1_58 in_X5 st_X5_put hs_X5_put ⟨Nat.le_of_ble_eq_true rfl, Nat.le_of_ble_eq_true rfl⟩) [2] rfl (by decide) rfl rfl (Nat.le_of_ble_eq_true rfl) dX1_setKeyer_25 ⟨Nat.le_of_ble_eq_true rfl, Nat.le_of_ble_eq_true rfl⟩ [(aM 2)] rfl rfl (wMixR cI aM (M 0 0) (M 0 1) (M 0 2) (M 0 3) (M 0 4) (M 0 5) (M 0 6) (M 0 7) (M 0 8) (M 0 9) (M 0 10) (putF (M 1) 3 k f) (putF (M 2) 3 k o) (M 3)) rfl ?_
  refine y_aload_n Z dX1_setKeyer_28 1 rfl rfl ?_
  refine y_get (C := RX1) (T := TX1) (N := 14) Z 1 inlX1 rfl 0 rfl 13 (by decide) fl_RX1_18 rfl dX1_setKeyer_29 ?_
  refine y_iload_n Z dX1_setKeyer_32 2 rfl rfl ?_
  refine y_iload Z dX1_setKeyer_33 5 rfl ?_
  refine y_NV Z (k_X5_put l D ht0 (aM 3) 3 (M 3) k ar (by decide)) (y_cn (n := 3) (host := RX5) Z co_X5_put rfl rfl nm_RX1_58 in_X5 st_X5_put hs_X5_put ⟨Nat.le_of_ble_eq_true rfl, Nat.le_of_ble_eq_true rfl⟩) [3] rfl (by decide) rfl rfl (Nat.le_of_ble_eq_true rfl) dX1_setKeyer_35 ⟨Nat.le_of_ble_eq_true rfl, Nat.le_of_ble_eq_true rfl⟩ [(aM 3)] rfl rfl (wMixR cI aM (M 0 0) (M 0 1) (M 0 2) (M 0 3) (M 0 4) (M 0 5) (M 0 6) (M 0 7) (M 0 8) (M 0 9) (M 0 10) (putF (M 1) 3 k f) (putF (M 2) 3 k o) (putF (M 3) 3 k ar)) rfl ?_
  refine y_iload Z dX1_setKeyer_38 0 rfl ?_
  exact y_retI Z hr hlk dX1_setKeyer_40 (by first | (simp only [gt_setKeyer, gt_mput, if_true, if_false, not_false_eq_true, not_true_eq_false, ↓reduceIte]; done) | (simp only [gt_setKeyer, gt_mput, if_true, if_false, not_false_eq_true, not_true_eq_false, ↓reduceIte, wMix, wLog, wPic, wRep, wScr, wVM, wMd, sR_eq, sR_ne, sF_eq, sF_ne, upd_eq, upd_ne, gs_eq, gs_ne, gm_4, gm_ne, Nat.reduceBEq]; done) | (with_reducible rfl) | (simp only [gt_setKeyer, gt_mput, if_true, if_false, not_false_eq_true, not_true_eq_false, ↓reduceIte]; rfl) | rfl) (by first | (simp only [gt_setKeyer, gt_mput, if_true, if_false, not_false_eq_true, not_true_eq_false, ↓reduceIte]; done) | (simp only [gt_setKeyer, gt_mput, if_true, if_false, not_false_eq_true, not_true_eq_false, ↓reduceIte, wMix, wLog, wPic, wRep, wScr, wVM, wMd, sR_eq, sR_ne, sF_eq, sF_ne, upd_eq, upd_ne, gs_eq, gs_ne, gm_4, gm_ne, Nat.reduceBEq]; done) | (with_reducible rfl) | (simp only [gt_setKeyer, gt_mput, if_true, if_false, not_false_eq_true, not_true_eq_false, ↓reduceIte]; rfl) | rfl)
set_option maxHeartbeats 4000000 in
set_option maxRecDepth 100000 in
theorem k_X1_switchKeyer (l : Launch) (D : va_G) {cI : ClassId} {tys : List (ClassId × FieldType)} (ht0 : tys[0]? = some (cI, .int)) (aM : Nat → Nat) (M : Nat → Nat → Int32) (k : Int32) (sz : Nat) : kI l yX1_switchKeyer cX1_switchKeyer 2 (some .int) { frames := 1, cells := 0, slots := 0, locals := 21 } D tys [.ref (aM 0), .int k] (wMix cI aM M) (wMix cI aM (gt_switch M k)) (swR M k) 0 0 sz := by
  refine y_enterI (cc := cX1_switchKeyer) (maxL := 2) (ret := (some .int)) (own := RX1) (by decide) rfl (lv0 := [(0, .ref (aM 0)), (1, .int k)]) rfl (Nat.le_of_ble_eq_true rfl) ?_
  intro p e s m args below meth c A Z hr hlk _
  refine y_aload_n Z dX1_switchKeyer_0 0 rfl rfl ?_
  refine y_dup Z dX1_switchKeyer_1 rfl ?_
  refine y_get (C := RX1) (T := TX1) (N := 14) Z 1 inlX1 rfl 0 rfl 10 (by decide) fl_RX1_55 rfl dX1_switchKeyer_2 ?_
  refine y_iconst (v := 1) Z dX1_switchKeyer_5 (by decide) ?_
  refine y_iload_n Z dX1_switchKeyer_6 1 rfl rfl ?_
  refine y_ishl Z dX1_switchKeyer_7 ?_
  refine y_ixor Z dX1_switchKeyer_8 ?_
  refine y_put (C := RX1) (T := TX1) (N := 14) Z 1 inlX1 rfl tyX1 tyX1_ok nmX1 0 rfl 10 (by decide) fl_RX1_55 rfl rfl rfl (Nat.le_of_ble_eq_true rfl) (wMixR cI aM (M 0 0) (M 0 1) (M 0 2) (M 0 3) (M 0 4) (M 0 5) (M 0 6) (M 0 7) (M 0 8) (M 0 9) ((M 0 10) ^^^ (1 <<< (k &&& 31))) (M 1) (M 2) (M 3)) rfl dX1_switchKeyer_9 ?_
  refine y_aload_n Z dX1_switchKeyer_12 0 rfl rfl ?_
  refine y_iload_n Z dX1_switchKeyer_13 1 rfl rfl ?_
  refine y_VI Z (k_X1_isOn l D ht0 aM (sF M 0 10 ((M 0 10) ^^^ (1 <<< (k &&& 31)))) k) (y_cwV 1 Z ml_RX1_96 im_X1_isOn se_X1_isOn in_X1 co_X1_isOn rfl rfl hd_X1_isOn ⟨Nat.le_of_ble_eq_true rfl, Nat.le_of_ble_eq_true rfl⟩) [0, 1, 2, 3] rfl (by decide) 1 0 rfl rfl rfl rfl (Nat.le_of_ble_eq_true rfl) dX1_switchKeyer_14 ⟨Nat.le_of_ble_eq_true rfl, Nat.le_of_ble_eq_true rfl⟩ [(aM 0), (aM 1), (aM 2), (aM 3)] rfl rfl (wMixR cI aM (M 0 0) (M 0 1) (M 0 2) (M 0 3) (M 0 4) (M 0 5) (M 0 6) (M 0 7) (M 0 8) (M 0 9) ((M 0 10) ^^^ (1 <<< (k &&& 31))) (M 1) (M 2) (M 3)) rfl ?_
  refine y_if_eq (tgt := 24) Z dX1_switchKeyer_17 (by decide) (fun h1 => ?_) (fun h2 => ?_)
  · refine y_iconst (v := 0) Z dX1_switchKeyer_24 (by decide) ?_
    exact y_retI Z hr hlk dX1_switchKeyer_25 (by first | (simp only [swR, gt_switch, eq_true h1, if_true, if_false, not_false_eq_true, not_true_eq_false, ↓reduceIte]; done) | (simp only [swR, gt_switch, eq_true h1, if_true, if_false, not_false_eq_true, not_true_eq_false, ↓reduceIte, wMix, wLog, wPic, wRep, wScr, wVM, wMd, sR_eq, sR_ne, sF_eq, sF_ne, upd_eq, upd_ne, gs_eq, gs_ne, gm_4, gm_ne, Nat.reduceBEq]; done) | (with_reducible rfl) | (simp only [swR, gt_switch, eq_true h1, if_true, if_false, not_false_eq_true, not_true_eq_false, ↓reduceIte]; rfl) | rfl) (by first | (simp only [swR, gt_switch, eq_true h1, if_true, if_false, not_false_eq_true, not_true_eq_false, ↓reduceIte]; done) | (simp only [swR, gt_switch, eq_true h1, if_true, if_false, not_false_eq_true, not_true_eq_false, ↓reduceIte, wMix, wLog, wPic, wRep, wScr, wVM, wMd, sR_eq, sR_ne, sF_eq, sF_ne, upd_eq, upd_ne, gs_eq, gs_ne, gm_4, gm_ne, Nat.reduceBEq]; done) | (with_reducible rfl) | (simp only [swR, gt_switch, eq_true h1, if_true, if_false, not_false_eq_true, not_true_eq_false, ↓reduceIte]; rfl) | rfl)
  · refine y_iconst (v := 1) Z dX1_switchKeyer_20 (by decide) ?_
    refine y_goto (tgt := 25) Z dX1_switchKeyer_21 (by decide) ?_
    exact y_retI Z hr hlk dX1_switchKeyer_25 (by first | (simp only [swR, gt_switch, h2, if_true, if_false, not_false_eq_true, not_true_eq_false, ↓reduceIte]; done) | (simp only [swR, gt_switch, h2, if_true, if_false, not_false_eq_true, not_true_eq_false, ↓reduceIte, wMix, wLog, wPic, wRep, wScr, wVM, wMd, sR_eq, sR_ne, sF_eq, sF_ne, upd_eq, upd_ne, gs_eq, gs_ne, gm_4, gm_ne, Nat.reduceBEq]; done) | (with_reducible rfl) | (simp only [swR, gt_switch, h2, if_true, if_false, not_false_eq_true, not_true_eq_false, ↓reduceIte]; rfl) | rfl) (by first | (simp only [swR, gt_switch, h2, if_true, if_false, not_false_eq_true, not_true_eq_false, ↓reduceIte]; done) | (simp only [swR, gt_switch, h2, if_true, if_false, not_false_eq_true, not_true_eq_false, ↓reduceIte, wMix, wLog, wPic, wRep, wScr, wVM, wMd, sR_eq, sR_ne, sF_eq, sF_ne, upd_eq, upd_ne, gs_eq, gs_ne, gm_4, gm_ne, Nat.reduceBEq]; done) | (with_reducible rfl) | (simp only [swR, gt_switch, h2, if_true, if_false, not_false_eq_true, not_true_eq_false, ↓reduceIte]; rfl) | rfl)
set_option maxHeartbeats 4000000 in
set_option maxRecDepth 100000 in
theorem k_X1_setPosition (l : Launch) (D : va_G) {cI : ClassId} {tys : List (ClassId × FieldType)} (ht0 : tys[0]? = some (cI, .int)) (aM : Nat → Nat) (M : Nat → Nat → Int32) (v : Int32) (sz : Nat) : kI l yX1_setPosition cX1_setPosition 3 (some .int) { frames := 2, cells := 0, slots := 0, locals := 41 } D tys [.ref (aM 0), .int v] (wMix cI aM M) (wMix cI aM (gt_setPos M v)) (M 0 5) 0 0 sz := by
  refine y_enterI (cc := cX1_setPosition) (maxL := 3) (ret := (some .int)) (own := RX1) (by decide) rfl (lv0 := [(0, .ref (aM 0)), (1, .int v)]) rfl (Nat.le_of_ble_eq_true rfl) ?_
  intro p e s m args below meth c A Z hr hlk _
  refine y_aload_n Z dX1_setPosition_0 0 rfl rfl ?_
  refine y_get (C := RX1) (T := TX1) (N := 14) Z 1 inlX1 rfl 0 rfl 5 (by decide) fl_RX1_40 rfl dX1_setPosition_1 ?_
  refine y_istore_n Z [(2, .int (M 0 5)), (0, .ref (aM 0)), (1, .int v)] dX1_setPosition_4 rfl (by decide) rfl ?_
  refine y_aload_n Z dX1_setPosition_5 1 rfl rfl ?_
  refine y_iload_n Z dX1_setPosition_6 2 rfl rfl ?_
  refine y_put (C := RX1) (T := TX1) (N := 14) Z 1 inlX1 rfl tyX1 tyX1_ok nmX1 0 rfl 5 (by decide) fl_RX1_40 rfl rfl rfl (Nat.le_of_ble_eq_true rfl) (wMixR cI aM (M 0 0) (M 0 1) (M 0 2) (M 0 3) (M 0 4) v (M 0 6) (M 0 7) (M 0 8) (M 0 9) (M 0 10) (M 1) (M 2) (M 3)) rfl dX1_setPosition_7 ?_
  refine y_iload_n Z dX1_setPosition_10 2 rfl rfl ?_
  refine y_sipush (v := 1000) Z dX1_setPosition_11 (by decide) ?_
  refine y_icmp_ne (tgt := 21) Z dX1_setPosition_14 (by decide) (fun h1 => ?_) (fun h2 => ?_)
  · refine y_iload_n Z dX1_setPosition_21 0 rfl rfl ?_
    exact y_retI Z hr hlk dX1_setPosition_22 (by first | (simp only [gt_setPos, h1, if_true, if_false, not_false_eq_true, not_true_eq_false, ↓reduceIte]; done) | (simp only [gt_setPos, h1, if_true, if_false, not_false_eq_true, not_true_eq_false, ↓reduceIte, wMix, wLog, wPic, wRep, wScr, wVM, wMd, sR_eq, sR_ne, sF_eq, sF_ne, upd_eq, upd_ne, gs_eq, gs_ne, gm_4, gm_ne, Nat.reduceBEq]; done) | (with_reducible rfl) | (simp only [gt_setPos, h1, if_true, if_false, not_false_eq_true, not_true_eq_false, ↓reduceIte]; rfl) | rfl) (by first | (simp only [gt_setPos, h1, if_true, if_false, not_false_eq_true, not_true_eq_false, ↓reduceIte]; done) | (simp only [gt_setPos, h1, if_true, if_false, not_false_eq_true, not_true_eq_false, ↓reduceIte, wMix, wLog, wPic, wRep, wScr, wVM, wMd, sR_eq, sR_ne, sF_eq, sF_ne, upd_eq, upd_ne, gs_eq, gs_ne, gm_4, gm_ne, Nat.reduceBEq]; done) | (with_reducible rfl) | (simp only [gt_setPos, h1, if_true, if_false, not_false_eq_true, not_true_eq_false, ↓reduceIte]; rfl) | rfl)
  · refine y_aload_n Z dX1_setPosition_17 1 rfl rfl ?_
    refine y_VV Z (k_X1_complete l D ht0 aM (sF M 0 5 v)) (y_cwV 0 Z ml_RX1_87 im_X1_complete se_X1_complete in_X1 co_X1_complete rfl rfl hd_X1_complete ⟨Nat.le_of_ble_eq_true rfl, Nat.le_of_ble_eq_true rfl⟩) [0, 1, 2, 3] rfl (by decide) 1 0 rfl rfl rfl rfl (Nat.le_of_ble_eq_true rfl) dX1_setPosition_18 ⟨Nat.le_of_ble_eq_true rfl, Nat.le_of_ble_eq_true rfl⟩ [(aM 0), (aM 1), (aM 2), (aM 3)] rfl rfl (wMix cI aM (gt_complete (sF M 0 5 v))) rfl ?_
    refine y_iload_n Z dX1_setPosition_21 0 rfl rfl ?_
    exact y_retI Z hr hlk dX1_setPosition_22 (by first | (simp only [gt_setPos, eq_true h2, if_true, if_false, not_false_eq_true, not_true_eq_false, ↓reduceIte]; done) | (simp only [gt_setPos, eq_true h2, if_true, if_false, not_false_eq_true, not_true_eq_false, ↓reduceIte, wMix, wLog, wPic, wRep, wScr, wVM, wMd, sR_eq, sR_ne, sF_eq, sF_ne, upd_eq, upd_ne, gs_eq, gs_ne, gm_4, gm_ne, Nat.reduceBEq]; done) | (with_reducible rfl) | (simp only [gt_setPos, eq_true h2, if_true, if_false, not_false_eq_true, not_true_eq_false, ↓reduceIte]; rfl) | rfl) (by first | (simp only [gt_setPos, eq_true h2, if_true, if_false, not_false_eq_true, not_true_eq_false, ↓reduceIte]; done) | (simp only [gt_setPos, eq_true h2, if_true, if_false, not_false_eq_true, not_true_eq_false, ↓reduceIte, wMix, wLog, wPic, wRep, wScr, wVM, wMd, sR_eq, sR_ne, sF_eq, sF_ne, upd_eq, upd_ne, gs_eq, gs_ne, gm_4, gm_ne, Nat.reduceBEq]; done) | (with_reducible rfl) | (simp only [gt_setPos, eq_true h2, if_true, if_false, not_false_eq_true, not_true_eq_false, ↓reduceIte]; rfl) | rfl)
set_option maxHeartbeats 4000000 in
set_option maxRecDepth 100000 in
theorem k_X1_setFault (l : Launch) (D : va_G) {cI : ClassId} {tys : List (ClassId × FieldType)} (ht0 : tys[0]? = some (cI, .int)) (aM : Nat → Nat) (M : Nat → Nat → Int32) (a : Int32) (b : Int32) (sz : Nat) : kI l yX1_setFault cX1_setFault 4 (some .int) { frames := 0, cells := 0, slots := 0, locals := 0 } D tys [.ref (aM 0), .int a, .int b] (wMix cI aM M) (wMix cI aM (gt_setFault M a b)) ((M 0 9 >>> (a &&& 31)) &&& 1) 0 0 sz := by
  refine y_enterI (cc := cX1_setFault) (maxL := 4) (ret := (some .int)) (own := RX1) (by decide) rfl (lv0 := [(0, .ref (aM 0)), (1, .int a), (2, .int b)]) rfl (Nat.le_of_ble_eq_true rfl) ?_
  intro p e s m args below meth c A Z hr hlk _
  refine y_aload_n Z dX1_setFault_0 0 rfl rfl ?_
  refine y_get (C := RX1) (T := TX1) (N := 14) Z 1 inlX1 rfl 0 rfl 9 (by decide) fl_RX1_52 rfl dX1_setFault_1 ?_
  refine y_iload_n Z dX1_setFault_4 1 rfl rfl ?_
  refine y_ishr Z dX1_setFault_5 ?_
  refine y_iconst (v := 1) Z dX1_setFault_6 (by decide) ?_
  refine y_iand Z dX1_setFault_7 ?_
  refine y_istore_n Z [(3, .int (((M 0 9) >>> (a &&& 31)) &&& 1)), (0, .ref (aM 0)), (1, .int a), (2, .int b)] dX1_setFault_8 rfl (by decide) rfl ?_
  refine y_aload_n Z dX1_setFault_9 1 rfl rfl ?_
  refine y_aload_n Z dX1_setFault_10 1 rfl rfl ?_
  refine y_get (C := RX1) (T := TX1) (N := 14) Z 1 inlX1 rfl 0 rfl 9 (by decide) fl_RX1_52 rfl dX1_setFault_11 ?_
  refine y_iconst (v := 1) Z dX1_setFault_14 (by decide) ?_
  refine y_iload_n Z dX1_setFault_15 2 rfl rfl ?_
  refine y_ishl Z dX1_setFault_16 ?_
  refine y_iconst (v := -1) Z dX1_setFault_17 (by decide) ?_
  refine y_ixor Z dX1_setFault_18 ?_
  refine y_iand Z dX1_setFault_19 ?_
  refine y_iload_n Z dX1_setFault_20 3 rfl rfl ?_
  refine y_iload_n Z dX1_setFault_21 2 rfl rfl ?_
  refine y_ishl Z dX1_setFault_22 ?_
  refine y_ior Z dX1_setFault_23 ?_
  refine y_put (C := RX1) (T := TX1) (N := 14) Z 1 inlX1 rfl tyX1 tyX1_ok nmX1 0 rfl 9 (by decide) fl_RX1_52 rfl rfl rfl (Nat.le_of_ble_eq_true rfl) (wMixR cI aM (M 0 0) (M 0 1) (M 0 2) (M 0 3) (M 0 4) (M 0 5) (M 0 6) (M 0 7) (M 0 8) (((M 0 9) &&& ((1 <<< (a &&& 31)) ^^^ (-1))) ||| (b <<< (a &&& 31))) (M 0 10) (M 1) (M 2) (M 3)) rfl dX1_setFault_24 ?_
  refine y_iload_n Z dX1_setFault_27 0 rfl rfl ?_
  exact y_retI Z hr hlk dX1_setFault_28 (by first | (with_reducible rfl) | (simp only [wMix, wLog, wPic, wRep, wScr, wVM, wMd, sR_eq, sR_ne, sF_eq, sF_ne, upd_eq, upd_ne, gs_eq, gs_ne, gm_4, gm_ne, Nat.reduceBEq]; done) | rfl) (by first | (with_reducible rfl) | (simp only [wMix, wLog, wPic, wRep, wScr, wVM, wMd, sR_eq, sR_ne, sF_eq, sF_ne, upd_eq, upd_ne, gs_eq, gs_ne, gm_4, gm_ne, Nat.reduceBEq]; done) | rfl)
set_option maxHeartbeats 4000000 in
set_option maxRecDepth 100000 in
theorem k_X1_isPossible (l : Launch) (D : va_G) {cI : ClassId} {tys : List (ClassId × FieldType)} (ht0 : tys[0]? = some (cI, .int)) (aM : Nat → Nat) (M : Nat → Nat → Int32) (w : Int32) (sz : Nat) : kI l yX1_isPossible cX1_isPossible 2 (some .boolean) { frames := 0, cells := 0, slots := 0, locals := 0 } D tys [.ref (aM 0), .int w] (wMix cI aM M) (wMix cI aM M) (possF M w) 0 0 sz := by
  refine y_enterI (cc := cX1_isPossible) (maxL := 2) (ret := (some .boolean)) (own := RX1) (by decide) rfl (lv0 := [(0, .ref (aM 0)), (1, .int w)]) rfl (Nat.le_of_ble_eq_true rfl) ?_
  intro p e s m args below meth c A Z hr hlk _
  refine y_iload_n Z dX1_isPossible_0 1 rfl rfl ?_
  by_cases hs1_3 : w = 3
  · refine y_lookup (tgt := 36) (off := 35) Z dX1_isPossible_1 rfl (by rw [hs1_3]; rfl) (by decide) ?_
    refine y_aload_n Z dX1_isPossible_36 0 rfl rfl ?_
    refine y_get (C := RX1) (T := TX1) (N := 14) Z 1 inlX1 rfl 0 rfl 5 (by decide) fl_RX1_40 rfl dX1_isPossible_37 ?_
    refine y_if_ne (tgt := 55) Z dX1_isPossible_40 (by decide) (fun h2 => ?_) (fun h3 => ?_)
    · refine y_iconst (v := 0) Z dX1_isPossible_55 (by decide) ?_
      exact y_retZ Z hr hlk (by decide) dX1_isPossible_56 (by first | (simp only [possF, eq_true hs1_3, h2, if_true, if_false, not_false_eq_true, not_true_eq_false, ↓reduceIte]; done) | (simp only [possF, eq_true hs1_3, h2, if_true, if_false, not_false_eq_true, not_true_eq_false, ↓reduceIte, wMix, wLog, wPic, wRep, wScr, wVM, wMd, sR_eq, sR_ne, sF_eq, sF_ne, upd_eq, upd_ne, gs_eq, gs_ne, gm_4, gm_ne, Nat.reduceBEq]; done) | (with_reducible rfl) | (simp only [possF, eq_true hs1_3, h2, if_true, if_false, not_false_eq_true, not_true_eq_false, ↓reduceIte]; rfl) | rfl) (by first | (simp only [possF, eq_true hs1_3, h2, if_true, if_false, not_false_eq_true, not_true_eq_false, ↓reduceIte]; done) | (simp only [possF, eq_true hs1_3, h2, if_true, if_false, not_false_eq_true, not_true_eq_false, ↓reduceIte, wMix, wLog, wPic, wRep, wScr, wVM, wMd, sR_eq, sR_ne, sF_eq, sF_ne, upd_eq, upd_ne, gs_eq, gs_ne, gm_4, gm_ne, Nat.reduceBEq]; done) | (with_reducible rfl) | (simp only [possF, eq_true hs1_3, h2, if_true, if_false, not_false_eq_true, not_true_eq_false, ↓reduceIte]; rfl) | rfl)
    · refine y_aload_n Z dX1_isPossible_43 0 rfl rfl ?_
      refine y_get (C := RX1) (T := TX1) (N := 14) Z 1 inlX1 rfl 0 rfl 6 (by decide) fl_RX1_43 rfl dX1_isPossible_44 ?_
      refine y_iconst (v := -1) Z dX1_isPossible_47 (by decide) ?_
      refine y_icmp_ne (tgt := 55) Z dX1_isPossible_48 (by decide) (fun h4 => ?_) (fun h5 => ?_)
      · refine y_iconst (v := 0) Z dX1_isPossible_55 (by decide) ?_
        exact y_retZ Z hr hlk (by decide) dX1_isPossible_56 (by first | (simp only [possF, eq_true hs1_3, eq_true h3, h4, if_true, if_false, not_false_eq_true, not_true_eq_false, ↓reduceIte]; done) | (simp only [possF, eq_true hs1_3, eq_true h3, h4, if_true, if_false, not_false_eq_true, not_true_eq_false, ↓reduceIte, wMix, wLog, wPic, wRep, wScr, wVM, wMd, sR_eq, sR_ne, sF_eq, sF_ne, upd_eq, upd_ne, gs_eq, gs_ne, gm_4, gm_ne, Nat.reduceBEq]; done) | (with_reducible rfl) | (simp only [possF, eq_true hs1_3, eq_true h3, h4, if_true, if_false, not_false_eq_true, not_true_eq_false, ↓reduceIte]; rfl) | rfl) (by first | (simp only [possF, eq_true hs1_3, eq_true h3, h4, if_true, if_false, not_false_eq_true, not_true_eq_false, ↓reduceIte]; done) | (simp only [possF, eq_true hs1_3, eq_true h3, h4, if_true, if_false, not_false_eq_true, not_true_eq_false, ↓reduceIte, wMix, wLog, wPic, wRep, wScr, wVM, wMd, sR_eq, sR_ne, sF_eq, sF_ne, upd_eq, upd_ne, gs_eq, gs_ne, gm_4, gm_ne, Nat.reduceBEq]; done) | (with_reducible rfl) | (simp only [possF, eq_true hs1_3, eq_true h3, h4, if_true, if_false, not_false_eq_true, not_true_eq_false, ↓reduceIte]; rfl) | rfl)
      · refine y_iconst (v := 1) Z dX1_isPossible_51 (by decide) ?_
        refine y_goto (tgt := 56) Z dX1_isPossible_52 (by decide) ?_
        exact y_retZ Z hr hlk (by decide) dX1_isPossible_56 (by first | (simp only [possF, eq_true hs1_3, eq_true h3, eq_true h5, if_true, if_false, not_false_eq_true, not_true_eq_false, ↓reduceIte]; done) | (simp only [possF, eq_true hs1_3, eq_true h3, eq_true h5, if_true, if_false, not_false_eq_true, not_true_eq_false, ↓reduceIte, wMix, wLog, wPic, wRep, wScr, wVM, wMd, sR_eq, sR_ne, sF_eq, sF_ne, upd_eq, upd_ne, gs_eq, gs_ne, gm_4, gm_ne, Nat.reduceBEq]; done) | (with_reducible rfl) | (simp only [possF, eq_true hs1_3, eq_true h3, eq_true h5, if_true, if_false, not_false_eq_true, not_true_eq_false, ↓reduceIte]; rfl) | rfl) (by first | (simp only [possF, eq_true hs1_3, eq_true h3, eq_true h5, if_true, if_false, not_false_eq_true, not_true_eq_false, ↓reduceIte]; done) | (simp only [possF, eq_true hs1_3, eq_true h3, eq_true h5, if_true, if_false, not_false_eq_true, not_true_eq_false, ↓reduceIte, wMix, wLog, wPic, wRep, wScr, wVM, wMd, sR_eq, sR_ne, sF_eq, sF_ne, upd_eq, upd_ne, gs_eq, gs_ne, gm_4, gm_ne, Nat.reduceBEq]; done) | (with_reducible rfl) | (simp only [possF, eq_true hs1_3, eq_true h3, eq_true h5, if_true, if_false, not_false_eq_true, not_true_eq_false, ↓reduceIte]; rfl) | rfl)
  by_cases hs1_7 : w = 7
  · refine y_lookup (tgt := 36) (off := 35) Z dX1_isPossible_1 rfl (by rw [hs1_7]; rfl) (by decide) ?_
    refine y_aload_n Z dX1_isPossible_36 0 rfl rfl ?_
    refine y_get (C := RX1) (T := TX1) (N := 14) Z 1 inlX1 rfl 0 rfl 5 (by decide) fl_RX1_40 rfl dX1_isPossible_37 ?_
    refine y_if_ne (tgt := 55) Z dX1_isPossible_40 (by decide) (fun h6 => ?_) (fun h7 => ?_)
    · refine y_iconst (v := 0) Z dX1_isPossible_55 (by decide) ?_
      exact y_retZ Z hr hlk (by decide) dX1_isPossible_56 (by first | (simp only [possF, hs1_3, eq_true hs1_7, h6, if_true, if_false, not_false_eq_true, not_true_eq_false, ↓reduceIte]; done) | (simp only [possF, hs1_3, eq_true hs1_7, h6, if_true, if_false, not_false_eq_true, not_true_eq_false, ↓reduceIte, wMix, wLog, wPic, wRep, wScr, wVM, wMd, sR_eq, sR_ne, sF_eq, sF_ne, upd_eq, upd_ne, gs_eq, gs_ne, gm_4, gm_ne, Nat.reduceBEq]; done) | (with_reducible rfl) | (simp only [possF, hs1_3, eq_true hs1_7, h6, if_true, if_false, not_false_eq_true, not_true_eq_false, ↓reduceIte]; rfl) | rfl) (by first | (simp only [possF, hs1_3, eq_true hs1_7, h6, if_true, if_false, not_false_eq_true, not_true_eq_false, ↓reduceIte]; done) | (simp only [possF, hs1_3, eq_true hs1_7, h6, if_true, if_false, not_false_eq_true, not_true_eq_false, ↓reduceIte, wMix, wLog, wPic, wRep, wScr, wVM, wMd, sR_eq, sR_ne, sF_eq, sF_ne, upd_eq, upd_ne, gs_eq, gs_ne, gm_4, gm_ne, Nat.reduceBEq]; done) | (with_reducible rfl) | (simp only [possF, hs1_3, eq_true hs1_7, h6, if_true, if_false, not_false_eq_true, not_true_eq_false, ↓reduceIte]; rfl) | rfl)
    · refine y_aload_n Z dX1_isPossible_43 0 rfl rfl ?_
      refine y_get (C := RX1) (T := TX1) (N := 14) Z 1 inlX1 rfl 0 rfl 6 (by decide) fl_RX1_43 rfl dX1_isPossible_44 ?_
      refine y_iconst (v := -1) Z dX1_isPossible_47 (by decide) ?_
      refine y_icmp_ne (tgt := 55) Z dX1_isPossible_48 (by decide) (fun h8 => ?_) (fun h9 => ?_)
      · refine y_iconst (v := 0) Z dX1_isPossible_55 (by decide) ?_
        exact y_retZ Z hr hlk (by decide) dX1_isPossible_56 (by first | (simp only [possF, hs1_3, eq_true hs1_7, eq_true h7, h8, if_true, if_false, not_false_eq_true, not_true_eq_false, ↓reduceIte]; done) | (simp only [possF, hs1_3, eq_true hs1_7, eq_true h7, h8, if_true, if_false, not_false_eq_true, not_true_eq_false, ↓reduceIte, wMix, wLog, wPic, wRep, wScr, wVM, wMd, sR_eq, sR_ne, sF_eq, sF_ne, upd_eq, upd_ne, gs_eq, gs_ne, gm_4, gm_ne, Nat.reduceBEq]; done) | (with_reducible rfl) | (simp only [possF, hs1_3, eq_true hs1_7, eq_true h7, h8, if_true, if_false, not_false_eq_true, not_true_eq_false, ↓reduceIte]; rfl) | rfl) (by first | (simp only [possF, hs1_3, eq_true hs1_7, eq_true h7, h8, if_true, if_false, not_false_eq_true, not_true_eq_false, ↓reduceIte]; done) | (simp only [possF, hs1_3, eq_true hs1_7, eq_true h7, h8, if_true, if_false, not_false_eq_true, not_true_eq_false, ↓reduceIte, wMix, wLog, wPic, wRep, wScr, wVM, wMd, sR_eq, sR_ne, sF_eq, sF_ne, upd_eq, upd_ne, gs_eq, gs_ne, gm_4, gm_ne, Nat.reduceBEq]; done) | (with_reducible rfl) | (simp only [possF, hs1_3, eq_true hs1_7, eq_true h7, h8, if_true, if_false, not_false_eq_true, not_true_eq_false, ↓reduceIte]; rfl) | rfl)
      · refine y_iconst (v := 1) Z dX1_isPossible_51 (by decide) ?_
        refine y_goto (tgt := 56) Z dX1_isPossible_52 (by decide) ?_
        exact y_retZ Z hr hlk (by decide) dX1_isPossible_56 (by first | (simp only [possF, hs1_3, eq_true hs1_7, eq_true h7, eq_true h9, if_true, if_false, not_false_eq_true, not_true_eq_false, ↓reduceIte]; done) | (simp only [possF, hs1_3, eq_true hs1_7, eq_true h7, eq_true h9, if_true, if_false, not_false_eq_true, not_true_eq_false, ↓reduceIte, wMix, wLog, wPic, wRep, wScr, wVM, wMd, sR_eq, sR_ne, sF_eq, sF_ne, upd_eq, upd_ne, gs_eq, gs_ne, gm_4, gm_ne, Nat.reduceBEq]; done) | (with_reducible rfl) | (simp only [possF, hs1_3, eq_true hs1_7, eq_true h7, eq_true h9, if_true, if_false, not_false_eq_true, not_true_eq_false, ↓reduceIte]; rfl) | rfl) (by first | (simp only [possF, hs1_3, eq_true hs1_7, eq_true h7, eq_true h9, if_true, if_false, not_false_eq_true, not_true_eq_false, ↓reduceIte]; done) | (simp only [possF, hs1_3, eq_true hs1_7, eq_true h7, eq_true h9, if_true, if_false, not_false_eq_true, not_true_eq_false, ↓reduceIte, wMix, wLog, wPic, wRep, wScr, wVM, wMd, sR_eq, sR_ne, sF_eq, sF_ne, upd_eq, upd_ne, gs_eq, gs_ne, gm_4, gm_ne, Nat.reduceBEq]; done) | (with_reducible rfl) | (simp only [possF, hs1_3, eq_true hs1_7, eq_true h7, eq_true h9, if_true, if_false, not_false_eq_true, not_true_eq_false, ↓reduceIte]; rfl) | rfl)
  by_cases hs1_8 : w = 8
  · refine y_lookup (tgt := 57) (off := 56) Z dX1_isPossible_1 rfl (by rw [hs1_8]; rfl) (by decide) ?_
    refine y_aload_n Z dX1_isPossible_57 0 rfl rfl ?_
    refine y_get (C := RX1) (T := TX1) (N := 14) Z 1 inlX1 rfl 0 rfl 6 (by decide) fl_RX1_43 rfl dX1_isPossible_58 ?_
    refine y_iconst (v := -1) Z dX1_isPossible_61 (by decide) ?_
    refine y_icmp_ne (tgt := 69) Z dX1_isPossible_62 (by decide) (fun h10 => ?_) (fun h11 => ?_)
    · refine y_iconst (v := 0) Z dX1_isPossible_69 (by decide) ?_
      exact y_retZ Z hr hlk (by decide) dX1_isPossible_70 (by first | (simp only [possF, hs1_3, hs1_7, eq_true hs1_8, h10, if_true, if_false, not_false_eq_true, not_true_eq_false, ↓reduceIte]; done) | (simp only [possF, hs1_3, hs1_7, eq_true hs1_8, h10, if_true, if_false, not_false_eq_true, not_true_eq_false, ↓reduceIte, wMix, wLog, wPic, wRep, wScr, wVM, wMd, sR_eq, sR_ne, sF_eq, sF_ne, upd_eq, upd_ne, gs_eq, gs_ne, gm_4, gm_ne, Nat.reduceBEq]; done) | (with_reducible rfl) | (simp only [possF, hs1_3, hs1_7, eq_true hs1_8, h10, if_true, if_false, not_false_eq_true, not_true_eq_false, ↓reduceIte]; rfl) | rfl) (by first | (simp only [possF, hs1_3, hs1_7, eq_true hs1_8, h10, if_true, if_false, not_false_eq_true, not_true_eq_false, ↓reduceIte]; done) | (simp only [possF, hs1_3, hs1_7, eq_true hs1_8, h10, if_true, if_false, not_false_eq_true, not_true_eq_false, ↓reduceIte, wMix, wLog, wPic, wRep, wScr, wVM, wMd, sR_eq, sR_ne, sF_eq, sF_ne, upd_eq, upd_ne, gs_eq, gs_ne, gm_4, gm_ne, Nat.reduceBEq]; done) | (with_reducible rfl) | (simp only [possF, hs1_3, hs1_7, eq_true hs1_8, h10, if_true, if_false, not_false_eq_true, not_true_eq_false, ↓reduceIte]; rfl) | rfl)
    · refine y_iconst (v := 1) Z dX1_isPossible_65 (by decide) ?_
      refine y_goto (tgt := 70) Z dX1_isPossible_66 (by decide) ?_
      exact y_retZ Z hr hlk (by decide) dX1_isPossible_70 (by first | (simp only [possF, hs1_3, hs1_7, eq_true hs1_8, eq_true h11, if_true, if_false, not_false_eq_true, not_true_eq_false, ↓reduceIte]; done) | (simp only [possF, hs1_3, hs1_7, eq_true hs1_8, eq_true h11, if_true, if_false, not_false_eq_true, not_true_eq_false, ↓reduceIte, wMix, wLog, wPic, wRep, wScr, wVM, wMd, sR_eq, sR_ne, sF_eq, sF_ne, upd_eq, upd_ne, gs_eq, gs_ne, gm_4, gm_ne, Nat.reduceBEq]; done) | (with_reducible rfl) | (simp only [possF, hs1_3, hs1_7, eq_true hs1_8, eq_true h11, if_true, if_false, not_false_eq_true, not_true_eq_false, ↓reduceIte]; rfl) | rfl) (by first | (simp only [possF, hs1_3, hs1_7, eq_true hs1_8, eq_true h11, if_true, if_false, not_false_eq_true, not_true_eq_false, ↓reduceIte]; done) | (simp only [possF, hs1_3, hs1_7, eq_true hs1_8, eq_true h11, if_true, if_false, not_false_eq_true, not_true_eq_false, ↓reduceIte, wMix, wLog, wPic, wRep, wScr, wVM, wMd, sR_eq, sR_ne, sF_eq, sF_ne, upd_eq, upd_ne, gs_eq, gs_ne, gm_4, gm_ne, Nat.reduceBEq]; done) | (with_reducible rfl) | (simp only [possF, hs1_3, hs1_7, eq_true hs1_8, eq_true h11, if_true, if_false, not_false_eq_true, not_true_eq_false, ↓reduceIte]; rfl) | rfl)
  refine y_lookup (tgt := 71) (off := 70) Z dX1_isPossible_1 rfl (show (if (3 : Int) = Int32.toInt w then (35 : Int) else if (7 : Int) = Int32.toInt w then (35 : Int) else if (8 : Int) = Int32.toInt w then (56 : Int) else (70 : Int)) = 70 from (if_neg (show ¬ (3 : Int) = Int32.toInt w from y_lkn hs1_3)).trans ((if_neg (show ¬ (7 : Int) = Int32.toInt w from y_lkn hs1_7)).trans ((if_neg (show ¬ (8 : Int) = Int32.toInt w from y_lkn hs1_8))))) (by decide) ?_
  refine y_iconst (v := 1) Z dX1_isPossible_71 (by decide) ?_
  exact y_retZ Z hr hlk (by decide) dX1_isPossible_72 (by first | (simp only [possF, hs1_3, hs1_7, hs1_8, if_true, if_false, not_false_eq_true, not_true_eq_false, ↓reduceIte]; done) | (simp only [possF, hs1_3, hs1_7, hs1_8, if_true, if_false, not_false_eq_true, not_true_eq_false, ↓reduceIte, wMix, wLog, wPic, wRep, wScr, wVM, wMd, sR_eq, sR_ne, sF_eq, sF_ne, upd_eq, upd_ne, gs_eq, gs_ne, gm_4, gm_ne, Nat.reduceBEq]; done) | (with_reducible rfl) | (simp only [possF, hs1_3, hs1_7, hs1_8, if_true, if_false, not_false_eq_true, not_true_eq_false, ↓reduceIte]; rfl) | rfl) (by first | (simp only [possF, hs1_3, hs1_7, hs1_8, if_true, if_false, not_false_eq_true, not_true_eq_false, ↓reduceIte]; done) | (simp only [possF, hs1_3, hs1_7, hs1_8, if_true, if_false, not_false_eq_true, not_true_eq_false, ↓reduceIte, wMix, wLog, wPic, wRep, wScr, wVM, wMd, sR_eq, sR_ne, sF_eq, sF_ne, upd_eq, upd_ne, gs_eq, gs_ne, gm_4, gm_ne, Nat.reduceBEq]; done) | (with_reducible rfl) | (simp only [possF, hs1_3, hs1_7, hs1_8, if_true, if_false, not_false_eq_true, not_true_eq_false, ↓reduceIte]; rfl) | rfl)
set_option maxHeartbeats 4000000 in
set_option maxRecDepth 100000 in
theorem k_X1_perform (l : Launch) (D : va_G) {cI : ClassId} {tys : List (ClassId × FieldType)} (ht0 : tys[0]? = some (cI, .int)) (aM : Nat → Nat) (M : Nat → Nat → Int32) (w : Int32) (a : Int32) (b : Int32) (c0 : Int32) (d0 : Int32) (sz : Nat) : kI l yX1_perform cX1_perform 6 (some .int) { frames := 3, cells := 0, slots := 0, locals := 63 } D tys [.ref (aM 0), .int w, .int a, .int b, .int c0, .int d0] (wMix cI aM M) (wMix cI aM (perfM M w a b c0 d0)) (perfR M w a b c0 d0) 0 0 sz := by
  refine y_enterI (cc := cX1_perform) (maxL := 6) (ret := (some .int)) (own := RX1) (by decide) rfl (lv0 := [(0, .ref (aM 0)), (1, .int w), (2, .int a), (3, .int b), (4, .int c0), (5, .int d0)]) rfl (Nat.le_of_ble_eq_true rfl) ?_
  intro p e s m args below meth c A Z hr hlk _
  refine y_iload_n Z dX1_perform_0 1 rfl rfl ?_
  rcases y_sw w 0 9 (by decide) with hs1 | ⟨j2, hj, hs1⟩
  · refine y_tableOut (tgt := 130) Z dX1_perform_1 hs1 (by decide) ?_
    have hs1_0 : ¬ w = 0 := y_swn hs1 0 (by decide) (by decide)
    have hs1_1 : ¬ w = 1 := y_swn hs1 1 (by decide) (by decide)
    have hs1_2 : ¬ w = 2 := y_swn hs1 2 (by decide) (by decide)
    have hs1_3 : ¬ w = 3 := y_swn hs1 3 (by decide) (by decide)
    have hs1_4 : ¬ w = 4 := y_swn hs1 4 (by decide) (by decide)
    have hs1_5 : ¬ w = 5 := y_swn hs1 5 (by decide) (by decide)
    have hs1_6 : ¬ w = 6 := y_swn hs1 6 (by decide) (by decide)
    have hs1_7 : ¬ w = 7 := y_swn hs1 7 (by decide) (by decide)
    have hs1_8 : ¬ w = 8 := y_swn hs1 8 (by decide) (by decide)
    have hs1_9 : ¬ w = 9 := y_swn hs1 9 (by decide) (by decide)
    refine y_iconst (v := -1) Z dX1_perform_130 (by decide) ?_
    exact y_retI Z hr hlk dX1_perform_131 (by first | (simp only [perfR, perfM, hs1_0, hs1_1, hs1_2, hs1_3, hs1_4, hs1_5, hs1_6, hs1_7, hs1_8, hs1_9, if_true, if_false, not_false_eq_true, not_true_eq_false, ↓reduceIte]; done) | (simp only [perfR, perfM, hs1_0, hs1_1, hs1_2, hs1_3, hs1_4, hs1_5, hs1_6, hs1_7, hs1_8, hs1_9, if_true, if_false, not_false_eq_true, not_true_eq_false, ↓reduceIte, wMix, wLog, wPic, wRep, wScr, wVM, wMd, sR_eq, sR_ne, sF_eq, sF_ne, upd_eq, upd_ne, gs_eq, gs_ne, gm_4, gm_ne, Nat.reduceBEq]; done) | (with_reducible rfl) | (simp only [perfR, perfM, hs1_0, hs1_1, hs1_2, hs1_3, hs1_4, hs1_5, hs1_6, hs1_7, hs1_8, hs1_9, if_true, if_false, not_false_eq_true, not_true_eq_false, ↓reduceIte]; rfl) | rfl) (by first | (simp only [perfR, perfM, hs1_0, hs1_1, hs1_2, hs1_3, hs1_4, hs1_5, hs1_6, hs1_7, hs1_8, hs1_9, if_true, if_false, not_false_eq_true, not_true_eq_false, ↓reduceIte]; done) | (simp only [perfR, perfM, hs1_0, hs1_1, hs1_2, hs1_3, hs1_4, hs1_5, hs1_6, hs1_7, hs1_8, hs1_9, if_true, if_false, not_false_eq_true, not_true_eq_false, ↓reduceIte, wMix, wLog, wPic, wRep, wScr, wVM, wMd, sR_eq, sR_ne, sF_eq, sF_ne, upd_eq, upd_ne, gs_eq, gs_ne, gm_4, gm_ne, Nat.reduceBEq]; done) | (with_reducible rfl) | (simp only [perfR, perfM, hs1_0, hs1_1, hs1_2, hs1_3, hs1_4, hs1_5, hs1_6, hs1_7, hs1_8, hs1_9, if_true, if_false, not_false_eq_true, not_true_eq_false, ↓reduceIte]; rfl) | rfl)
  · rcases (show j2 = 0 ∨ j2 = 1 ∨ j2 = 2 ∨ j2 = 3 ∨ j2 = 4 ∨ j2 = 5 ∨ j2 = 6 ∨ j2 = 7 ∨ j2 = 8 ∨ j2 = 9 by omega) with rfl | rfl | rfl | rfl | rfl | rfl | rfl | rfl | rfl | rfl
    · replace hs1 : w = 0 := hs1
      refine y_tableIn (tgt := 56) (off := 55) Z dX1_perform_1 (by rw [hs1]; decide) (by rw [hs1]; decide) (by rw [hs1]; rfl) (by decide) ?_
      refine y_aload_n Z dX1_perform_56 0 rfl rfl ?_
      refine y_iload_n Z dX1_perform_57 2 rfl rfl ?_
      refine y_VI Z (k_X1_setProgram l D ht0 aM M a) (y_cwV 1 Z ml_RX1_66 im_X1_setProgram se_X1_setProgram in_X1 co_X1_setProgram rfl rfl hd_X1_setProgram ⟨Nat.le_of_ble_eq_true rfl, Nat.le_of_ble_eq_true rfl⟩) [0, 1, 2, 3] rfl (by decide) 1 0 rfl rfl rfl rfl (Nat.le_of_ble_eq_true rfl) dX1_perform_58 ⟨Nat.le_of_ble_eq_true rfl, Nat.le_of_ble_eq_true rfl⟩ [(aM 0), (aM 1), (aM 2), (aM 3)] rfl rfl (wMix cI aM (sF M 0 0 a)) rfl ?_
      exact y_retI Z hr hlk dX1_perform_61 (by subst hs1; first | (simp only [perfR, perfM, if_true, if_false, not_false_eq_true, not_true_eq_false, ↓reduceIte]; done) | (simp only [perfR, perfM, if_true, if_false, not_false_eq_true, not_true_eq_false, ↓reduceIte, wMix, wLog, wPic, wRep, wScr, wVM, wMd, sR_eq, sR_ne, sF_eq, sF_ne, upd_eq, upd_ne, gs_eq, gs_ne, gm_4, gm_ne, Nat.reduceBEq]; done) | (with_reducible rfl) | (simp only [perfR, perfM, if_true, if_false, not_false_eq_true, not_true_eq_false, ↓reduceIte]; rfl) | rfl) (by subst hs1; first | (simp only [perfR, perfM, if_true, if_false, not_false_eq_true, not_true_eq_false, ↓reduceIte]; done) | (simp only [perfR, perfM, if_true, if_false, not_false_eq_true, not_true_eq_false, ↓reduceIte, wMix, wLog, wPic, wRep, wScr, wVM, wMd, sR_eq, sR_ne, sF_eq, sF_ne, upd_eq, upd_ne, gs_eq, gs_ne, gm_4, gm_ne, Nat.reduceBEq]; done) | (with_reducible rfl) | (simp only [perfR, perfM, if_true, if_false, not_false_eq_true, not_true_eq_false, ↓reduceIte]; rfl) | rfl)
    · replace hs1 : w = 1 := hs1
      refine y_tableIn (tgt := 62) (off := 61) Z dX1_perform_1 (by rw [hs1]; decide) (by rw [hs1]; decide) (by rw [hs1]; rfl) (by decide) ?_
      refine y_aload_n Z dX1_perform_62 0 rfl rfl ?_
      refine y_iload_n Z dX1_perform_63 2 rfl rfl ?_
      refine y_VI Z (k_X1_setPreview l D ht0 aM M a) (y_cwV 1 Z ml_RX1_70 im_X1_setPreview se_X1_setPreview in_X1 co_X1_setPreview rfl rfl hd_X1_setPreview ⟨Nat.le_of_ble_eq_true rfl, Nat.le_of_ble_eq_true rfl⟩) [0, 1, 2, 3] rfl (by decide) 1 0 rfl rfl rfl rfl (Nat.le_of_ble_eq_true rfl) dX1_perform_64 ⟨Nat.le_of_ble_eq_true rfl, Nat.le_of_ble_eq_true rfl⟩ [(aM 0), (aM 1), (aM 2), (aM 3)] rfl rfl (wMix cI aM (sF M 0 1 a)) rfl ?_
      exact y_retI Z hr hlk dX1_perform_67 (by subst hs1; first | (simp only [perfR, perfM, if_true, if_false, not_false_eq_true, not_true_eq_false, ↓reduceIte]; done) | (simp only [perfR, perfM, if_true, if_false, not_false_eq_true, not_true_eq_false, ↓reduceIte, wMix, wLog, wPic, wRep, wScr, wVM, wMd, sR_eq, sR_ne, sF_eq, sF_ne, upd_eq, upd_ne, gs_eq, gs_ne, gm_4, gm_ne, Nat.reduceBEq]; done) | (with_reducible rfl) | (simp only [perfR, perfM, if_true, if_false, not_false_eq_true, not_true_eq_false, ↓reduceIte]; rfl) | rfl) (by subst hs1; first | (simp only [perfR, perfM, if_true, if_false, not_false_eq_true, not_true_eq_false, ↓reduceIte]; done) | (simp only [perfR, perfM, if_true, if_false, not_false_eq_true, not_true_eq_false, ↓reduceIte, wMix, wLog, wPic, wRep, wScr, wVM, wMd, sR_eq, sR_ne, sF_eq, sF_ne, upd_eq, upd_ne, gs_eq, gs_ne, gm_4, gm_ne, Nat.reduceBEq]; done) | (with_reducible rfl) | (simp only [perfR, perfM, if_true, if_false, not_false_eq_true, not_true_eq_false, ↓reduceIte]; rfl) | rfl)
    · replace hs1 : w = 2 := hs1
      refine y_tableIn (tgt := 68) (off := 67) Z dX1_perform_1 (by rw [hs1]; decide) (by rw [hs1]; decide) (by rw [hs1]; rfl) (by decide) ?_
      refine y_aload_n Z dX1_perform_68 0 rfl rfl ?_
      refine y_iload_n Z dX1_perform_69 2 rfl rfl ?_
      refine y_iload_n Z dX1_perform_70 3 rfl rfl ?_
      refine y_VI Z (k_X1_setKindAndRate l D ht0 aM M a b) (y_cwV 2 Z ml_RX1_73 im_X1_setKindAndRate se_X1_setKindAndRate in_X1 co_X1_setKindAndRate rfl rfl hd_X1_setKindAndRate ⟨Nat.le_of_ble_eq_true rfl, Nat.le_of_ble_eq_true rfl⟩) [0, 1, 2, 3] rfl (by decide) 1 0 rfl rfl rfl rfl (Nat.le_of_ble_eq_true rfl) dX1_perform_71 ⟨Nat.le_of_ble_eq_true rfl, Nat.le_of_ble_eq_true rfl⟩ [(aM 0), (aM 1), (aM 2), (aM 3)] rfl rfl (wMix cI aM (sF (sF M 0 2 a) 0 3 b)) rfl ?_
      exact y_retI Z hr hlk dX1_perform_74 (by subst hs1; first | (simp only [perfR, perfM, if_true, if_false, not_false_eq_true, not_true_eq_false, ↓reduceIte]; done) | (simp only [perfR, perfM, if_true, if_false, not_false_eq_true, not_true_eq_false, ↓reduceIte, wMix, wLog, wPic, wRep, wScr, wVM, wMd, sR_eq, sR_ne, sF_eq, sF_ne, upd_eq, upd_ne, gs_eq, gs_ne, gm_4, gm_ne, Nat.reduceBEq]; done) | (with_reducible rfl) | (simp only [perfR, perfM, if_true, if_false, not_false_eq_true, not_true_eq_false, ↓reduceIte]; rfl) | rfl) (by subst hs1; first | (simp only [perfR, perfM, if_true, if_false, not_false_eq_true, not_true_eq_false, ↓reduceIte]; done) | (simp only [perfR, perfM, if_true, if_false, not_false_eq_true, not_true_eq_false, ↓reduceIte, wMix, wLog, wPic, wRep, wScr, wVM, wMd, sR_eq, sR_ne, sF_eq, sF_ne, upd_eq, upd_ne, gs_eq, gs_ne, gm_4, gm_ne, Nat.reduceBEq]; done) | (with_reducible rfl) | (simp only [perfR, perfM, if_true, if_false, not_false_eq_true, not_true_eq_false, ↓reduceIte]; rfl) | rfl)
    · replace hs1 : w = 3 := hs1
      refine y_tableIn (tgt := 75) (off := 74) Z dX1_perform_1 (by rw [hs1]; decide) (by rw [hs1]; decide) (by rw [hs1]; rfl) (by decide) ?_
      refine y_aload_n Z dX1_perform_75 0 rfl rfl ?_
      refine y_iload_n Z dX1_perform_76 2 rfl rfl ?_
      refine y_VI Z (k_X1_setElements l D ht0 aM M a) (y_cwV 1 Z ml_RX1_77 im_X1_setElements se_X1_setElements in_X1 co_X1_setElements rfl rfl hd_X1_setElements ⟨Nat.le_of_ble_eq_true rfl, Nat.le_of_ble_eq_true rfl⟩) [0, 1, 2, 3] rfl (by decide) 1 0 rfl rfl rfl rfl (Nat.le_of_ble_eq_true rfl) dX1_perform_77 ⟨Nat.le_of_ble_eq_true rfl, Nat.le_of_ble_eq_true rfl⟩ [(aM 0), (aM 1), (aM 2), (aM 3)] rfl rfl (wMix cI aM (sF M 0 4 a)) rfl ?_
      exact y_retI Z hr hlk dX1_perform_80 (by subst hs1; first | (simp only [perfR, perfM, if_true, if_false, not_false_eq_true, not_true_eq_false, ↓reduceIte]; done) | (simp only [perfR, perfM, if_true, if_false, not_false_eq_true, not_true_eq_false, ↓reduceIte, wMix, wLog, wPic, wRep, wScr, wVM, wMd, sR_eq, sR_ne, sF_eq, sF_ne, upd_eq, upd_ne, gs_eq, gs_ne, gm_4, gm_ne, Nat.reduceBEq]; done) | (with_reducible rfl) | (simp only [perfR, perfM, if_true, if_false, not_false_eq_true, not_true_eq_false, ↓reduceIte]; rfl) | rfl) (by subst hs1; first | (simp only [perfR, perfM, if_true, if_false, not_false_eq_true, not_true_eq_false, ↓reduceIte]; done) | (simp only [perfR, perfM, if_true, if_false, not_false_eq_true, not_true_eq_false, ↓reduceIte, wMix, wLog, wPic, wRep, wScr, wVM, wMd, sR_eq, sR_ne, sF_eq, sF_ne, upd_eq, upd_ne, gs_eq, gs_ne, gm_4, gm_ne, Nat.reduceBEq]; done) | (with_reducible rfl) | (simp only [perfR, perfM, if_true, if_false, not_false_eq_true, not_true_eq_false, ↓reduceIte]; rfl) | rfl)
    · replace hs1 : w = 4 := hs1
      refine y_tableIn (tgt := 81) (off := 80) Z dX1_perform_1 (by rw [hs1]; decide) (by rw [hs1]; decide) (by rw [hs1]; rfl) (by decide) ?_
      refine y_aload_n Z dX1_perform_81 0 rfl rfl ?_
      refine y_iload_n Z dX1_perform_82 2 rfl rfl ?_
      refine y_iload_n Z dX1_perform_83 3 rfl rfl ?_
      refine y_iload Z dX1_perform_84 4 rfl ?_
      refine y_iload Z dX1_perform_86 5 rfl ?_
      refine y_VI Z (k_X1_setKeyer l D ht0 aM M a b c0 d0) (y_cwV 4 Z ml_RX1_80 im_X1_setKeyer se_X1_setKeyer in_X1 co_X1_setKeyer rfl rfl hd_X1_setKeyer ⟨Nat.le_of_ble_eq_true rfl, Nat.le_of_ble_eq_true rfl⟩) [0, 1, 2, 3] rfl (by decide) 1 0 rfl rfl rfl rfl (Nat.le_of_ble_eq_true rfl) dX1_perform_88 ⟨Nat.le_of_ble_eq_true rfl, Nat.le_of_ble_eq_true rfl⟩ [(aM 0), (aM 1), (aM 2), (aM 3)] rfl rfl (wMix cI aM (gt_setKeyer M a b c0 d0)) rfl ?_
      exact y_retI Z hr hlk dX1_perform_91 (by subst hs1; first | (simp only [perfR, perfM, if_true, if_false, not_false_eq_true, not_true_eq_false, ↓reduceIte]; done) | (simp only [perfR, perfM, if_true, if_false, not_false_eq_true, not_true_eq_false, ↓reduceIte, wMix, wLog, wPic, wRep, wScr, wVM, wMd, sR_eq, sR_ne, sF_eq, sF_ne, upd_eq, upd_ne, gs_eq, gs_ne, gm_4, gm_ne, Nat.reduceBEq]; done) | (with_reducible rfl) | (simp only [perfR, perfM, if_true, if_false, not_false_eq_true, not_true_eq_false, ↓reduceIte]; rfl) | rfl) (by subst hs1; first | (simp only [perfR, perfM, if_true, if_false, not_false_eq_true, not_true_eq_false, ↓reduceIte]; done) | (simp only [perfR, perfM, if_true, if_false, not_false_eq_true, not_true_eq_false, ↓reduceIte, wMix, wLog, wPic, wRep, wScr, wVM, wMd, sR_eq, sR_ne, sF_eq, sF_ne, upd_eq, upd_ne, gs_eq, gs_ne, gm_4, gm_ne, Nat.reduceBEq]; done) | (with_reducible rfl) | (simp only [perfR, perfM, if_true, if_false, not_false_eq_true, not_true_eq_false, ↓reduceIte]; rfl) | rfl)
    · replace hs1 : w = 5 := hs1
      refine y_tableIn (tgt := 92) (off := 91) Z dX1_perform_1 (by rw [hs1]; decide) (by rw [hs1]; decide) (by rw [hs1]; rfl) (by decide) ?_
      refine y_aload_n Z dX1_perform_92 0 rfl rfl ?_
      refine y_iload_n Z dX1_perform_93 2 rfl rfl ?_
      refine y_VI Z (k_X1_switchKeyer l D ht0 aM M a) (y_cwV 1 Z ml_RX1_84 im_X1_switchKeyer se_X1_switchKeyer in_X1 co_X1_switchKeyer rfl rfl hd_X1_switchKeyer ⟨Nat.le_of_ble_eq_true rfl, Nat.le_of_ble_eq_true rfl⟩) [0, 1, 2, 3] rfl (by decide) 1 0 rfl rfl rfl rfl (Nat.le_of_ble_eq_true rfl) dX1_perform_94 ⟨Nat.le_of_ble_eq_true rfl, Nat.le_of_ble_eq_true rfl⟩ [(aM 0), (aM 1), (aM 2), (aM 3)] rfl rfl (wMix cI aM (gt_switch M a)) rfl ?_
      exact y_retI Z hr hlk dX1_perform_97 (by subst hs1; first | (simp only [perfR, perfM, if_true, if_false, not_false_eq_true, not_true_eq_false, ↓reduceIte]; done) | (simp only [perfR, perfM, if_true, if_false, not_false_eq_true, not_true_eq_false, ↓reduceIte, wMix, wLog, wPic, wRep, wScr, wVM, wMd, sR_eq, sR_ne, sF_eq, sF_ne, upd_eq, upd_ne, gs_eq, gs_ne, gm_4, gm_ne, Nat.reduceBEq]; done) | (with_reducible rfl) | (simp only [perfR, perfM, if_true, if_false, not_false_eq_true, not_true_eq_false, ↓reduceIte]; rfl) | rfl) (by subst hs1; first | (simp only [perfR, perfM, if_true, if_false, not_false_eq_true, not_true_eq_false, ↓reduceIte]; done) | (simp only [perfR, perfM, if_true, if_false, not_false_eq_true, not_true_eq_false, ↓reduceIte, wMix, wLog, wPic, wRep, wScr, wVM, wMd, sR_eq, sR_ne, sF_eq, sF_ne, upd_eq, upd_ne, gs_eq, gs_ne, gm_4, gm_ne, Nat.reduceBEq]; done) | (with_reducible rfl) | (simp only [perfR, perfM, if_true, if_false, not_false_eq_true, not_true_eq_false, ↓reduceIte]; rfl) | rfl)
    · replace hs1 : w = 6 := hs1
      refine y_tableIn (tgt := 98) (off := 97) Z dX1_perform_1 (by rw [hs1]; decide) (by rw [hs1]; decide) (by rw [hs1]; rfl) (by decide) ?_
      refine y_aload_n Z dX1_perform_98 0 rfl rfl ?_
      refine y_VV Z (k_X1_complete l D ht0 aM M) (y_cwV 0 Z ml_RX1_87 im_X1_complete se_X1_complete in_X1 co_X1_complete rfl rfl hd_X1_complete ⟨Nat.le_of_ble_eq_true rfl, Nat.le_of_ble_eq_true rfl⟩) [0, 1, 2, 3] rfl (by decide) 1 0 rfl rfl rfl rfl (Nat.le_of_ble_eq_true rfl) dX1_perform_99 ⟨Nat.le_of_ble_eq_true rfl, Nat.le_of_ble_eq_true rfl⟩ [(aM 0), (aM 1), (aM 2), (aM 3)] rfl rfl (wMix cI aM (gt_complete M)) rfl ?_
      refine y_aload_n Z dX1_perform_102 0 rfl rfl ?_
      refine y_get (C := RX1) (T := TX1) (N := 14) Z 1 inlX1 rfl 0 rfl 0 (by decide) fl_RX1_24 rfl dX1_perform_103 ?_
      exact y_retI Z hr hlk dX1_perform_106 (by subst hs1; first | (simp only [perfR, perfM, if_true, if_false, not_false_eq_true, not_true_eq_false, ↓reduceIte]; done) | (simp only [perfR, perfM, if_true, if_false, not_false_eq_true, not_true_eq_false, ↓reduceIte, wMix, wLog, wPic, wRep, wScr, wVM, wMd, sR_eq, sR_ne, sF_eq, sF_ne, upd_eq, upd_ne, gs_eq, gs_ne, gm_4, gm_ne, Nat.reduceBEq]; done) | (with_reducible rfl) | (simp only [perfR, perfM, if_true, if_false, not_false_eq_true, not_true_eq_false, ↓reduceIte]; rfl) | rfl) (by subst hs1; first | (simp only [perfR, perfM, if_true, if_false, not_false_eq_true, not_true_eq_false, ↓reduceIte]; done) | (simp only [perfR, perfM, if_true, if_false, not_false_eq_true, not_true_eq_false, ↓reduceIte, wMix, wLog, wPic, wRep, wScr, wVM, wMd, sR_eq, sR_ne, sF_eq, sF_ne, upd_eq, upd_ne, gs_eq, gs_ne, gm_4, gm_ne, Nat.reduceBEq]; done) | (with_reducible rfl) | (simp only [perfR, perfM, if_true, if_false, not_false_eq_true, not_true_eq_false, ↓reduceIte]; rfl) | rfl)
    · replace hs1 : w = 7 := hs1
      refine y_tableIn (tgt := 107) (off := 106) Z dX1_perform_1 (by rw [hs1]; decide) (by rw [hs1]; decide) (by rw [hs1]; rfl) (by decide) ?_
      refine y_aload_n Z dX1_perform_107 0 rfl rfl ?_
      refine y_iconst (v := 0) Z dX1_perform_108 (by decide) ?_
      refine y_put (C := RX1) (T := TX1) (N := 14) Z 1 inlX1 rfl tyX1 tyX1_ok nmX1 0 rfl 6 (by decide) fl_RX1_43 rfl rfl rfl (Nat.le_of_ble_eq_true rfl) (wMixR cI aM (M 0 0) (M 0 1) (M 0 2) (M 0 3) (M 0 4) (M 0 5) 0 (M 0 7) (M 0 8) (M 0 9) (M 0 10) (M 1) (M 2) (M 3)) rfl dX1_perform_109 ?_
      refine y_aload_n Z dX1_perform_112 0 rfl rfl ?_
      refine y_get (C := RX1) (T := TX1) (N := 14) Z 1 inlX1 rfl 0 rfl 3 (by decide) fl_RX1_34 rfl dX1_perform_113 ?_
      exact y_retI Z hr hlk dX1_perform_116 (by subst hs1; first | (simp only [perfR, perfM, if_true, if_false, not_false_eq_true, not_true_eq_false, ↓reduceIte]; done) | (simp only [perfR, perfM, if_true, if_false, not_false_eq_true, not_true_eq_false, ↓reduceIte, wMix, wLog, wPic, wRep, wScr, wVM, wMd, sR_eq, sR_ne, sF_eq, sF_ne, upd_eq, upd_ne, gs_eq, gs_ne, gm_4, gm_ne, Nat.reduceBEq]; done) | (with_reducible rfl) | (simp only [perfR, perfM, if_true, if_false, not_false_eq_true, not_true_eq_false, ↓reduceIte]; rfl) | rfl) (by subst hs1; first | (simp only [perfR, perfM, if_true, if_false, not_false_eq_true, not_true_eq_false, ↓reduceIte]; done) | (simp only [perfR, perfM, if_true, if_false, not_false_eq_true, not_true_eq_false, ↓reduceIte, wMix, wLog, wPic, wRep, wScr, wVM, wMd, sR_eq, sR_ne, sF_eq, sF_ne, upd_eq, upd_ne, gs_eq, gs_ne, gm_4, gm_ne, Nat.reduceBEq]; done) | (with_reducible rfl) | (simp only [perfR, perfM, if_true, if_false, not_false_eq_true, not_true_eq_false, ↓reduceIte]; rfl) | rfl)
    · replace hs1 : w = 8 := hs1
      refine y_tableIn (tgt := 117) (off := 116) Z dX1_perform_1 (by rw [hs1]; decide) (by rw [hs1]; decide) (by rw [hs1]; rfl) (by decide) ?_
      refine y_aload_n Z dX1_perform_117 0 rfl rfl ?_
      refine y_iload_n Z dX1_perform_118 2 rfl rfl ?_
      refine y_VI Z (k_X1_setPosition l D ht0 aM M a) (y_cwV 1 Z ml_RX1_90 im_X1_setPosition se_X1_setPosition in_X1 co_X1_setPosition rfl rfl hd_X1_setPosition ⟨Nat.le_of_ble_eq_true rfl, Nat.le_of_ble_eq_true rfl⟩) [0, 1, 2, 3] rfl (by decide) 1 0 rfl rfl rfl rfl (Nat.le_of_ble_eq_true rfl) dX1_perform_119 ⟨Nat.le_of_ble_eq_true rfl, Nat.le_of_ble_eq_true rfl⟩ [(aM 0), (aM 1), (aM 2), (aM 3)] rfl rfl (wMix cI aM (gt_setPos M a)) rfl ?_
      exact y_retI Z hr hlk dX1_perform_122 (by subst hs1; first | (simp only [perfR, perfM, if_true, if_false, not_false_eq_true, not_true_eq_false, ↓reduceIte]; done) | (simp only [perfR, perfM, if_true, if_false, not_false_eq_true, not_true_eq_false, ↓reduceIte, wMix, wLog, wPic, wRep, wScr, wVM, wMd, sR_eq, sR_ne, sF_eq, sF_ne, upd_eq, upd_ne, gs_eq, gs_ne, gm_4, gm_ne, Nat.reduceBEq]; done) | (with_reducible rfl) | (simp only [perfR, perfM, if_true, if_false, not_false_eq_true, not_true_eq_false, ↓reduceIte]; rfl) | rfl) (by subst hs1; first | (simp only [perfR, perfM, if_true, if_false, not_false_eq_true, not_true_eq_false, ↓reduceIte]; done) | (simp only [perfR, perfM, if_true, if_false, not_false_eq_true, not_true_eq_false, ↓reduceIte, wMix, wLog, wPic, wRep, wScr, wVM, wMd, sR_eq, sR_ne, sF_eq, sF_ne, upd_eq, upd_ne, gs_eq, gs_ne, gm_4, gm_ne, Nat.reduceBEq]; done) | (with_reducible rfl) | (simp only [perfR, perfM, if_true, if_false, not_false_eq_true, not_true_eq_false, ↓reduceIte]; rfl) | rfl)
    · replace hs1 : w = 9 := hs1
      refine y_tableIn (tgt := 123) (off := 122) Z dX1_perform_1 (by rw [hs1]; decide) (by rw [hs1]; decide) (by rw [hs1]; rfl) (by decide) ?_
      refine y_aload_n Z dX1_perform_123 0 rfl rfl ?_
      refine y_iload_n Z dX1_perform_124 2 rfl rfl ?_
      refine y_iload_n Z dX1_perform_125 3 rfl rfl ?_
      refine y_VI Z (k_X1_setFault l D ht0 aM M a b) (y_cwV 2 Z ml_RX1_93 im_X1_setFault se_X1_setFault in_X1 co_X1_setFault rfl rfl hd_X1_setFault ⟨Nat.le_of_ble_eq_true rfl, Nat.le_of_ble_eq_true rfl⟩) [0, 1, 2, 3] rfl (by decide) 1 0 rfl rfl rfl rfl (Nat.le_of_ble_eq_true rfl) dX1_perform_126 ⟨Nat.le_of_ble_eq_true rfl, Nat.le_of_ble_eq_true rfl⟩ [(aM 0), (aM 1), (aM 2), (aM 3)] rfl rfl (wMix cI aM (gt_setFault M a b)) rfl ?_
      exact y_retI Z hr hlk dX1_perform_129 (by subst hs1; first | (simp only [perfR, perfM, if_true, if_false, not_false_eq_true, not_true_eq_false, ↓reduceIte]; done) | (simp only [perfR, perfM, if_true, if_false, not_false_eq_true, not_true_eq_false, ↓reduceIte, wMix, wLog, wPic, wRep, wScr, wVM, wMd, sR_eq, sR_ne, sF_eq, sF_ne, upd_eq, upd_ne, gs_eq, gs_ne, gm_4, gm_ne, Nat.reduceBEq]; done) | (with_reducible rfl) | (simp only [perfR, perfM, if_true, if_false, not_false_eq_true, not_true_eq_false, ↓reduceIte]; rfl) | rfl) (by subst hs1; first | (simp only [perfR, perfM, if_true, if_false, not_false_eq_true, not_true_eq_false, ↓reduceIte]; done) | (simp only [perfR, perfM, if_true, if_false, not_false_eq_true, not_true_eq_false, ↓reduceIte, wMix, wLog, wPic, wRep, wScr, wVM, wMd, sR_eq, sR_ne, sF_eq, sF_ne, upd_eq, upd_ne, gs_eq, gs_ne, gm_4, gm_ne, Nat.reduceBEq]; done) | (with_reducible rfl) | (simp only [perfR, perfM, if_true, if_false, not_false_eq_true, not_true_eq_false, ↓reduceIte]; rfl) | rfl)
set_option maxHeartbeats 4000000 in
set_option maxRecDepth 100000 in
theorem k_X1_reset (l : Launch) (D : va_G) {cI : ClassId} {tys : List (ClassId × FieldType)} (ht0 : tys[0]? = some (cI, .int)) (aM : Nat → Nat) (M : Nat → Nat → Int32) (sz : Nat) : kV l yX1_reset cX1_reset 2 none { frames := 1, cells := 0, slots := 0, locals := 22 } D tys [.ref (aM 0)] (wMix cI aM M) (wMix cI aM (gt_reset M)) 0 0 sz := by
  refine y_enterV (cc := cX1_reset) (maxL := 2) (ret := none) (own := RX1) (by decide) rfl (lv0 := [(0, .ref (aM 0))]) rfl (Nat.le_of_ble_eq_true rfl) ?_
  intro p e s m args below meth c A Z hr hlk _
  have L58 : ∀ (n i : Nat), i + n = 3 → Yy p l e { frames := 1, cells := 0, slots := 0, locals := 22 } s m args below meth c (QV D tys A (wMix cI aM (gt_reset M)) below args s 0 0) D A 2 0 0 (wMix cI aM (it gt_resetS i (gt_resetI M))) [(0, .ref (aM 0)), (1, .int (nI i))] [] 58 := by
    intro n; induction n with
    | zero =>
      intro i hi
      have hi : i = 3 := by omega
      subst hi
      refine y_iload_n Z dX1_reset_58 1 rfl rfl ?_
      refine y_iconst (v := 3) Z dX1_reset_59 (by decide) ?_
      refine y_icmp_ge (tgt := 100) Z dX1_reset_60 (by decide) (fun h1 => ?_) (fun h2 => ?_)
      · exact y_retV Z hr hlk dX1_reset_100 (by first | (simp only [h1, if_true, if_false, not_false_eq_true, not_true_eq_false, ↓reduceIte]; done) | (simp only [h1, if_true, if_false, not_false_eq_true, not_true_eq_false, ↓reduceIte, wMix, wLog, wPic, wRep, wScr, wVM, wMd, sR_eq, sR_ne, sF_eq, sF_ne, upd_eq, upd_ne, gs_eq, gs_ne, gm_4, gm_ne, Nat.reduceBEq]; done) | (with_reducible rfl) | (simp only [h1, if_true, if_false, not_false_eq_true, not_true_eq_false, ↓reduceIte]; rfl) | rfl)
      · exact absurd (nI_le (a := 3) (b := 3) (by omega) (by decide)) h2
    | succ n ih =>
      intro i hi
      refine y_iload_n Z dX1_reset_58 1 rfl rfl ?_
      refine y_iconst (v := 3) Z dX1_reset_59 (by decide) ?_
      refine y_icmp_ge (tgt := 100) Z dX1_reset_60 (by decide) (fun h3 => ?_) (fun h4 => ?_)
      · exact absurd h3 (nI_ge (a := i) (b := 3) (by omega) (by decide))
      · refine y_aload_n Z dX1_reset_63 0 rfl rfl ?_
        refine y_get (C := RX1) (T := TX1) (N := 14) Z 1 inlX1 rfl 0 rfl 11 (by decide) fl_RX1_9 rfl dX1_reset_64 ?_
        refine y_iload_n Z dX1_reset_67 1 rfl rfl ?_
        refine y_iconst (v := 3) Z dX1_reset_68 (by decide) ?_
        refine y_iload_n Z dX1_reset_69 1 rfl rfl ?_
        refine y_iadd Z dX1_reset_70 ?_
        refine y_NV Z (k_X5_put l D ht0 (aM 1) 3 ((it gt_resetS i (gt_resetI M)) 1) (nI i) (3 + (nI i)) (by decide)) (y_cn (n := 3) (host := RX5) Z co_X5_put rfl rfl nm_RX1_58 in_X5 st_X5_put hs_X5_put ⟨Nat.le_of_ble_eq_true rfl, Nat.le_of_ble_eq_true rfl⟩) [1] rfl (by decide) rfl rfl (Nat.le_of_ble_eq_true rfl) dX1_reset_71 ⟨Nat.le_of_ble_eq_true rfl, Nat.le_of_ble_eq_true rfl⟩ [(aM 1)] rfl rfl (wMixR cI aM ((it gt_resetS i (gt_resetI M)) 0 0) ((it gt_resetS i (gt_resetI M)) 0 1) ((it gt_resetS i (gt_resetI M)) 0 2) ((it gt_resetS i (gt_resetI M)) 0 3) ((it gt_resetS i (gt_resetI M)) 0 4) ((it gt_resetS i (gt_resetI M)) 0 5) ((it gt_resetS i (gt_resetI M)) 0 6) ((it gt_resetS i (gt_resetI M)) 0 7) ((it gt_resetS i (gt_resetI M)) 0 8) ((it gt_resetS i (gt_resetI M)) 0 9) ((it gt_resetS i (gt_resetI M)) 0 10) (putF ((it gt_resetS i (gt_resetI M)) 1) 3 (nI i) (3 + (nI i))) ((it gt_resetS i (gt_resetI M)) 2) ((it gt_resetS i (gt_resetI M)) 3)) rfl ?_
        refine y_aload_n Z dX1_reset_74 0 rfl rfl ?_
        refine y_get (C := RX1) (T := TX1) (N := 14) Z 1 inlX1 rfl 0 rfl 12 (by decide) fl_RX1_15 rfl dX1_reset_75 ?_
        refine y_iload_n Z dX1_reset_78 1 rfl rfl ?_
        refine y_bipush (v := 100) Z dX1_reset_79 (by decide) ?_
        refine y_NV Z (k_X5_put l D ht0 (aM 2) 3 ((it gt_resetS i (gt_resetI M)) 2) (nI i) 100 (by decide)) (y_cn (n := 3) (host := RX5) Z co_X5_put rfl rfl nm_RX1_58 in_X5 st_X5_put hs_X5_put ⟨Nat.le_of_ble_eq_true rfl, Nat.le_of_ble_eq_true rfl⟩) [2] rfl (by decide) rfl rfl (Nat.le_of_ble_eq_true rfl) dX1_reset_81 ⟨Nat.le_of_ble_eq_true rfl, Nat.le_of_ble_eq_true rfl⟩ [(aM 2)] rfl rfl (wMixR cI aM ((it gt_resetS i (gt_resetI M)) 0 0) ((it gt_resetS i (gt_resetI M)) 0 1) ((it gt_resetS i (gt_resetI M)) 0 2) ((it gt_resetS i (gt_resetI M)) 0 3) ((it gt_resetS i (gt_resetI M)) 0 4) ((it gt_resetS i (gt_resetI M)) 0 5) ((it gt_resetS i (gt_resetI M)) 0 6) ((it gt_resetS i (gt_resetI M)) 0 7) ((it gt_resetS i (gt_resetI M)) 0 8) ((it gt_resetS i (gt_resetI M)) 0 9) ((it gt_resetS i (gt_resetI M)) 0 10) (putF ((it gt_resetS i (gt_resetI M)) 1) 3 (nI i) (3 + (nI i))) (putF ((it gt_resetS i (gt_resetI M)) 2) 3 (nI i) 100) ((it gt_resetS i (gt_resetI M)) 3)) rfl ?_
        refine y_aload_n Z dX1_reset_84 0 rfl rfl ?_
        refine y_get (C := RX1) (T := TX1) (N := 14) Z 1 inlX1 rfl 0 rfl 13 (by decide) fl_RX1_18 rfl dX1_reset_85 ?_
        refine y_iload_n Z dX1_reset_88 1 rfl rfl ?_
        refine y_bipush (v := 25) Z dX1_reset_89 (by decide) ?_
        refine y_NV Z (k_X5_put l D ht0 (aM 3) 3 ((it gt_resetS i (gt_resetI M)) 3) (nI i) 25 (by decide)) (y_cn (n := 3) (host := RX5) Z co_X5_put rfl rfl nm_RX1_58 in_X5 st_X5_put hs_X5_put ⟨Nat.le_of_ble_eq_true rfl, Nat.le_of_ble_eq_true rfl⟩) [3] rfl (by decide) rfl rfl (Nat.le_of_ble_eq_true rfl) dX1_reset_91 ⟨Nat.le_of_ble_eq_true rfl, Nat.le_of_ble_eq_true rfl⟩ [(aM 3)] rfl rfl (wMixR cI aM ((it gt_resetS i (gt_resetI M)) 0 0) ((it gt_resetS i (gt_resetI M)) 0 1) ((it gt_resetS i (gt_resetI M)) 0 2) ((it gt_resetS i (gt_resetI M)) 0 3) ((it gt_resetS i (gt_resetI M)) 0 4) ((it gt_resetS i (gt_resetI M)) 0 5) ((it gt_resetS i (gt_resetI M)) 0 6) ((it gt_resetS i (gt_resetI M)) 0 7) ((it gt_resetS i (gt_resetI M)) 0 8) ((it gt_resetS i (gt_resetI M)) 0 9) ((it gt_resetS i (gt_resetI M)) 0 10) (putF ((it gt_resetS i (gt_resetI M)) 1) 3 (nI i) (3 + (nI i))) (putF ((it gt_resetS i (gt_resetI M)) 2) 3 (nI i) 100) (putF ((it gt_resetS i (gt_resetI M)) 3) 3 (nI i) 25)) rfl ?_
        refine y_iinc Z [(1, .int (nI (i + 1))), (0, .ref (aM 0))] dX1_reset_94 1 rfl (nI_1 _) (by decide) rfl ?_
        refine y_goto (tgt := 58) Z dX1_reset_97 (by decide) ?_
        refine y_lv [1, 0] rfl ?_
        refine y_eq (ws' := (wMix cI aM (it gt_resetS (i + 1) (gt_resetI M)))) (lv' := [(0, .ref (aM 0)), (1, .int (nI (i + 1)))]) (st' := []) (by first | (simp only [it_s, gt_resetS, gt_mput, h4, if_true, if_false, not_false_eq_true, not_true_eq_false, ↓reduceIte]; done) | (simp only [it_s, gt_resetS, gt_mput, h4, if_true, if_false, not_false_eq_true, not_true_eq_false, ↓reduceIte, wMix, wLog, wPic, wRep, wScr, wVM, wMd, sR_eq, sR_ne, sF_eq, sF_ne, upd_eq, upd_ne, gs_eq, gs_ne, gm_4, gm_ne, Nat.reduceBEq]; done) | (with_reducible rfl) | (simp only [it_s, gt_resetS, gt_mput, h4, if_true, if_false, not_false_eq_true, not_true_eq_false, ↓reduceIte]; rfl) | rfl) (by first | (simp only [it_s, gt_resetS, gt_mput, h4, if_true, if_false, not_false_eq_true, not_true_eq_false, ↓reduceIte]; done) | (simp only [it_s, gt_resetS, gt_mput, h4, if_true, if_false, not_false_eq_true, not_true_eq_false, ↓reduceIte, wMix, wLog, wPic, wRep, wScr, wVM, wMd, sR_eq, sR_ne, sF_eq, sF_ne, upd_eq, upd_ne, gs_eq, gs_ne, gm_4, gm_ne, Nat.reduceBEq]; done) | (with_reducible rfl) | (simp only [it_s, gt_resetS, gt_mput, h4, if_true, if_false, not_false_eq_true, not_true_eq_false, ↓reduceIte]; rfl) | rfl) rfl ?_
        exact ih (i + 1) (by omega)
  refine y_aload_n Z dX1_reset_0 0 rfl rfl ?_
  refine y_iconst (v := 1) Z dX1_reset_1 (by decide) ?_
  refine y_put (C := RX1) (T := TX1) (N := 14) Z 1 inlX1 rfl tyX1 tyX1_ok nmX1 0 rfl 0 (by decide) fl_RX1_24 rfl rfl rfl (Nat.le_of_ble_eq_true rfl) (wMixR cI aM 1 (M 0 1) (M 0 2) (M 0 3) (M 0 4) (M 0 5) (M 0 6) (M 0 7) (M 0 8) (M 0 9) (M 0 10) (M 1) (M 2) (M 3)) rfl dX1_reset_2 ?_
  refine y_aload_n Z dX1_reset_5 0 rfl rfl ?_
  refine y_iconst (v := 2) Z dX1_reset_6 (by decide) ?_
  refine y_put (C := RX1) (T := TX1) (N := 14) Z 1 inlX1 rfl tyX1 tyX1_ok nmX1 0 rfl 1 (by decide) fl_RX1_28 rfl rfl rfl (Nat.le_of_ble_eq_true rfl) (wMixR cI aM 1 2 (M 0 2) (M 0 3) (M 0 4) (M 0 5) (M 0 6) (M 0 7) (M 0 8) (M 0 9) (M 0 10) (M 1) (M 2) (M 3)) rfl dX1_reset_7 ?_
  refine y_aload_n Z dX1_reset_10 0 rfl rfl ?_
  refine y_iconst (v := 0) Z dX1_reset_11 (by decide) ?_
  refine y_put (C := RX1) (T := TX1) (N := 14) Z 1 inlX1 rfl tyX1 tyX1_ok nmX1 0 rfl 2 (by decide) fl_RX1_31 rfl rfl rfl (Nat.le_of_ble_eq_true rfl) (wMixR cI aM 1 2 0 (M 0 3) (M 0 4) (M 0 5) (M 0 6) (M 0 7) (M 0 8) (M 0 9) (M 0 10) (M 1) (M 2) (M 3)) rfl dX1_reset_12 ?_
  refine y_aload_n Z dX1_reset_15 0 rfl rfl ?_
  refine y_bipush (v := 25) Z dX1_reset_16 (by decide) ?_
  refine y_put (C := RX1) (T := TX1) (N := 14) Z 1 inlX1 rfl tyX1 tyX1_ok nmX1 0 rfl 3 (by decide) fl_RX1_34 rfl rfl rfl (Nat.le_of_ble_eq_true rfl) (wMixR cI aM 1 2 0 25 (M 0 4) (M 0 5) (M 0 6) (M 0 7) (M 0 8) (M 0 9) (M 0 10) (M 1) (M 2) (M 3)) rfl dX1_reset_18 ?_
  refine y_aload_n Z dX1_reset_21 0 rfl rfl ?_
  refine y_iconst (v := 1) Z dX1_reset_22 (by decide) ?_
  refine y_put (C := RX1) (T := TX1) (N := 14) Z 1 inlX1 rfl tyX1 tyX1_ok nmX1 0 rfl 4 (by decide) fl_RX1_37 rfl rfl rfl (Nat.le_of_ble_eq_true rfl) (wMixR cI aM 1 2 0 25 1 (M 0 5) (M 0 6) (M 0 7) (M 0 8) (M 0 9) (M 0 10) (M 1) (M 2) (M 3)) rfl dX1_reset_23 ?_
  refine y_aload_n Z dX1_reset_26 0 rfl rfl ?_
  refine y_iconst (v := 0) Z dX1_reset_27 (by decide) ?_
  refine y_put (C := RX1) (T := TX1) (N := 14) Z 1 inlX1 rfl tyX1 tyX1_ok nmX1 0 rfl 5 (by decide) fl_RX1_40 rfl rfl rfl (Nat.le_of_ble_eq_true rfl) (wMixR cI aM 1 2 0 25 1 0 (M 0 6) (M 0 7) (M 0 8) (M 0 9) (M 0 10) (M 1) (M 2) (M 3)) rfl dX1_reset_28 ?_
  refine y_aload_n Z dX1_reset_31 0 rfl rfl ?_
  refine y_iconst (v := -1) Z dX1_reset_32 (by decide) ?_
  refine y_put (C := RX1) (T := TX1) (N := 14) Z 1 inlX1 rfl tyX1 tyX1_ok nmX1 0 rfl 6 (by decide) fl_RX1_43 rfl rfl rfl (Nat.le_of_ble_eq_true rfl) (wMixR cI aM 1 2 0 25 1 0 (-1) (M 0 7) (M 0 8) (M 0 9) (M 0 10) (M 1) (M 2) (M 3)) rfl dX1_reset_33 ?_
  refine y_aload_n Z dX1_reset_36 0 rfl rfl ?_
  refine y_iconst (v := 0) Z dX1_reset_37 (by decide) ?_
  refine y_put (C := RX1) (T := TX1) (N := 14) Z 1 inlX1 rfl tyX1 tyX1_ok nmX1 0 rfl 7 (by decide) fl_RX1_46 rfl rfl rfl (Nat.le_of_ble_eq_true rfl) (wMixR cI aM 1 2 0 25 1 0 (-1) 0 (M 0 8) (M 0 9) (M 0 10) (M 1) (M 2) (M 3)) rfl dX1_reset_38 ?_
  refine y_aload_n Z dX1_reset_41 0 rfl rfl ?_
  refine y_iconst (v := 0) Z dX1_reset_42 (by decide) ?_
  refine y_put (C := RX1) (T := TX1) (N := 14) Z 1 inlX1 rfl tyX1 tyX1_ok nmX1 0 rfl 8 (by decide) fl_RX1_49 rfl rfl rfl (Nat.le_of_ble_eq_true rfl) (wMixR cI aM 1 2 0 25 1 0 (-1) 0 0 (M 0 9) (M 0 10) (M 1) (M 2) (M 3)) rfl dX1_reset_43 ?_
  refine y_aload_n Z dX1_reset_46 0 rfl rfl ?_
  refine y_iconst (v := 0) Z dX1_reset_47 (by decide) ?_
  refine y_put (C := RX1) (T := TX1) (N := 14) Z 1 inlX1 rfl tyX1 tyX1_ok nmX1 0 rfl 9 (by decide) fl_RX1_52 rfl rfl rfl (Nat.le_of_ble_eq_true rfl) (wMixR cI aM 1 2 0 25 1 0 (-1) 0 0 0 (M 0 10) (M 1) (M 2) (M 3)) rfl dX1_reset_48 ?_
  refine y_aload_n Z dX1_reset_51 0 rfl rfl ?_
  refine y_iconst (v := 0) Z dX1_reset_52 (by decide) ?_
  refine y_put (C := RX1) (T := TX1) (N := 14) Z 1 inlX1 rfl tyX1 tyX1_ok nmX1 0 rfl 10 (by decide) fl_RX1_55 rfl rfl rfl (Nat.le_of_ble_eq_true rfl) (wMixR cI aM 1 2 0 25 1 0 (-1) 0 0 0 0 (M 1) (M 2) (M 3)) rfl dX1_reset_53 ?_
  refine y_iconst (v := 0) Z dX1_reset_56 (by decide) ?_
  refine y_istore_n Z [(1, .int 0), (0, .ref (aM 0))] dX1_reset_57 rfl (by decide) rfl ?_
  refine y_lv [1, 0] rfl ?_
  exact L58 3 0 (by omega)
set_option maxHeartbeats 4000000 in
set_option maxRecDepth 100000 in
theorem k_X1_copy (l : Launch) (D : va_G) {cI : ClassId} {tys : List (ClassId × FieldType)} (ht0 : tys[0]? = some (cI, .int)) (aM : Nat → Nat) (M : Nat → Nat → Int32) (aN : Nat → Nat) (N : Nat → Nat → Int32) (sz : Nat) : kV l yX1_copy cX1_copy 3 none { frames := 1, cells := 0, slots := 0, locals := 22 } D tys [.ref (aM 0), .ref (aN 0)] (wMix cI aM M ++ (wMix cI aN N)) (wMix cI aM (gt_copy M N) ++ (wMix cI aN N)) 0 0 sz := by
  refine y_enterV (cc := cX1_copy) (maxL := 3) (ret := none) (own := RX1) (by decide) rfl (lv0 := [(0, .ref (aM 0)), (1, .ref (aN 0))]) rfl (Nat.le_of_ble_eq_true rfl) ?_
  intro p e s m args below meth c A Z hr hlk _
  have L90 : ∀ (n i : Nat), i + n = 3 → Yy p l e { frames := 1, cells := 0, slots := 0, locals := 22 } s m args below meth c (QV D tys A (wMix cI aM (gt_copy M N) ++ (wMix cI aN N)) below args s 0 0) D A 3 0 0 (wMix cI aM (it (gt_copyS N) i (gt_copyI M N)) ++ (wMix cI aN N)) [(0, .ref (aM 0)), (1, .ref (aN 0)), (2, .int (nI i))] [] 90 := by
    intro n; induction n with
    | zero =>
      intro i hi
      have hi : i = 3 := by omega
      subst hi
      refine y_iload_n Z dX1_copy_90 2 rfl rfl ?_
      refine y_iconst (v := 3) Z dX1_copy_91 (by decide) ?_
      refine y_icmp_ge (tgt := 149) Z dX1_copy_92 (by decide) (fun h1 => ?_) (fun h2 => ?_)
      · exact y_retV Z hr hlk dX1_copy_149 (by first | (simp only [h1, if_true, if_false, not_false_eq_true, not_true_eq_false, ↓reduceIte]; done) | (simp only [h1, if_true, if_false, not_false_eq_true, not_true_eq_false, ↓reduceIte, wMix, wLog, wPic, wRep, wScr, wVM, wMd, sR_eq, sR_ne, sF_eq, sF_ne, upd_eq, upd_ne, gs_eq, gs_ne, gm_4, gm_ne, Nat.reduceBEq]; done) | (with_reducible rfl) | (simp only [h1, if_true, if_false, not_false_eq_true, not_true_eq_false, ↓reduceIte]; rfl) | rfl)
      · exact absurd (nI_le (a := 3) (b := 3) (by omega) (by decide)) h2
    | succ n ih =>
      intro i hi
      refine y_iload_n Z dX1_copy_90 2 rfl rfl ?_
      refine y_iconst (v := 3) Z dX1_copy_91 (by decide) ?_
      refine y_icmp_ge (tgt := 149) Z dX1_copy_92 (by decide) (fun h3 => ?_) (fun h4 => ?_)
      · exact absurd h3 (nI_ge (a := i) (b := 3) (by omega) (by decide))
      · refine y_aload_n Z dX1_copy_95 0 rfl rfl ?_
        refine y_get (C := RX1) (T := TX1) (N := 14) Z 1 inlX1 rfl 0 rfl 11 (by decide) fl_RX1_9 rfl dX1_copy_96 ?_
        refine y_iload_n Z dX1_copy_99 2 rfl rfl ?_
        refine y_aload_n Z dX1_copy_100 1 rfl rfl ?_
        refine y_get (C := RX1) (T := TX1) (N := 14) Z 1 inlX1 rfl 4 rfl 11 (by decide) fl_RX1_9 rfl dX1_copy_101 ?_
        refine y_iload_n Z dX1_copy_104 2 rfl rfl ?_
        refine y_NI Z (k_X5_cell l D ht0 (aN 1) 3 (N 1) (nI i) (by decide)) (y_cn (n := 2) (host := RX5) Z co_X5_cell rfl rfl nm_RX1_62 in_X5 st_X5_cell hs_X5_cell ⟨Nat.le_of_ble_eq_true rfl, Nat.le_of_ble_eq_true rfl⟩) [5] rfl (by decide) rfl rfl (Nat.le_of_ble_eq_true rfl) dX1_copy_105 ⟨Nat.le_of_ble_eq_true rfl, Nat.le_of_ble_eq_true rfl⟩ [(aN 1)] rfl rfl (wMix cI aM (it (gt_copyS N) i (gt_copyI M N)) ++ (wMix cI aN N)) rfl ?_
        refine y_NV Z (k_X5_put l D ht0 (aM 1) 3 ((it (gt_copyS N) i (gt_copyI M N)) 1) (nI i) (cellF (N 1) 3 (nI i)) (by decide)) (y_cn (n := 3) (host := RX5) Z co_X5_put rfl rfl nm_RX1_58 in_X5 st_X5_put hs_X5_put ⟨Nat.le_of_ble_eq_true rfl, Nat.le_of_ble_eq_true rfl⟩) [1] rfl (by decide) rfl rfl (Nat.le_of_ble_eq_true rfl) dX1_copy_108 ⟨Nat.le_of_ble_eq_true rfl, Nat.le_of_ble_eq_true rfl⟩ [(aM 1)] rfl rfl (wMixR cI aM ((it (gt_copyS N) i (gt_copyI M N)) 0 0) ((it (gt_copyS N) i (gt_copyI M N)) 0 1) ((it (gt_copyS N) i (gt_copyI M N)) 0 2) ((it (gt_copyS N) i (gt_copyI M N)) 0 3) ((it (gt_copyS N) i (gt_copyI M N)) 0 4) ((it (gt_copyS N) i (gt_copyI M N)) 0 5) ((it (gt_copyS N) i (gt_copyI M N)) 0 6) ((it (gt_copyS N) i (gt_copyI M N)) 0 7) ((it (gt_copyS N) i (gt_copyI M N)) 0 8) ((it (gt_copyS N) i (gt_copyI M N)) 0 9) ((it (gt_copyS N) i (gt_copyI M N)) 0 10) (putF ((it (gt_copyS N) i (gt_copyI M N)) 1) 3 (nI i) (cellF (N 1) 3 (nI i))) ((it (gt_copyS N) i (gt_copyI M N)) 2) ((it (gt_copyS N) i (gt_copyI M N)) 3) ++ (wMix cI aN N)) rfl ?_
        refine y_aload_n Z dX1_copy_111 0 rfl rfl ?_
        refine y_get (C := RX1) (T := TX1) (N := 14) Z 1 inlX1 rfl 0 rfl 12 (by decide) fl_RX1_15 rfl dX1_copy_112 ?_
        refine y_iload_n Z dX1_copy_115 2 rfl rfl ?_
        refine y_aload_n Z dX1_copy_116 1 rfl rfl ?_
        refine y_get (C := RX1) (T := TX1) (N := 14) Z 1 inlX1 rfl 4 rfl 12 (by decide) fl_RX1_15 rfl dX1_copy_117 ?_
        refine y_iload_n Z dX1_copy_120 2 rfl rfl ?_
        refine y_NI Z (k_X5_cell l D ht0 (aN 2) 3 (N 2) (nI i) (by decide)) (y_cn (n := 2) (host := RX5) Z co_X5_cell rfl rfl nm_RX1_62 in_X5 st_X5_cell hs_X5_cell ⟨Nat.le_of_ble_eq_true rfl, Nat.le_of_ble_eq_true rfl⟩) [6] rfl (by decide) rfl rfl (Nat.le_of_ble_eq_true rfl) dX1_copy_121 ⟨Nat.le_of_ble_eq_true rfl, Nat.le_of_ble_eq_true rfl⟩ [(aN 2)] rfl rfl (wMixR cI aM ((it (gt_copyS N) i (gt_copyI M N)) 0 0) ((it (gt_copyS N) i (gt_copyI M N)) 0 1) ((it (gt_copyS N) i (gt_copyI M N)) 0 2) ((it (gt_copyS N) i (gt_copyI M N)) 0 3) ((it (gt_copyS N) i (gt_copyI M N)) 0 4) ((it (gt_copyS N) i (gt_copyI M N)) 0 5) ((it (gt_copyS N) i (gt_copyI M N)) 0 6) ((it (gt_copyS N) i (gt_copyI M N)) 0 7) ((it (gt_copyS N) i (gt_copyI M N)) 0 8) ((it (gt_copyS N) i (gt_copyI M N)) 0 9) ((it (gt_copyS N) i (gt_copyI M N)) 0 10) (putF ((it (gt_copyS N) i (gt_copyI M N)) 1) 3 (nI i) (cellF (N 1) 3 (nI i))) ((it (gt_copyS N) i (gt_copyI M N)) 2) ((it (gt_copyS N) i (gt_copyI M N)) 3) ++ (wMix cI aN N)) rfl ?_
        refine y_NV Z (k_X5_put l D ht0 (aM 2) 3 ((it (gt_copyS N) i (gt_copyI M N)) 2) (nI i) (cellF (N 2) 3 (nI i)) (by decide)) (y_cn (n := 3) (host := RX5) Z co_X5_put rfl rfl nm_RX1_58 in_X5 st_X5_put hs_X5_put ⟨Nat.le_of_ble_eq_true rfl, Nat.le_of_ble_eq_true rfl⟩) [2] rfl (by decide) rfl rfl (Nat.le_of_ble_eq_true rfl) dX1_copy_124 ⟨Nat.le_of_ble_eq_true rfl, Nat.le_of_ble_eq_true rfl⟩ [(aM 2)] rfl rfl (wMixR cI aM ((it (gt_copyS N) i (gt_copyI M N)) 0 0) ((it (gt_copyS N) i (gt_copyI M N)) 0 1) ((it (gt_copyS N) i (gt_copyI M N)) 0 2) ((it (gt_copyS N) i (gt_copyI M N)) 0 3) ((it (gt_copyS N) i (gt_copyI M N)) 0 4) ((it (gt_copyS N) i (gt_copyI M N)) 0 5) ((it (gt_copyS N) i (gt_copyI M N)) 0 6) ((it (gt_copyS N) i (gt_copyI M N)) 0 7) ((it (gt_copyS N) i (gt_copyI M N)) 0 8) ((it (gt_copyS N) i (gt_copyI M N)) 0 9) ((it (gt_copyS N) i (gt_copyI M N)) 0 10) (putF ((it (gt_copyS N) i (gt_copyI M N)) 1) 3 (nI i) (cellF (N 1) 3 (nI i))) (putF ((it (gt_copyS N) i (gt_copyI M N)) 2) 3 (nI i) (cellF (N 2) 3 (nI i))) ((it (gt_copyS N) i (gt_copyI M N)) 3) ++ (wMix cI aN N)) rfl ?_
        refine y_aload_n Z dX1_copy_127 0 rfl rfl ?_
        refine y_get (C := RX1) (T := TX1) (N := 14) Z 1 inlX1 rfl 0 rfl 13 (by decide) fl_RX1_18 rfl dX1_copy_128 ?_
        refine y_iload_n Z dX1_copy_131 2 rfl rfl ?_
        refine y_aload_n Z dX1_copy_132 1 rfl rfl ?_
        refine y_get (C := RX1) (T := TX1) (N := 14) Z 1 inlX1 rfl 4 rfl 13 (by decide) fl_RX1_18 rfl dX1_copy_133 ?_
        refine y_iload_n Z dX1_copy_136 2 rfl rfl ?_
        refine y_NI Z (k_X5_cell l D ht0 (aN 3) 3 (N 3) (nI i) (by decide)) (y_cn (n := 2) (host := RX5) Z co_X5_cell rfl rfl nm_RX1_62 in_X5 st_X5_cell hs_X5_cell ⟨Nat.le_of_ble_eq_true rfl, Nat.le_of_ble_eq_true rfl⟩) [7] rfl (by decide) rfl rfl (Nat.le_of_ble_eq_true rfl) dX1_copy_137 ⟨Nat.le_of_ble_eq_true rfl, Nat.le_of_ble_eq_true rfl⟩ [(aN 3)] rfl rfl (wMixR cI aM ((it (gt_copyS N) i (gt_copyI M N)) 0 0) ((it (gt_copyS N) i (gt_copyI M N)) 0 1) ((it (gt_copyS N) i (gt_copyI M N)) 0 2) ((it (gt_copyS N) i (gt_copyI M N)) 0 3) ((it (gt_copyS N) i (gt_copyI M N)) 0 4) ((it (gt_copyS N) i (gt_copyI M N)) 0 5) ((it (gt_copyS N) i (gt_copyI M N)) 0 6) ((it (gt_copyS N) i (gt_copyI M N)) 0 7) ((it (gt_copyS N) i (gt_copyI M N)) 0 8) ((it (gt_copyS N) i (gt_copyI M N)) 0 9) ((it (gt_copyS N) i (gt_copyI M N)) 0 10) (putF ((it (gt_copyS N) i (gt_copyI M N)) 1) 3 (nI i) (cellF (N 1) 3 (nI i))) (putF ((it (gt_copyS N) i (gt_copyI M N)) 2) 3 (nI i) (cellF (N 2) 3 (nI i))) ((it (gt_copyS N) i (gt_copyI M N)) 3) ++ (wMix cI aN N)) rfl ?_
        refine y_NV Z (k_X5_put l D ht0 (aM 3) 3 ((it (gt_copyS N) i (gt_copyI M N)) 3) (nI i) (cellF (N 3) 3 (nI i)) (by decide)) (y_cn (n := 3) (host := RX5) Z co_X5_put rfl rfl nm_RX1_58 in_X5 st_X5_put hs_X5_put ⟨Nat.le_of_ble_eq_true rfl, Nat.le_of_ble_eq_true rfl⟩) [3] rfl (by decide) rfl rfl (Nat.le_of_ble_eq_true rfl) dX1_copy_140 ⟨Nat.le_of_ble_eq_true rfl, Nat.le_of_ble_eq_true rfl⟩ [(aM 3)] rfl rfl (wMixR cI aM ((it (gt_copyS N) i (gt_copyI M N)) 0 0) ((it (gt_copyS N) i (gt_copyI M N)) 0 1) ((it (gt_copyS N) i (gt_copyI M N)) 0 2) ((it (gt_copyS N) i (gt_copyI M N)) 0 3) ((it (gt_copyS N) i (gt_copyI M N)) 0 4) ((it (gt_copyS N) i (gt_copyI M N)) 0 5) ((it (gt_copyS N) i (gt_copyI M N)) 0 6) ((it (gt_copyS N) i (gt_copyI M N)) 0 7) ((it (gt_copyS N) i (gt_copyI M N)) 0 8) ((it (gt_copyS N) i (gt_copyI M N)) 0 9) ((it (gt_copyS N) i (gt_copyI M N)) 0 10) (putF ((it (gt_copyS N) i (gt_copyI M N)) 1) 3 (nI i) (cellF (N 1) 3 (nI i))) (putF ((it (gt_copyS N) i (gt_copyI M N)) 2) 3 (nI i) (cellF (N 2) 3 (nI i))) (putF ((it (gt_copyS N) i (gt_copyI M N)) 3) 3 (nI i) (cellF (N 3) 3 (nI i))) ++ (wMix cI aN N)) rfl ?_
        refine y_iinc Z [(2, .int (nI (i + 1))), (0, .ref (aM 0)), (1, .ref (aN 0))] dX1_copy_143 2 rfl (nI_1 _) (by decide) rfl ?_
        refine y_goto (tgt := 90) Z dX1_copy_146 (by decide) ?_
        refine y_lv [1, 2, 0] rfl ?_
        refine y_eq (ws' := (wMix cI aM (it (gt_copyS N) (i + 1) (gt_copyI M N)) ++ (wMix cI aN N))) (lv' := [(0, .ref (aM 0)), (1, .ref (aN 0)), (2, .int (nI (i + 1)))]) (st' := []) (by first | (simp only [it_s, gt_copyS, gt_mput, h4, if_true, if_false, not_false_eq_true, not_true_eq_false, ↓reduceIte]; done) | (simp only [it_s, gt_copyS, gt_mput, h4, if_true, if_false, not_false_eq_true, not_true_eq_false, ↓reduceIte, wMix, wLog, wPic, wRep, wScr, wVM, wMd, sR_eq, sR_ne, sF_eq, sF_ne, upd_eq, upd_ne, gs_eq, gs_ne, gm_4, gm_ne, Nat.reduceBEq]; done) | (with_reducible rfl) | (simp only [it_s, gt_copyS, gt_mput, h4, if_true, if_false, not_false_eq_true, not_true_eq_false, ↓reduceIte]; rfl) | rfl) (by first | (simp only [it_s, gt_copyS, gt_mput, h4, if_true, if_false, not_false_eq_true, not_true_eq_false, ↓reduceIte]; done) | (simp only [it_s, gt_copyS, gt_mput, h4, if_true, if_false, not_false_eq_true, not_true_eq_false, ↓reduceIte, wMix, wLog, wPic, wRep, wScr, wVM, wMd, sR_eq, sR_ne, sF_eq, sF_ne, upd_eq, upd_ne, gs_eq, gs_ne, gm_4, gm_ne, Nat.reduceBEq]; done) | (with_reducible rfl) | (simp only [it_s, gt_copyS, gt_mput, h4, if_true, if_false, not_false_eq_true, not_true_eq_false, ↓reduceIte]; rfl) | rfl) rfl ?_
        exact ih (i + 1) (by omega)
  refine y_aload_n Z dX1_copy_0 0 rfl rfl ?_
  refine y_aload_n Z dX1_copy_1 1 rfl rfl ?_
  refine y_get (C := RX1) (T := TX1) (N := 14) Z 1 inlX1 rfl 4 rfl 0 (by decide) fl_RX1_24 rfl dX1_copy_2 ?_
  refine y_put (C := RX1) (T := TX1) (N := 14) Z 1 inlX1 rfl tyX1 tyX1_ok nmX1 0 rfl 0 (by decide) fl_RX1_24 rfl rfl rfl (Nat.le_of_ble_eq_true rfl) (wMixR cI aM (N 0 0) (M 0 1) (M 0 2) (M 0 3) (M 0 4) (M 0 5) (M 0 6) (M 0 7) (M 0 8) (M 0 9) (M 0 10) (M 1) (M 2) (M 3) ++ (wMix cI aN N)) rfl dX1_copy_5 ?_
  refine y_aload_n Z dX1_copy_8 0 rfl rfl ?_
  refine y_aload_n Z dX1_copy_9 1 rfl rfl ?_
  refine y_get (C := RX1) (T := TX1) (N := 14) Z 1 inlX1 rfl 4 rfl 1 (by decide) fl_RX1_28 rfl dX1_copy_10 ?_
  refine y_put (C := RX1) (T := TX1) (N := 14) Z 1 inlX1 rfl tyX1 tyX1_ok nmX1 0 rfl 1 (by decide) fl_RX1_28 rfl rfl rfl (Nat.le_of_ble_eq_true rfl) (wMixR cI aM (N 0 0) (N 0 1) (M 0 2) (M 0 3) (M 0 4) (M 0 5) (M 0 6) (M 0 7) (M 0 8) (M 0 9) (M 0 10) (M 1) (M 2) (M 3) ++ (wMix cI aN N)) rfl dX1_copy_13 ?_
  refine y_aload_n Z dX1_copy_16 0 rfl rfl ?_
  refine y_aload_n Z dX1_copy_17 1 rfl rfl ?_
  refine y_get (C := RX1) (T := TX1) (N := 14) Z 1 inlX1 rfl 4 rfl 2 (by decide) fl_RX1_31 rfl dX1_copy_18 ?_
  refine y_put (C := RX1) (T := TX1) (N := 14) Z 1 inlX1 rfl tyX1 tyX1_ok nmX1 0 rfl 2 (by decide) fl_RX1_31 rfl rfl rfl (Nat.le_of_ble_eq_true rfl) (wMixR cI aM (N 0 0) (N 0 1) (N 0 2) (M 0 3) (M 0 4) (M 0 5) (M 0 6) (M 0 7) (M 0 8) (M 0 9) (M 0 10) (M 1) (M 2) (M 3) ++ (wMix cI aN N)) rfl dX1_copy_21 ?_
  refine y_aload_n Z dX1_copy_24 0 rfl rfl ?_
  refine y_aload_n Z dX1_copy_25 1 rfl rfl ?_
  refine y_get (C := RX1) (T := TX1) (N := 14) Z 1 inlX1 rfl 4 rfl 3 (by decide) fl_RX1_34 rfl dX1_copy_26 ?_
  refine y_put (C := RX1) (T := TX1) (N := 14) Z 1 inlX1 rfl tyX1 tyX1_ok nmX1 0 rfl 3 (by decide) fl_RX1_34 rfl rfl rfl (Nat.le_of_ble_eq_true rfl) (wMixR cI aM (N 0 0) (N 0 1) (N 0 2) (N 0 3) (M 0 4) (M 0 5) (M 0 6) (M 0 7) (M 0 8) (M 0 9) (M 0 10) (M 1) (M 2) (M 3) ++ (wMix cI aN N)) rfl dX1_copy_29 ?_
  refine y_aload_n Z dX1_copy_32 0 rfl rfl ?_
  refine y_aload_n Z dX1_copy_33 1 rfl rfl ?_
  refine y_get (C := RX1) (T := TX1) (N := 14) Z 1 inlX1 rfl 4 rfl 4 (by decide) fl_RX1_37 rfl dX1_copy_34 ?_
  refine y_put (C := RX1) (T := TX1) (N := 14) Z 1 inlX1 rfl tyX1 tyX1_ok nmX1 0 rfl 4 (by decide) fl_RX1_37 rfl rfl rfl (Nat.le_of_ble_eq_true rfl) (wMixR cI aM (N 0 0) (N 0 1) (N 0 2) (N 0 3) (N 0 4) (M 0 5) (M 0 6) (M 0 7) (M 0 8) (M 0 9) (M 0 10) (M 1) (M 2) (M 3) ++ (wMix cI aN N)) rfl dX1_copy_37 ?_
  refine y_aload_n Z dX1_copy_40 0 rfl rfl ?_
  refine y_aload_n Z dX1_copy_41 1 rfl rfl ?_
  refine y_get (C := RX1) (T := TX1) (N := 14) Z 1 inlX1 rfl 4 rfl 5 (by decide) fl_RX1_40 rfl dX1_copy_42 ?_
  refine y_put (C := RX1) (T := TX1) (N := 14) Z 1 inlX1 rfl tyX1 tyX1_ok nmX1 0 rfl 5 (by decide) fl_RX1_40 rfl rfl rfl (Nat.le_of_ble_eq_true rfl) (wMixR cI aM (N 0 0) (N 0 1) (N 0 2) (N 0 3) (N 0 4) (N 0 5) (M 0 6) (M 0 7) (M 0 8) (M 0 9) (M 0 10) (M 1) (M 2) (M 3) ++ (wMix cI aN N)) rfl dX1_copy_45 ?_
  refine y_aload_n Z dX1_copy_48 0 rfl rfl ?_
  refine y_aload_n Z dX1_copy_49 1 rfl rfl ?_
  refine y_get (C := RX1) (T := TX1) (N := 14) Z 1 inlX1 rfl 4 rfl 6 (by decide) fl_RX1_43 rfl dX1_copy_50 ?_
  refine y_put (C := RX1) (T := TX1) (N := 14) Z 1 inlX1 rfl tyX1 tyX1_ok nmX1 0 rfl 6 (by decide) fl_RX1_43 rfl rfl rfl (Nat.le_of_ble_eq_true rfl) (wMixR cI aM (N 0 0) (N 0 1) (N 0 2) (N 0 3) (N 0 4) (N 0 5) (N 0 6) (M 0 7) (M 0 8) (M 0 9) (M 0 10) (M 1) (M 2) (M 3) ++ (wMix cI aN N)) rfl dX1_copy_53 ?_
  refine y_aload_n Z dX1_copy_56 0 rfl rfl ?_
  refine y_aload_n Z dX1_copy_57 1 rfl rfl ?_
  refine y_get (C := RX1) (T := TX1) (N := 14) Z 1 inlX1 rfl 4 rfl 7 (by decide) fl_RX1_46 rfl dX1_copy_58 ?_
  refine y_put (C := RX1) (T := TX1) (N := 14) Z 1 inlX1 rfl tyX1 tyX1_ok nmX1 0 rfl 7 (by decide) fl_RX1_46 rfl rfl rfl (Nat.le_of_ble_eq_true rfl) (wMixR cI aM (N 0 0) (N 0 1) (N 0 2) (N 0 3) (N 0 4) (N 0 5) (N 0 6) (N 0 7) (M 0 8) (M 0 9) (M 0 10) (M 1) (M 2) (M 3) ++ (wMix cI aN N)) rfl dX1_copy_61 ?_
  refine y_aload_n Z dX1_copy_64 0 rfl rfl ?_
  refine y_aload_n Z dX1_copy_65 1 rfl rfl ?_
  refine y_get (C := RX1) (T := TX1) (N := 14) Z 1 inlX1 rfl 4 rfl 8 (by decide) fl_RX1_49 rfl dX1_copy_66 ?_
  refine y_put (C := RX1) (T := TX1) (N := 14) Z 1 inlX1 rfl tyX1 tyX1_ok nmX1 0 rfl 8 (by decide) fl_RX1_49 rfl rfl rfl (Nat.le_of_ble_eq_true rfl) (wMixR cI aM (N 0 0) (N 0 1) (N 0 2) (N 0 3) (N 0 4) (N 0 5) (N 0 6) (N 0 7) (N 0 8) (M 0 9) (M 0 10) (M 1) (M 2) (M 3) ++ (wMix cI aN N)) rfl dX1_copy_69 ?_
  refine y_aload_n Z dX1_copy_72 0 rfl rfl ?_
  refine y_aload_n Z dX1_copy_73 1 rfl rfl ?_
  refine y_get (C := RX1) (T := TX1) (N := 14) Z 1 inlX1 rfl 4 rfl 9 (by decide) fl_RX1_52 rfl dX1_copy_74 ?_
  refine y_put (C := RX1) (T := TX1) (N := 14) Z 1 inlX1 rfl tyX1 tyX1_ok nmX1 0 rfl 9 (by decide) fl_RX1_52 rfl rfl rfl (Nat.le_of_ble_eq_true rfl) (wMixR cI aM (N 0 0) (N 0 1) (N 0 2) (N 0 3) (N 0 4) (N 0 5) (N 0 6) (N 0 7) (N 0 8) (N 0 9) (M 0 10) (M 1) (M 2) (M 3) ++ (wMix cI aN N)) rfl dX1_copy_77 ?_
  refine y_aload_n Z dX1_copy_80 0 rfl rfl ?_
  refine y_aload_n Z dX1_copy_81 1 rfl rfl ?_
  refine y_get (C := RX1) (T := TX1) (N := 14) Z 1 inlX1 rfl 4 rfl 10 (by decide) fl_RX1_55 rfl dX1_copy_82 ?_
  refine y_put (C := RX1) (T := TX1) (N := 14) Z 1 inlX1 rfl tyX1 tyX1_ok nmX1 0 rfl 10 (by decide) fl_RX1_55 rfl rfl rfl (Nat.le_of_ble_eq_true rfl) (wMixR cI aM (N 0 0) (N 0 1) (N 0 2) (N 0 3) (N 0 4) (N 0 5) (N 0 6) (N 0 7) (N 0 8) (N 0 9) (N 0 10) (M 1) (M 2) (M 3) ++ (wMix cI aN N)) rfl dX1_copy_85 ?_
  refine y_iconst (v := 0) Z dX1_copy_88 (by decide) ?_
  refine y_istore_n Z [(2, .int 0), (0, .ref (aM 0)), (1, .ref (aN 0))] dX1_copy_89 rfl (by decide) rfl ?_
  refine y_lv [1, 2, 0] rfl ?_
  exact L90 3 0 (by omega)
