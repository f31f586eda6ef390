theorem vpd {i : Int32} {n : Nat} (h : ¬ i < 0) (h2 : i.toNatClampNeg < n) : vp_in i n := fun h3 => h3.elim h (fun h4 => absurd h2 (Nat.not_lt.mpr h4))
theorem nb01 {v : Int32} (h : v = 0 ∨ v = 1) : narrow .boolean (.int v) = .int v := by rcases h with rfl | rfl <;> decide
theorem ite01 {p : Prop} [Decidable p] {a b : Int32} (h : a = 0 ∨ a = 1) (h2 : b = 0 ∨ b = 1) : (if p then a else b) = 0 ∨ (if p then a else b) = 1 := by split <;> assumption
def mv_in (v lo hi : Int64) : Int32 := if lg_cmp v lo < 0 then 0 else if 0 < lg_cmp v hi then 0 else 1
theorem mv_in01 (v lo hi : Int64) : mv_in v lo hi = 0 ∨ mv_in v lo hi = 1 := ite01 (Or.inl rfl) (ite01 (Or.inl rfl) (Or.inr rfl))
def mv_gf (a b c : Int32) : Int32 := if a = 0 then 1 else if b = 0 then 2 else if c = 0 then 3 else 0
def mv_go (a b c : Int32) : Int32 := if mv_gf a b c = 0 then 1 else 0
def mv_is (q : Int32) : Int32 := mv_in q.toInt64 0 9
def mv_ik (k : Int32) : Int32 := mv_in k.toInt64 0 2
def mv_el (m : Nat → Int32) (b : Int32) : Int32 := if (m 4 >>> (b &&& 31)) &&& 1 = 1 then 1 else 0
def mv_uw (m : Nat → Int32) : Int32 := if 0 < m 5 then 1 else if m 6 = -1 then 0 else 1
def mv_ps (m : Nat → Int32) (w : Int32) : Int32 := if w = 3 then (if mv_uw m = 0 then 1 else 0) else if w = 7 then (if mv_uw m = 0 then 1 else 0) else if w = 8 then (if m 6 = -1 then 1 else 0) else 1
def mr_bi (m : Nat → Int32) : Nat → Int32 := upd (upd (upd (upd (upd (upd (upd (upd m 0 1) 1 2) 2 0) 3 25) 4 1) 5 0) 6 (-1)) 19 0
def mr_bs (k : Nat) (m : Nat → Int32) : Nat → Int32 := upd (upd (upd (upd m (7 + 4 * k) (3 + nI k)) (7 + 4 * k + 1) 100) (7 + 4 * k + 2) 25) (7 + 4 * k + 3) 0
def mr_bg (m : Nat → Int32) : Nat → Int32 := it mr_bs 3 (mr_bi m)
def mr_sw (m : Nat → Int32) : Nat → Int32 := if mv_el m 0 = 0 then m else upd (upd m 0 (m 1)) 1 (m 0)
def mr_cs (k : Nat) (m : Nat → Int32) : Nat → Int32 := upd m (7 + 4 * k + 3) (if mv_el m (1 + nI k) = 0 then m (7 + 4 * k + 3) else 1 - m (7 + 4 * k + 3))
def mr_cp (m : Nat → Int32) : Nat → Int32 := upd (upd (it mr_cs 3 (mr_sw m)) 5 0) 6 (-1)
def mr_f1 (m : Nat → Int32) : Nat → Int32 := upd m 6 (m 6 + 1)
def mr_fr (m : Nat → Int32) : Nat → Int32 := if m 6 = -1 then m else if mr_f1 m 6 < mr_f1 m 3 then upd (mr_f1 m) 5 (mr_f1 m 6 * 1000 / mr_f1 m 3) else mr_cp (mr_f1 m)
def mv_fn (m : Nat → Int32) (n : Int32) : Int32 := if m 6 = -1 then n else if mr_f1 m 6 < mr_f1 m 3 then n else n + 1
def mr_mv (m : Nat → Int32) (a : Int32) : Nat → Int32 := if a = 1000 then mr_cp (upd m 5 a) else upd m 5 a
def kx (a j : Int32) : Nat := (7 + 4 * a + j).toNatClampNeg
def mr_ky (m : Nat → Int32) (a b c d : Int32) : Nat → Int32 := upd (upd (upd m (kx a 0) b) (kx a 1) c) (kx a 2) d
def mr_tg (m : Nat → Int32) (a : Int32) : Nat → Int32 := upd m (kx a 3) (1 - m (kx a 3))
def mr_ft (m : Nat → Int32) (a b : Int32) : Nat → Int32 := upd m 19 (if b = 1 then m 19 ||| (1 <<< (a &&& 31)) else m 19 &&& ((1 <<< (a &&& 31)) ^^^ (-1)))
def mr_ds (m : Nat → Int32) (w a b c d : Int32) : Nat → Int32 := if mv_ps m w = 0 then m else if w = 0 then upd m 0 a else if w = 1 then upd m 1 a else if w = 2 then upd (upd m 2 a) 3 b else if w = 3 then upd m 4 a else if w = 4 then mr_ky m a b c d else if w = 5 then mr_tg m a else if w = 6 then mr_cp m else if w = 7 then upd m 6 0 else if w = 8 then mr_mv m a else mr_ft m a b
def mv_ds (m : Nat → Int32) (w a b c d : Int32) : Int32 := if mv_ps m w = 0 then 0 else if w = 0 then m 0 else if w = 1 then m 1 else if w = 2 then m 2 else if w = 3 then m 4 else if w = 4 then m (kx a 0) else if w = 5 then mr_tg m a (kx a 3) else if w = 6 then mr_cp m 0 else if w = 7 then m 3 else if w = 8 then m 5 else (m 19 >>> (a &&& 31)) &&& 1
def mr_la (E : Nat → Int32) (n : Nat) (t w a b c d : Int32) : Nat → Int32 := upd (upd (upd (upd (upd (upd E (6 * n) t) (6 * n + 1) w) (6 * n + 2) a) (6 * n + 3) b) (6 * n + 4) c) (6 * n + 5) d
def mv_hr (n : Int32) : Int32 := if 100 ≤ n then 0 else 1
def kOk (a : Int32) : Prop := vp_in a 3
theorem kx_in {a : Int32} (h : kOk a) (j : Nat) (hj : j < 4) : vp_in (7 + 4 * a + nI j) 20 := by
  obtain ⟨q, hq, rfl⟩ := vp_in_of h (by decide)
  rcases (show q = 0 ∨ q = 1 ∨ q = 2 by omega) with rfl | rfl | rfl <;> rcases (show j = 0 ∨ j = 1 ∨ j = 2 ∨ j = 3 by omega) with rfl | rfl | rfl | rfl <;> exact vpd (by decide) (by decide)
theorem kI_in {i : Nat} (h : i < 3) (j : Nat) (hj : j < 4) : vp_in (7 + 4 * nI i + nI j) 20 := kx_in (a := nI i) (vp_in_nI h (by decide)) j hj
theorem kI_eq {i : Nat} (h : i < 3) (j : Nat) (hj : j < 4) : (7 + 4 * nI i + nI j).toNatClampNeg = 7 + 4 * i + j := by
  rcases (show i = 0 ∨ i = 1 ∨ i = 2 by omega) with rfl | rfl | rfl <;> rcases (show j = 0 ∨ j = 1 ∨ j = 2 ∨ j = 3 by omega) with rfl | rfl | rfl | rfl <;> decide
theorem nI_muln (a b : Nat) : nI a * nI b = nI (a * b) := (Int32.ofNat_mul a b).symm
theorem ix6 {a : Int32} (h : vp_in a 100) (j : Nat) (hj : j < 6) : vp_in (6 * a + nI j) 600 ∧ (6 * a + nI j).toNatClampNeg = 6 * a.toNatClampNeg + j := by
  obtain ⟨q, hq, rfl⟩ := vp_in_of h (by decide)
  rw [show (6 : Int32) * nI q = nI (6 * q) from nI_muln 6 q, nI_add, nI_clamp (by omega), nI_clamp (by omega)]
  exact ⟨vp_in_nI (by omega) (by decide), rfl⟩
theorem ix60 {a : Int32} (h : vp_in a 100) : vp_in (6 * a) 600 ∧ (6 * a).toNatClampNeg = 6 * a.toNatClampNeg := by
  obtain ⟨q, hq, rfl⟩ := vp_in_of h (by decide)
  rw [show (6 : Int32) * nI q = nI (6 * q) from nI_muln 6 q, nI_clamp (by omega), nI_clamp (by omega)]
  exact ⟨vp_in_nI (by omega) (by decide), rfl⟩
theorem go_a {a b c : Int32} (h : ¬ mv_go a b c = 0) : ¬ a = 0 := fun e => h (by unfold mv_go mv_gf; rw [if_pos e]; rfl)
theorem go_b {a b c : Int32} (h : ¬ mv_go a b c = 0) : ¬ b = 0 := fun e => h (by unfold mv_go mv_gf; rw [if_neg (go_a h), if_pos e]; rfl)
theorem go_c {a b c : Int32} (h : ¬ mv_go a b c = 0) : ¬ c = 0 := fun e => h (by unfold mv_go mv_gf; rw [if_neg (go_a h), if_neg (go_b h), if_pos e]; rfl)
theorem hr_n {n : Int32} (h0 : ¬ n < 0) (h : ¬ mv_hr n = 0) : vp_in n 100 := by
  rcases pk_ix n (n := 100) (by decide) with h1 | h1 | ⟨j, hj, rfl⟩
  · exact absurd h1 h0
  · exact absurd (by unfold mv_hr; rw [if_pos (show 100 ≤ n from h1)]) h
  · exact vp_in_nI hj (by decide)
theorem in_k {v : Int32} {n : Nat} (hn : n < 2 ^ 30) (h : ¬ mv_in v.toInt64 0 (Int64.ofNat n) = 0) : vp_in v (n + 1) := by
  have h1 : ¬ lg_cmp v.toInt64 0 < 0 := fun e => h (by unfold mv_in; rw [if_pos e])
  have h2 : ¬ 0 < lg_cmp v.toInt64 (Int64.ofNat n) := fun e => h (by unfold mv_in; rw [if_neg h1, if_pos e])
  have e3 : (Int64.ofNat n).toInt = (n : Int) := Int64.toInt_ofNat_of_lt (by omega)
  have a1 : 0 ≤ v.toInt := by
    rcases Int.lt_or_le v.toInt 0 with q | q
    · exfalso; apply h1; unfold lg_cmp
      have e1 : v.toInt64 < 0 := by rw [Int64.lt_iff_toInt_lt, Int32.toInt_toInt64]; exact q
      rw [if_neg (fun e => absurd (Int64.lt_trans e e1) (Int64.lt_irrefl)), if_neg (fun e => absurd (e ▸ e1) (Int64.lt_irrefl))]; decide
    · exact q
  have a2 : v.toInt ≤ n := by
    rcases Int.lt_or_le (n : Int) v.toInt with q | q
    · exfalso; apply h2; unfold lg_cmp
      have e1 : v.toInt64 > Int64.ofNat n := by show Int64.ofNat n < v.toInt64; rw [Int64.lt_iff_toInt_lt, Int32.toInt_toInt64, e3]; exact q
      rw [if_pos e1]; decide
    · exact q
  exact vp_in_iff.mpr ⟨a1, by omega⟩
set_option maxHeartbeats 4000000 in
set_option maxRecDepth 100000 in
theorem k_X6_thrown (l : Launch) (D : va_G) {cI : ClassId} {tys : List (ClassId × FieldType)} (ht0 : tys[0]? = some (cI, .int)) (aS : Nat → Nat) (S : Nat → Nat → Int32) (sz : Nat) : kI l yX6_thrown cX6_thrown 1 (some .int) { frames := 0, cells := 0, slots := 0, locals := 0 } D tys [.ref (aS 0)] (wMd cI aS S) (wMd cI aS S) (S 0 2) 0 0 sz := by
  refine y_enterI (cc := cX6_thrown) (maxL := 1) (ret := (some .int)) (own := RX6) (by decide) rfl (lv0 := [(0, .ref (aS 0))]) rfl (Nat.le_of_ble_eq_true rfl) ?_
  intro p e s m args below meth c A Z hr hlk _
  refine y_aload_n Z dX6_thrown_0 0 rfl rfl ?_
  refine y_get (C := RX6) (T := TX6) (N := 19) Z 6 inlX6 rfl 0 rfl 5 (by decide) fl_RX6_31 rfl dX6_thrown_1 ?_
  exact y_retI Z hr hlk dX6_thrown_4 (by first | (with_reducible rfl) | (simp only [wMix, wLog, wPic, wRep, wScr, wVM, wMd, sR_eq, sR_ne, sF_eq, sF_ne, upd_eq, upd_ne, gs_eq, gs_ne, gm_4, gm_ne, Nat.reduceBEq]; done) | rfl) (by first | (with_reducible rfl) | (simp only [wMix, wLog, wPic, wRep, wScr, wVM, wMd, sR_eq, sR_ne, sF_eq, sF_ne, upd_eq, upd_ne, gs_eq, gs_ne, gm_4, gm_ne, Nat.reduceBEq]; done) | rfl)
set_option maxHeartbeats 4000000 in
set_option maxRecDepth 100000 in
theorem k_X6_in (l : Launch) (D : va_G) {cI : ClassId} {tys : List (ClassId × FieldType)} (ht0 : tys[0]? = some (cI, .int)) (v : Int64) (lo : Int64) (hi : Int64) (sz : Nat) : kI l yX6_in cX6_in 6 (some .boolean) { frames := 0, cells := 0, slots := 0, locals := 0 } D tys [.long v, .long lo, .long hi] ([] : va_W) ([] : va_W) (mv_in v lo hi) 0 0 sz := by
  refine y_enterI (cc := cX6_in) (maxL := 6) (ret := (some .boolean)) (own := RX6) (by decide) rfl (lv0 := [(0, .long v), (2, .long lo), (4, .long hi)]) rfl (Nat.le_of_ble_eq_true rfl) ?_
  intro p e s m args below meth c A Z hr hlk _
  refine y_lload_n Z dX6_in_0 0 rfl rfl ?_
  refine y_lload_n Z dX6_in_1 1 rfl rfl ?_
  refine y_lcmp Z dX6_in_2 ?_
  refine y_if_lt (tgt := 17) Z dX6_in_3 (by decide) (fun h1 => ?_) (fun h2 => ?_)
  · refine y_iconst (v := 0) Z dX6_in_17 (by decide) ?_
    exact y_retZ Z hr hlk (by decide) dX6_in_18 (by first | (simp only [mv_in, h1, if_true, if_false, not_false_eq_true, not_true_eq_false, ↓reduceIte]; done) | (simp only [mv_in, h1, if_true, if_false, not_false_eq_true, not_true_eq_false, ↓reduceIte, wMix, wLog, wPic, wRep, wScr, wVM, wMd, sR_eq, sR_ne, sF_eq, sF_ne, upd_eq, upd_ne, gs_eq, gs_ne, gm_4, gm_ne, Nat.reduceBEq]; done) | (with_reducible rfl) | contradiction | (simp only [mv_in, h1, if_true, if_false, not_false_eq_true, not_true_eq_false, ↓reduceIte]; rfl) | rfl) (by first | (simp only [mv_in, h1, if_true, if_false, not_false_eq_true, not_true_eq_false, ↓reduceIte]; done) | (simp only [mv_in, h1, if_true, if_false, not_false_eq_true, not_true_eq_false, ↓reduceIte, wMix, wLog, wPic, wRep, wScr, wVM, wMd, sR_eq, sR_ne, sF_eq, sF_ne, upd_eq, upd_ne, gs_eq, gs_ne, gm_4, gm_ne, Nat.reduceBEq]; done) | (with_reducible rfl) | contradiction | (simp only [mv_in, h1, if_true, if_false, not_false_eq_true, not_true_eq_false, ↓reduceIte]; rfl) | rfl)
  · refine y_lload_n Z dX6_in_6 0 rfl rfl ?_
    refine y_lload Z dX6_in_7 2 rfl ?_
    refine y_lcmp Z dX6_in_9 ?_
    refine y_if_gt (tgt := 17) Z dX6_in_10 (by decide) (fun h3 => ?_) (fun h4 => ?_)
    · refine y_iconst (v := 0) Z dX6_in_17 (by decide) ?_
      exact y_retZ Z hr hlk (by decide) dX6_in_18 (by first | (simp only [mv_in, h2, h3, if_true, if_false, not_false_eq_true, not_true_eq_false, ↓reduceIte]; done) | (simp only [mv_in, h2, h3, if_true, if_false, not_false_eq_true, not_true_eq_false, ↓reduceIte, wMix, wLog, wPic, wRep, wScr, wVM, wMd, sR_eq, sR_ne, sF_eq, sF_ne, upd_eq, upd_ne, gs_eq, gs_ne, gm_4, gm_ne, Nat.reduceBEq]; done) | (with_reducible rfl) | contradiction | (simp only [mv_in, h2, h3, if_true, if_false, not_false_eq_true, not_true_eq_false, ↓reduceIte]; rfl) | rfl) (by first | (simp only [mv_in, h2, h3, if_true, if_false, not_false_eq_true, not_true_eq_false, ↓reduceIte]; done) | (simp only [mv_in, h2, h3, if_true, if_false, not_false_eq_true, not_true_eq_false, ↓reduceIte, wMix, wLog, wPic, wRep, wScr, wVM, wMd, sR_eq, sR_ne, sF_eq, sF_ne, upd_eq, upd_ne, gs_eq, gs_ne, gm_4, gm_ne, Nat.reduceBEq]; done) | (with_reducible rfl) | contradiction | (simp only [mv_in, h2, h3, if_true, if_false, not_false_eq_true, not_true_eq_false, ↓reduceIte]; rfl) | rfl)
    · refine y_iconst (v := 1) Z dX6_in_13 (by decide) ?_
      refine y_goto (tgt := 18) Z dX6_in_14 (by decide) ?_
      exact y_retZ Z hr hlk (by decide) dX6_in_18 (by first | (simp only [mv_in, h2, h4, if_true, if_false, not_false_eq_true, not_true_eq_false, ↓reduceIte]; done) | (simp only [mv_in, h2, h4, if_true, if_false, not_false_eq_true, not_true_eq_false, ↓reduceIte, wMix, wLog, wPic, wRep, wScr, wVM, wMd, sR_eq, sR_ne, sF_eq, sF_ne, upd_eq, upd_ne, gs_eq, gs_ne, gm_4, gm_ne, Nat.reduceBEq]; done) | (with_reducible rfl) | contradiction | (simp only [mv_in, h2, h4, if_true, if_false, not_false_eq_true, not_true_eq_false, ↓reduceIte]; rfl) | rfl) (by first | (simp only [mv_in, h2, h4, if_true, if_false, not_false_eq_true, not_true_eq_false, ↓reduceIte]; done) | (simp only [mv_in, h2, h4, if_true, if_false, not_false_eq_true, not_true_eq_false, ↓reduceIte, wMix, wLog, wPic, wRep, wScr, wVM, wMd, sR_eq, sR_ne, sF_eq, sF_ne, upd_eq, upd_ne, gs_eq, gs_ne, gm_4, gm_ne, Nat.reduceBEq]; done) | (with_reducible rfl) | contradiction | (simp only [mv_in, h2, h4, if_true, if_false, not_false_eq_true, not_true_eq_false, ↓reduceIte]; rfl) | rfl)
set_option maxHeartbeats 4000000 in
set_option maxRecDepth 100000 in
theorem k_X6_goes (l : Launch) (D : va_G) {cI : ClassId} {tys : List (ClassId × FieldType)} (ht0 : tys[0]? = some (cI, .int)) (aS : Nat → Nat) (S : Nat → Nat → Int32) (b0 : Int32) (b1 : Int32) (b2 : Int32) (sz : Nat) : kI l yX6_goes cX6_goes 4 (some .boolean) { frames := 0, cells := 0, slots := 0, locals := 0 } D tys [.ref (aS 0), .int b0, .int b1, .int b2] (wMd cI aS S) (wMdR cI aS (S 0 0) (S 0 1) (mv_gf b0 b1 b2) (S 0 3) (S 0 4) (S 0 5) (S 0 6) (S 0 7) (S 0 8) (S 0 9) (S 0 10) (S 0 11) (S 0 12) (S 1) (S 2) (S 3) (S 4) (S 5) (S 6)) (mv_go b0 b1 b2) 0 0 sz := by
  refine y_enterI (cc := cX6_goes) (maxL := 4) (ret := (some .boolean)) (own := RX6) (by decide) rfl (lv0 := [(0, .ref (aS 0)), (1, .int b0), (2, .int b1), (3, .int b2)]) rfl (Nat.le_of_ble_eq_true rfl) ?_
  intro p e s m args below meth c A Z hr hlk _
  refine y_aload_n Z dX6_goes_0 0 rfl rfl ?_
  refine y_iload_n Z dX6_goes_1 1 rfl rfl ?_
  refine y_if_ne (tgt := 9) Z dX6_goes_2 (by decide) (fun h1 => ?_) (fun h2 => ?_)
  · refine y_iload_n Z dX6_goes_9 2 rfl rfl ?_
    refine y_if_ne (tgt := 17) Z dX6_goes_10 (by decide) (fun h3 => ?_) (fun h4 => ?_)
    · refine y_iload_n Z dX6_goes_17 3 rfl rfl ?_
      refine y_if_ne (tgt := 25) Z dX6_goes_18 (by decide) (fun h5 => ?_) (fun h6 => ?_)
      · refine y_iconst (v := 0) Z dX6_goes_25 (by decide) ?_
        refine y_put (C := RX6) (T := TX6) (N := 19) Z 6 inlX6 rfl tyX6 tyX6_ok nmX6 0 rfl 5 (by decide) fl_RX6_31 rfl rfl rfl (Nat.le_of_ble_eq_true rfl) (wMdR cI aS (S 0 0) (S 0 1) 0 (S 0 3) (S 0 4) (S 0 5) (S 0 6) (S 0 7) (S 0 8) (S 0 9) (S 0 10) (S 0 11) (S 0 12) (S 1) (S 2) (S 3) (S 4) (S 5) (S 6)) rfl dX6_goes_26 ?_
        refine y_aload_n Z dX6_goes_29 0 rfl rfl ?_
        refine y_get (C := RX6) (T := TX6) (N := 19) Z 6 inlX6 rfl 0 rfl 5 (by decide) fl_RX6_31 rfl dX6_goes_30 ?_
        refine y_if_ne (tgt := 40) Z dX6_goes_33 (by decide) (fun h7 => ?_) (fun h8 => ?_)
        · exact absurd (show ¬ (0 : Int32) = (0 : Int32) from h7) (by decide)
        · refine y_iconst (v := 1) Z dX6_goes_36 (by decide) ?_
          refine y_goto (tgt := 41) Z dX6_goes_37 (by decide) ?_
          exact y_retZ Z hr hlk (by decide) dX6_goes_41 (by first | (simp only [mv_go, mv_gf, h1, h3, h5, eq_true h8, if_true, if_false, not_false_eq_true, not_true_eq_false, ↓reduceIte]; done) | (simp only [mv_go, mv_gf, h1, h3, h5, eq_true h8, if_true, if_false, not_false_eq_true, not_true_eq_false, ↓reduceIte, wMix, wLog, wPic, wRep, wScr, wVM, wMd, sR_eq, sR_ne, sF_eq, sF_ne, upd_eq, upd_ne, gs_eq, gs_ne, gm_4, gm_ne, Nat.reduceBEq]; done) | (with_reducible rfl) | contradiction | (simp only [mv_go, mv_gf, h1, h3, h5, eq_true h8, if_true, if_false, not_false_eq_true, not_true_eq_false, ↓reduceIte]; rfl) | rfl) (by first | (simp only [mv_go, mv_gf, h1, h3, h5, eq_true h8, if_true, if_false, not_false_eq_true, not_true_eq_false, ↓reduceIte]; done) | (simp only [mv_go, mv_gf, h1, h3, h5, eq_true h8, if_true, if_false, not_false_eq_true, not_true_eq_false, ↓reduceIte, wMix, wLog, wPic, wRep, wScr, wVM, wMd, sR_eq, sR_ne, sF_eq, sF_ne, upd_eq, upd_ne, gs_eq, gs_ne, gm_4, gm_ne, Nat.reduceBEq]; done) | (with_reducible rfl) | contradiction | (simp only [mv_go, mv_gf, h1, h3, h5, eq_true h8, if_true, if_false, not_false_eq_true, not_true_eq_false, ↓reduceIte]; rfl) | rfl)
      · refine y_iconst (v := 3) Z dX6_goes_21 (by decide) ?_
        refine y_goto (tgt := 26) Z dX6_goes_22 (by decide) ?_
        refine y_put (C := RX6) (T := TX6) (N := 19) Z 6 inlX6 rfl tyX6 tyX6_ok nmX6 0 rfl 5 (by decide) fl_RX6_31 rfl rfl rfl (Nat.le_of_ble_eq_true rfl) (wMdR cI aS (S 0 0) (S 0 1) 3 (S 0 3) (S 0 4) (S 0 5) (S 0 6) (S 0 7) (S 0 8) (S 0 9) (S 0 10) (S 0 11) (S 0 12) (S 1) (S 2) (S 3) (S 4) (S 5) (S 6)) rfl dX6_goes_26 ?_
        refine y_aload_n Z dX6_goes_29 0 rfl rfl ?_
        refine y_get (C := RX6) (T := TX6) (N := 19) Z 6 inlX6 rfl 0 rfl 5 (by decide) fl_RX6_31 rfl dX6_goes_30 ?_
        refine y_if_ne (tgt := 40) Z dX6_goes_33 (by decide) (fun h9 => ?_) (fun h10 => ?_)
        · refine y_iconst (v := 0) Z dX6_goes_40 (by decide) ?_
          exact y_retZ Z hr hlk (by decide) dX6_goes_41 (by first | (simp only [mv_go, mv_gf, h1, h3, eq_true h6, h9, if_true, if_false, not_false_eq_true, not_true_eq_false, ↓reduceIte]; done) | (simp only [mv_go, mv_gf, h1, h3, eq_true h6, h9, if_true, if_false, not_false_eq_true, not_true_eq_false, ↓reduceIte, wMix, wLog, wPic, wRep, wScr, wVM, wMd, sR_eq, sR_ne, sF_eq, sF_ne, upd_eq, upd_ne, gs_eq, gs_ne, gm_4, gm_ne, Nat.reduceBEq]; done) | (with_reducible rfl) | contradiction | (simp only [mv_go, mv_gf, h1, h3, eq_true h6, h9, if_true, if_false, not_false_eq_true, not_true_eq_false, ↓reduceIte]; rfl) | rfl) (by first | (simp only [mv_go, mv_gf, h1, h3, eq_true h6, h9, if_true, if_false, not_false_eq_true, not_true_eq_false, ↓reduceIte]; done) | (simp only [mv_go, mv_gf, h1, h3, eq_true h6, h9, if_true, if_false, not_false_eq_true, not_true_eq_false, ↓reduceIte, wMix, wLog, wPic, wRep, wScr, wVM, wMd, sR_eq, sR_ne, sF_eq, sF_ne, upd_eq, upd_ne, gs_eq, gs_ne, gm_4, gm_ne, Nat.reduceBEq]; done) | (with_reducible rfl) | contradiction | (simp only [mv_go, mv_gf, h1, h3, eq_true h6, h9, if_true, if_false, not_false_eq_true, not_true_eq_false, ↓reduceIte]; rfl) | rfl)
        · exact absurd (show (3 : Int32) = 0 from h10) (by decide)
    · refine y_iconst (v := 2) Z dX6_goes_13 (by decide) ?_
      refine y_goto (tgt := 26) Z dX6_goes_14 (by decide) ?_
      refine y_put (C := RX6) (T := TX6) (N := 19) Z 6 inlX6 rfl tyX6 tyX6_ok nmX6 0 rfl 5 (by decide) fl_RX6_31 rfl rfl rfl (Nat.le_of_ble_eq_true rfl) (wMdR cI aS (S 0 0) (S 0 1) 2 (S 0 3) (S 0 4) (S 0 5) (S 0 6) (S 0 7) (S 0 8) (S 0 9) (S 0 10) (S 0 11) (S 0 12) (S 1) (S 2) (S 3) (S 4) (S 5) (S 6)) rfl dX6_goes_26 ?_
      refine y_aload_n Z dX6_goes_29 0 rfl rfl ?_
      refine y_get (C := RX6) (T := TX6) (N := 19) Z 6 inlX6 rfl 0 rfl 5 (by decide) fl_RX6_31 rfl dX6_goes_30 ?_
      refine y_if_ne (tgt := 40) Z dX6_goes_33 (by decide) (fun h11 => ?_) (fun h12 => ?_)
      · refine y_iconst (v := 0) Z dX6_goes_40 (by decide) ?_
        exact y_retZ Z hr hlk (by decide) dX6_goes_41 (by first | (simp only [mv_go, mv_gf, h1, eq_true h4, h11, if_true, if_false, not_false_eq_true, not_true_eq_false, ↓reduceIte]; done) | (simp only [mv_go, mv_gf, h1, eq_true h4, h11, if_true, if_false, not_false_eq_true, not_true_eq_false, ↓reduceIte, wMix, wLog, wPic, wRep, wScr, wVM, wMd, sR_eq, sR_ne, sF_eq, sF_ne, upd_eq, upd_ne, gs_eq, gs_ne, gm_4, gm_ne, Nat.reduceBEq]; done) | (with_reducible rfl) | contradiction | (simp only [mv_go, mv_gf, h1, eq_true h4, h11, if_true, if_false, not_false_eq_true, not_true_eq_false, ↓reduceIte]; rfl) | rfl) (by first | (simp only [mv_go, mv_gf, h1, eq_true h4, h11, if_true, if_false, not_false_eq_true, not_true_eq_false, ↓reduceIte]; done) | (simp only [mv_go, mv_gf, h1, eq_true h4, h11, if_true, if_false, not_false_eq_true, not_true_eq_false, ↓reduceIte, wMix, wLog, wPic, wRep, wScr, wVM, wMd, sR_eq, sR_ne, sF_eq, sF_ne, upd_eq, upd_ne, gs_eq, gs_ne, gm_4, gm_ne, Nat.reduceBEq]; done) | (with_reducible rfl) | contradiction | (simp only [mv_go, mv_gf, h1, eq_true h4, h11, if_true, if_false, not_false_eq_true, not_true_eq_false, ↓reduceIte]; rfl) | rfl)
      · exact absurd (show (2 : Int32) = 0 from h12) (by decide)
  · refine y_iconst (v := 1) Z dX6_goes_5 (by decide) ?_
    refine y_goto (tgt := 26) Z dX6_goes_6 (by decide) ?_
    refine y_put (C := RX6) (T := TX6) (N := 19) Z 6 inlX6 rfl tyX6 tyX6_ok nmX6 0 rfl 5 (by decide) fl_RX6_31 rfl rfl rfl (Nat.le_of_ble_eq_true rfl) (wMdR cI aS (S 0 0) (S 0 1) 1 (S 0 3) (S 0 4) (S 0 5) (S 0 6) (S 0 7) (S 0 8) (S 0 9) (S 0 10) (S 0 11) (S 0 12) (S 1) (S 2) (S 3) (S 4) (S 5) (S 6)) rfl dX6_goes_26 ?_
    refine y_aload_n Z dX6_goes_29 0 rfl rfl ?_
    refine y_get (C := RX6) (T := TX6) (N := 19) Z 6 inlX6 rfl 0 rfl 5 (by decide) fl_RX6_31 rfl dX6_goes_30 ?_
    refine y_if_ne (tgt := 40) Z dX6_goes_33 (by decide) (fun h13 => ?_) (fun h14 => ?_)
    · refine y_iconst (v := 0) Z dX6_goes_40 (by decide) ?_
      exact y_retZ Z hr hlk (by decide) dX6_goes_41 (by first | (simp only [mv_go, mv_gf, eq_true h2, h13, if_true, if_false, not_false_eq_true, not_true_eq_false, ↓reduceIte]; done) | (simp only [mv_go, mv_gf, eq_true h2, h13, if_true, if_false, not_false_eq_true, not_true_eq_false, ↓reduceIte, wMix, wLog, wPic, wRep, wScr, wVM, wMd, sR_eq, sR_ne, sF_eq, sF_ne, upd_eq, upd_ne, gs_eq, gs_ne, gm_4, gm_ne, Nat.reduceBEq]; done) | (with_reducible rfl) | contradiction | (simp only [mv_go, mv_gf, eq_true h2, h13, if_true, if_false, not_false_eq_true, not_true_eq_false, ↓reduceIte]; rfl) | rfl) (by first | (simp only [mv_go, mv_gf, eq_true h2, h13, if_true, if_false, not_false_eq_true, not_true_eq_false, ↓reduceIte]; done) | (simp only [mv_go, mv_gf, eq_true h2, h13, if_true, if_false, not_false_eq_true, not_true_eq_false, ↓reduceIte, wMix, wLog, wPic, wRep, wScr, wVM, wMd, sR_eq, sR_ne, sF_eq, sF_ne, upd_eq, upd_ne, gs_eq, gs_ne, gm_4, gm_ne, Nat.reduceBEq]; done) | (with_reducible rfl) | contradiction | (simp only [mv_go, mv_gf, eq_true h2, h13, if_true, if_false, not_false_eq_true, not_true_eq_false, ↓reduceIte]; rfl) | rfl)
    · exact absurd (show (1 : Int32) = 0 from h14) (by decide)
set_option maxHeartbeats 4000000 in
set_option maxRecDepth 100000 in
theorem k_X6_isSource (l : Launch) (D : va_G) {cI : ClassId} {tys : List (ClassId × FieldType)} (ht0 : tys[0]? = some (cI, .int)) (q : Int32) (sz : Nat) : kI l yX6_isSource cX6_isSource 1 (some .boolean) { frames := 1, cells := 0, slots := 0, locals := 25 } D tys [.int q] ([] : va_W) ([] : va_W) (mv_is q) 0 0 sz := by
  refine y_enterI (cc := cX6_isSource) (maxL := 1) (ret := (some .boolean)) (own := RX6) (by decide) rfl (lv0 := [(0, .int q)]) rfl (Nat.le_of_ble_eq_true rfl) ?_
  intro p e s m args below meth c A Z hr hlk _
  refine y_iload_n Z dX6_isSource_0 0 rfl rfl ?_
  refine y_i2l Z dX6_isSource_1 ?_
  refine y_lconst (v := 0) Z dX6_isSource_2 (by decide) ?_
  refine y_ldc2 Z (9) ct_RX6_35 dX6_isSource_3 ?_
  refine y_SI Z (k_X6_in l D ht0 (Int32.toInt64 q) 0 9) (y_cwS 3 Z ml_RX6_37 st_X6_in in_X6 co_X6_in rfl rfl hs_X6_in ⟨Nat.le_of_ble_eq_true rfl, Nat.le_of_ble_eq_true rfl⟩) [] rfl (by decide) rfl rfl (Nat.le_of_ble_eq_true rfl) dX6_isSource_6 ⟨Nat.le_of_ble_eq_true rfl, Nat.le_of_ble_eq_true rfl⟩ [] rfl rfl ([] : va_W) rfl ?_
  exact y_retZ Z hr hlk ((nb01 (mv_in01 _ _ _))) dX6_isSource_9 (by first | (simp only [mv_is, if_true, if_false, not_false_eq_true, not_true_eq_false, ↓reduceIte]; done) | (simp only [mv_is, if_true, if_false, not_false_eq_true, not_true_eq_false, ↓reduceIte, wMix, wLog, wPic, wRep, wScr, wVM, wMd, sR_eq, sR_ne, sF_eq, sF_ne, upd_eq, upd_ne, gs_eq, gs_ne, gm_4, gm_ne, Nat.reduceBEq]; done) | (with_reducible rfl) | contradiction | (simp only [mv_is, if_true, if_false, not_false_eq_true, not_true_eq_false, ↓reduceIte]; rfl) | rfl) (by first | (simp only [mv_is, if_true, if_false, not_false_eq_true, not_true_eq_false, ↓reduceIte]; done) | (simp only [mv_is, if_true, if_false, not_false_eq_true, not_true_eq_false, ↓reduceIte, wMix, wLog, wPic, wRep, wScr, wVM, wMd, sR_eq, sR_ne, sF_eq, sF_ne, upd_eq, upd_ne, gs_eq, gs_ne, gm_4, gm_ne, Nat.reduceBEq]; done) | (with_reducible rfl) | contradiction | (simp only [mv_is, if_true, if_false, not_false_eq_true, not_true_eq_false, ↓reduceIte]; rfl) | rfl)
set_option maxHeartbeats 4000000 in
set_option maxRecDepth 100000 in
theorem k_X6_isKeyer (l : Launch) (D : va_G) {cI : ClassId} {tys : List (ClassId × FieldType)} (ht0 : tys[0]? = some (cI, .int)) (q : Int32) (sz : Nat) : kI l yX6_isKeyer cX6_isKeyer 1 (some .boolean) { frames := 1, cells := 0, slots := 0, locals := 25 } D tys [.int q] ([] : va_W) ([] : va_W) (mv_ik q) 0 0 sz := by
  refine y_enterI (cc := cX6_isKeyer) (maxL := 1) (ret := (some .boolean)) (own := RX6) (by decide) rfl (lv0 := [(0, .int q)]) rfl (Nat.le_of_ble_eq_true rfl) ?_
  intro p e s m args below meth c A Z hr hlk _
  refine y_iload_n Z dX6_isKeyer_0 0 rfl rfl ?_
  refine y_i2l Z dX6_isKeyer_1 ?_
  refine y_lconst (v := 0) Z dX6_isKeyer_2 (by decide) ?_
  refine y_ldc2 Z (2) ct_RX6_41 dX6_isKeyer_3 ?_
  refine y_SI Z (k_X6_in l D ht0 (Int32.toInt64 q) 0 2) (y_cwS 3 Z ml_RX6_37 st_X6_in in_X6 co_X6_in rfl rfl hs_X6_in ⟨Nat.le_of_ble_eq_true rfl, Nat.le_of_ble_eq_true rfl⟩) [] rfl (by decide) rfl rfl (Nat.le_of_ble_eq_true rfl) dX6_isKeyer_6 ⟨Nat.le_of_ble_eq_true rfl, Nat.le_of_ble_eq_true rfl⟩ [] rfl rfl ([] : va_W) rfl ?_
  exact y_retZ Z hr hlk ((nb01 (mv_in01 _ _ _))) dX6_isKeyer_9 (by first | (simp only [mv_ik, if_true, if_false, not_false_eq_true, not_true_eq_false, ↓reduceIte]; done) | (simp only [mv_ik, if_true, if_false, not_false_eq_true, not_true_eq_false, ↓reduceIte, wMix, wLog, wPic, wRep, wScr, wVM, wMd, sR_eq, sR_ne, sF_eq, sF_ne, upd_eq, upd_ne, gs_eq, gs_ne, gm_4, gm_ne, Nat.reduceBEq]; done) | (with_reducible rfl) | contradiction | (simp only [mv_ik, if_true, if_false, not_false_eq_true, not_true_eq_false, ↓reduceIte]; rfl) | rfl) (by first | (simp only [mv_ik, if_true, if_false, not_false_eq_true, not_true_eq_false, ↓reduceIte]; done) | (simp only [mv_ik, if_true, if_false, not_false_eq_true, not_true_eq_false, ↓reduceIte, wMix, wLog, wPic, wRep, wScr, wVM, wMd, sR_eq, sR_ne, sF_eq, sF_ne, upd_eq, upd_ne, gs_eq, gs_ne, gm_4, gm_ne, Nat.reduceBEq]; done) | (with_reducible rfl) | contradiction | (simp only [mv_ik, if_true, if_false, not_false_eq_true, not_true_eq_false, ↓reduceIte]; rfl) | rfl)
set_option maxHeartbeats 4000000 in
set_option maxRecDepth 100000 in
theorem k_X6_ofKeyer (l : Launch) (D : va_G) {cI : ClassId} {tys : List (ClassId × FieldType)} (ht0 : tys[0]? = some (cI, .int)) (aS : Nat → Nat) (S : Nat → Nat → Int32) (k : Int32) (w : Int32) (h_x : vp_in (7 + 4 * k + w) 20) (sz : Nat) : kI l yX6_ofKeyer cX6_ofKeyer 3 (some .int) { frames := 0, cells := 0, slots := 0, locals := 0 } D tys [.ref (aS 0), .int k, .int w] (wMd cI aS S) (wMd cI aS S) ((S 1) (kx k w)) 0 0 sz := by
  refine y_enterI (cc := cX6_ofKeyer) (maxL := 3) (ret := (some .int)) (own := RX6) (by decide) rfl (lv0 := [(0, .ref (aS 0)), (1, .int k), (2, .int w)]) rfl (Nat.le_of_ble_eq_true rfl) ?_
  intro p e s m args below meth c A Z hr hlk _
  refine y_aload_n Z dX6_ofKeyer_0 0 rfl rfl ?_
  refine y_get (C := RX6) (T := TX6) (N := 19) Z 6 inlX6 rfl 0 rfl 0 (by decide) fl_RX6_7 rfl dX6_ofKeyer_1 ?_
  refine y_bipush (v := 7) Z dX6_ofKeyer_4 (by decide) ?_
  refine y_iconst (v := 4) Z dX6_ofKeyer_6 (by decide) ?_
  refine y_iload_n Z dX6_ofKeyer_7 1 rfl rfl ?_
  refine y_imul Z dX6_ofKeyer_8 ?_
  refine y_iadd Z dX6_ofKeyer_9 ?_
  refine y_iload_n Z dX6_ofKeyer_10 2 rfl rfl ?_
  refine y_iadd Z dX6_ofKeyer_11 ?_
  refine y_iald Z 1 0 rfl ht0 h_x (kx k w) rfl dX6_ofKeyer_12 ?_
  exact y_retI Z hr hlk dX6_ofKeyer_13 (by first | (with_reducible rfl) | (simp only [wMix, wLog, wPic, wRep, wScr, wVM, wMd, sR_eq, sR_ne, sF_eq, sF_ne, upd_eq, upd_ne, gs_eq, gs_ne, gm_4, gm_ne, Nat.reduceBEq]; done) | rfl) (by first | (with_reducible rfl) | (simp only [wMix, wLog, wPic, wRep, wScr, wVM, wMd, sR_eq, sR_ne, sF_eq, sF_ne, upd_eq, upd_ne, gs_eq, gs_ne, gm_4, gm_ne, Nat.reduceBEq]; done) | rfl)
set_option maxHeartbeats 4000000 in
set_option maxRecDepth 100000 in
theorem k_X6_begins (l : Launch) (D : va_G) {cI : ClassId} {tys : List (ClassId × FieldType)} (ht0 : tys[0]? = some (cI, .int)) (aS : Nat → Nat) (S : Nat → Nat → Int32) (sz : Nat) : kV l yX6_begins cX6_begins 3 none { frames := 0, cells := 0, slots := 0, locals := 0 } D tys [.ref (aS 0)] (wMd cI aS S) (wMdR cI aS (S 0 0) (S 0 1) (S 0 2) (S 0 3) (S 0 4) (S 0 5) (S 0 6) (S 0 7) (S 0 8) (S 0 9) (S 0 10) (S 0 11) (S 0 12) (mr_bg (S 1)) (S 2) (S 3) (S 4) (S 5) (S 6)) 0 0 sz := by
  refine y_enterV (cc := cX6_begins) (maxL := 3) (ret := none) (own := RX6) (by decide) rfl (lv0 := [(0, .ref (aS 0))]) rfl (Nat.le_of_ble_eq_true rfl) ?_
  intro p e s m args below meth c A Z hr hlk _
  have L61 : ∀ (n i : Nat), i + n = 3 → Yy p l e { frames := 0, cells := 0, slots := 0, locals := 0 } s m args below meth c (QV D tys A (wMdR cI aS (S 0 0) (S 0 1) (S 0 2) (S 0 3) (S 0 4) (S 0 5) (S 0 6) (S 0 7) (S 0 8) (S 0 9) (S 0 10) (S 0 11) (S 0 12) (mr_bg (S 1)) (S 2) (S 3) (S 4) (S 5) (S 6)) below args s 0 0) D A 3 0 0 (wMdR cI aS (S 0 0) (S 0 1) (S 0 2) (S 0 3) (S 0 4) (S 0 5) (S 0 6) (S 0 7) (S 0 8) (S 0 9) (S 0 10) (S 0 11) (S 0 12) (it mr_bs i (mr_bi (S 1))) (S 2) (S 3) (S 4) (S 5) (S 6)) [(0, .ref (aS 0)), (1, .int (nI i))] [] 61 := by
    intro n; induction n with
    | zero =>
      intro i hi
      have hi : i = 3 := by omega
      subst hi
      refine y_iload_n Z dX6_begins_61 1 rfl rfl ?_
      refine y_iconst (v := 3) Z dX6_begins_62 (by decide) ?_
      refine y_icmp_ge (tgt := 119) Z dX6_begins_63 (by decide) (fun h1 => ?_) (fun h2 => ?_)
      · exact y_retV Z hr hlk dX6_begins_119 (by first | (simp only [mr_bg, mr_bi, mr_bs, h1, if_true, if_false, not_false_eq_true, not_true_eq_false, ↓reduceIte]; done) | (simp only [mr_bg, mr_bi, mr_bs, h1, if_true, if_false, not_false_eq_true, not_true_eq_false, ↓reduceIte, wMix, wLog, wPic, wRep, wScr, wVM, wMd, sR_eq, sR_ne, sF_eq, sF_ne, upd_eq, upd_ne, gs_eq, gs_ne, gm_4, gm_ne, Nat.reduceBEq]; done) | (with_reducible rfl) | contradiction | (simp only [mr_bg, mr_bi, mr_bs, h1, if_true, if_false, not_false_eq_true, not_true_eq_false, ↓reduceIte]; rfl) | rfl)
      · exact absurd (nI_le (a := 3) (b := 3) (by omega) (by decide)) h2
    | succ n ih =>
      intro i hi
      refine y_iload_n Z dX6_begins_61 1 rfl rfl ?_
      refine y_iconst (v := 3) Z dX6_begins_62 (by decide) ?_
      refine y_icmp_ge (tgt := 119) Z dX6_begins_63 (by decide) (fun h3 => ?_) (fun h4 => ?_)
      · exact absurd h3 (nI_ge (a := i) (b := 3) (by omega) (by decide))
      · refine y_bipush (v := 7) Z dX6_begins_66 (by decide) ?_
        refine y_iconst (v := 4) Z dX6_begins_68 (by decide) ?_
        refine y_iload_n Z dX6_begins_69 1 rfl rfl ?_
        refine y_imul Z dX6_begins_70 ?_
        refine y_iadd Z dX6_begins_71 ?_
        refine y_istore_n Z [(2, .int (7 + (4 * (nI i)))), (0, .ref (aS 0)), (1, .int (nI i))] dX6_begins_72 rfl (by decide) rfl ?_
        refine y_aload_n Z dX6_begins_73 1 rfl rfl ?_
        refine y_get (C := RX6) (T := TX6) (N := 19) Z 6 inlX6 rfl 0 rfl 0 (by decide) fl_RX6_7 rfl dX6_begins_74 ?_
        refine y_iload_n Z dX6_begins_77 0 rfl rfl ?_
        refine y_iconst (v := 0) Z dX6_begins_78 (by decide) ?_
        refine y_iadd Z dX6_begins_79 ?_
        refine y_iconst (v := 3) Z dX6_begins_80 (by decide) ?_
        refine y_iload_n Z dX6_begins_81 2 rfl rfl ?_
        refine y_iadd Z dX6_begins_82 ?_
        refine y_iast Z 1 0 rfl ht0 (kI_in (i := i) (by omega) 0 (by decide)) (7 + 4 * i) (kI_eq (i := i) (by omega) 0 (by decide)) (wMdR cI aS (S 0 0) (S 0 1) (S 0 2) (S 0 3) (S 0 4) (S 0 5) (S 0 6) (S 0 7) (S 0 8) (S 0 9) (S 0 10) (S 0 11) (S 0 12) (upd (it mr_bs i (mr_bi (S 1))) (7 + 4 * i) (3 + (nI i))) (S 2) (S 3) (S 4) (S 5) (S 6)) rfl dX6_begins_83 ?_
        refine y_aload_n Z dX6_begins_84 1 rfl rfl ?_
        refine y_get (C := RX6) (T := TX6) (N := 19) Z 6 inlX6 rfl 0 rfl 0 (by decide) fl_RX6_7 rfl dX6_begins_85 ?_
        refine y_iload_n Z dX6_begins_88 0 rfl rfl ?_
        refine y_iconst (v := 1) Z dX6_begins_89 (by decide) ?_
        refine y_iadd Z dX6_begins_90 ?_
        refine y_bipush (v := 100) Z dX6_begins_91 (by decide) ?_
        refine y_iast Z 1 0 rfl ht0 (kI_in (i := i) (by omega) 1 (by decide)) (7 + 4 * i + 1) (kI_eq (i := i) (by omega) 1 (by decide)) (wMdR cI aS (S 0 0) (S 0 1) (S 0 2) (S 0 3) (S 0 4) (S 0 5) (S 0 6) (S 0 7) (S 0 8) (S 0 9) (S 0 10) (S 0 11) (S 0 12) (upd (upd (it mr_bs i (mr_bi (S 1))) (7 + 4 * i) (3 + (nI i))) (7 + 4 * i + 1) 100) (S 2) (S 3) (S 4) (S 5) (S 6)) rfl dX6_begins_93 ?_
        refine y_aload_n Z dX6_begins_94 1 rfl rfl ?_
        refine y_get (C := RX6) (T := TX6) (N := 19) Z 6 inlX6 rfl 0 rfl 0 (by decide) fl_RX6_7 rfl dX6_begins_95 ?_
        refine y_iload_n Z dX6_begins_98 0 rfl rfl ?_
        refine y_iconst (v := 2) Z dX6_begins_99 (by decide) ?_
        refine y_iadd Z dX6_begins_100 ?_
        refine y_bipush (v := 25) Z dX6_begins_101 (by decide) ?_
        refine y_iast Z 1 0 rfl ht0 (kI_in (i := i) (by omega) 2 (by decide)) (7 + 4 * i + 2) (kI_eq (i := i) (by omega) 2 (by decide)) (wMdR cI aS (S 0 0) (S 0 1) (S 0 2) (S 0 3) (S 0 4) (S 0 5) (S 0 6) (S 0 7) (S 0 8) (S 0 9) (S 0 10) (S 0 11) (S 0 12) (upd (upd (upd (it mr_bs i (mr_bi (S 1))) (7 + 4 * i) (3 + (nI i))) (7 + 4 * i + 1) 100) (7 + 4 * i + 2) 25) (S 2) (S 3) (S 4) (S 5) (S 6)) rfl dX6_begins_103 ?_
        refine y_aload_n Z dX6_begins_104 1 rfl rfl ?_
        refine y_get (C := RX6) (T := TX6) (N := 19) Z 6 inlX6 rfl 0 rfl 0 (by decide) fl_RX6_7 rfl dX6_begins_105 ?_
        refine y_iload_n Z dX6_begins_108 0 rfl rfl ?_
        refine y_iconst (v := 3) Z dX6_begins_109 (by decide) ?_
        refine y_iadd Z dX6_begins_110 ?_
        refine y_iconst (v := 0) Z dX6_begins_111 (by decide) ?_
        refine y_iast Z 1 0 rfl ht0 (kI_in (i := i) (by omega) 3 (by decide)) (7 + 4 * i + 3) (kI_eq (i := i) (by omega) 3 (by decide)) (wMdR cI aS (S 0 0) (S 0 1) (S 0 2) (S 0 3) (S 0 4) (S 0 5) (S 0 6) (S 0 7) (S 0 8) (S 0 9) (S 0 10) (S 0 11) (S 0 12) (upd (upd (upd (upd (it mr_bs i (mr_bi (S 1))) (7 + 4 * i) (3 + (nI i))) (7 + 4 * i + 1) 100) (7 + 4 * i + 2) 25) (7 + 4 * i + 3) 0) (S 2) (S 3) (S 4) (S 5) (S 6)) rfl dX6_begins_112 ?_
        refine y_iinc Z [(1, .int (nI (i + 1))), (2, .int (7 + (4 * (nI i)))), (0, .ref (aS 0))] dX6_begins_113 2 rfl (nI_1 _) (by decide) rfl ?_
        refine y_goto (tgt := 61) Z dX6_begins_116 (by decide) ?_
        refine y_lv [2, 0] (lv' := [(0, .ref (aS 0)), (1, .int (nI (i + 1)))]) rfl ?_
        refine y_eq (ws' := (wMdR cI aS (S 0 0) (S 0 1) (S 0 2) (S 0 3) (S 0 4) (S 0 5) (S 0 6) (S 0 7) (S 0 8) (S 0 9) (S 0 10) (S 0 11) (S 0 12) (it mr_bs (i + 1) (mr_bi (S 1))) (S 2) (S 3) (S 4) (S 5) (S 6))) (lv' := [(0, .ref (aS 0)), (1, .int (nI (i + 1)))]) (st' := []) (by first | (simp only [it_s, mr_bs, h4, if_true, if_false, not_false_eq_true, not_true_eq_false, ↓reduceIte]; done) | (simp only [it_s, mr_bs, h4, if_true, if_false, not_false_eq_true, not_true_eq_false, ↓reduceIte, wMix, wLog, wPic, wRep, wScr, wVM, wMd, sR_eq, sR_ne, sF_eq, sF_ne, upd_eq, upd_ne, gs_eq, gs_ne, gm_4, gm_ne, Nat.reduceBEq]; done) | (with_reducible rfl) | contradiction | (simp only [it_s, mr_bs, h4, if_true, if_false, not_false_eq_true, not_true_eq_false, ↓reduceIte]; rfl) | rfl) (by first | (simp only [it_s, mr_bs, h4, if_true, if_false, not_false_eq_true, not_true_eq_false, ↓reduceIte]; done) | (simp only [it_s, mr_bs, h4, if_true, if_false, not_false_eq_true, not_true_eq_false, ↓reduceIte, wMix, wLog, wPic, wRep, wScr, wVM, wMd, sR_eq, sR_ne, sF_eq, sF_ne, upd_eq, upd_ne, gs_eq, gs_ne, gm_4, gm_ne, Nat.reduceBEq]; done) | (with_reducible rfl) | contradiction | (simp only [it_s, mr_bs, h4, if_true, if_false, not_false_eq_true, not_true_eq_false, ↓reduceIte]; rfl) | rfl) rfl ?_
        exact ih (i + 1)  (by omega)
  refine y_aload_n Z dX6_begins_0 0 rfl rfl ?_
  refine y_get (C := RX6) (T := TX6) (N := 19) Z 6 inlX6 rfl 0 rfl 0 (by decide) fl_RX6_7 rfl dX6_begins_1 ?_
  refine y_iconst (v := 0) Z dX6_begins_4 (by decide) ?_
  refine y_iconst (v := 1) Z dX6_begins_5 (by decide) ?_
  refine y_iast Z 1 0 rfl ht0 (vpd (by decide) (by decide)) 0 (by decide) (wMdR cI aS (S 0 0) (S 0 1) (S 0 2) (S 0 3) (S 0 4) (S 0 5) (S 0 6) (S 0 7) (S 0 8) (S 0 9) (S 0 10) (S 0 11) (S 0 12) (upd (S 1) 0 1) (S 2) (S 3) (S 4) (S 5) (S 6)) rfl dX6_begins_6 ?_
  refine y_aload_n Z dX6_begins_7 0 rfl rfl ?_
  refine y_get (C := RX6) (T := TX6) (N := 19) Z 6 inlX6 rfl 0 rfl 0 (by decide) fl_RX6_7 rfl dX6_begins_8 ?_
  refine y_iconst (v := 1) Z dX6_begins_11 (by decide) ?_
  refine y_iconst (v := 2) Z dX6_begins_12 (by decide) ?_
  refine y_iast Z 1 0 rfl ht0 (vpd (by decide) (by decide)) 1 (by decide) (wMdR cI aS (S 0 0) (S 0 1) (S 0 2) (S 0 3) (S 0 4) (S 0 5) (S 0 6) (S 0 7) (S 0 8) (S 0 9) (S 0 10) (S 0 11) (S 0 12) (upd (upd (S 1) 0 1) 1 2) (S 2) (S 3) (S 4) (S 5) (S 6)) rfl dX6_begins_13 ?_
  refine y_aload_n Z dX6_begins_14 0 rfl rfl ?_
  refine y_get (C := RX6) (T := TX6) (N := 19) Z 6 inlX6 rfl 0 rfl 0 (by decide) fl_RX6_7 rfl dX6_begins_15 ?_
  refine y_iconst (v := 2) Z dX6_begins_18 (by decide) ?_
  refine y_iconst (v := 0) Z dX6_begins_19 (by decide) ?_
  refine y_iast Z 1 0 rfl ht0 (vpd (by decide) (by decide)) 2 (by decide) (wMdR cI aS (S 0 0) (S 0 1) (S 0 2) (S 0 3) (S 0 4) (S 0 5) (S 0 6) (S 0 7) (S 0 8) (S 0 9) (S 0 10) (S 0 11) (S 0 12) (upd (upd (upd (S 1) 0 1) 1 2) 2 0) (S 2) (S 3) (S 4) (S 5) (S 6)) rfl dX6_begins_20 ?_
  refine y_aload_n Z dX6_begins_21 0 rfl rfl ?_
  refine y_get (C := RX6) (T := TX6) (N := 19) Z 6 inlX6 rfl 0 rfl 0 (by decide) fl_RX6_7 rfl dX6_begins_22 ?_
  refine y_iconst (v := 3) Z dX6_begins_25 (by decide) ?_
  refine y_bipush (v := 25) Z dX6_begins_26 (by decide) ?_
  refine y_iast Z 1 0 rfl ht0 (vpd (by decide) (by decide)) 3 (by decide) (wMdR cI aS (S 0 0) (S 0 1) (S 0 2) (S 0 3) (S 0 4) (S 0 5) (S 0 6) (S 0 7) (S 0 8) (S 0 9) (S 0 10) (S 0 11) (S 0 12) (upd (upd (upd (upd (S 1) 0 1) 1 2) 2 0) 3 25) (S 2) (S 3) (S 4) (S 5) (S 6)) rfl dX6_begins_28 ?_
  refine y_aload_n Z dX6_begins_29 0 rfl rfl ?_
  refine y_get (C := RX6) (T := TX6) (N := 19) Z 6 inlX6 rfl 0 rfl 0 (by decide) fl_RX6_7 rfl dX6_begins_30 ?_
  refine y_iconst (v := 4) Z dX6_begins_33 (by decide) ?_
  refine y_iconst (v := 1) Z dX6_begins_34 (by decide) ?_
  refine y_iast Z 1 0 rfl ht0 (vpd (by decide) (by decide)) 4 (by decide) (wMdR cI aS (S 0 0) (S 0 1) (S 0 2) (S 0 3) (S 0 4) (S 0 5) (S 0 6) (S 0 7) (S 0 8) (S 0 9) (S 0 10) (S 0 11) (S 0 12) (upd (upd (upd (upd (upd (S 1) 0 1) 1 2) 2 0) 3 25) 4 1) (S 2) (S 3) (S 4) (S 5) (S 6)) rfl dX6_begins_35 ?_
  refine y_aload_n Z dX6_begins_36 0 rfl rfl ?_
  refine y_get (C := RX6) (T := TX6) (N := 19) Z 6 inlX6 rfl 0 rfl 0 (by decide) fl_RX6_7 rfl dX6_begins_37 ?_
  refine y_iconst (v := 5) Z dX6_begins_40 (by decide) ?_
  refine y_iconst (v := 0) Z dX6_begins_41 (by decide) ?_
  refine y_iast Z 1 0 rfl ht0 (vpd (by decide) (by decide)) 5 (by decide) (wMdR cI aS (S 0 0) (S 0 1) (S 0 2) (S 0 3) (S 0 4) (S 0 5) (S 0 6) (S 0 7) (S 0 8) (S 0 9) (S 0 10) (S 0 11) (S 0 12) (upd (upd (upd (upd (upd (upd (S 1) 0 1) 1 2) 2 0) 3 25) 4 1) 5 0) (S 2) (S 3) (S 4) (S 5) (S 6)) rfl dX6_begins_42 ?_
  refine y_aload_n Z dX6_begins_43 0 rfl rfl ?_
  refine y_get (C := RX6) (T := TX6) (N := 19) Z 6 inlX6 rfl 0 rfl 0 (by decide) fl_RX6_7 rfl dX6_begins_44 ?_
  refine y_bipush (v := 6) Z dX6_begins_47 (by decide) ?_
  refine y_iconst (v := -1) Z dX6_begins_49 (by decide) ?_
  refine y_iast Z 1 0 rfl ht0 (vpd (by decide) (by decide)) 6 (by decide) (wMdR cI aS (S 0 0) (S 0 1) (S 0 2) (S 0 3) (S 0 4) (S 0 5) (S 0 6) (S 0 7) (S 0 8) (S 0 9) (S 0 10) (S 0 11) (S 0 12) (upd (upd (upd (upd (upd (upd (upd (S 1) 0 1) 1 2) 2 0) 3 25) 4 1) 5 0) 6 (-1)) (S 2) (S 3) (S 4) (S 5) (S 6)) rfl dX6_begins_50 ?_
  refine y_aload_n Z dX6_begins_51 0 rfl rfl ?_
  refine y_get (C := RX6) (T := TX6) (N := 19) Z 6 inlX6 rfl 0 rfl 0 (by decide) fl_RX6_7 rfl dX6_begins_52 ?_
  refine y_bipush (v := 19) Z dX6_begins_55 (by decide) ?_
  refine y_iconst (v := 0) Z dX6_begins_57 (by decide) ?_
  refine y_iast Z 1 0 rfl ht0 (vpd (by decide) (by decide)) 19 (by decide) (wMdR cI aS (S 0 0) (S 0 1) (S 0 2) (S 0 3) (S 0 4) (S 0 5) (S 0 6) (S 0 7) (S 0 8) (S 0 9) (S 0 10) (S 0 11) (S 0 12) (upd (upd (upd (upd (upd (upd (upd (upd (S 1) 0 1) 1 2) 2 0) 3 25) 4 1) 5 0) 6 (-1)) 19 0) (S 2) (S 3) (S 4) (S 5) (S 6)) rfl dX6_begins_58 ?_
  refine y_iconst (v := 0) Z dX6_begins_59 (by decide) ?_
  refine y_istore_n Z [(1, .int 0), (0, .ref (aS 0))] dX6_begins_60 rfl (by decide) rfl ?_
  refine y_lv [1, 0] (lv' := [(0, .ref (aS 0)), (1, .int 0)]) rfl ?_
  refine y_eq (ws' := (wMdR cI aS (S 0 0) (S 0 1) (S 0 2) (S 0 3) (S 0 4) (S 0 5) (S 0 6) (S 0 7) (S 0 8) (S 0 9) (S 0 10) (S 0 11) (S 0 12) (it mr_bs 0 (mr_bi (S 1))) (S 2) (S 3) (S 4) (S 5) (S 6))) (lv' := [(0, .ref (aS 0)), (1, .int (nI 0))]) (st' := []) (by first | (simp only [mr_bi, it_0, if_true, if_false, not_false_eq_true, not_true_eq_false, ↓reduceIte]; done) | (simp only [mr_bi, it_0, if_true, if_false, not_false_eq_true, not_true_eq_false, ↓reduceIte, wMix, wLog, wPic, wRep, wScr, wVM, wMd, sR_eq, sR_ne, sF_eq, sF_ne, upd_eq, upd_ne, gs_eq, gs_ne, gm_4, gm_ne, Nat.reduceBEq]; done) | (with_reducible rfl) | contradiction | (simp only [mr_bi, it_0, if_true, if_false, not_false_eq_true, not_true_eq_false, ↓reduceIte]; rfl) | rfl) (by first | (simp only [mr_bi, it_0, if_true, if_false, not_false_eq_true, not_true_eq_false, ↓reduceIte]; done) | (simp only [mr_bi, it_0, if_true, if_false, not_false_eq_true, not_true_eq_false, ↓reduceIte, wMix, wLog, wPic, wRep, wScr, wVM, wMd, sR_eq, sR_ne, sF_eq, sF_ne, upd_eq, upd_ne, gs_eq, gs_ne, gm_4, gm_ne, Nat.reduceBEq]; done) | (with_reducible rfl) | contradiction | (simp only [mr_bi, it_0, if_true, if_false, not_false_eq_true, not_true_eq_false, ↓reduceIte]; rfl) | rfl) rfl ?_
  exact L61 3 0  (by omega)
set_option maxHeartbeats 4000000 in
set_option maxRecDepth 100000 in
theorem k_X6_isUnderWay (l : Launch) (D : va_G) {cI : ClassId} {tys : List (ClassId × FieldType)} (ht0 : tys[0]? = some (cI, .int)) (aS : Nat → Nat) (S : Nat → Nat → Int32) (sz : Nat) : kI l yX6_isUnderWay cX6_isUnderWay 1 (some .boolean) { frames := 0, cells := 0, slots := 0, locals := 0 } D tys [.ref (aS 0)] (wMd cI aS S) (wMd cI aS S) (mv_uw (S 1)) 0 0 sz := by
  refine y_enterI (cc := cX6_isUnderWay) (maxL := 1) (ret := (some .boolean)) (own := RX6) (by decide) rfl (lv0 := [(0, .ref (aS 0))]) rfl (Nat.le_of_ble_eq_true rfl) ?_
  intro p e s m args below meth c A Z hr hlk _
  refine y_aload_n Z dX6_isUnderWay_0 0 rfl rfl ?_
  refine y_get (C := RX6) (T := TX6) (N := 19) Z 6 inlX6 rfl 0 rfl 0 (by decide) fl_RX6_7 rfl dX6_isUnderWay_1 ?_
  refine y_iconst (v := 5) Z dX6_isUnderWay_4 (by decide) ?_
  refine y_iald Z 1 0 rfl ht0 (vpd (by decide) (by decide)) 5 (by decide) dX6_isUnderWay_5 ?_
  refine y_if_gt (tgt := 20) Z dX6_isUnderWay_6 (by decide) (fun h1 => ?_) (fun h2 => ?_)
  · refine y_iconst (v := 1) Z dX6_isUnderWay_20 (by decide) ?_
    refine y_goto (tgt := 25) Z dX6_isUnderWay_21 (by decide) ?_
    exact y_retZ Z hr hlk (by decide) dX6_isUnderWay_25 (by first | (simp only [mv_uw, h1, if_true, if_false, not_false_eq_true, not_true_eq_false, ↓reduceIte]; done) | (simp only [mv_uw, h1, if_true, if_false, not_false_eq_true, not_true_eq_false, ↓reduceIte, wMix, wLog, wPic, wRep, wScr, wVM, wMd, sR_eq, sR_ne, sF_eq, sF_ne, upd_eq, upd_ne, gs_eq, gs_ne, gm_4, gm_ne, Nat.reduceBEq]; done) | (with_reducible rfl) | contradiction | (simp only [mv_uw, h1, if_true, if_false, not_false_eq_true, not_true_eq_false, ↓reduceIte]; rfl) | rfl) (by first | (simp only [mv_uw, h1, if_true, if_false, not_false_eq_true, not_true_eq_false, ↓reduceIte]; done) | (simp only [mv_uw, h1, if_true, if_false, not_false_eq_true, not_true_eq_false, ↓reduceIte, wMix, wLog, wPic, wRep, wScr, wVM, wMd, sR_eq, sR_ne, sF_eq, sF_ne, upd_eq, upd_ne, gs_eq, gs_ne, gm_4, gm_ne, Nat.reduceBEq]; done) | (with_reducible rfl) | contradiction | (simp only [mv_uw, h1, if_true, if_false, not_false_eq_true, not_true_eq_false, ↓reduceIte]; rfl) | rfl)
  · refine y_aload_n Z dX6_isUnderWay_9 0 rfl rfl ?_
    refine y_get (C := RX6) (T := TX6) (N := 19) Z 6 inlX6 rfl 0 rfl 0 (by decide) fl_RX6_7 rfl dX6_isUnderWay_10 ?_
    refine y_bipush (v := 6) Z dX6_isUnderWay_13 (by decide) ?_
    refine y_iald Z 1 0 rfl ht0 (vpd (by decide) (by decide)) 6 (by decide) dX6_isUnderWay_15 ?_
    refine y_iconst (v := -1) Z dX6_isUnderWay_16 (by decide) ?_
    refine y_icmp_eq (tgt := 24) Z dX6_isUnderWay_17 (by decide) (fun h3 => ?_) (fun h4 => ?_)
    · refine y_iconst (v := 0) Z dX6_isUnderWay_24 (by decide) ?_
      exact y_retZ Z hr hlk (by decide) dX6_isUnderWay_25 (by first | (simp only [mv_uw, h2, eq_true h3, if_true, if_false, not_false_eq_true, not_true_eq_false, ↓reduceIte]; done) | (simp only [mv_uw, h2, eq_true h3, if_true, if_false, not_false_eq_true, not_true_eq_false, ↓reduceIte, wMix, wLog, wPic, wRep, wScr, wVM, wMd, sR_eq, sR_ne, sF_eq, sF_ne, upd_eq, upd_ne, gs_eq, gs_ne, gm_4, gm_ne, Nat.reduceBEq]; done) | (with_reducible rfl) | contradiction | (simp only [mv_uw, h2, eq_true h3, if_true, if_false, not_false_eq_true, not_true_eq_false, ↓reduceIte]; rfl) | rfl) (by first | (simp only [mv_uw, h2, eq_true h3, if_true, if_false, not_false_eq_true, not_true_eq_false, ↓reduceIte]; done) | (simp only [mv_uw, h2, eq_true h3, if_true, if_false, not_false_eq_true, not_true_eq_false, ↓reduceIte, wMix, wLog, wPic, wRep, wScr, wVM, wMd, sR_eq, sR_ne, sF_eq, sF_ne, upd_eq, upd_ne, gs_eq, gs_ne, gm_4, gm_ne, Nat.reduceBEq]; done) | (with_reducible rfl) | contradiction | (simp only [mv_uw, h2, eq_true h3, if_true, if_false, not_false_eq_true, not_true_eq_false, ↓reduceIte]; rfl) | rfl)
    · refine y_iconst (v := 1) Z dX6_isUnderWay_20 (by decide) ?_
      refine y_goto (tgt := 25) Z dX6_isUnderWay_21 (by decide) ?_
      exact y_retZ Z hr hlk (by decide) dX6_isUnderWay_25 (by first | (simp only [mv_uw, h2, h4, if_true, if_false, not_false_eq_true, not_true_eq_false, ↓reduceIte]; done) | (simp only [mv_uw, h2, h4, if_true, if_false, not_false_eq_true, not_true_eq_false, ↓reduceIte, wMix, wLog, wPic, wRep, wScr, wVM, wMd, sR_eq, sR_ne, sF_eq, sF_ne, upd_eq, upd_ne, gs_eq, gs_ne, gm_4, gm_ne, Nat.reduceBEq]; done) | (with_reducible rfl) | contradiction | (simp only [mv_uw, h2, h4, if_true, if_false, not_false_eq_true, not_true_eq_false, ↓reduceIte]; rfl) | rfl) (by first | (simp only [mv_uw, h2, h4, if_true, if_false, not_false_eq_true, not_true_eq_false, ↓reduceIte]; done) | (simp only [mv_uw, h2, h4, if_true, if_false, not_false_eq_true, not_true_eq_false, ↓reduceIte, wMix, wLog, wPic, wRep, wScr, wVM, wMd, sR_eq, sR_ne, sF_eq, sF_ne, upd_eq, upd_ne, gs_eq, gs_ne, gm_4, gm_ne, Nat.reduceBEq]; done) | (with_reducible rfl) | contradiction | (simp only [mv_uw, h2, h4, if_true, if_false, not_false_eq_true, not_true_eq_false, ↓reduceIte]; rfl) | rfl)
set_option maxHeartbeats 4000000 in
set_option maxRecDepth 100000 in
theorem k_X6_isElement (l : Launch) (D : va_G) {cI : ClassId} {tys : List (ClassId × FieldType)} (ht0 : tys[0]? = some (cI, .int)) (aS : Nat → Nat) (S : Nat → Nat → Int32) (b : Int32) (sz : Nat) : kI l yX6_isElement cX6_isElement 2 (some .boolean) { frames := 0, cells := 0, slots := 0, locals := 0 } D tys [.ref (aS 0), .int b] (wMd cI aS S) (wMd cI aS S) (mv_el (S 1) b) 0 0 sz := by
  refine y_enterI (cc := cX6_isElement) (maxL := 2) (ret := (some .boolean)) (own := RX6) (by decide) rfl (lv0 := [(0, .ref (aS 0)), (1, .int b)]) rfl (Nat.le_of_ble_eq_true rfl) ?_
  intro p e s m args below meth c A Z hr hlk _
  refine y_aload_n Z dX6_isElement_0 0 rfl rfl ?_
  refine y_get (C := RX6) (T := TX6) (N := 19) Z 6 inlX6 rfl 0 rfl 0 (by decide) fl_RX6_7 rfl dX6_isElement_1 ?_
  refine y_iconst (v := 4) Z dX6_isElement_4 (by decide) ?_
  refine y_iald Z 1 0 rfl ht0 (vpd (by decide) (by decide)) 4 (by decide) dX6_isElement_5 ?_
  refine y_iload_n Z dX6_isElement_6 1 rfl rfl ?_
  refine y_ishr Z dX6_isElement_7 ?_
  refine y_iconst (v := 1) Z dX6_isElement_8 (by decide) ?_
  refine y_iand Z dX6_isElement_9 ?_
  refine y_iconst (v := 1) Z dX6_isElement_10 (by decide) ?_
  refine y_icmp_ne (tgt := 18) Z dX6_isElement_11 (by decide) (fun h1 => ?_) (fun h2 => ?_)
  · refine y_iconst (v := 0) Z dX6_isElement_18 (by decide) ?_
    exact y_retZ Z hr hlk (by decide) dX6_isElement_19 (by first | (simp only [mv_el, h1, if_true, if_false, not_false_eq_true, not_true_eq_false, ↓reduceIte]; done) | (simp only [mv_el, h1, if_true, if_false, not_false_eq_true, not_true_eq_false, ↓reduceIte, wMix, wLog, wPic, wRep, wScr, wVM, wMd, sR_eq, sR_ne, sF_eq, sF_ne, upd_eq, upd_ne, gs_eq, gs_ne, gm_4, gm_ne, Nat.reduceBEq]; done) | (with_reducible rfl) | contradiction | (simp only [mv_el, h1, if_true, if_false, not_false_eq_true, not_true_eq_false, ↓reduceIte]; rfl) | rfl) (by first | (simp only [mv_el, h1, if_true, if_false, not_false_eq_true, not_true_eq_false, ↓reduceIte]; done) | (simp only [mv_el, h1, if_true, if_false, not_false_eq_true, not_true_eq_false, ↓reduceIte, wMix, wLog, wPic, wRep, wScr, wVM, wMd, sR_eq, sR_ne, sF_eq, sF_ne, upd_eq, upd_ne, gs_eq, gs_ne, gm_4, gm_ne, Nat.reduceBEq]; done) | (with_reducible rfl) | contradiction | (simp only [mv_el, h1, if_true, if_false, not_false_eq_true, not_true_eq_false, ↓reduceIte]; rfl) | rfl)
  · refine y_iconst (v := 1) Z dX6_isElement_14 (by decide) ?_
    refine y_goto (tgt := 19) Z dX6_isElement_15 (by decide) ?_
    exact y_retZ Z hr hlk (by decide) dX6_isElement_19 (by first | (simp only [mv_el, eq_true h2, if_true, if_false, not_false_eq_true, not_true_eq_false, ↓reduceIte]; done) | (simp only [mv_el, eq_true h2, if_true, if_false, not_false_eq_true, not_true_eq_false, ↓reduceIte, wMix, wLog, wPic, wRep, wScr, wVM, wMd, sR_eq, sR_ne, sF_eq, sF_ne, upd_eq, upd_ne, gs_eq, gs_ne, gm_4, gm_ne, Nat.reduceBEq]; done) | (with_reducible rfl) | contradiction | (simp only [mv_el, eq_true h2, if_true, if_false, not_false_eq_true, not_true_eq_false, ↓reduceIte]; rfl) | rfl) (by first | (simp only [mv_el, eq_true h2, if_true, if_false, not_false_eq_true, not_true_eq_false, ↓reduceIte]; done) | (simp only [mv_el, eq_true h2, if_true, if_false, not_false_eq_true, not_true_eq_false, ↓reduceIte, wMix, wLog, wPic, wRep, wScr, wVM, wMd, sR_eq, sR_ne, sF_eq, sF_ne, upd_eq, upd_ne, gs_eq, gs_ne, gm_4, gm_ne, Nat.reduceBEq]; done) | (with_reducible rfl) | contradiction | (simp only [mv_el, eq_true h2, if_true, if_false, not_false_eq_true, not_true_eq_false, ↓reduceIte]; rfl) | rfl)
set_option maxHeartbeats 4000000 in
set_option maxRecDepth 100000 in
theorem k_X6_completes (l : Launch) (D : va_G) {cI : ClassId} {tys : List (ClassId × FieldType)} (ht0 : tys[0]? = some (cI, .int)) (aS : Nat → Nat) (S : Nat → Nat → Int32) (sz : Nat) : kV l yX6_completes cX6_completes 3 none { frames := 1, cells := 0, slots := 0, locals := 21 } D tys [.ref (aS 0)] (wMd cI aS S) (wMdR cI aS (S 0 0) (S 0 1) (S 0 2) (S 0 3) (S 0 4) (S 0 5) (S 0 6) (S 0 7) (S 0 8) (S 0 9) (S 0 10) (S 0 11) (S 0 12) (mr_cp (S 1)) (S 2) (S 3) (S 4) (S 5) (S 6)) 0 0 sz := by
  refine y_enterV (cc := cX6_completes) (maxL := 3) (ret := none) (own := RX6) (by decide) rfl (lv0 := [(0, .ref (aS 0))]) rfl (Nat.le_of_ble_eq_true rfl) ?_
  intro p e s m args below meth c A Z hr hlk _
  have L36 : ∀ (n i : Nat), i + n = 3 → Yy p l e { frames := 1, cells := 0, slots := 0, locals := 21 } s m args below meth c (QV D tys A (wMdR cI aS (S 0 0) (S 0 1) (S 0 2) (S 0 3) (S 0 4) (S 0 5) (S 0 6) (S 0 7) (S 0 8) (S 0 9) (S 0 10) (S 0 11) (S 0 12) (mr_cp (S 1)) (S 2) (S 3) (S 4) (S 5) (S 6)) below args s 0 0) D A 3 0 0 (wMdR cI aS (S 0 0) (S 0 1) (S 0 2) (S 0 3) (S 0 4) (S 0 5) (S 0 6) (S 0 7) (S 0 8) (S 0 9) (S 0 10) (S 0 11) (S 0 12) (it mr_cs i (mr_sw (S 1))) (S 2) (S 3) (S 4) (S 5) (S 6)) [(0, .ref (aS 0)), (1, .int (nI i))] [] 36 := by
    intro n; induction n with
    | zero =>
      intro i hi
      have hi : i = 3 := by omega
      subst hi
      refine y_iload_n Z dX6_completes_36 1 rfl rfl ?_
      refine y_iconst (v := 3) Z dX6_completes_37 (by decide) ?_
      refine y_icmp_ge (tgt := 89) Z dX6_completes_38 (by decide) (fun h1 => ?_) (fun h2 => ?_)
      · refine y_aload_n Z dX6_completes_89 0 rfl rfl ?_
        refine y_get (C := RX6) (T := TX6) (N := 19) Z 6 inlX6 rfl 0 rfl 0 (by decide) fl_RX6_7 rfl dX6_completes_90 ?_
        refine y_iconst (v := 5) Z dX6_completes_93 (by decide) ?_
        refine y_iconst (v := 0) Z dX6_completes_94 (by decide) ?_
        refine y_iast Z 1 0 rfl ht0 (vpd (by decide) (by decide)) 5 (by decide) (wMdR cI aS (S 0 0) (S 0 1) (S 0 2) (S 0 3) (S 0 4) (S 0 5) (S 0 6) (S 0 7) (S 0 8) (S 0 9) (S 0 10) (S 0 11) (S 0 12) (upd (it mr_cs 3 (mr_sw (S 1))) 5 0) (S 2) (S 3) (S 4) (S 5) (S 6)) rfl dX6_completes_95 ?_
        refine y_aload_n Z dX6_completes_96 0 rfl rfl ?_
        refine y_get (C := RX6) (T := TX6) (N := 19) Z 6 inlX6 rfl 0 rfl 0 (by decide) fl_RX6_7 rfl dX6_completes_97 ?_
        refine y_bipush (v := 6) Z dX6_completes_100 (by decide) ?_
        refine y_iconst (v := -1) Z dX6_completes_102 (by decide) ?_
        refine y_iast Z 1 0 rfl ht0 (vpd (by decide) (by decide)) 6 (by decide) (wMdR cI aS (S 0 0) (S 0 1) (S 0 2) (S 0 3) (S 0 4) (S 0 5) (S 0 6) (S 0 7) (S 0 8) (S 0 9) (S 0 10) (S 0 11) (S 0 12) (upd (upd (it mr_cs 3 (mr_sw (S 1))) 5 0) 6 (-1)) (S 2) (S 3) (S 4) (S 5) (S 6)) rfl dX6_completes_103 ?_
        exact y_retV Z hr hlk dX6_completes_104 (by first | (simp only [mr_cp, h1, if_true, if_false, not_false_eq_true, not_true_eq_false, ↓reduceIte]; done) | (simp only [mr_cp, h1, if_true, if_false, not_false_eq_true, not_true_eq_false, ↓reduceIte, wMix, wLog, wPic, wRep, wScr, wVM, wMd, sR_eq, sR_ne, sF_eq, sF_ne, upd_eq, upd_ne, gs_eq, gs_ne, gm_4, gm_ne, Nat.reduceBEq]; done) | (with_reducible rfl) | contradiction | (simp only [mr_cp, h1, if_true, if_false, not_false_eq_true, not_true_eq_false, ↓reduceIte]; rfl) | rfl)
      · exact absurd (nI_le (a := 3) (b := 3) (by omega) (by decide)) h2
    | succ n ih =>
      intro i hi
      refine y_iload_n Z dX6_completes_36 1 rfl rfl ?_
      refine y_iconst (v := 3) Z dX6_completes_37 (by decide) ?_
      refine y_icmp_ge (tgt := 89) Z dX6_completes_38 (by decide) (fun h3 => ?_) (fun h4 => ?_)
      · exact absurd h3 (nI_ge (a := i) (b := 3) (by omega) (by decide))
      · refine y_bipush (v := 7) Z dX6_completes_41 (by decide) ?_
        refine y_iconst (v := 4) Z dX6_completes_43 (by decide) ?_
        refine y_iload_n Z dX6_completes_44 1 rfl rfl ?_
        refine y_imul Z dX6_completes_45 ?_
        refine y_iadd Z dX6_completes_46 ?_
        refine y_iconst (v := 3) Z dX6_completes_47 (by decide) ?_
        refine y_iadd Z dX6_completes_48 ?_
        refine y_istore_n Z [(2, .int ((7 + (4 * (nI i))) + 3)), (0, .ref (aS 0)), (1, .int (nI i))] dX6_completes_49 rfl (by decide) rfl ?_
        refine y_aload_n Z dX6_completes_50 1 rfl rfl ?_
        refine y_get (C := RX6) (T := TX6) (N := 19) Z 6 inlX6 rfl 0 rfl 0 (by decide) fl_RX6_7 rfl dX6_completes_51 ?_
        refine y_iload_n Z dX6_completes_54 0 rfl rfl ?_
        refine y_aload_n Z dX6_completes_55 1 rfl rfl ?_
        refine y_iconst (v := 1) Z dX6_completes_56 (by decide) ?_
        refine y_iload_n Z dX6_completes_57 2 rfl rfl ?_
        refine y_iadd Z dX6_completes_58 ?_
        refine y_VIw Z (k_X6_isElement l D ht0 aS (sR S 1 (it mr_cs i (mr_sw (S 1)))) (1 + (nI i))) (y_cwV 1 Z ml_RX6_43 im_X6_isElement se_X6_isElement in_X6 co_X6_isElement rfl rfl hd_X6_isElement ⟨Nat.le_of_ble_eq_true rfl, Nat.le_of_ble_eq_true rfl⟩) List.nil List.nil (by simp only [List.nil_append, List.append_nil, wMix, wLog, wPic, wRep, wScr, wVM, wMd, sR_eq, sR_ne, sF_eq, sF_ne, upd_eq, upd_ne, gs_eq, gs_ne, gm_4, gm_ne, Nat.reduceBEq]) 6 0 rfl rfl rfl rfl (Nat.le_of_ble_eq_true rfl) dX6_completes_59 ⟨Nat.le_of_ble_eq_true rfl, Nat.le_of_ble_eq_true rfl⟩ (wMdR cI aS (S 0 0) (S 0 1) (S 0 2) (S 0 3) (S 0 4) (S 0 5) (S 0 6) (S 0 7) (S 0 8) (S 0 9) (S 0 10) (S 0 11) (S 0 12) (it mr_cs i (mr_sw (S 1))) (S 2) (S 3) (S 4) (S 5) (S 6)) (by simp only [List.nil_append, List.append_nil, wMix, wLog, wPic, wRep, wScr, wVM, wMd, sR_eq, sR_ne, sF_eq, sF_ne, upd_eq, upd_ne, gs_eq, gs_ne, gm_4, gm_ne, Nat.reduceBEq]) ?_
        refine y_eq rfl rfl (st' := [.int (mv_el (it mr_cs i (mr_sw (S 1))) (1 + (nI i))), .int ((7 + (4 * (nI i))) + 3), .ref (aS 1)]) (by first | with_reducible rfl | simp only [wMix, wLog, wPic, wRep, wScr, wVM, wMd, sR_eq, sR_ne, sF_eq, sF_ne, upd_eq, upd_ne, gs_eq, gs_ne, gm_4, gm_ne, Nat.reduceBEq]) ?_
        refine y_if_eq (tgt := 76) Z dX6_completes_62 (by decide) (fun h5 => ?_) (fun h6 => ?_)
        · refine y_aload_n Z dX6_completes_76 1 rfl rfl ?_
          refine y_get (C := RX6) (T := TX6) (N := 19) Z 6 inlX6 rfl 0 rfl 0 (by decide) fl_RX6_7 rfl dX6_completes_77 ?_
          refine y_iload_n Z dX6_completes_80 0 rfl rfl ?_
          refine y_iald Z 1 0 rfl ht0 (kI_in (i := i) (by omega) 3 (by decide)) (7 + 4 * i + 3) (kI_eq (i := i) (by omega) 3 (by decide)) dX6_completes_81 ?_
          refine y_iast Z 1 0 rfl ht0 (kI_in (i := i) (by omega) 3 (by decide)) (7 + 4 * i + 3) (kI_eq (i := i) (by omega) 3 (by decide)) (wMdR cI aS (S 0 0) (S 0 1) (S 0 2) (S 0 3) (S 0 4) (S 0 5) (S 0 6) (S 0 7) (S 0 8) (S 0 9) (S 0 10) (S 0 11) (S 0 12) (upd (it mr_cs i (mr_sw (S 1))) (7 + 4 * i + 3) ((it mr_cs i (mr_sw (S 1))) (7 + 4 * i + 3))) (S 2) (S 3) (S 4) (S 5) (S 6)) rfl dX6_completes_82 ?_
          refine y_iinc Z [(1, .int (nI (i + 1))), (2, .int ((7 + (4 * (nI i))) + 3)), (0, .ref (aS 0))] dX6_completes_83 2 rfl (nI_1 _) (by decide) rfl ?_
          refine y_goto (tgt := 36) Z dX6_completes_86 (by decide) ?_
          refine y_lv [2, 0] (lv' := [(0, .ref (aS 0)), (1, .int (nI (i + 1)))]) rfl ?_
          refine y_eq (ws' := (wMdR cI aS (S 0 0) (S 0 1) (S 0 2) (S 0 3) (S 0 4) (S 0 5) (S 0 6) (S 0 7) (S 0 8) (S 0 9) (S 0 10) (S 0 11) (S 0 12) (it mr_cs (i + 1) (mr_sw (S 1))) (S 2) (S 3) (S 4) (S 5) (S 6))) (lv' := [(0, .ref (aS 0)), (1, .int (nI (i + 1)))]) (st' := []) (by first | (simp only [it_s, mr_cs, h4, eq_true h5, if_true, if_false, not_false_eq_true, not_true_eq_false, ↓reduceIte]; done) | (simp only [it_s, mr_cs, h4, eq_true h5, if_true, if_false, not_false_eq_true, not_true_eq_false, ↓reduceIte, wMix, wLog, wPic, wRep, wScr, wVM, wMd, sR_eq, sR_ne, sF_eq, sF_ne, upd_eq, upd_ne, gs_eq, gs_ne, gm_4, gm_ne, Nat.reduceBEq]; done) | (with_reducible rfl) | contradiction | (simp only [it_s, mr_cs, h4, eq_true h5, if_true, if_false, not_false_eq_true, not_true_eq_false, ↓reduceIte]; rfl) | rfl) (by first | (simp only [it_s, mr_cs, h4, eq_true h5, if_true, if_false, not_false_eq_true, not_true_eq_false, ↓reduceIte]; done) | (simp only [it_s, mr_cs, h4, eq_true h5, if_true, if_false, not_false_eq_true, not_true_eq_false, ↓reduceIte, wMix, wLog, wPic, wRep, wScr, wVM, wMd, sR_eq, sR_ne, sF_eq, sF_ne, upd_eq, upd_ne, gs_eq, gs_ne, gm_4, gm_ne, Nat.reduceBEq]; done) | (with_reducible rfl) | contradiction | (simp only [it_s, mr_cs, h4, eq_true h5, if_true, if_false, not_false_eq_true, not_true_eq_false, ↓reduceIte]; rfl) | rfl) rfl ?_
          exact ih (i + 1)  (by omega)
        · refine y_iconst (v := 1) Z dX6_completes_65 (by decide) ?_
          refine y_aload_n Z dX6_completes_66 1 rfl rfl ?_
          refine y_get (C := RX6) (T := TX6) (N := 19) Z 6 inlX6 rfl 0 rfl 0 (by decide) fl_RX6_7 rfl dX6_completes_67 ?_
          refine y_iload_n Z dX6_completes_70 0 rfl rfl ?_
          refine y_iald Z 1 0 rfl ht0 (kI_in (i := i) (by omega) 3 (by decide)) (7 + 4 * i + 3) (kI_eq (i := i) (by omega) 3 (by decide)) dX6_completes_71 ?_
          refine y_isub Z dX6_completes_72 ?_
          refine y_goto (tgt := 82) Z dX6_completes_73 (by decide) ?_
          refine y_iast Z 1 0 rfl ht0 (kI_in (i := i) (by omega) 3 (by decide)) (7 + 4 * i + 3) (kI_eq (i := i) (by omega) 3 (by decide)) (wMdR cI aS (S 0 0) (S 0 1) (S 0 2) (S 0 3) (S 0 4) (S 0 5) (S 0 6) (S 0 7) (S 0 8) (S 0 9) (S 0 10) (S 0 11) (S 0 12) (upd (it mr_cs i (mr_sw (S 1))) (7 + 4 * i + 3) (1 - ((it mr_cs i (mr_sw (S 1))) (7 + 4 * i + 3)))) (S 2) (S 3) (S 4) (S 5) (S 6)) rfl dX6_completes_82 ?_
          refine y_iinc Z [(1, .int (nI (i + 1))), (2, .int ((7 + (4 * (nI i))) + 3)), (0, .ref (aS 0))] dX6_completes_83 2 rfl (nI_1 _) (by decide) rfl ?_
          refine y_goto (tgt := 36) Z dX6_completes_86 (by decide) ?_
          refine y_lv [2, 0] (lv' := [(0, .ref (aS 0)), (1, .int (nI (i + 1)))]) rfl ?_
          refine y_eq (ws' := (wMdR cI aS (S 0 0) (S 0 1) (S 0 2) (S 0 3) (S 0 4) (S 0 5) (S 0 6) (S 0 7) (S 0 8) (S 0 9) (S 0 10) (S 0 11) (S 0 12) (it mr_cs (i + 1) (mr_sw (S 1))) (S 2) (S 3) (S 4) (S 5) (S 6))) (lv' := [(0, .ref (aS 0)), (1, .int (nI (i + 1)))]) (st' := []) (by first | (simp only [it_s, mr_cs, h4, h6, if_true, if_false, not_false_eq_true, not_true_eq_false, ↓reduceIte]; done) | (simp only [it_s, mr_cs, h4, h6, if_true, if_false, not_false_eq_true, not_true_eq_false, ↓reduceIte, wMix, wLog, wPic, wRep, wScr, wVM, wMd, sR_eq, sR_ne, sF_eq, sF_ne, upd_eq, upd_ne, gs_eq, gs_ne, gm_4, gm_ne, Nat.reduceBEq]; done) | (with_reducible rfl) | contradiction | (simp only [it_s, mr_cs, h4, h6, if_true, if_false, not_false_eq_true, not_true_eq_false, ↓reduceIte]; rfl) | rfl) (by first | (simp only [it_s, mr_cs, h4, h6, if_true, if_false, not_false_eq_true, not_true_eq_false, ↓reduceIte]; done) | (simp only [it_s, mr_cs, h4, h6, if_true, if_false, not_false_eq_true, not_true_eq_false, ↓reduceIte, wMix, wLog, wPic, wRep, wScr, wVM, wMd, sR_eq, sR_ne, sF_eq, sF_ne, upd_eq, upd_ne, gs_eq, gs_ne, gm_4, gm_ne, Nat.reduceBEq]; done) | (with_reducible rfl) | contradiction | (simp only [it_s, mr_cs, h4, h6, if_true, if_false, not_false_eq_true, not_true_eq_false, ↓reduceIte]; rfl) | rfl) rfl ?_
          exact ih (i + 1)  (by omega)
  refine y_aload_n Z dX6_completes_0 0 rfl rfl ?_
  refine y_iconst (v := 0) Z dX6_completes_1 (by decide) ?_
  refine y_VIw Z (k_X6_isElement l D ht0 aS S 0) (y_cwV 1 Z ml_RX6_43 im_X6_isElement se_X6_isElement in_X6 co_X6_isElement rfl rfl hd_X6_isElement ⟨Nat.le_of_ble_eq_true rfl, Nat.le_of_ble_eq_true rfl⟩) List.nil List.nil (by simp only [List.nil_append, List.append_nil, wMix, wLog, wPic, wRep, wScr, wVM, wMd, sR_eq, sR_ne, sF_eq, sF_ne, upd_eq, upd_ne, gs_eq, gs_ne, gm_4, gm_ne, Nat.reduceBEq]) 6 0 rfl rfl rfl rfl (Nat.le_of_ble_eq_true rfl) dX6_completes_2 ⟨Nat.le_of_ble_eq_true rfl, Nat.le_of_ble_eq_true rfl⟩ (wMd cI aS S) (by simp only [List.nil_append, List.append_nil, wMix, wLog, wPic, wRep, wScr, wVM, wMd, sR_eq, sR_ne, sF_eq, sF_ne, upd_eq, upd_ne, gs_eq, gs_ne, gm_4, gm_ne, Nat.reduceBEq]) ?_
  refine y_eq rfl rfl (st' := [.int (mv_el (S 1) 0)]) (by first | with_reducible rfl | simp only [wMix, wLog, wPic, wRep, wScr, wVM, wMd, sR_eq, sR_ne, sF_eq, sF_ne, upd_eq, upd_ne, gs_eq, gs_ne, gm_4, gm_ne, Nat.reduceBEq]) ?_
  refine y_if_eq (tgt := 34) Z dX6_completes_5 (by decide) (fun h7 => ?_) (fun h8 => ?_)
  · refine y_iconst (v := 0) Z dX6_completes_34 (by decide) ?_
    refine y_istore_n Z [(1, .int 0), (0, .ref (aS 0))] dX6_completes_35 rfl (by decide) rfl ?_
    refine y_lv [1, 0] (lv' := [(0, .ref (aS 0)), (1, .int 0)]) rfl ?_
    refine y_eq (ws' := (wMdR cI aS (S 0 0) (S 0 1) (S 0 2) (S 0 3) (S 0 4) (S 0 5) (S 0 6) (S 0 7) (S 0 8) (S 0 9) (S 0 10) (S 0 11) (S 0 12) (it mr_cs 0 (mr_sw (S 1))) (S 2) (S 3) (S 4) (S 5) (S 6))) (lv' := [(0, .ref (aS 0)), (1, .int (nI 0))]) (st' := []) (by first | (simp only [mr_sw, it_0, eq_true h7, if_true, if_false, not_false_eq_true, not_true_eq_false, ↓reduceIte]; done) | (simp only [mr_sw, it_0, eq_true h7, if_true, if_false, not_false_eq_true, not_true_eq_false, ↓reduceIte, wMix, wLog, wPic, wRep, wScr, wVM, wMd, sR_eq, sR_ne, sF_eq, sF_ne, upd_eq, upd_ne, gs_eq, gs_ne, gm_4, gm_ne, Nat.reduceBEq]; done) | (with_reducible rfl) | contradiction | (simp only [mr_sw, it_0, eq_true h7, if_true, if_false, not_false_eq_true, not_true_eq_false, ↓reduceIte]; rfl) | rfl) (by first | (simp only [mr_sw, it_0, eq_true h7, if_true, if_false, not_false_eq_true, not_true_eq_false, ↓reduceIte]; done) | (simp only [mr_sw, it_0, eq_true h7, if_true, if_false, not_false_eq_true, not_true_eq_false, ↓reduceIte, wMix, wLog, wPic, wRep, wScr, wVM, wMd, sR_eq, sR_ne, sF_eq, sF_ne, upd_eq, upd_ne, gs_eq, gs_ne, gm_4, gm_ne, Nat.reduceBEq]; done) | (with_reducible rfl) | contradiction | (simp only [mr_sw, it_0, eq_true h7, if_true, if_false, not_false_eq_true, not_true_eq_false, ↓reduceIte]; rfl) | rfl) rfl ?_
    exact L36 3 0  (by omega)
  · refine y_aload_n Z dX6_completes_8 0 rfl rfl ?_
    refine y_get (C := RX6) (T := TX6) (N := 19) Z 6 inlX6 rfl 0 rfl 0 (by decide) fl_RX6_7 rfl dX6_completes_9 ?_
    refine y_iconst (v := 0) Z dX6_completes_12 (by decide) ?_
    refine y_iald Z 1 0 rfl ht0 (vpd (by decide) (by decide)) 0 (by decide) dX6_completes_13 ?_
    refine y_istore_n Z [(1, .int (S 1 0)), (0, .ref (aS 0))] dX6_completes_14 rfl (by decide) rfl ?_
    refine y_aload_n Z dX6_completes_15 1 rfl rfl ?_
    refine y_get (C := RX6) (T := TX6) (N := 19) Z 6 inlX6 rfl 0 rfl 0 (by decide) fl_RX6_7 rfl dX6_completes_16 ?_
    refine y_iconst (v := 0) Z dX6_completes_19 (by decide) ?_
    refine y_aload_n Z dX6_completes_20 1 rfl rfl ?_
    refine y_get (C := RX6) (T := TX6) (N := 19) Z 6 inlX6 rfl 0 rfl 0 (by decide) fl_RX6_7 rfl dX6_completes_21 ?_
    refine y_iconst (v := 1) Z dX6_completes_24 (by decide) ?_
    refine y_iald Z 1 0 rfl ht0 (vpd (by decide) (by decide)) 1 (by decide) dX6_completes_25 ?_
    refine y_iast Z 1 0 rfl ht0 (vpd (by decide) (by decide)) 0 (by decide) (wMdR cI aS (S 0 0) (S 0 1) (S 0 2) (S 0 3) (S 0 4) (S 0 5) (S 0 6) (S 0 7) (S 0 8) (S 0 9) (S 0 10) (S 0 11) (S 0 12) (upd (S 1) 0 (S 1 1)) (S 2) (S 3) (S 4) (S 5) (S 6)) rfl dX6_completes_26 ?_
    refine y_aload_n Z dX6_completes_27 1 rfl rfl ?_
    refine y_get (C := RX6) (T := TX6) (N := 19) Z 6 inlX6 rfl 0 rfl 0 (by decide) fl_RX6_7 rfl dX6_completes_28 ?_
    refine y_iconst (v := 1) Z dX6_completes_31 (by decide) ?_
    refine y_iload_n Z dX6_completes_32 0 rfl rfl ?_
    refine y_iast Z 1 0 rfl ht0 (vpd (by decide) (by decide)) 1 (by decide) (wMdR cI aS (S 0 0) (S 0 1) (S 0 2) (S 0 3) (S 0 4) (S 0 5) (S 0 6) (S 0 7) (S 0 8) (S 0 9) (S 0 10) (S 0 11) (S 0 12) (upd (upd (S 1) 0 (S 1 1)) 1 (S 1 0)) (S 2) (S 3) (S 4) (S 5) (S 6)) rfl dX6_completes_33 ?_
    refine y_iconst (v := 0) Z dX6_completes_34 (by decide) ?_
    refine y_istore_n Z [(1, .int 0), (0, .ref (aS 0))] dX6_completes_35 rfl (by decide) rfl ?_
    refine y_lv [1, 0] (lv' := [(0, .ref (aS 0)), (1, .int 0)]) rfl ?_
    refine y_eq (ws' := (wMdR cI aS (S 0 0) (S 0 1) (S 0 2) (S 0 3) (S 0 4) (S 0 5) (S 0 6) (S 0 7) (S 0 8) (S 0 9) (S 0 10) (S 0 11) (S 0 12) (it mr_cs 0 (mr_sw (S 1))) (S 2) (S 3) (S 4) (S 5) (S 6))) (lv' := [(0, .ref (aS 0)), (1, .int (nI 0))]) (st' := []) (by first | (simp only [mr_sw, it_0, h8, if_true, if_false, not_false_eq_true, not_true_eq_false, ↓reduceIte]; done) | (simp only [mr_sw, it_0, h8, if_true, if_false, not_false_eq_true, not_true_eq_false, ↓reduceIte, wMix, wLog, wPic, wRep, wScr, wVM, wMd, sR_eq, sR_ne, sF_eq, sF_ne, upd_eq, upd_ne, gs_eq, gs_ne, gm_4, gm_ne, Nat.reduceBEq]; done) | (with_reducible rfl) | contradiction | (simp only [mr_sw, it_0, h8, if_true, if_false, not_false_eq_true, not_true_eq_false, ↓reduceIte]; rfl) | rfl) (by first | (simp only [mr_sw, it_0, h8, if_true, if_false, not_false_eq_true, not_true_eq_false, ↓reduceIte]; done) | (simp only [mr_sw, it_0, h8, if_true, if_false, not_false_eq_true, not_true_eq_false, ↓reduceIte, wMix, wLog, wPic, wRep, wScr, wVM, wMd, sR_eq, sR_ne, sF_eq, sF_ne, upd_eq, upd_ne, gs_eq, gs_ne, gm_4, gm_ne, Nat.reduceBEq]; done) | (with_reducible rfl) | contradiction | (simp only [mr_sw, it_0, h8, if_true, if_false, not_false_eq_true, not_true_eq_false, ↓reduceIte]; rfl) | rfl) rfl ?_
    exact L36 3 0  (by omega)
set_option maxHeartbeats 4000000 in
set_option maxRecDepth 100000 in
theorem k_X6_frame (l : Launch) (D : va_G) {cI : ClassId} {tys : List (ClassId × FieldType)} (ht0 : tys[0]? = some (cI, .int)) (aS : Nat → Nat) (S : Nat → Nat → Int32) (h_r : ¬ (S 1) 3 = 0) (sz : Nat) : kV l yX6_frame cX6_frame 1 none { frames := 2, cells := 0, slots := 0, locals := 43 } D tys [.ref (aS 0)] (wMd cI aS S) (wMdR cI aS (S 0 0) (S 0 1) (S 0 2) (mv_fn (S 1) (S 0 3)) (S 0 4) (S 0 5) (S 0 6) (S 0 7) (S 0 8) (S 0 9) (S 0 10) (S 0 11) (S 0 12) (mr_fr (S 1)) (S 2) (S 3) (S 4) (S 5) (S 6)) 0 0 sz := by
  refine y_enterV (cc := cX6_frame) (maxL := 1) (ret := none) (own := RX6) (by decide) rfl (lv0 := [(0, .ref (aS 0))]) rfl (Nat.le_of_ble_eq_true rfl) ?_
  intro p e s m args below meth c A Z hr hlk _
  refine y_aload_n Z dX6_frame_0 0 rfl rfl ?_
  refine y_get (C := RX6) (T := TX6) (N := 19) Z 6 inlX6 rfl 0 rfl 0 (by decide) fl_RX6_7 rfl dX6_frame_1 ?_
  refine y_bipush (v := 6) Z dX6_frame_4 (by decide) ?_
  refine y_iald Z 1 0 rfl ht0 (vpd (by decide) (by decide)) 6 (by decide) dX6_frame_6 ?_
  refine y_iconst (v := -1) Z dX6_frame_7 (by decide) ?_
  refine y_icmp_eq (tgt := 79) Z dX6_frame_8 (by decide) (fun h1 => ?_) (fun h2 => ?_)
  · exact y_retV Z hr hlk dX6_frame_79 (by first | (simp only [mr_fr, mr_f1, mv_fn, eq_true h1, if_true, if_false, not_false_eq_true, not_true_eq_false, ↓reduceIte]; done) | (simp only [mr_fr, mr_f1, mv_fn, eq_true h1, if_true, if_false, not_false_eq_true, not_true_eq_false, ↓reduceIte, wMix, wLog, wPic, wRep, wScr, wVM, wMd, sR_eq, sR_ne, sF_eq, sF_ne, upd_eq, upd_ne, gs_eq, gs_ne, gm_4, gm_ne, Nat.reduceBEq]; done) | (with_reducible rfl) | contradiction | (simp only [mr_fr, mr_f1, mv_fn, eq_true h1, if_true, if_false, not_false_eq_true, not_true_eq_false, ↓reduceIte]; rfl) | rfl)
  · refine y_aload_n Z dX6_frame_11 0 rfl rfl ?_
    refine y_get (C := RX6) (T := TX6) (N := 19) Z 6 inlX6 rfl 0 rfl 0 (by decide) fl_RX6_7 rfl dX6_frame_12 ?_
    refine y_bipush (v := 6) Z dX6_frame_15 (by decide) ?_
    refine y_dup2 Z dX6_frame_17 rfl rfl ?_
    refine y_iald Z 1 0 rfl ht0 (vpd (by decide) (by decide)) 6 (by decide) dX6_frame_18 ?_
    refine y_iconst (v := 1) Z dX6_frame_19 (by decide) ?_
    refine y_iadd Z dX6_frame_20 ?_
    refine y_iast Z 1 0 rfl ht0 (vpd (by decide) (by decide)) 6 (by decide) (wMdR cI aS (S 0 0) (S 0 1) (S 0 2) (S 0 3) (S 0 4) (S 0 5) (S 0 6) (S 0 7) (S 0 8) (S 0 9) (S 0 10) (S 0 11) (S 0 12) (upd (S 1) 6 ((S 1 6) + 1)) (S 2) (S 3) (S 4) (S 5) (S 6)) rfl dX6_frame_21 ?_
    refine y_aload_n Z dX6_frame_22 0 rfl rfl ?_
    refine y_get (C := RX6) (T := TX6) (N := 19) Z 6 inlX6 rfl 0 rfl 0 (by decide) fl_RX6_7 rfl dX6_frame_23 ?_
    refine y_bipush (v := 6) Z dX6_frame_26 (by decide) ?_
    refine y_iald Z 1 0 rfl ht0 (vpd (by decide) (by decide)) 6 (by decide) dX6_frame_28 ?_
    refine y_aload_n Z dX6_frame_29 0 rfl rfl ?_
    refine y_get (C := RX6) (T := TX6) (N := 19) Z 6 inlX6 rfl 0 rfl 0 (by decide) fl_RX6_7 rfl dX6_frame_30 ?_
    refine y_iconst (v := 3) Z dX6_frame_33 (by decide) ?_
    refine y_iald Z 1 0 rfl ht0 (vpd (by decide) (by decide)) 3 (by decide) dX6_frame_34 ?_
    refine y_icmp_lt (tgt := 55) Z dX6_frame_35 (by decide) (fun h3 => ?_) (fun h4 => ?_)
    · refine y_aload_n Z dX6_frame_55 0 rfl rfl ?_
      refine y_get (C := RX6) (T := TX6) (N := 19) Z 6 inlX6 rfl 0 rfl 0 (by decide) fl_RX6_7 rfl dX6_frame_56 ?_
      refine y_iconst (v := 5) Z dX6_frame_59 (by decide) ?_
      refine y_aload_n Z dX6_frame_60 0 rfl rfl ?_
      refine y_get (C := RX6) (T := TX6) (N := 19) Z 6 inlX6 rfl 0 rfl 0 (by decide) fl_RX6_7 rfl dX6_frame_61 ?_
      refine y_bipush (v := 6) Z dX6_frame_64 (by decide) ?_
      refine y_iald Z 1 0 rfl ht0 (vpd (by decide) (by decide)) 6 (by decide) dX6_frame_66 ?_
      refine y_sipush (v := 1000) Z dX6_frame_67 (by decide) ?_
      refine y_imul Z dX6_frame_70 ?_
      refine y_aload_n Z dX6_frame_71 0 rfl rfl ?_
      refine y_get (C := RX6) (T := TX6) (N := 19) Z 6 inlX6 rfl 0 rfl 0 (by decide) fl_RX6_7 rfl dX6_frame_72 ?_
      refine y_iconst (v := 3) Z dX6_frame_75 (by decide) ?_
      refine y_iald Z 1 0 rfl ht0 (vpd (by decide) (by decide)) 3 (by decide) dX6_frame_76 ?_
      refine y_idiv Z dX6_frame_77 (fun e0 => h_r (by simpa only [upd_ne, Nat.reduceBEq] using e0)) ?_
      refine y_iast Z 1 0 rfl ht0 (vpd (by decide) (by decide)) 5 (by decide) (wMdR cI aS (S 0 0) (S 0 1) (S 0 2) (S 0 3) (S 0 4) (S 0 5) (S 0 6) (S 0 7) (S 0 8) (S 0 9) (S 0 10) (S 0 11) (S 0 12) (upd (upd (S 1) 6 ((S 1 6) + 1)) 5 ((((upd (S 1) 6 ((S 1 6) + 1)) 6) * 1000) / ((upd (S 1) 6 ((S 1 6) + 1)) 3))) (S 2) (S 3) (S 4) (S 5) (S 6)) rfl dX6_frame_78 ?_
      exact y_retV Z hr hlk dX6_frame_79 (by first | (simp only [mr_fr, mr_f1, mv_fn, h2, h3, if_true, if_false, not_false_eq_true, not_true_eq_false, ↓reduceIte]; done) | (simp only [mr_fr, mr_f1, mv_fn, h2, h3, if_true, if_false, not_false_eq_true, not_true_eq_false, ↓reduceIte, wMix, wLog, wPic, wRep, wScr, wVM, wMd, sR_eq, sR_ne, sF_eq, sF_ne, upd_eq, upd_ne, gs_eq, gs_ne, gm_4, gm_ne, Nat.reduceBEq]; done) | (with_reducible rfl) | contradiction | (simp only [mr_fr, mr_f1, mv_fn, h2, h3, if_true, if_false, not_false_eq_true, not_true_eq_false, ↓reduceIte]; rfl) | rfl)
    · refine y_aload_n Z dX6_frame_38 0 rfl rfl ?_
      refine y_VVw Z (k_X6_completes l D ht0 aS (sR S 1 (upd (S 1) 6 ((S 1 6) + 1)))) (y_cwV 0 Z ml_RX6_47 im_X6_completes se_X6_completes in_X6 co_X6_completes rfl rfl hd_X6_completes ⟨Nat.le_of_ble_eq_true rfl, Nat.le_of_ble_eq_true rfl⟩) List.nil List.nil (by simp only [List.nil_append, List.append_nil, wMix, wLog, wPic, wRep, wScr, wVM, wMd, sR_eq, sR_ne, sF_eq, sF_ne, upd_eq, upd_ne, gs_eq, gs_ne, gm_4, gm_ne, Nat.reduceBEq]) 6 0 rfl rfl rfl rfl (Nat.le_of_ble_eq_true rfl) dX6_frame_39 ⟨Nat.le_of_ble_eq_true rfl, Nat.le_of_ble_eq_true rfl⟩ (wMdR cI aS (S 0 0) (S 0 1) (S 0 2) (S 0 3) (S 0 4) (S 0 5) (S 0 6) (S 0 7) (S 0 8) (S 0 9) (S 0 10) (S 0 11) (S 0 12) (mr_cp (upd (S 1) 6 ((S 1 6) + 1))) (S 2) (S 3) (S 4) (S 5) (S 6)) (by simp only [List.nil_append, List.append_nil, wMix, wLog, wPic, wRep, wScr, wVM, wMd, sR_eq, sR_ne, sF_eq, sF_ne, upd_eq, upd_ne, gs_eq, gs_ne, gm_4, gm_ne, Nat.reduceBEq]) ?_
      refine y_aload_n Z dX6_frame_42 0 rfl rfl ?_
      refine y_dup Z dX6_frame_43 rfl ?_
      refine y_get (C := RX6) (T := TX6) (N := 19) Z 6 inlX6 rfl 0 rfl 6 (by decide) fl_RX6_50 rfl dX6_frame_44 ?_
      refine y_iconst (v := 1) Z dX6_frame_47 (by decide) ?_
      refine y_iadd Z dX6_frame_48 ?_
      refine y_put (C := RX6) (T := TX6) (N := 19) Z 6 inlX6 rfl tyX6 tyX6_ok nmX6 0 rfl 6 (by decide) fl_RX6_50 rfl rfl rfl (Nat.le_of_ble_eq_true rfl) (wMdR cI aS (S 0 0) (S 0 1) (S 0 2) ((S 0 3) + 1) (S 0 4) (S 0 5) (S 0 6) (S 0 7) (S 0 8) (S 0 9) (S 0 10) (S 0 11) (S 0 12) (mr_cp (upd (S 1) 6 ((S 1 6) + 1))) (S 2) (S 3) (S 4) (S 5) (S 6)) rfl dX6_frame_49 ?_
      refine y_goto (tgt := 79) Z dX6_frame_52 (by decide) ?_
      exact y_retV Z hr hlk dX6_frame_79 (by first | (simp only [mr_fr, mr_f1, mv_fn, h2, h4, if_true, if_false, not_false_eq_true, not_true_eq_false, ↓reduceIte]; done) | (simp only [mr_fr, mr_f1, mv_fn, h2, h4, if_true, if_false, not_false_eq_true, not_true_eq_false, ↓reduceIte, wMix, wLog, wPic, wRep, wScr, wVM, wMd, sR_eq, sR_ne, sF_eq, sF_ne, upd_eq, upd_ne, gs_eq, gs_ne, gm_4, gm_ne, Nat.reduceBEq]; done) | (with_reducible rfl) | contradiction | (simp only [mr_fr, mr_f1, mv_fn, h2, h4, if_true, if_false, not_false_eq_true, not_true_eq_false, ↓reduceIte]; rfl) | rfl)
set_option maxHeartbeats 4000000 in
set_option maxRecDepth 100000 in
theorem k_X6_isPossible (l : Launch) (D : va_G) {cI : ClassId} {tys : List (ClassId × FieldType)} (ht0 : tys[0]? = some (cI, .int)) (aS : Nat → Nat) (S : Nat → Nat → Int32) (w : Int32) (sz : Nat) : kI l yX6_isPossible cX6_isPossible 2 (some .boolean) { frames := 1, cells := 0, slots := 0, locals := 20 } D tys [.ref (aS 0), .int w] (wMd cI aS S) (wMd cI aS S) (mv_ps (S 1) w) 0 0 sz := by
  refine y_enterI (cc := cX6_isPossible) (maxL := 2) (ret := (some .boolean)) (own := RX6) (by decide) rfl (lv0 := [(0, .ref (aS 0)), (1, .int w)]) rfl (Nat.le_of_ble_eq_true rfl) ?_
  intro p e s m args below meth c A Z hr hlk _
  refine y_iload_n Z dX6_isPossible_0 1 rfl rfl ?_
  refine y_iconst (v := 3) Z dX6_isPossible_1 (by decide) ?_
  refine y_icmp_eq (tgt := 11) Z dX6_isPossible_2 (by decide) (fun h1 => ?_) (fun h2 => ?_)
  · refine y_aload_n Z dX6_isPossible_11 0 rfl rfl ?_
    refine y_VIw Z (k_X6_isUnderWay l D ht0 aS S) (y_cwV 0 Z ml_RX6_53 im_X6_isUnderWay se_X6_isUnderWay in_X6 co_X6_isUnderWay rfl rfl hd_X6_isUnderWay ⟨Nat.le_of_ble_eq_true rfl, Nat.le_of_ble_eq_true rfl⟩) List.nil List.nil (by simp only [List.nil_append, List.append_nil, wMix, wLog, wPic, wRep, wScr, wVM, wMd, sR_eq, sR_ne, sF_eq, sF_ne, upd_eq, upd_ne, gs_eq, gs_ne, gm_4, gm_ne, Nat.reduceBEq]) 6 0 rfl rfl rfl rfl (Nat.le_of_ble_eq_true rfl) dX6_isPossible_12 ⟨Nat.le_of_ble_eq_true rfl, Nat.le_of_ble_eq_true rfl⟩ (wMd cI aS S) (by simp only [List.nil_append, List.append_nil, wMix, wLog, wPic, wRep, wScr, wVM, wMd, sR_eq, sR_ne, sF_eq, sF_ne, upd_eq, upd_ne, gs_eq, gs_ne, gm_4, gm_ne, Nat.reduceBEq]) ?_
    refine y_eq rfl rfl (st' := [.int (mv_uw (S 1))]) (by first | with_reducible rfl | simp only [wMix, wLog, wPic, wRep, wScr, wVM, wMd, sR_eq, sR_ne, sF_eq, sF_ne, upd_eq, upd_ne, gs_eq, gs_ne, gm_4, gm_ne, Nat.reduceBEq]) ?_
    refine y_if_ne (tgt := 22) Z dX6_isPossible_15 (by decide) (fun h3 => ?_) (fun h4 => ?_)
    · refine y_iconst (v := 0) Z dX6_isPossible_22 (by decide) ?_
      refine y_goto (tgt := 48) Z dX6_isPossible_23 (by decide) ?_
      exact y_retZ Z hr hlk (by decide) dX6_isPossible_48 (by first | (simp only [mv_ps, eq_true h1, h3, if_true, if_false, not_false_eq_true, not_true_eq_false, ↓reduceIte]; done) | (simp only [mv_ps, eq_true h1, h3, if_true, if_false, not_false_eq_true, not_true_eq_false, ↓reduceIte, wMix, wLog, wPic, wRep, wScr, wVM, wMd, sR_eq, sR_ne, sF_eq, sF_ne, upd_eq, upd_ne, gs_eq, gs_ne, gm_4, gm_ne, Nat.reduceBEq]; done) | (with_reducible rfl) | contradiction | (simp only [mv_ps, eq_true h1, h3, if_true, if_false, not_false_eq_true, not_true_eq_false, ↓reduceIte]; rfl) | rfl) (by first | (simp only [mv_ps, eq_true h1, h3, if_true, if_false, not_false_eq_true, not_true_eq_false, ↓reduceIte]; done) | (simp only [mv_ps, eq_true h1, h3, if_true, if_false, not_false_eq_true, not_true_eq_false, ↓reduceIte, wMix, wLog, wPic, wRep, wScr, wVM, wMd, sR_eq, sR_ne, sF_eq, sF_ne, upd_eq, upd_ne, gs_eq, gs_ne, gm_4, gm_ne, Nat.reduceBEq]; done) | (with_reducible rfl) | contradiction | (simp only [mv_ps, eq_true h1, h3, if_true, if_false, not_false_eq_true, not_true_eq_false, ↓reduceIte]; rfl) | rfl)
    · refine y_iconst (v := 1) Z dX6_isPossible_18 (by decide) ?_
      refine y_goto (tgt := 48) Z dX6_isPossible_19 (by decide) ?_
      exact y_retZ Z hr hlk (by decide) dX6_isPossible_48 (by first | (simp only [mv_ps, eq_true h1, eq_true h4, if_true, if_false, not_false_eq_true, not_true_eq_false, ↓reduceIte]; done) | (simp only [mv_ps, eq_true h1, eq_true h4, if_true, if_false, not_false_eq_true, not_true_eq_false, ↓reduceIte, wMix, wLog, wPic, wRep, wScr, wVM, wMd, sR_eq, sR_ne, sF_eq, sF_ne, upd_eq, upd_ne, gs_eq, gs_ne, gm_4, gm_ne, Nat.reduceBEq]; done) | (with_reducible rfl) | contradiction | (simp only [mv_ps, eq_true h1, eq_true h4, if_true, if_false, not_false_eq_true, not_true_eq_false, ↓reduceIte]; rfl) | rfl) (by first | (simp only [mv_ps, eq_true h1, eq_true h4, if_true, if_false, not_false_eq_true, not_true_eq_false, ↓reduceIte]; done) | (simp only [mv_ps, eq_true h1, eq_true h4, if_true, if_false, not_false_eq_true, not_true_eq_false, ↓reduceIte, wMix, wLog, wPic, wRep, wScr, wVM, wMd, sR_eq, sR_ne, sF_eq, sF_ne, upd_eq, upd_ne, gs_eq, gs_ne, gm_4, gm_ne, Nat.reduceBEq]; done) | (with_reducible rfl) | contradiction | (simp only [mv_ps, eq_true h1, eq_true h4, if_true, if_false, not_false_eq_true, not_true_eq_false, ↓reduceIte]; rfl) | rfl)
  · refine y_iload_n Z dX6_isPossible_5 1 rfl rfl ?_
    refine y_bipush (v := 7) Z dX6_isPossible_6 (by decide) ?_
    refine y_icmp_ne (tgt := 26) Z dX6_isPossible_8 (by decide) (fun h5 => ?_) (fun h6 => ?_)
    · refine y_iload_n Z dX6_isPossible_26 1 rfl rfl ?_
      refine y_bipush (v := 8) Z dX6_isPossible_27 (by decide) ?_
      refine y_icmp_ne (tgt := 43) Z dX6_isPossible_29 (by decide) (fun h7 => ?_) (fun h8 => ?_)
      · refine y_iconst (v := 1) Z dX6_isPossible_43 (by decide) ?_
        refine y_goto (tgt := 48) Z dX6_isPossible_44 (by decide) ?_
        exact y_retZ Z hr hlk (by decide) dX6_isPossible_48 (by first | (simp only [mv_ps, h2, h5, h7, if_true, if_false, not_false_eq_true, not_true_eq_false, ↓reduceIte]; done) | (simp only [mv_ps, h2, h5, h7, if_true, if_false, not_false_eq_true, not_true_eq_false, ↓reduceIte, wMix, wLog, wPic, wRep, wScr, wVM, wMd, sR_eq, sR_ne, sF_eq, sF_ne, upd_eq, upd_ne, gs_eq, gs_ne, gm_4, gm_ne, Nat.reduceBEq]; done) | (with_reducible rfl) | contradiction | (simp only [mv_ps, h2, h5, h7, if_true, if_false, not_false_eq_true, not_true_eq_false, ↓reduceIte]; rfl) | rfl) (by first | (simp only [mv_ps, h2, h5, h7, if_true, if_false, not_false_eq_true, not_true_eq_false, ↓reduceIte]; done) | (simp only [mv_ps, h2, h5, h7, if_true, if_false, not_false_eq_true, not_true_eq_false, ↓reduceIte, wMix, wLog, wPic, wRep, wScr, wVM, wMd, sR_eq, sR_ne, sF_eq, sF_ne, upd_eq, upd_ne, gs_eq, gs_ne, gm_4, gm_ne, Nat.reduceBEq]; done) | (with_reducible rfl) | contradiction | (simp only [mv_ps, h2, h5, h7, if_true, if_false, not_false_eq_true, not_true_eq_false, ↓reduceIte]; rfl) | rfl)
      · refine y_aload_n Z dX6_isPossible_32 0 rfl rfl ?_
        refine y_get (C := RX6) (T := TX6) (N := 19) Z 6 inlX6 rfl 0 rfl 0 (by decide) fl_RX6_7 rfl dX6_isPossible_33 ?_
        refine y_bipush (v := 6) Z dX6_isPossible_36 (by decide) ?_
        refine y_iald Z 1 0 rfl ht0 (vpd (by decide) (by decide)) 6 (by decide) dX6_isPossible_38 ?_
        refine y_iconst (v := -1) Z dX6_isPossible_39 (by decide) ?_
        refine y_icmp_ne (tgt := 47) Z dX6_isPossible_40 (by decide) (fun h9 => ?_) (fun h10 => ?_)
        · refine y_iconst (v := 0) Z dX6_isPossible_47 (by decide) ?_
          exact y_retZ Z hr hlk (by decide) dX6_isPossible_48 (by first | (simp only [mv_ps, h2, h5, eq_true h8, h9, if_true, if_false, not_false_eq_true, not_true_eq_false, ↓reduceIte]; done) | (simp only [mv_ps, h2, h5, eq_true h8, h9, if_true, if_false, not_false_eq_true, not_true_eq_false, ↓reduceIte, wMix, wLog, wPic, wRep, wScr, wVM, wMd, sR_eq, sR_ne, sF_eq, sF_ne, upd_eq, upd_ne, gs_eq, gs_ne, gm_4, gm_ne, Nat.reduceBEq]; done) | (with_reducible rfl) | contradiction | (simp only [mv_ps, h2, h5, eq_true h8, h9, if_true, if_false, not_false_eq_true, not_true_eq_false, ↓reduceIte]; rfl) | rfl) (by first | (simp only [mv_ps, h2, h5, eq_true h8, h9, if_true, if_false, not_false_eq_true, not_true_eq_false, ↓reduceIte]; done) | (simp only [mv_ps, h2, h5, eq_true h8, h9, if_true, if_false, not_false_eq_true, not_true_eq_false, ↓reduceIte, wMix, wLog, wPic, wRep, wScr, wVM, wMd, sR_eq, sR_ne, sF_eq, sF_ne, upd_eq, upd_ne, gs_eq, gs_ne, gm_4, gm_ne, Nat.reduceBEq]; done) | (with_reducible rfl) | contradiction | (simp only [mv_ps, h2, h5, eq_true h8, h9, if_true, if_false, not_false_eq_true, not_true_eq_false, ↓reduceIte]; rfl) | rfl)
        · refine y_iconst (v := 1) Z dX6_isPossible_43 (by decide) ?_
          refine y_goto (tgt := 48) Z dX6_isPossible_44 (by decide) ?_
          exact y_retZ Z hr hlk (by decide) dX6_isPossible_48 (by first | (simp only [mv_ps, h2, h5, eq_true h8, eq_true h10, if_true, if_false, not_false_eq_true, not_true_eq_false, ↓reduceIte]; done) | (simp only [mv_ps, h2, h5, eq_true h8, eq_true h10, if_true, if_false, not_false_eq_true, not_true_eq_false, ↓reduceIte, wMix, wLog, wPic, wRep, wScr, wVM, wMd, sR_eq, sR_ne, sF_eq, sF_ne, upd_eq, upd_ne, gs_eq, gs_ne, gm_4, gm_ne, Nat.reduceBEq]; done) | (with_reducible rfl) | contradiction | (simp only [mv_ps, h2, h5, eq_true h8, eq_true h10, if_true, if_false, not_false_eq_true, not_true_eq_false, ↓reduceIte]; rfl) | rfl) (by first | (simp only [mv_ps, h2, h5, eq_true h8, eq_true h10, if_true, if_false, not_false_eq_true, not_true_eq_false, ↓reduceIte]; done) | (simp only [mv_ps, h2, h5, eq_true h8, eq_true h10, if_true, if_false, not_false_eq_true, not_true_eq_false, ↓reduceIte, wMix, wLog, wPic, wRep, wScr, wVM, wMd, sR_eq, sR_ne, sF_eq, sF_ne, upd_eq, upd_ne, gs_eq, gs_ne, gm_4, gm_ne, Nat.reduceBEq]; done) | (with_reducible rfl) | contradiction | (simp only [mv_ps, h2, h5, eq_true h8, eq_true h10, if_true, if_false, not_false_eq_true, not_true_eq_false, ↓reduceIte]; rfl) | rfl)
    · refine y_aload_n Z dX6_isPossible_11 0 rfl rfl ?_
      refine y_VIw Z (k_X6_isUnderWay l D ht0 aS S) (y_cwV 0 Z ml_RX6_53 im_X6_isUnderWay se_X6_isUnderWay in_X6 co_X6_isUnderWay rfl rfl hd_X6_isUnderWay ⟨Nat.le_of_ble_eq_true rfl, Nat.le_of_ble_eq_true rfl⟩) List.nil List.nil (by simp only [List.nil_append, List.append_nil, wMix, wLog, wPic, wRep, wScr, wVM, wMd, sR_eq, sR_ne, sF_eq, sF_ne, upd_eq, upd_ne, gs_eq, gs_ne, gm_4, gm_ne, Nat.reduceBEq]) 6 0 rfl rfl rfl rfl (Nat.le_of_ble_eq_true rfl) dX6_isPossible_12 ⟨Nat.le_of_ble_eq_true rfl, Nat.le_of_ble_eq_true rfl⟩ (wMd cI aS S) (by simp only [List.nil_append, List.append_nil, wMix, wLog, wPic, wRep, wScr, wVM, wMd, sR_eq, sR_ne, sF_eq, sF_ne, upd_eq, upd_ne, gs_eq, gs_ne, gm_4, gm_ne, Nat.reduceBEq]) ?_
      refine y_eq rfl rfl (st' := [.int (mv_uw (S 1))]) (by first | with_reducible rfl | simp only [wMix, wLog, wPic, wRep, wScr, wVM, wMd, sR_eq, sR_ne, sF_eq, sF_ne, upd_eq, upd_ne, gs_eq, gs_ne, gm_4, gm_ne, Nat.reduceBEq]) ?_
      refine y_if_ne (tgt := 22) Z dX6_isPossible_15 (by decide) (fun h11 => ?_) (fun h12 => ?_)
      · refine y_iconst (v := 0) Z dX6_isPossible_22 (by decide) ?_
        refine y_goto (tgt := 48) Z dX6_isPossible_23 (by decide) ?_
        exact y_retZ Z hr hlk (by decide) dX6_isPossible_48 (by first | (simp only [mv_ps, h2, eq_true h6, h11, if_true, if_false, not_false_eq_true, not_true_eq_false, ↓reduceIte]; done) | (simp only [mv_ps, h2, eq_true h6, h11, if_true, if_false, not_false_eq_true, not_true_eq_false, ↓reduceIte, wMix, wLog, wPic, wRep, wScr, wVM, wMd, sR_eq, sR_ne, sF_eq, sF_ne, upd_eq, upd_ne, gs_eq, gs_ne, gm_4, gm_ne, Nat.reduceBEq]; done) | (with_reducible rfl) | contradiction | (simp only [mv_ps, h2, eq_true h6, h11, if_true, if_false, not_false_eq_true, not_true_eq_false, ↓reduceIte]; rfl) | rfl) (by first | (simp only [mv_ps, h2, eq_true h6, h11, if_true, if_false, not_false_eq_true, not_true_eq_false, ↓reduceIte]; done) | (simp only [mv_ps, h2, eq_true h6, h11, if_true, if_false, not_false_eq_true, not_true_eq_false, ↓reduceIte, wMix, wLog, wPic, wRep, wScr, wVM, wMd, sR_eq, sR_ne, sF_eq, sF_ne, upd_eq, upd_ne, gs_eq, gs_ne, gm_4, gm_ne, Nat.reduceBEq]; done) | (with_reducible rfl) | contradiction | (simp only [mv_ps, h2, eq_true h6, h11, if_true, if_false, not_false_eq_true, not_true_eq_false, ↓reduceIte]; rfl) | rfl)
      · refine y_iconst (v := 1) Z dX6_isPossible_18 (by decide) ?_
        refine y_goto (tgt := 48) Z dX6_isPossible_19 (by decide) ?_
        exact y_retZ Z hr hlk (by decide) dX6_isPossible_48 (by first | (simp only [mv_ps, h2, eq_true h6, eq_true h12, if_true, if_false, not_false_eq_true, not_true_eq_false, ↓reduceIte]; done) | (simp only [mv_ps, h2, eq_true h6, eq_true h12, if_true, if_false, not_false_eq_true, not_true_eq_false, ↓reduceIte, wMix, wLog, wPic, wRep, wScr, wVM, wMd, sR_eq, sR_ne, sF_eq, sF_ne, upd_eq, upd_ne, gs_eq, gs_ne, gm_4, gm_ne, Nat.reduceBEq]; done) | (with_reducible rfl) | contradiction | (simp only [mv_ps, h2, eq_true h6, eq_true h12, if_true, if_false, not_false_eq_true, not_true_eq_false, ↓reduceIte]; rfl) | rfl) (by first | (simp only [mv_ps, h2, eq_true h6, eq_true h12, if_true, if_false, not_false_eq_true, not_true_eq_false, ↓reduceIte]; done) | (simp only [mv_ps, h2, eq_true h6, eq_true h12, if_true, if_false, not_false_eq_true, not_true_eq_false, ↓reduceIte, wMix, wLog, wPic, wRep, wScr, wVM, wMd, sR_eq, sR_ne, sF_eq, sF_ne, upd_eq, upd_ne, gs_eq, gs_ne, gm_4, gm_ne, Nat.reduceBEq]; done) | (with_reducible rfl) | contradiction | (simp only [mv_ps, h2, eq_true h6, eq_true h12, if_true, if_false, not_false_eq_true, not_true_eq_false, ↓reduceIte]; rfl) | rfl)
set_option maxHeartbeats 4000000 in
set_option maxRecDepth 100000 in
theorem k_X6_moves (l : Launch) (D : va_G) {cI : ClassId} {tys : List (ClassId × FieldType)} (ht0 : tys[0]? = some (cI, .int)) (aS : Nat → Nat) (S : Nat → Nat → Int32) (a : Int32) (sz : Nat) : kI l yX6_moves cX6_moves 3 (some .int) { frames := 2, cells := 0, slots := 0, locals := 43 } D tys [.ref (aS 0), .int a] (wMd cI aS S) (wMdR cI aS (S 0 0) (S 0 1) (S 0 2) (S 0 3) (S 0 4) (S 0 5) (S 0 6) (S 0 7) (S 0 8) (S 0 9) (S 0 10) (S 0 11) (S 0 12) (mr_mv (S 1) a) (S 2) (S 3) (S 4) (S 5) (S 6)) ((S 1) 5) 0 0 sz := by
  refine y_enterI (cc := cX6_moves) (maxL := 3) (ret := (some .int)) (own := RX6) (by decide) rfl (lv0 := [(0, .ref (aS 0)), (1, .int a)]) rfl (Nat.le_of_ble_eq_true rfl) ?_
  intro p e s m args below meth c A Z hr hlk _
  refine y_aload_n Z dX6_moves_0 0 rfl rfl ?_
  refine y_get (C := RX6) (T := TX6) (N := 19) Z 6 inlX6 rfl 0 rfl 0 (by decide) fl_RX6_7 rfl dX6_moves_1 ?_
  refine y_iconst (v := 5) Z dX6_moves_4 (by decide) ?_
  refine y_iald Z 1 0 rfl ht0 (vpd (by decide) (by decide)) 5 (by decide) dX6_moves_5 ?_
  refine y_istore_n Z [(2, .int (S 1 5)), (0, .ref (aS 0)), (1, .int a)] dX6_moves_6 rfl (by decide) rfl ?_
  refine y_aload_n Z dX6_moves_7 1 rfl rfl ?_
  refine y_get (C := RX6) (T := TX6) (N := 19) Z 6 inlX6 rfl 0 rfl 0 (by decide) fl_RX6_7 rfl dX6_moves_8 ?_
  refine y_iconst (v := 5) Z dX6_moves_11 (by decide) ?_
  refine y_iload_n Z dX6_moves_12 2 rfl rfl ?_
  refine y_iast Z 1 0 rfl ht0 (vpd (by decide) (by decide)) 5 (by decide) (wMdR cI aS (S 0 0) (S 0 1) (S 0 2) (S 0 3) (S 0 4) (S 0 5) (S 0 6) (S 0 7) (S 0 8) (S 0 9) (S 0 10) (S 0 11) (S 0 12) (upd (S 1) 5 a) (S 2) (S 3) (S 4) (S 5) (S 6)) rfl dX6_moves_13 ?_
  refine y_iload_n Z dX6_moves_14 2 rfl rfl ?_
  refine y_sipush (v := 1000) Z dX6_moves_15 (by decide) ?_
  refine y_icmp_ne (tgt := 25) Z dX6_moves_18 (by decide) (fun h1 => ?_) (fun h2 => ?_)
  · refine y_iload_n Z dX6_moves_25 0 rfl rfl ?_
    exact y_retI Z hr hlk dX6_moves_26 (by first | (simp only [mr_mv, h1, if_true, if_false, not_false_eq_true, not_true_eq_false, ↓reduceIte]; done) | (simp only [mr_mv, h1, if_true, if_false, not_false_eq_true, not_true_eq_false, ↓reduceIte, wMix, wLog, wPic, wRep, wScr, wVM, wMd, sR_eq, sR_ne, sF_eq, sF_ne, upd_eq, upd_ne, gs_eq, gs_ne, gm_4, gm_ne, Nat.reduceBEq]; done) | (with_reducible rfl) | contradiction | (simp only [mr_mv, h1, if_true, if_false, not_false_eq_true, not_true_eq_false, ↓reduceIte]; rfl) | rfl) (by first | (simp only [mr_mv, h1, if_true, if_false, not_false_eq_true, not_true_eq_false, ↓reduceIte]; done) | (simp only [mr_mv, h1, if_true, if_false, not_false_eq_true, not_true_eq_false, ↓reduceIte, wMix, wLog, wPic, wRep, wScr, wVM, wMd, sR_eq, sR_ne, sF_eq, sF_ne, upd_eq, upd_ne, gs_eq, gs_ne, gm_4, gm_ne, Nat.reduceBEq]; done) | (with_reducible rfl) | contradiction | (simp only [mr_mv, h1, if_true, if_false, not_false_eq_true, not_true_eq_false, ↓reduceIte]; rfl) | rfl)
  · refine y_aload_n Z dX6_moves_21 1 rfl rfl ?_
    refine y_VVw Z (k_X6_completes l D ht0 aS (sR S 1 (upd (S 1) 5 a))) (y_cwV 0 Z ml_RX6_47 im_X6_completes se_X6_completes in_X6 co_X6_completes rfl rfl hd_X6_completes ⟨Nat.le_of_ble_eq_true rfl, Nat.le_of_ble_eq_true rfl⟩) List.nil List.nil (by simp only [List.nil_append, List.append_nil, wMix, wLog, wPic, wRep, wScr, wVM, wMd, sR_eq, sR_ne, sF_eq, sF_ne, upd_eq, upd_ne, gs_eq, gs_ne, gm_4, gm_ne, Nat.reduceBEq]) 6 0 rfl rfl rfl rfl (Nat.le_of_ble_eq_true rfl) dX6_moves_22 ⟨Nat.le_of_ble_eq_true rfl, Nat.le_of_ble_eq_true rfl⟩ (wMdR cI aS (S 0 0) (S 0 1) (S 0 2) (S 0 3) (S 0 4) (S 0 5) (S 0 6) (S 0 7) (S 0 8) (S 0 9) (S 0 10) (S 0 11) (S 0 12) (mr_cp (upd (S 1) 5 a)) (S 2) (S 3) (S 4) (S 5) (S 6)) (by simp only [List.nil_append, List.append_nil, wMix, wLog, wPic, wRep, wScr, wVM, wMd, sR_eq, sR_ne, sF_eq, sF_ne, upd_eq, upd_ne, gs_eq, gs_ne, gm_4, gm_ne, Nat.reduceBEq]) ?_
    refine y_iload_n Z dX6_moves_25 0 rfl rfl ?_
    exact y_retI Z hr hlk dX6_moves_26 (by first | (simp only [mr_mv, eq_true h2, if_true, if_false, not_false_eq_true, not_true_eq_false, ↓reduceIte]; done) | (simp only [mr_mv, eq_true h2, if_true, if_false, not_false_eq_true, not_true_eq_false, ↓reduceIte, wMix, wLog, wPic, wRep, wScr, wVM, wMd, sR_eq, sR_ne, sF_eq, sF_ne, upd_eq, upd_ne, gs_eq, gs_ne, gm_4, gm_ne, Nat.reduceBEq]; done) | (with_reducible rfl) | contradiction | (simp only [mr_mv, eq_true h2, if_true, if_false, not_false_eq_true, not_true_eq_false, ↓reduceIte]; rfl) | rfl) (by first | (simp only [mr_mv, eq_true h2, if_true, if_false, not_false_eq_true, not_true_eq_false, ↓reduceIte]; done) | (simp only [mr_mv, eq_true h2, if_true, if_false, not_false_eq_true, not_true_eq_false, ↓reduceIte, wMix, wLog, wPic, wRep, wScr, wVM, wMd, sR_eq, sR_ne, sF_eq, sF_ne, upd_eq, upd_ne, gs_eq, gs_ne, gm_4, gm_ne, Nat.reduceBEq]; done) | (with_reducible rfl) | contradiction | (simp only [mr_mv, eq_true h2, if_true, if_false, not_false_eq_true, not_true_eq_false, ↓reduceIte]; rfl) | rfl)
set_option maxHeartbeats 4000000 in
set_option maxRecDepth 100000 in
theorem k_X6_does (l : Launch) (D : va_G) {cI : ClassId} {tys : List (ClassId × FieldType)} (ht0 : tys[0]? = some (cI, .int)) (aS : Nat → Nat) (S : Nat → Nat → Int32) (w : Int32) (a : Int32) (b : Int32) (c0 : Int32) (d0 : Int32) (h_k : (w = 4 ∨ w = 5) → kOk a) (sz : Nat) : kI l yX6_does cX6_does 7 (some .int) { frames := 3, cells := 0, slots := 0, locals := 65 } D tys [.ref (aS 0), .int w, .int a, .int b, .int c0, .int d0] (wMd cI aS S) (wMdR cI aS (S 0 0) (S 0 1) (S 0 2) (S 0 3) (S 0 4) (S 0 5) (S 0 6) (S 0 7) (S 0 8) (S 0 9) (S 0 10) (S 0 11) (S 0 12) (mr_ds (S 1) w a b c0 d0) (S 2) (S 3) (S 4) (S 5) (S 6)) (mv_ds (S 1) w a b c0 d0) 0 0 sz := by
  refine y_enterI (cc := cX6_does) (maxL := 7) (ret := (some .int)) (own := RX6) (by decide) rfl (lv0 := [(0, .ref (aS 0)), (1, .int w), (2, .int a), (3, .int b), (4, .int c0), (5, .int d0)]) rfl (Nat.le_of_ble_eq_true rfl) ?_
  intro p e s m args below meth c A Z hr hlk _
  refine y_aload_n Z dX6_does_0 0 rfl rfl ?_
  refine y_iload_n Z dX6_does_1 1 rfl rfl ?_
  refine y_VIw Z (k_X6_isPossible l D ht0 aS S w) (y_cwV 1 Z ml_RX6_57 im_X6_isPossible se_X6_isPossible in_X6 co_X6_isPossible rfl rfl hd_X6_isPossible ⟨Nat.le_of_ble_eq_true rfl, Nat.le_of_ble_eq_true rfl⟩) List.nil List.nil (by simp only [List.nil_append, List.append_nil, wMix, wLog, wPic, wRep, wScr, wVM, wMd, sR_eq, sR_ne, sF_eq, sF_ne, upd_eq, upd_ne, gs_eq, gs_ne, gm_4, gm_ne, Nat.reduceBEq]) 6 0 rfl rfl rfl rfl (Nat.le_of_ble_eq_true rfl) dX6_does_2 ⟨Nat.le_of_ble_eq_true rfl, Nat.le_of_ble_eq_true rfl⟩ (wMd cI aS S) (by simp only [List.nil_append, List.append_nil, wMix, wLog, wPic, wRep, wScr, wVM, wMd, sR_eq, sR_ne, sF_eq, sF_ne, upd_eq, upd_ne, gs_eq, gs_ne, gm_4, gm_ne, Nat.reduceBEq]) ?_
  refine y_eq rfl rfl (st' := [.int (mv_ps (S 1) w)]) (by first | with_reducible rfl | simp only [wMix, wLog, wPic, wRep, wScr, wVM, wMd, sR_eq, sR_ne, sF_eq, sF_ne, upd_eq, upd_ne, gs_eq, gs_ne, gm_4, gm_ne, Nat.reduceBEq]) ?_
  refine y_if_ne (tgt := 10) Z dX6_does_5 (by decide) (fun h1 => ?_) (fun h2 => ?_)
  · refine y_iconst (v := 0) Z dX6_does_10 (by decide) ?_
    refine y_istore Z [(6, .int 0), (0, .ref (aS 0)), (1, .int w), (2, .int a), (3, .int b), (4, .int c0), (5, .int d0)] dX6_does_11 (by decide) rfl ?_
    refine y_iload_n Z dX6_does_13 2 rfl rfl ?_
    rcases y_sw w 0 8 (by decide) with hs3 | ⟨j4, hj, hs3⟩
    · refine y_tableOut (tgt := 240) Z dX6_does_14 hs3 (by decide) ?_
      have hs3_0 : ¬ w = 0 := y_swn hs3 0 (by decide) (by decide)
      have hs3_1 : ¬ w = 1 := y_swn hs3 1 (by decide) (by decide)
      have hs3_2 : ¬ w = 2 := y_swn hs3 2 (by decide) (by decide)
      have hs3_3 : ¬ w = 3 := y_swn hs3 3 (by decide) (by decide)
      have hs3_4 : ¬ w = 4 := y_swn hs3 4 (by decide) (by decide)
      have hs3_5 : ¬ w = 5 := y_swn hs3 5 (by decide) (by decide)
      have hs3_6 : ¬ w = 6 := y_swn hs3 6 (by decide) (by decide)
      have hs3_7 : ¬ w = 7 := y_swn hs3 7 (by decide) (by decide)
      have hs3_8 : ¬ w = 8 := y_swn hs3 8 (by decide) (by decide)
      refine y_aload_n Z dX6_does_240 1 rfl rfl ?_
      refine y_get (C := RX6) (T := TX6) (N := 19) Z 6 inlX6 rfl 0 rfl 0 (by decide) fl_RX6_7 rfl dX6_does_241 ?_
      refine y_bipush (v := 19) Z dX6_does_244 (by decide) ?_
      refine y_iald Z 1 0 rfl ht0 (vpd (by decide) (by decide)) 19 (by decide) dX6_does_246 ?_
      refine y_iload_n Z dX6_does_247 3 rfl rfl ?_
      refine y_ishr Z dX6_does_248 ?_
      refine y_iconst (v := 1) Z dX6_does_249 (by decide) ?_
      refine y_iand Z dX6_does_250 ?_
      refine y_istore Z [(6, .int (((S 1 19) >>> (a &&& 31)) &&& 1)), (0, .ref (aS 0)), (1, .int w), (2, .int a), (3, .int b), (4, .int c0), (5, .int d0)] dX6_does_251 (by decide) rfl ?_
      refine y_aload_n Z dX6_does_253 1 rfl rfl ?_
      refine y_get (C := RX6) (T := TX6) (N := 19) Z 6 inlX6 rfl 0 rfl 0 (by decide) fl_RX6_7 rfl dX6_does_254 ?_
      refine y_bipush (v := 19) Z dX6_does_257 (by decide) ?_
      refine y_iload_n Z dX6_does_259 4 rfl rfl ?_
      refine y_iconst (v := 1) Z dX6_does_260 (by decide) ?_
      refine y_icmp_ne (tgt := 278) Z dX6_does_261 (by decide) (fun h5 => ?_) (fun h6 => ?_)
      · refine y_aload_n Z dX6_does_278 1 rfl rfl ?_
        refine y_get (C := RX6) (T := TX6) (N := 19) Z 6 inlX6 rfl 0 rfl 0 (by decide) fl_RX6_7 rfl dX6_does_279 ?_
        refine y_bipush (v := 19) Z dX6_does_282 (by decide) ?_
        refine y_iald Z 1 0 rfl ht0 (vpd (by decide) (by decide)) 19 (by decide) dX6_does_284 ?_
        refine y_iconst (v := 1) Z dX6_does_285 (by decide) ?_
        refine y_iload_n Z dX6_does_286 3 rfl rfl ?_
        refine y_ishl Z dX6_does_287 ?_
        refine y_iconst (v := -1) Z dX6_does_288 (by decide) ?_
        refine y_ixor Z dX6_does_289 ?_
        refine y_iand Z dX6_does_290 ?_
        refine y_iast Z 1 0 rfl ht0 (vpd (by decide) (by decide)) 19 (by decide) (wMdR cI aS (S 0 0) (S 0 1) (S 0 2) (S 0 3) (S 0 4) (S 0 5) (S 0 6) (S 0 7) (S 0 8) (S 0 9) (S 0 10) (S 0 11) (S 0 12) (upd (S 1) 19 ((S 1 19) &&& ((1 <<< (a &&& 31)) ^^^ (-1)))) (S 2) (S 3) (S 4) (S 5) (S 6)) rfl dX6_does_291 ?_
        refine y_iload Z dX6_does_292 0 rfl ?_
        exact y_retI Z hr hlk dX6_does_294 (by first | (simp only [mv_ds, mr_ds, mr_ky, mr_tg, mr_ft, h1, hs3_0, hs3_1, hs3_2, hs3_3, hs3_4, hs3_5, hs3_6, hs3_7, hs3_8, h5, if_true, if_false, not_false_eq_true, not_true_eq_false, ↓reduceIte]; done) | (simp only [mv_ds, mr_ds, mr_ky, mr_tg, mr_ft, h1, hs3_0, hs3_1, hs3_2, hs3_3, hs3_4, hs3_5, hs3_6, hs3_7, hs3_8, h5, if_true, if_false, not_false_eq_true, not_true_eq_false, ↓reduceIte, wMix, wLog, wPic, wRep, wScr, wVM, wMd, sR_eq, sR_ne, sF_eq, sF_ne, upd_eq, upd_ne, gs_eq, gs_ne, gm_4, gm_ne, Nat.reduceBEq]; done) | (with_reducible rfl) | contradiction | (simp only [mv_ds, mr_ds, mr_ky, mr_tg, mr_ft, h1, hs3_0, hs3_1, hs3_2, hs3_3, hs3_4, hs3_5, hs3_6, hs3_7, hs3_8, h5, if_true, if_false, not_false_eq_true, not_true_eq_false, ↓reduceIte]; rfl) | rfl) (by first | (simp only [mv_ds, mr_ds, mr_ky, mr_tg, mr_ft, h1, hs3_0, hs3_1, hs3_2, hs3_3, hs3_4, hs3_5, hs3_6, hs3_7, hs3_8, h5, if_true, if_false, not_false_eq_true, not_true_eq_false, ↓reduceIte]; done) | (simp only [mv_ds, mr_ds, mr_ky, mr_tg, mr_ft, h1, hs3_0, hs3_1, hs3_2, hs3_3, hs3_4, hs3_5, hs3_6, hs3_7, hs3_8, h5, if_true, if_false, not_false_eq_true, not_true_eq_false, ↓reduceIte, wMix, wLog, wPic, wRep, wScr, wVM, wMd, sR_eq, sR_ne, sF_eq, sF_ne, upd_eq, upd_ne, gs_eq, gs_ne, gm_4, gm_ne, Nat.reduceBEq]; done) | (with_reducible rfl) | contradiction | (simp only [mv_ds, mr_ds, mr_ky, mr_tg, mr_ft, h1, hs3_0, hs3_1, hs3_2, hs3_3, hs3_4, hs3_5, hs3_6, hs3_7, hs3_8, h5, if_true, if_false, not_false_eq_true, not_true_eq_false, ↓reduceIte]; rfl) | rfl)
      · refine y_aload_n Z dX6_does_264 1 rfl rfl ?_
        refine y_get (C := RX6) (T := TX6) (N := 19) Z 6 inlX6 rfl 0 rfl 0 (by decide) fl_RX6_7 rfl dX6_does_265 ?_
        refine y_bipush (v := 19) Z dX6_does_268 (by decide) ?_
        refine y_iald Z 1 0 rfl ht0 (vpd (by decide) (by decide)) 19 (by decide) dX6_does_270 ?_
        refine y_iconst (v := 1) Z dX6_does_271 (by decide) ?_
        refine y_iload_n Z dX6_does_272 3 rfl rfl ?_
        refine y_ishl Z dX6_does_273 ?_
        refine y_ior Z dX6_does_274 ?_
        refine y_goto (tgt := 291) Z dX6_does_275 (by decide) ?_
        refine y_iast Z 1 0 rfl ht0 (vpd (by decide) (by decide)) 19 (by decide) (wMdR cI aS (S 0 0) (S 0 1) (S 0 2) (S 0 3) (S 0 4) (S 0 5) (S 0 6) (S 0 7) (S 0 8) (S 0 9) (S 0 10) (S 0 11) (S 0 12) (upd (S 1) 19 ((S 1 19) ||| (1 <<< (a &&& 31)))) (S 2) (S 3) (S 4) (S 5) (S 6)) rfl dX6_does_291 ?_
        refine y_iload Z dX6_does_292 0 rfl ?_
        exact y_retI Z hr hlk dX6_does_294 (by first | (simp only [mv_ds, mr_ds, mr_ky, mr_tg, mr_ft, h1, hs3_0, hs3_1, hs3_2, hs3_3, hs3_4, hs3_5, hs3_6, hs3_7, hs3_8, eq_true h6, if_true, if_false, not_false_eq_true, not_true_eq_false, ↓reduceIte]; done) | (simp only [mv_ds, mr_ds, mr_ky, mr_tg, mr_ft, h1, hs3_0, hs3_1, hs3_2, hs3_3, hs3_4, hs3_5, hs3_6, hs3_7, hs3_8, eq_true h6, if_true, if_false, not_false_eq_true, not_true_eq_false, ↓reduceIte, wMix, wLog, wPic, wRep, wScr, wVM, wMd, sR_eq, sR_ne, sF_eq, sF_ne, upd_eq, upd_ne, gs_eq, gs_ne, gm_4, gm_ne, Nat.reduceBEq]; done) | (with_reducible rfl) | contradiction | (simp only [mv_ds, mr_ds, mr_ky, mr_tg, mr_ft, h1, hs3_0, hs3_1, hs3_2, hs3_3, hs3_4, hs3_5, hs3_6, hs3_7, hs3_8, eq_true h6, if_true, if_false, not_false_eq_true, not_true_eq_false, ↓reduceIte]; rfl) | rfl) (by first | (simp only [mv_ds, mr_ds, mr_ky, mr_tg, mr_ft, h1, hs3_0, hs3_1, hs3_2, hs3_3, hs3_4, hs3_5, hs3_6, hs3_7, hs3_8, eq_true h6, if_true, if_false, not_false_eq_true, not_true_eq_false, ↓reduceIte]; done) | (simp only [mv_ds, mr_ds, mr_ky, mr_tg, mr_ft, h1, hs3_0, hs3_1, hs3_2, hs3_3, hs3_4, hs3_5, hs3_6, hs3_7, hs3_8, eq_true h6, if_true, if_false, not_false_eq_true, not_true_eq_false, ↓reduceIte, wMix, wLog, wPic, wRep, wScr, wVM, wMd, sR_eq, sR_ne, sF_eq, sF_ne, upd_eq, upd_ne, gs_eq, gs_ne, gm_4, gm_ne, Nat.reduceBEq]; done) | (with_reducible rfl) | contradiction | (simp only [mv_ds, mr_ds, mr_ky, mr_tg, mr_ft, h1, hs3_0, hs3_1, hs3_2, hs3_3, hs3_4, hs3_5, hs3_6, hs3_7, hs3_8, eq_true h6, if_true, if_false, not_false_eq_true, not_true_eq_false, ↓reduceIte]; rfl) | rfl)
    · rcases (show j4 = 0 ∨ j4 = 1 ∨ j4 = 2 ∨ j4 = 3 ∨ j4 = 4 ∨ j4 = 5 ∨ j4 = 6 ∨ j4 = 7 ∨ j4 = 8 by omega) with rfl | rfl | rfl | rfl | rfl | rfl | rfl | rfl | rfl
      · replace hs3 : w = 0 := hs3
        refine y_tableIn (tgt := 64) (off := 50) Z dX6_does_14 (by rw [hs3]; decide) (by rw [hs3]; decide) (by rw [hs3]; rfl) (by decide) ?_
        refine y_aload_n Z dX6_does_64 1 rfl rfl ?_
        refine y_get (C := RX6) (T := TX6) (N := 19) Z 6 inlX6 rfl 0 rfl 0 (by decide) fl_RX6_7 rfl dX6_does_65 ?_
        refine y_iload_n Z dX6_does_68 2 rfl rfl ?_
        refine y_iald Z 1 0 rfl ht0 (by rw [hs3]; exact vpd (by decide) (by decide)) 0 (by rw [hs3]; decide) dX6_does_69 ?_
        refine y_istore Z [(6, .int (S 1 0)), (0, .ref (aS 0)), (1, .int w), (2, .int a), (3, .int b), (4, .int c0), (5, .int d0)] dX6_does_70 (by decide) rfl ?_
        refine y_aload_n Z dX6_does_72 1 rfl rfl ?_
        refine y_get (C := RX6) (T := TX6) (N := 19) Z 6 inlX6 rfl 0 rfl 0 (by decide) fl_RX6_7 rfl dX6_does_73 ?_
        refine y_iload_n Z dX6_does_76 2 rfl rfl ?_
        refine y_iload_n Z dX6_does_77 3 rfl rfl ?_
        refine y_iast Z 1 0 rfl ht0 (by rw [hs3]; exact vpd (by decide) (by decide)) 0 (by rw [hs3]; decide) (wMdR cI aS (S 0 0) (S 0 1) (S 0 2) (S 0 3) (S 0 4) (S 0 5) (S 0 6) (S 0 7) (S 0 8) (S 0 9) (S 0 10) (S 0 11) (S 0 12) (upd (S 1) 0 a) (S 2) (S 3) (S 4) (S 5) (S 6)) rfl dX6_does_78 ?_
        refine y_iload Z dX6_does_79 0 rfl ?_
        exact y_retI Z hr hlk dX6_does_81 (by subst hs3; first | (simp only [mv_ds, mr_ds, mr_ky, mr_tg, mr_ft, h1, if_true, if_false, not_false_eq_true, not_true_eq_false, ↓reduceIte]; done) | (simp only [mv_ds, mr_ds, mr_ky, mr_tg, mr_ft, h1, if_true, if_false, not_false_eq_true, not_true_eq_false, ↓reduceIte, wMix, wLog, wPic, wRep, wScr, wVM, wMd, sR_eq, sR_ne, sF_eq, sF_ne, upd_eq, upd_ne, gs_eq, gs_ne, gm_4, gm_ne, Nat.reduceBEq]; done) | (with_reducible rfl) | contradiction | (simp only [mv_ds, mr_ds, mr_ky, mr_tg, mr_ft, h1, if_true, if_false, not_false_eq_true, not_true_eq_false, ↓reduceIte]; rfl) | rfl) (by subst hs3; first | (simp only [mv_ds, mr_ds, mr_ky, mr_tg, mr_ft, h1, if_true, if_false, not_false_eq_true, not_true_eq_false, ↓reduceIte]; done) | (simp only [mv_ds, mr_ds, mr_ky, mr_tg, mr_ft, h1, if_true, if_false, not_false_eq_true, not_true_eq_false, ↓reduceIte, wMix, wLog, wPic, wRep, wScr, wVM, wMd, sR_eq, sR_ne, sF_eq, sF_ne, upd_eq, upd_ne, gs_eq, gs_ne, gm_4, gm_ne, Nat.reduceBEq]; done) | (with_reducible rfl) | contradiction | (simp only [mv_ds, mr_ds, mr_ky, mr_tg, mr_ft, h1, if_true, if_false, not_false_eq_true, not_true_eq_false, ↓reduceIte]; rfl) | rfl)
      · replace hs3 : w = 1 := hs3
        refine y_tableIn (tgt := 64) (off := 50) Z dX6_does_14 (by rw [hs3]; decide) (by rw [hs3]; decide) (by rw [hs3]; rfl) (by decide) ?_
        refine y_aload_n Z dX6_does_64 1 rfl rfl ?_
        refine y_get (C := RX6) (T := TX6) (N := 19) Z 6 inlX6 rfl 0 rfl 0 (by decide) fl_RX6_7 rfl dX6_does_65 ?_
        refine y_iload_n Z dX6_does_68 2 rfl rfl ?_
        refine y_iald Z 1 0 rfl ht0 (by rw [hs3]; exact vpd (by decide) (by decide)) 1 (by rw [hs3]; decide) dX6_does_69 ?_
        refine y_istore Z [(6, .int (S 1 1)), (0, .ref (aS 0)), (1, .int w), (2, .int a), (3, .int b), (4, .int c0), (5, .int d0)] dX6_does_70 (by decide) rfl ?_
        refine y_aload_n Z dX6_does_72 1 rfl rfl ?_
        refine y_get (C := RX6) (T := TX6) (N := 19) Z 6 inlX6 rfl 0 rfl 0 (by decide) fl_RX6_7 rfl dX6_does_73 ?_
        refine y_iload_n Z dX6_does_76 2 rfl rfl ?_
        refine y_iload_n Z dX6_does_77 3 rfl rfl ?_
        refine y_iast Z 1 0 rfl ht0 (by rw [hs3]; exact vpd (by decide) (by decide)) 1 (by rw [hs3]; decide) (wMdR cI aS (S 0 0) (S 0 1) (S 0 2) (S 0 3) (S 0 4) (S 0 5) (S 0 6) (S 0 7) (S 0 8) (S 0 9) (S 0 10) (S 0 11) (S 0 12) (upd (S 1) 1 a) (S 2) (S 3) (S 4) (S 5) (S 6)) rfl dX6_does_78 ?_
        refine y_iload Z dX6_does_79 0 rfl ?_
        exact y_retI Z hr hlk dX6_does_81 (by subst hs3; first | (simp only [mv_ds, mr_ds, mr_ky, mr_tg, mr_ft, h1, if_true, if_false, not_false_eq_true, not_true_eq_false, ↓reduceIte]; done) | (simp only [mv_ds, mr_ds, mr_ky, mr_tg, mr_ft, h1, if_true, if_false, not_false_eq_true, not_true_eq_false, ↓reduceIte, wMix, wLog, wPic, wRep, wScr, wVM, wMd, sR_eq, sR_ne, sF_eq, sF_ne, upd_eq, upd_ne, gs_eq, gs_ne, gm_4, gm_ne, Nat.reduceBEq]; done) | (with_reducible rfl) | contradiction | (simp only [mv_ds, mr_ds, mr_ky, mr_tg, mr_ft, h1, if_true, if_false, not_false_eq_true, not_true_eq_false, ↓reduceIte]; rfl) | rfl) (by subst hs3; first | (simp only [mv_ds, mr_ds, mr_ky, mr_tg, mr_ft, h1, if_true, if_false, not_false_eq_true, not_true_eq_false, ↓reduceIte]; done) | (simp only [mv_ds, mr_ds, mr_ky, mr_tg, mr_ft, h1, if_true, if_false, not_false_eq_true, not_true_eq_false, ↓reduceIte, wMix, wLog, wPic, wRep, wScr, wVM, wMd, sR_eq, sR_ne, sF_eq, sF_ne, upd_eq, upd_ne, gs_eq, gs_ne, gm_4, gm_ne, Nat.reduceBEq]; done) | (with_reducible rfl) | contradiction | (simp only [mv_ds, mr_ds, mr_ky, mr_tg, mr_ft, h1, if_true, if_false, not_false_eq_true, not_true_eq_false, ↓reduceIte]; rfl) | rfl)
      · replace hs3 : w = 2 := hs3
        refine y_tableIn (tgt := 82) (off := 68) Z dX6_does_14 (by rw [hs3]; decide) (by rw [hs3]; decide) (by rw [hs3]; rfl) (by decide) ?_
        refine y_aload_n Z dX6_does_82 1 rfl rfl ?_
        refine y_get (C := RX6) (T := TX6) (N := 19) Z 6 inlX6 rfl 0 rfl 0 (by decide) fl_RX6_7 rfl dX6_does_83 ?_
        refine y_iconst (v := 2) Z dX6_does_86 (by decide) ?_
        refine y_iald Z 1 0 rfl ht0 (vpd (by decide) (by decide)) 2 (by decide) dX6_does_87 ?_
        refine y_istore Z [(6, .int (S 1 2)), (0, .ref (aS 0)), (1, .int w), (2, .int a), (3, .int b), (4, .int c0), (5, .int d0)] dX6_does_88 (by decide) rfl ?_
        refine y_aload_n Z dX6_does_90 1 rfl rfl ?_
        refine y_get (C := RX6) (T := TX6) (N := 19) Z 6 inlX6 rfl 0 rfl 0 (by decide) fl_RX6_7 rfl dX6_does_91 ?_
        refine y_iconst (v := 2) Z dX6_does_94 (by decide) ?_
        refine y_iload_n Z dX6_does_95 3 rfl rfl ?_
        refine y_iast Z 1 0 rfl ht0 (vpd (by decide) (by decide)) 2 (by decide) (wMdR cI aS (S 0 0) (S 0 1) (S 0 2) (S 0 3) (S 0 4) (S 0 5) (S 0 6) (S 0 7) (S 0 8) (S 0 9) (S 0 10) (S 0 11) (S 0 12) (upd (S 1) 2 a) (S 2) (S 3) (S 4) (S 5) (S 6)) rfl dX6_does_96 ?_
        refine y_aload_n Z dX6_does_97 1 rfl rfl ?_
        refine y_get (C := RX6) (T := TX6) (N := 19) Z 6 inlX6 rfl 0 rfl 0 (by decide) fl_RX6_7 rfl dX6_does_98 ?_
        refine y_iconst (v := 3) Z dX6_does_101 (by decide) ?_
        refine y_iload_n Z dX6_does_102 4 rfl rfl ?_
        refine y_iast Z 1 0 rfl ht0 (vpd (by decide) (by decide)) 3 (by decide) (wMdR cI aS (S 0 0) (S 0 1) (S 0 2) (S 0 3) (S 0 4) (S 0 5) (S 0 6) (S 0 7) (S 0 8) (S 0 9) (S 0 10) (S 0 11) (S 0 12) (upd (upd (S 1) 2 a) 3 b) (S 2) (S 3) (S 4) (S 5) (S 6)) rfl dX6_does_103 ?_
        refine y_iload Z dX6_does_104 0 rfl ?_
        exact y_retI Z hr hlk dX6_does_106 (by subst hs3; first | (simp only [mv_ds, mr_ds, mr_ky, mr_tg, mr_ft, h1, if_true, if_false, not_false_eq_true, not_true_eq_false, ↓reduceIte]; done) | (simp only [mv_ds, mr_ds, mr_ky, mr_tg, mr_ft, h1, if_true, if_false, not_false_eq_true, not_true_eq_false, ↓reduceIte, wMix, wLog, wPic, wRep, wScr, wVM, wMd, sR_eq, sR_ne, sF_eq, sF_ne, upd_eq, upd_ne, gs_eq, gs_ne, gm_4, gm_ne, Nat.reduceBEq]; done) | (with_reducible rfl) | contradiction | (simp only [mv_ds, mr_ds, mr_ky, mr_tg, mr_ft, h1, if_true, if_false, not_false_eq_true, not_true_eq_false, ↓reduceIte]; rfl) | rfl) (by subst hs3; first | (simp only [mv_ds, mr_ds, mr_ky, mr_tg, mr_ft, h1, if_true, if_false, not_false_eq_true, not_true_eq_false, ↓reduceIte]; done) | (simp only [mv_ds, mr_ds, mr_ky, mr_tg, mr_ft, h1, if_true, if_false, not_false_eq_true, not_true_eq_false, ↓reduceIte, wMix, wLog, wPic, wRep, wScr, wVM, wMd, sR_eq, sR_ne, sF_eq, sF_ne, upd_eq, upd_ne, gs_eq, gs_ne, gm_4, gm_ne, Nat.reduceBEq]; done) | (with_reducible rfl) | contradiction | (simp only [mv_ds, mr_ds, mr_ky, mr_tg, mr_ft, h1, if_true, if_false, not_false_eq_true, not_true_eq_false, ↓reduceIte]; rfl) | rfl)
      · replace hs3 : w = 3 := hs3
        refine y_tableIn (tgt := 107) (off := 93) Z dX6_does_14 (by rw [hs3]; decide) (by rw [hs3]; decide) (by rw [hs3]; rfl) (by decide) ?_
        refine y_aload_n Z dX6_does_107 1 rfl rfl ?_
        refine y_get (C := RX6) (T := TX6) (N := 19) Z 6 inlX6 rfl 0 rfl 0 (by decide) fl_RX6_7 rfl dX6_does_108 ?_
        refine y_iconst (v := 4) Z dX6_does_111 (by decide) ?_
        refine y_iald Z 1 0 rfl ht0 (vpd (by decide) (by decide)) 4 (by decide) dX6_does_112 ?_
        refine y_istore Z [(6, .int (S 1 4)), (0, .ref (aS 0)), (1, .int w), (2, .int a), (3, .int b), (4, .int c0), (5, .int d0)] dX6_does_113 (by decide) rfl ?_
        refine y_aload_n Z dX6_does_115 1 rfl rfl ?_
        refine y_get (C := RX6) (T := TX6) (N := 19) Z 6 inlX6 rfl 0 rfl 0 (by decide) fl_RX6_7 rfl dX6_does_116 ?_
        refine y_iconst (v := 4) Z dX6_does_119 (by decide) ?_
        refine y_iload_n Z dX6_does_120 3 rfl rfl ?_
        refine y_iast Z 1 0 rfl ht0 (vpd (by decide) (by decide)) 4 (by decide) (wMdR cI aS (S 0 0) (S 0 1) (S 0 2) (S 0 3) (S 0 4) (S 0 5) (S 0 6) (S 0 7) (S 0 8) (S 0 9) (S 0 10) (S 0 11) (S 0 12) (upd (S 1) 4 a) (S 2) (S 3) (S 4) (S 5) (S 6)) rfl dX6_does_121 ?_
        refine y_iload Z dX6_does_122 0 rfl ?_
        exact y_retI Z hr hlk dX6_does_124 (by subst hs3; first | (simp only [mv_ds, mr_ds, mr_ky, mr_tg, mr_ft, h1, if_true, if_false, not_false_eq_true, not_true_eq_false, ↓reduceIte]; done) | (simp only [mv_ds, mr_ds, mr_ky, mr_tg, mr_ft, h1, if_true, if_false, not_false_eq_true, not_true_eq_false, ↓reduceIte, wMix, wLog, wPic, wRep, wScr, wVM, wMd, sR_eq, sR_ne, sF_eq, sF_ne, upd_eq, upd_ne, gs_eq, gs_ne, gm_4, gm_ne, Nat.reduceBEq]; done) | (with_reducible rfl) | contradiction | (simp only [mv_ds, mr_ds, mr_ky, mr_tg, mr_ft, h1, if_true, if_false, not_false_eq_true, not_true_eq_false, ↓reduceIte]; rfl) | rfl) (by subst hs3; first | (simp only [mv_ds, mr_ds, mr_ky, mr_tg, mr_ft, h1, if_true, if_false, not_false_eq_true, not_true_eq_false, ↓reduceIte]; done) | (simp only [mv_ds, mr_ds, mr_ky, mr_tg, mr_ft, h1, if_true, if_false, not_false_eq_true, not_true_eq_false, ↓reduceIte, wMix, wLog, wPic, wRep, wScr, wVM, wMd, sR_eq, sR_ne, sF_eq, sF_ne, upd_eq, upd_ne, gs_eq, gs_ne, gm_4, gm_ne, Nat.reduceBEq]; done) | (with_reducible rfl) | contradiction | (simp only [mv_ds, mr_ds, mr_ky, mr_tg, mr_ft, h1, if_true, if_false, not_false_eq_true, not_true_eq_false, ↓reduceIte]; rfl) | rfl)
      · replace hs3 : w = 4 := hs3
        refine y_tableIn (tgt := 125) (off := 111) Z dX6_does_14 (by rw [hs3]; decide) (by rw [hs3]; decide) (by rw [hs3]; rfl) (by decide) ?_
        refine y_aload_n Z dX6_does_125 1 rfl rfl ?_
        refine y_iload_n Z dX6_does_126 3 rfl rfl ?_
        refine y_iconst (v := 0) Z dX6_does_127 (by decide) ?_
        refine y_VIw Z (k_X6_ofKeyer l D ht0 aS S a 0 (kx_in (h_k (by first | exact Or.inl (by assumption) | exact Or.inr (by assumption))) 0 (by decide))) (y_cwV 2 Z ml_RX6_60 im_X6_ofKeyer se_X6_ofKeyer in_X6 co_X6_ofKeyer rfl rfl hd_X6_ofKeyer ⟨Nat.le_of_ble_eq_true rfl, Nat.le_of_ble_eq_true rfl⟩) List.nil List.nil (by simp only [List.nil_append, List.append_nil, wMix, wLog, wPic, wRep, wScr, wVM, wMd, sR_eq, sR_ne, sF_eq, sF_ne, upd_eq, upd_ne, gs_eq, gs_ne, gm_4, gm_ne, Nat.reduceBEq]) 6 0 rfl rfl rfl rfl (Nat.le_of_ble_eq_true rfl) dX6_does_128 ⟨Nat.le_of_ble_eq_true rfl, Nat.le_of_ble_eq_true rfl⟩ (wMd cI aS S) (by simp only [List.nil_append, List.append_nil, wMix, wLog, wPic, wRep, wScr, wVM, wMd, sR_eq, sR_ne, sF_eq, sF_ne, upd_eq, upd_ne, gs_eq, gs_ne, gm_4, gm_ne, Nat.reduceBEq]) ?_
        refine y_eq rfl rfl (st' := [.int ((S 1) (kx a 0))]) (by first | with_reducible rfl | simp only [wMix, wLog, wPic, wRep, wScr, wVM, wMd, sR_eq, sR_ne, sF_eq, sF_ne, upd_eq, upd_ne, gs_eq, gs_ne, gm_4, gm_ne, Nat.reduceBEq]) ?_
        refine y_istore Z [(6, .int ((S 1) (kx a 0))), (0, .ref (aS 0)), (1, .int w), (2, .int a), (3, .int b), (4, .int c0), (5, .int d0)] dX6_does_131 (by decide) rfl ?_
        refine y_aload_n Z dX6_does_133 1 rfl rfl ?_
        refine y_get (C := RX6) (T := TX6) (N := 19) Z 6 inlX6 rfl 0 rfl 0 (by decide) fl_RX6_7 rfl dX6_does_134 ?_
        refine y_bipush (v := 7) Z dX6_does_137 (by decide) ?_
        refine y_iconst (v := 4) Z dX6_does_139 (by decide) ?_
        refine y_iload_n Z dX6_does_140 3 rfl rfl ?_
        refine y_imul Z dX6_does_141 ?_
        refine y_iadd Z dX6_does_142 ?_
        refine y_iconst (v := 0) Z dX6_does_143 (by decide) ?_
        refine y_iadd Z dX6_does_144 ?_
        refine y_iload_n Z dX6_does_145 4 rfl rfl ?_
        refine y_iast Z 1 0 rfl ht0 (kx_in (h_k (by first | exact Or.inl (by assumption) | exact Or.inr (by assumption))) 0 (by decide)) (kx a 0) rfl (wMdR cI aS (S 0 0) (S 0 1) (S 0 2) (S 0 3) (S 0 4) (S 0 5) (S 0 6) (S 0 7) (S 0 8) (S 0 9) (S 0 10) (S 0 11) (S 0 12) (upd (S 1) (kx a 0) b) (S 2) (S 3) (S 4) (S 5) (S 6)) rfl dX6_does_146 ?_
        refine y_aload_n Z dX6_does_147 1 rfl rfl ?_
        refine y_get (C := RX6) (T := TX6) (N := 19) Z 6 inlX6 rfl 0 rfl 0 (by decide) fl_RX6_7 rfl dX6_does_148 ?_
        refine y_bipush (v := 7) Z dX6_does_151 (by decide) ?_
        refine y_iconst (v := 4) Z dX6_does_153 (by decide) ?_
        refine y_iload_n Z dX6_does_154 3 rfl rfl ?_
        refine y_imul Z dX6_does_155 ?_
        refine y_iadd Z dX6_does_156 ?_
        refine y_iconst (v := 1) Z dX6_does_157 (by decide) ?_
        refine y_iadd Z dX6_does_158 ?_
        refine y_iload Z dX6_does_159 5 rfl ?_
        refine y_iast Z 1 0 rfl ht0 (kx_in (h_k (by first | exact Or.inl (by assumption) | exact Or.inr (by assumption))) 1 (by decide)) (kx a 1) rfl (wMdR cI aS (S 0 0) (S 0 1) (S 0 2) (S 0 3) (S 0 4) (S 0 5) (S 0 6) (S 0 7) (S 0 8) (S 0 9) (S 0 10) (S 0 11) (S 0 12) (upd (upd (S 1) (kx a 0) b) (kx a 1) c0) (S 2) (S 3) (S 4) (S 5) (S 6)) rfl dX6_does_161 ?_
        refine y_aload_n Z dX6_does_162 1 rfl rfl ?_
        refine y_get (C := RX6) (T := TX6) (N := 19) Z 6 inlX6 rfl 0 rfl 0 (by decide) fl_RX6_7 rfl dX6_does_163 ?_
        refine y_bipush (v := 7) Z dX6_does_166 (by decide) ?_
        refine y_iconst (v := 4) Z dX6_does_168 (by decide) ?_
        refine y_iload_n Z dX6_does_169 3 rfl rfl ?_
        refine y_imul Z dX6_does_170 ?_
        refine y_iadd Z dX6_does_171 ?_
        refine y_iconst (v := 2) Z dX6_does_172 (by decide) ?_
        refine y_iadd Z dX6_does_173 ?_
        refine y_iload Z dX6_does_174 6 rfl ?_
        refine y_iast Z 1 0 rfl ht0 (kx_in (h_k (by first | exact Or.inl (by assumption) | exact Or.inr (by assumption))) 2 (by decide)) (kx a 2) rfl (wMdR cI aS (S 0 0) (S 0 1) (S 0 2) (S 0 3) (S 0 4) (S 0 5) (S 0 6) (S 0 7) (S 0 8) (S 0 9) (S 0 10) (S 0 11) (S 0 12) (upd (upd (upd (S 1) (kx a 0) b) (kx a 1) c0) (kx a 2) d0) (S 2) (S 3) (S 4) (S 5) (S 6)) rfl dX6_does_176 ?_
        refine y_iload Z dX6_does_177 0 rfl ?_
        exact y_retI Z hr hlk dX6_does_179 (by subst hs3; first | (simp only [mv_ds, mr_ds, mr_ky, mr_tg, mr_ft, h1, if_true, if_false, not_false_eq_true, not_true_eq_false, ↓reduceIte]; done) | (simp only [mv_ds, mr_ds, mr_ky, mr_tg, mr_ft, h1, if_true, if_false, not_false_eq_true, not_true_eq_false, ↓reduceIte, wMix, wLog, wPic, wRep, wScr, wVM, wMd, sR_eq, sR_ne, sF_eq, sF_ne, upd_eq, upd_ne, gs_eq, gs_ne, gm_4, gm_ne, Nat.reduceBEq]; done) | (with_reducible rfl) | contradiction | (simp only [mv_ds, mr_ds, mr_ky, mr_tg, mr_ft, h1, if_true, if_false, not_false_eq_true, not_true_eq_false, ↓reduceIte]; rfl) | rfl) (by subst hs3; first | (simp only [mv_ds, mr_ds, mr_ky, mr_tg, mr_ft, h1, if_true, if_false, not_false_eq_true, not_true_eq_false, ↓reduceIte]; done) | (simp only [mv_ds, mr_ds, mr_ky, mr_tg, mr_ft, h1, if_true, if_false, not_false_eq_true, not_true_eq_false, ↓reduceIte, wMix, wLog, wPic, wRep, wScr, wVM, wMd, sR_eq, sR_ne, sF_eq, sF_ne, upd_eq, upd_ne, gs_eq, gs_ne, gm_4, gm_ne, Nat.reduceBEq]; done) | (with_reducible rfl) | contradiction | (simp only [mv_ds, mr_ds, mr_ky, mr_tg, mr_ft, h1, if_true, if_false, not_false_eq_true, not_true_eq_false, ↓reduceIte]; rfl) | rfl)
      · replace hs3 : w = 5 := hs3
        refine y_tableIn (tgt := 180) (off := 166) Z dX6_does_14 (by rw [hs3]; decide) (by rw [hs3]; decide) (by rw [hs3]; rfl) (by decide) ?_
        refine y_aload_n Z dX6_does_180 1 rfl rfl ?_
        refine y_get (C := RX6) (T := TX6) (N := 19) Z 6 inlX6 rfl 0 rfl 0 (by decide) fl_RX6_7 rfl dX6_does_181 ?_
        refine y_bipush (v := 7) Z dX6_does_184 (by decide) ?_
        refine y_iconst (v := 4) Z dX6_does_186 (by decide) ?_
        refine y_iload_n Z dX6_does_187 3 rfl rfl ?_
        refine y_imul Z dX6_does_188 ?_
        refine y_iadd Z dX6_does_189 ?_
        refine y_iconst (v := 3) Z dX6_does_190 (by decide) ?_
        refine y_iadd Z dX6_does_191 ?_
        refine y_iconst (v := 1) Z dX6_does_192 (by decide) ?_
        refine y_aload_n Z dX6_does_193 1 rfl rfl ?_
        refine y_iload_n Z dX6_does_194 3 rfl rfl ?_
        refine y_iconst (v := 3) Z dX6_does_195 (by decide) ?_
        refine y_VIw Z (k_X6_ofKeyer l D ht0 aS S a 3 (kx_in (h_k (by first | exact Or.inl (by assumption) | exact Or.inr (by assumption))) 3 (by decide))) (y_cwV 2 Z ml_RX6_60 im_X6_ofKeyer se_X6_ofKeyer in_X6 co_X6_ofKeyer rfl rfl hd_X6_ofKeyer ⟨Nat.le_of_ble_eq_true rfl, Nat.le_of_ble_eq_true rfl⟩) List.nil List.nil (by simp only [List.nil_append, List.append_nil, wMix, wLog, wPic, wRep, wScr, wVM, wMd, sR_eq, sR_ne, sF_eq, sF_ne, upd_eq, upd_ne, gs_eq, gs_ne, gm_4, gm_ne, Nat.reduceBEq]) 6 0 rfl rfl rfl rfl (Nat.le_of_ble_eq_true rfl) dX6_does_196 ⟨Nat.le_of_ble_eq_true rfl, Nat.le_of_ble_eq_true rfl⟩ (wMd cI aS S) (by simp only [List.nil_append, List.append_nil, wMix, wLog, wPic, wRep, wScr, wVM, wMd, sR_eq, sR_ne, sF_eq, sF_ne, upd_eq, upd_ne, gs_eq, gs_ne, gm_4, gm_ne, Nat.reduceBEq]) ?_
        refine y_eq rfl rfl (st' := [.int ((S 1) (kx a 3)), .int 1, .int ((7 + (4 * a)) + 3), .ref (aS 1)]) (by first | with_reducible rfl | simp only [wMix, wLog, wPic, wRep, wScr, wVM, wMd, sR_eq, sR_ne, sF_eq, sF_ne, upd_eq, upd_ne, gs_eq, gs_ne, gm_4, gm_ne, Nat.reduceBEq]) ?_
        refine y_isub Z dX6_does_199 ?_
        refine y_iast Z 1 0 rfl ht0 (kx_in (h_k (by first | exact Or.inl (by assumption) | exact Or.inr (by assumption))) 3 (by decide)) (kx a 3) rfl (wMdR cI aS (S 0 0) (S 0 1) (S 0 2) (S 0 3) (S 0 4) (S 0 5) (S 0 6) (S 0 7) (S 0 8) (S 0 9) (S 0 10) (S 0 11) (S 0 12) (upd (S 1) (kx a 3) (1 - (S 1) (kx a 3))) (S 2) (S 3) (S 4) (S 5) (S 6)) rfl dX6_does_200 ?_
        refine y_aload_n Z dX6_does_201 1 rfl rfl ?_
        refine y_iload_n Z dX6_does_202 3 rfl rfl ?_
        refine y_iconst (v := 3) Z dX6_does_203 (by decide) ?_
        refine y_VIw Z (k_X6_ofKeyer l D ht0 aS (sR S 1 (upd (S 1) (kx a 3) (1 - (S 1) (kx a 3)))) a 3 (kx_in (h_k (by first | exact Or.inl (by assumption) | exact Or.inr (by assumption))) 3 (by decide))) (y_cwV 2 Z ml_RX6_60 im_X6_ofKeyer se_X6_ofKeyer in_X6 co_X6_ofKeyer rfl rfl hd_X6_ofKeyer ⟨Nat.le_of_ble_eq_true rfl, Nat.le_of_ble_eq_true rfl⟩) List.nil List.nil (by simp only [List.nil_append, List.append_nil, wMix, wLog, wPic, wRep, wScr, wVM, wMd, sR_eq, sR_ne, sF_eq, sF_ne, upd_eq, upd_ne, gs_eq, gs_ne, gm_4, gm_ne, Nat.reduceBEq]) 6 0 rfl rfl rfl rfl (Nat.le_of_ble_eq_true rfl) dX6_does_204 ⟨Nat.le_of_ble_eq_true rfl, Nat.le_of_ble_eq_true rfl⟩ (wMdR cI aS (S 0 0) (S 0 1) (S 0 2) (S 0 3) (S 0 4) (S 0 5) (S 0 6) (S 0 7) (S 0 8) (S 0 9) (S 0 10) (S 0 11) (S 0 12) (upd (S 1) (kx a 3) (1 - (S 1) (kx a 3))) (S 2) (S 3) (S 4) (S 5) (S 6)) (by simp only [List.nil_append, List.append_nil, wMix, wLog, wPic, wRep, wScr, wVM, wMd, sR_eq, sR_ne, sF_eq, sF_ne, upd_eq, upd_ne, gs_eq, gs_ne, gm_4, gm_ne, Nat.reduceBEq]) ?_
        refine y_eq rfl rfl (st' := [.int ((upd (S 1) (kx a 3) (1 - (S 1) (kx a 3))) (kx a 3))]) (by first | with_reducible rfl | simp only [wMix, wLog, wPic, wRep, wScr, wVM, wMd, sR_eq, sR_ne, sF_eq, sF_ne, upd_eq, upd_ne, gs_eq, gs_ne, gm_4, gm_ne, Nat.reduceBEq]) ?_
        exact y_retI Z hr hlk dX6_does_207 (by subst hs3; first | (simp only [mv_ds, mr_ds, mr_ky, mr_tg, mr_ft, h1, if_true, if_false, not_false_eq_true, not_true_eq_false, ↓reduceIte]; done) | (simp only [mv_ds, mr_ds, mr_ky, mr_tg, mr_ft, h1, if_true, if_false, not_false_eq_true, not_true_eq_false, ↓reduceIte, wMix, wLog, wPic, wRep, wScr, wVM, wMd, sR_eq, sR_ne, sF_eq, sF_ne, upd_eq, upd_ne, gs_eq, gs_ne, gm_4, gm_ne, Nat.reduceBEq]; done) | (with_reducible rfl) | contradiction | (simp only [mv_ds, mr_ds, mr_ky, mr_tg, mr_ft, h1, if_true, if_false, not_false_eq_true, not_true_eq_false, ↓reduceIte]; rfl) | rfl) (by subst hs3; first | (simp only [mv_ds, mr_ds, mr_ky, mr_tg, mr_ft, h1, if_true, if_false, not_false_eq_true, not_true_eq_false, ↓reduceIte]; done) | (simp only [mv_ds, mr_ds, mr_ky, mr_tg, mr_ft, h1, if_true, if_false, not_false_eq_true, not_true_eq_false, ↓reduceIte, wMix, wLog, wPic, wRep, wScr, wVM, wMd, sR_eq, sR_ne, sF_eq, sF_ne, upd_eq, upd_ne, gs_eq, gs_ne, gm_4, gm_ne, Nat.reduceBEq]; done) | (with_reducible rfl) | contradiction | (simp only [mv_ds, mr_ds, mr_ky, mr_tg, mr_ft, h1, if_true, if_false, not_false_eq_true, not_true_eq_false, ↓reduceIte]; rfl) | rfl)
      · replace hs3 : w = 6 := hs3
        refine y_tableIn (tgt := 208) (off := 194) Z dX6_does_14 (by rw [hs3]; decide) (by rw [hs3]; decide) (by rw [hs3]; rfl) (by decide) ?_
        refine y_aload_n Z dX6_does_208 1 rfl rfl ?_
        refine y_VVw Z (k_X6_completes l D ht0 aS S) (y_cwV 0 Z ml_RX6_47 im_X6_completes se_X6_completes in_X6 co_X6_completes rfl rfl hd_X6_completes ⟨Nat.le_of_ble_eq_true rfl, Nat.le_of_ble_eq_true rfl⟩) List.nil List.nil (by simp only [List.nil_append, List.append_nil, wMix, wLog, wPic, wRep, wScr, wVM, wMd, sR_eq, sR_ne, sF_eq, sF_ne, upd_eq, upd_ne, gs_eq, gs_ne, gm_4, gm_ne, Nat.reduceBEq]) 6 0 rfl rfl rfl rfl (Nat.le_of_ble_eq_true rfl) dX6_does_209 ⟨Nat.le_of_ble_eq_true rfl, Nat.le_of_ble_eq_true rfl⟩ (wMdR cI aS (S 0 0) (S 0 1) (S 0 2) (S 0 3) (S 0 4) (S 0 5) (S 0 6) (S 0 7) (S 0 8) (S 0 9) (S 0 10) (S 0 11) (S 0 12) (mr_cp (S 1)) (S 2) (S 3) (S 4) (S 5) (S 6)) (by simp only [List.nil_append, List.append_nil, wMix, wLog, wPic, wRep, wScr, wVM, wMd, sR_eq, sR_ne, sF_eq, sF_ne, upd_eq, upd_ne, gs_eq, gs_ne, gm_4, gm_ne, Nat.reduceBEq]) ?_
        refine y_aload_n Z dX6_does_212 1 rfl rfl ?_
        refine y_get (C := RX6) (T := TX6) (N := 19) Z 6 inlX6 rfl 0 rfl 0 (by decide) fl_RX6_7 rfl dX6_does_213 ?_
        refine y_iconst (v := 0) Z dX6_does_216 (by decide) ?_
        refine y_iald Z 1 0 rfl ht0 (vpd (by decide) (by decide)) 0 (by decide) dX6_does_217 ?_
        exact y_retI Z hr hlk dX6_does_218 (by subst hs3; first | (simp only [mv_ds, mr_ds, mr_ky, mr_tg, mr_ft, h1, if_true, if_false, not_false_eq_true, not_true_eq_false, ↓reduceIte]; done) | (simp only [mv_ds, mr_ds, mr_ky, mr_tg, mr_ft, h1, if_true, if_false, not_false_eq_true, not_true_eq_false, ↓reduceIte, wMix, wLog, wPic, wRep, wScr, wVM, wMd, sR_eq, sR_ne, sF_eq, sF_ne, upd_eq, upd_ne, gs_eq, gs_ne, gm_4, gm_ne, Nat.reduceBEq]; done) | (with_reducible rfl) | contradiction | (simp only [mv_ds, mr_ds, mr_ky, mr_tg, mr_ft, h1, if_true, if_false, not_false_eq_true, not_true_eq_false, ↓reduceIte]; rfl) | rfl) (by subst hs3; first | (simp only [mv_ds, mr_ds, mr_ky, mr_tg, mr_ft, h1, if_true, if_false, not_false_eq_true, not_true_eq_false, ↓reduceIte]; done) | (simp only [mv_ds, mr_ds, mr_ky, mr_tg, mr_ft, h1, if_true, if_false, not_false_eq_true, not_true_eq_false, ↓reduceIte, wMix, wLog, wPic, wRep, wScr, wVM, wMd, sR_eq, sR_ne, sF_eq, sF_ne, upd_eq, upd_ne, gs_eq, gs_ne, gm_4, gm_ne, Nat.reduceBEq]; done) | (with_reducible rfl) | contradiction | (simp only [mv_ds, mr_ds, mr_ky, mr_tg, mr_ft, h1, if_true, if_false, not_false_eq_true, not_true_eq_false, ↓reduceIte]; rfl) | rfl)
      · replace hs3 : w = 7 := hs3
        refine y_tableIn (tgt := 219) (off := 205) Z dX6_does_14 (by rw [hs3]; decide) (by rw [hs3]; decide) (by rw [hs3]; rfl) (by decide) ?_
        refine y_aload_n Z dX6_does_219 1 rfl rfl ?_
        refine y_get (C := RX6) (T := TX6) (N := 19) Z 6 inlX6 rfl 0 rfl 0 (by decide) fl_RX6_7 rfl dX6_does_220 ?_
        refine y_bipush (v := 6) Z dX6_does_223 (by decide) ?_
        refine y_iconst (v := 0) Z dX6_does_225 (by decide) ?_
        refine y_iast Z 1 0 rfl ht0 (vpd (by decide) (by decide)) 6 (by decide) (wMdR cI aS (S 0 0) (S 0 1) (S 0 2) (S 0 3) (S 0 4) (S 0 5) (S 0 6) (S 0 7) (S 0 8) (S 0 9) (S 0 10) (S 0 11) (S 0 12) (upd (S 1) 6 0) (S 2) (S 3) (S 4) (S 5) (S 6)) rfl dX6_does_226 ?_
        refine y_aload_n Z dX6_does_227 1 rfl rfl ?_
        refine y_get (C := RX6) (T := TX6) (N := 19) Z 6 inlX6 rfl 0 rfl 0 (by decide) fl_RX6_7 rfl dX6_does_228 ?_
        refine y_iconst (v := 3) Z dX6_does_231 (by decide) ?_
        refine y_iald Z 1 0 rfl ht0 (vpd (by decide) (by decide)) 3 (by decide) dX6_does_232 ?_
        exact y_retI Z hr hlk dX6_does_233 (by subst hs3; first | (simp only [mv_ds, mr_ds, mr_ky, mr_tg, mr_ft, h1, if_true, if_false, not_false_eq_true, not_true_eq_false, ↓reduceIte]; done) | (simp only [mv_ds, mr_ds, mr_ky, mr_tg, mr_ft, h1, if_true, if_false, not_false_eq_true, not_true_eq_false, ↓reduceIte, wMix, wLog, wPic, wRep, wScr, wVM, wMd, sR_eq, sR_ne, sF_eq, sF_ne, upd_eq, upd_ne, gs_eq, gs_ne, gm_4, gm_ne, Nat.reduceBEq]; done) | (with_reducible rfl) | contradiction | (simp only [mv_ds, mr_ds, mr_ky, mr_tg, mr_ft, h1, if_true, if_false, not_false_eq_true, not_true_eq_false, ↓reduceIte]; rfl) | rfl) (by subst hs3; first | (simp only [mv_ds, mr_ds, mr_ky, mr_tg, mr_ft, h1, if_true, if_false, not_false_eq_true, not_true_eq_false, ↓reduceIte]; done) | (simp only [mv_ds, mr_ds, mr_ky, mr_tg, mr_ft, h1, if_true, if_false, not_false_eq_true, not_true_eq_false, ↓reduceIte, wMix, wLog, wPic, wRep, wScr, wVM, wMd, sR_eq, sR_ne, sF_eq, sF_ne, upd_eq, upd_ne, gs_eq, gs_ne, gm_4, gm_ne, Nat.reduceBEq]; done) | (with_reducible rfl) | contradiction | (simp only [mv_ds, mr_ds, mr_ky, mr_tg, mr_ft, h1, if_true, if_false, not_false_eq_true, not_true_eq_false, ↓reduceIte]; rfl) | rfl)
      · replace hs3 : w = 8 := hs3
        refine y_tableIn (tgt := 234) (off := 220) Z dX6_does_14 (by rw [hs3]; decide) (by rw [hs3]; decide) (by rw [hs3]; rfl) (by decide) ?_
        refine y_aload_n Z dX6_does_234 1 rfl rfl ?_
        refine y_iload_n Z dX6_does_235 3 rfl rfl ?_
        refine y_VIw Z (k_X6_moves l D ht0 aS S a) (y_cwV 1 Z ml_RX6_64 im_X6_moves se_X6_moves in_X6 co_X6_moves rfl rfl hd_X6_moves ⟨Nat.le_of_ble_eq_true rfl, Nat.le_of_ble_eq_true rfl⟩) List.nil List.nil (by simp only [List.nil_append, List.append_nil, wMix, wLog, wPic, wRep, wScr, wVM, wMd, sR_eq, sR_ne, sF_eq, sF_ne, upd_eq, upd_ne, gs_eq, gs_ne, gm_4, gm_ne, Nat.reduceBEq]) 6 0 rfl rfl rfl rfl (Nat.le_of_ble_eq_true rfl) dX6_does_236 ⟨Nat.le_of_ble_eq_true rfl, Nat.le_of_ble_eq_true rfl⟩ (wMdR cI aS (S 0 0) (S 0 1) (S 0 2) (S 0 3) (S 0 4) (S 0 5) (S 0 6) (S 0 7) (S 0 8) (S 0 9) (S 0 10) (S 0 11) (S 0 12) (mr_mv (S 1) a) (S 2) (S 3) (S 4) (S 5) (S 6)) (by simp only [List.nil_append, List.append_nil, wMix, wLog, wPic, wRep, wScr, wVM, wMd, sR_eq, sR_ne, sF_eq, sF_ne, upd_eq, upd_ne, gs_eq, gs_ne, gm_4, gm_ne, Nat.reduceBEq]) ?_
        refine y_eq rfl rfl (st' := [.int ((S 1) 5)]) (by first | with_reducible rfl | simp only [wMix, wLog, wPic, wRep, wScr, wVM, wMd, sR_eq, sR_ne, sF_eq, sF_ne, upd_eq, upd_ne, gs_eq, gs_ne, gm_4, gm_ne, Nat.reduceBEq]) ?_
        exact y_retI Z hr hlk dX6_does_239 (by subst hs3; first | (simp only [mv_ds, mr_ds, mr_ky, mr_tg, mr_ft, h1, if_true, if_false, not_false_eq_true, not_true_eq_false, ↓reduceIte]; done) | (simp only [mv_ds, mr_ds, mr_ky, mr_tg, mr_ft, h1, if_true, if_false, not_false_eq_true, not_true_eq_false, ↓reduceIte, wMix, wLog, wPic, wRep, wScr, wVM, wMd, sR_eq, sR_ne, sF_eq, sF_ne, upd_eq, upd_ne, gs_eq, gs_ne, gm_4, gm_ne, Nat.reduceBEq]; done) | (with_reducible rfl) | contradiction | (simp only [mv_ds, mr_ds, mr_ky, mr_tg, mr_ft, h1, if_true, if_false, not_false_eq_true, not_true_eq_false, ↓reduceIte]; rfl) | rfl) (by subst hs3; first | (simp only [mv_ds, mr_ds, mr_ky, mr_tg, mr_ft, h1, if_true, if_false, not_false_eq_true, not_true_eq_false, ↓reduceIte]; done) | (simp only [mv_ds, mr_ds, mr_ky, mr_tg, mr_ft, h1, if_true, if_false, not_false_eq_true, not_true_eq_false, ↓reduceIte, wMix, wLog, wPic, wRep, wScr, wVM, wMd, sR_eq, sR_ne, sF_eq, sF_ne, upd_eq, upd_ne, gs_eq, gs_ne, gm_4, gm_ne, Nat.reduceBEq]; done) | (with_reducible rfl) | contradiction | (simp only [mv_ds, mr_ds, mr_ky, mr_tg, mr_ft, h1, if_true, if_false, not_false_eq_true, not_true_eq_false, ↓reduceIte]; rfl) | rfl)
  · refine y_iconst (v := 0) Z dX6_does_8 (by decide) ?_
    exact y_retI Z hr hlk dX6_does_9 (by first | (simp only [mv_ds, mr_ds, mr_ky, mr_tg, mr_ft, eq_true h2, if_true, if_false, not_false_eq_true, not_true_eq_false, ↓reduceIte]; done) | (simp only [mv_ds, mr_ds, mr_ky, mr_tg, mr_ft, eq_true h2, if_true, if_false, not_false_eq_true, not_true_eq_false, ↓reduceIte, wMix, wLog, wPic, wRep, wScr, wVM, wMd, sR_eq, sR_ne, sF_eq, sF_ne, upd_eq, upd_ne, gs_eq, gs_ne, gm_4, gm_ne, Nat.reduceBEq]; done) | (with_reducible rfl) | contradiction | (simp only [mv_ds, mr_ds, mr_ky, mr_tg, mr_ft, eq_true h2, if_true, if_false, not_false_eq_true, not_true_eq_false, ↓reduceIte]; rfl) | rfl) (by first | (simp only [mv_ds, mr_ds, mr_ky, mr_tg, mr_ft, eq_true h2, if_true, if_false, not_false_eq_true, not_true_eq_false, ↓reduceIte]; done) | (simp only [mv_ds, mr_ds, mr_ky, mr_tg, mr_ft, eq_true h2, if_true, if_false, not_false_eq_true, not_true_eq_false, ↓reduceIte, wMix, wLog, wPic, wRep, wScr, wVM, wMd, sR_eq, sR_ne, sF_eq, sF_ne, upd_eq, upd_ne, gs_eq, gs_ne, gm_4, gm_ne, Nat.reduceBEq]; done) | (with_reducible rfl) | contradiction | (simp only [mv_ds, mr_ds, mr_ky, mr_tg, mr_ft, eq_true h2, if_true, if_false, not_false_eq_true, not_true_eq_false, ↓reduceIte]; rfl) | rfl)
set_option maxHeartbeats 4000000 in
set_option maxRecDepth 100000 in
theorem k_X6_acts (l : Launch) (D : va_G) {cI : ClassId} {tys : List (ClassId × FieldType)} (ht0 : tys[0]? = some (cI, .int)) (aS : Nat → Nat) (S : Nat → Nat → Int32) (w : Int32) (a : Int32) (b : Int32) (c0 : Int32) (d0 : Int32) (h_k : (w = 4 ∨ w = 5) → kOk a) (h_n : vp_in (S 0 1) 100) (sz : Nat) : kI l yX6_acts cX6_acts 7 (some .int) { frames := 4, cells := 0, slots := 0, locals := 91 } D tys [.ref (aS 0), .int w, .int a, .int b, .int c0, .int d0] (wMd cI aS S) (wMdR cI aS (S 0 0) ((S 0 1) + 1) (S 0 2) (S 0 3) (S 0 4) (S 0 5) (S 0 6) (S 0 7) (S 0 8) (S 0 9) (S 0 10) (S 0 11) (S 0 12) (mr_ds (S 1) w a b c0 d0) (S 2) (mr_la (S 3) (S 0 1).toNatClampNeg (S 0 0) w a b c0 d0) (S 4) (S 5) (S 6)) (mv_ds (S 1) w a b c0 d0) 0 0 sz := by
  refine y_enterI (cc := cX6_acts) (maxL := 7) (ret := (some .int)) (own := RX6) (by decide) rfl (lv0 := [(0, .ref (aS 0)), (1, .int w), (2, .int a), (3, .int b), (4, .int c0), (5, .int d0)]) rfl (Nat.le_of_ble_eq_true rfl) ?_
  intro p e s m args below meth c A Z hr hlk _
  refine y_bipush (v := 6) Z dX6_acts_0 (by decide) ?_
  refine y_aload_n Z dX6_acts_2 0 rfl rfl ?_
  refine y_get (C := RX6) (T := TX6) (N := 19) Z 6 inlX6 rfl 0 rfl 4 (by decide) fl_RX6_68 rfl dX6_acts_3 ?_
  refine y_imul Z dX6_acts_6 ?_
  refine y_istore Z [(6, .int (6 * (S 0 1))), (0, .ref (aS 0)), (1, .int w), (2, .int a), (3, .int b), (4, .int c0), (5, .int d0)] dX6_acts_7 (by decide) rfl ?_
  refine y_aload_n Z dX6_acts_9 1 rfl rfl ?_
  refine y_get (C := RX6) (T := TX6) (N := 19) Z 6 inlX6 rfl 0 rfl 3 (by decide) fl_RX6_16 rfl dX6_acts_10 ?_
  refine y_iload Z dX6_acts_13 0 rfl ?_
  refine y_aload_n Z dX6_acts_15 1 rfl rfl ?_
  refine y_get (C := RX6) (T := TX6) (N := 19) Z 6 inlX6 rfl 0 rfl 2 (by decide) fl_RX6_71 rfl dX6_acts_16 ?_
  refine y_iast Z 3 0 rfl ht0 (ix60 h_n).1 (6 * (S 0 1).toNatClampNeg) (ix60 h_n).2 (wMdR cI aS (S 0 0) (S 0 1) (S 0 2) (S 0 3) (S 0 4) (S 0 5) (S 0 6) (S 0 7) (S 0 8) (S 0 9) (S 0 10) (S 0 11) (S 0 12) (S 1) (S 2) (upd (S 3) (6 * (S 0 1).toNatClampNeg) (S 0 0)) (S 4) (S 5) (S 6)) rfl dX6_acts_19 ?_
  refine y_aload_n Z dX6_acts_20 1 rfl rfl ?_
  refine y_get (C := RX6) (T := TX6) (N := 19) Z 6 inlX6 rfl 0 rfl 3 (by decide) fl_RX6_16 rfl dX6_acts_21 ?_
  refine y_iload Z dX6_acts_24 0 rfl ?_
  refine y_iconst (v := 1) Z dX6_acts_26 (by decide) ?_
  refine y_iadd Z dX6_acts_27 ?_
  refine y_iload_n Z dX6_acts_28 2 rfl rfl ?_
  refine y_iast Z 3 0 rfl ht0 (ix6 h_n 1 (by decide)).1 (6 * (S 0 1).toNatClampNeg + 1) (ix6 h_n 1 (by decide)).2 (wMdR cI aS (S 0 0) (S 0 1) (S 0 2) (S 0 3) (S 0 4) (S 0 5) (S 0 6) (S 0 7) (S 0 8) (S 0 9) (S 0 10) (S 0 11) (S 0 12) (S 1) (S 2) (upd (upd (S 3) (6 * (S 0 1).toNatClampNeg) (S 0 0)) (6 * (S 0 1).toNatClampNeg + 1) w) (S 4) (S 5) (S 6)) rfl dX6_acts_29 ?_
  refine y_aload_n Z dX6_acts_30 1 rfl rfl ?_
  refine y_get (C := RX6) (T := TX6) (N := 19) Z 6 inlX6 rfl 0 rfl 3 (by decide) fl_RX6_16 rfl dX6_acts_31 ?_
  refine y_iload Z dX6_acts_34 0 rfl ?_
  refine y_iconst (v := 2) Z dX6_acts_36 (by decide) ?_
  refine y_iadd Z dX6_acts_37 ?_
  refine y_iload_n Z dX6_acts_38 3 rfl rfl ?_
  refine y_iast Z 3 0 rfl ht0 (ix6 h_n 2 (by decide)).1 (6 * (S 0 1).toNatClampNeg + 2) (ix6 h_n 2 (by decide)).2 (wMdR cI aS (S 0 0) (S 0 1) (S 0 2) (S 0 3) (S 0 4) (S 0 5) (S 0 6) (S 0 7) (S 0 8) (S 0 9) (S 0 10) (S 0 11) (S 0 12) (S 1) (S 2) (upd (upd (upd (S 3) (6 * (S 0 1).toNatClampNeg) (S 0 0)) (6 * (S 0 1).toNatClampNeg + 1) w) (6 * (S 0 1).toNatClampNeg + 2) a) (S 4) (S 5) (S 6)) rfl dX6_acts_39 ?_
  refine y_aload_n Z dX6_acts_40 1 rfl rfl ?_
  refine y_get (C := RX6) (T := TX6) (N := 19) Z 6 inlX6 rfl 0 rfl 3 (by decide) fl_RX6_16 rfl dX6_acts_41 ?_
  refine y_iload Z dX6_acts_44 0 rfl ?_
  refine y_iconst (v := 3) Z dX6_acts_46 (by decide) ?_
  refine y_iadd Z dX6_acts_47 ?_
  refine y_iload_n Z dX6_acts_48 4 rfl rfl ?_
  refine y_iast Z 3 0 rfl ht0 (ix6 h_n 3 (by decide)).1 (6 * (S 0 1).toNatClampNeg + 3) (ix6 h_n 3 (by decide)).2 (wMdR cI aS (S 0 0) (S 0 1) (S 0 2) (S 0 3) (S 0 4) (S 0 5) (S 0 6) (S 0 7) (S 0 8) (S 0 9) (S 0 10) (S 0 11) (S 0 12) (S 1) (S 2) (upd (upd (upd (upd (S 3) (6 * (S 0 1).toNatClampNeg) (S 0 0)) (6 * (S 0 1).toNatClampNeg + 1) w) (6 * (S 0 1).toNatClampNeg + 2) a) (6 * (S 0 1).toNatClampNeg + 3) b) (S 4) (S 5) (S 6)) rfl dX6_acts_49 ?_
  refine y_aload_n Z dX6_acts_50 1 rfl rfl ?_
  refine y_get (C := RX6) (T := TX6) (N := 19) Z 6 inlX6 rfl 0 rfl 3 (by decide) fl_RX6_16 rfl dX6_acts_51 ?_
  refine y_iload Z dX6_acts_54 0 rfl ?_
  refine y_iconst (v := 4) Z dX6_acts_56 (by decide) ?_
  refine y_iadd Z dX6_acts_57 ?_
  refine y_iload Z dX6_acts_58 5 rfl ?_
  refine y_iast Z 3 0 rfl ht0 (ix6 h_n 4 (by decide)).1 (6 * (S 0 1).toNatClampNeg + 4) (ix6 h_n 4 (by decide)).2 (wMdR cI aS (S 0 0) (S 0 1) (S 0 2) (S 0 3) (S 0 4) (S 0 5) (S 0 6) (S 0 7) (S 0 8) (S 0 9) (S 0 10) (S 0 11) (S 0 12) (S 1) (S 2) (upd (upd (upd (upd (upd (S 3) (6 * (S 0 1).toNatClampNeg) (S 0 0)) (6 * (S 0 1).toNatClampNeg + 1) w) (6 * (S 0 1).toNatClampNeg + 2) a) (6 * (S 0 1).toNatClampNeg + 3) b) (6 * (S 0 1).toNatClampNeg + 4) c0) (S 4) (S 5) (S 6)) rfl dX6_acts_60 ?_
  refine y_aload_n Z dX6_acts_61 1 rfl rfl ?_
  refine y_get (C := RX6) (T := TX6) (N := 19) Z 6 inlX6 rfl 0 rfl 3 (by decide) fl_RX6_16 rfl dX6_acts_62 ?_
  refine y_iload Z dX6_acts_65 0 rfl ?_
  refine y_iconst (v := 5) Z dX6_acts_67 (by decide) ?_
  refine y_iadd Z dX6_acts_68 ?_
  refine y_iload Z dX6_acts_69 6 rfl ?_
  refine y_iast Z 3 0 rfl ht0 (ix6 h_n 5 (by decide)).1 (6 * (S 0 1).toNatClampNeg + 5) (ix6 h_n 5 (by decide)).2 (wMdR cI aS (S 0 0) (S 0 1) (S 0 2) (S 0 3) (S 0 4) (S 0 5) (S 0 6) (S 0 7) (S 0 8) (S 0 9) (S 0 10) (S 0 11) (S 0 12) (S 1) (S 2) (upd (upd (upd (upd (upd (upd (S 3) (6 * (S 0 1).toNatClampNeg) (S 0 0)) (6 * (S 0 1).toNatClampNeg + 1) w) (6 * (S 0 1).toNatClampNeg + 2) a) (6 * (S 0 1).toNatClampNeg + 3) b) (6 * (S 0 1).toNatClampNeg + 4) c0) (6 * (S 0 1).toNatClampNeg + 5) d0) (S 4) (S 5) (S 6)) rfl dX6_acts_71 ?_
  refine y_aload_n Z dX6_acts_72 1 rfl rfl ?_
  refine y_dup Z dX6_acts_73 rfl ?_
  refine y_get (C := RX6) (T := TX6) (N := 19) Z 6 inlX6 rfl 0 rfl 4 (by decide) fl_RX6_68 rfl dX6_acts_74 ?_
  refine y_iconst (v := 1) Z dX6_acts_77 (by decide) ?_
  refine y_iadd Z dX6_acts_78 ?_
  refine y_put (C := RX6) (T := TX6) (N := 19) Z 6 inlX6 rfl tyX6 tyX6_ok nmX6 0 rfl 4 (by decide) fl_RX6_68 rfl rfl rfl (Nat.le_of_ble_eq_true rfl) (wMdR cI aS (S 0 0) ((S 0 1) + 1) (S 0 2) (S 0 3) (S 0 4) (S 0 5) (S 0 6) (S 0 7) (S 0 8) (S 0 9) (S 0 10) (S 0 11) (S 0 12) (S 1) (S 2) (upd (upd (upd (upd (upd (upd (S 3) (6 * (S 0 1).toNatClampNeg) (S 0 0)) (6 * (S 0 1).toNatClampNeg + 1) w) (6 * (S 0 1).toNatClampNeg + 2) a) (6 * (S 0 1).toNatClampNeg + 3) b) (6 * (S 0 1).toNatClampNeg + 4) c0) (6 * (S 0 1).toNatClampNeg + 5) d0) (S 4) (S 5) (S 6)) rfl dX6_acts_79 ?_
  refine y_aload_n Z dX6_acts_82 1 rfl rfl ?_
  refine y_iload_n Z dX6_acts_83 2 rfl rfl ?_
  refine y_iload_n Z dX6_acts_84 3 rfl rfl ?_
  refine y_iload_n Z dX6_acts_85 4 rfl rfl ?_
  refine y_iload Z dX6_acts_86 5 rfl ?_
  refine y_iload Z dX6_acts_88 6 rfl ?_
  refine y_VIw Z (k_X6_does l D ht0 aS (sF (sR S 3 (upd (upd (upd (upd (upd (upd (S 3) (6 * (S 0 1).toNatClampNeg) (S 0 0)) (6 * (S 0 1).toNatClampNeg + 1) w) (6 * (S 0 1).toNatClampNeg + 2) a) (6 * (S 0 1).toNatClampNeg + 3) b) (6 * (S 0 1).toNatClampNeg + 4) c0) (6 * (S 0 1).toNatClampNeg + 5) d0)) 0 1 ((S 0 1) + 1)) w a b c0 d0 h_k) (y_cwV 5 Z ml_RX6_74 im_X6_does se_X6_does in_X6 co_X6_does rfl rfl hd_X6_does ⟨Nat.le_of_ble_eq_true rfl, Nat.le_of_ble_eq_true rfl⟩) List.nil List.nil (by simp only [List.nil_append, List.append_nil, wMix, wLog, wPic, wRep, wScr, wVM, wMd, sR_eq, sR_ne, sF_eq, sF_ne, upd_eq, upd_ne, gs_eq, gs_ne, gm_4, gm_ne, Nat.reduceBEq]) 6 0 rfl rfl rfl rfl (Nat.le_of_ble_eq_true rfl) dX6_acts_90 ⟨Nat.le_of_ble_eq_true rfl, Nat.le_of_ble_eq_true rfl⟩ (wMdR cI aS (S 0 0) ((S 0 1) + 1) (S 0 2) (S 0 3) (S 0 4) (S 0 5) (S 0 6) (S 0 7) (S 0 8) (S 0 9) (S 0 10) (S 0 11) (S 0 12) (mr_ds (S 1) w a b c0 d0) (S 2) (upd (upd (upd (upd (upd (upd (S 3) (6 * (S 0 1).toNatClampNeg) (S 0 0)) (6 * (S 0 1).toNatClampNeg + 1) w) (6 * (S 0 1).toNatClampNeg + 2) a) (6 * (S 0 1).toNatClampNeg + 3) b) (6 * (S 0 1).toNatClampNeg + 4) c0) (6 * (S 0 1).toNatClampNeg + 5) d0) (S 4) (S 5) (S 6)) (by simp only [List.nil_append, List.append_nil, wMix, wLog, wPic, wRep, wScr, wVM, wMd, sR_eq, sR_ne, sF_eq, sF_ne, upd_eq, upd_ne, gs_eq, gs_ne, gm_4, gm_ne, Nat.reduceBEq]) ?_
  refine y_eq rfl rfl (st' := [.int (mv_ds (S 1) w a b c0 d0)]) (by first | with_reducible rfl | simp only [wMix, wLog, wPic, wRep, wScr, wVM, wMd, sR_eq, sR_ne, sF_eq, sF_ne, upd_eq, upd_ne, gs_eq, gs_ne, gm_4, gm_ne, Nat.reduceBEq]) ?_
  exact y_retI Z hr hlk dX6_acts_93 (by first | (simp only [mr_la, if_true, if_false, not_false_eq_true, not_true_eq_false, ↓reduceIte]; done) | (simp only [mr_la, if_true, if_false, not_false_eq_true, not_true_eq_false, ↓reduceIte, wMix, wLog, wPic, wRep, wScr, wVM, wMd, sR_eq, sR_ne, sF_eq, sF_ne, upd_eq, upd_ne, gs_eq, gs_ne, gm_4, gm_ne, Nat.reduceBEq]; done) | (with_reducible rfl) | contradiction | (simp only [mr_la, if_true, if_false, not_false_eq_true, not_true_eq_false, ↓reduceIte]; rfl) | rfl) (by first | (simp only [mr_la, if_true, if_false, not_false_eq_true, not_true_eq_false, ↓reduceIte]; done) | (simp only [mr_la, if_true, if_false, not_false_eq_true, not_true_eq_false, ↓reduceIte, wMix, wLog, wPic, wRep, wScr, wVM, wMd, sR_eq, sR_ne, sF_eq, sF_ne, upd_eq, upd_ne, gs_eq, gs_ne, gm_4, gm_ne, Nat.reduceBEq]; done) | (with_reducible rfl) | contradiction | (simp only [mr_la, if_true, if_false, not_false_eq_true, not_true_eq_false, ↓reduceIte]; rfl) | rfl)
set_option maxHeartbeats 4000000 in
set_option maxRecDepth 100000 in
theorem k_X6_hasRoom (l : Launch) (D : va_G) {cI : ClassId} {tys : List (ClassId × FieldType)} (ht0 : tys[0]? = some (cI, .int)) (aS : Nat → Nat) (S : Nat → Nat → Int32) (sz : Nat) : kI l yX6_hasRoom cX6_hasRoom 1 (some .boolean) { frames := 0, cells := 0, slots := 0, locals := 0 } D tys [.ref (aS 0)] (wMd cI aS S) (wMd cI aS S) (mv_hr (S 0 1)) 0 0 sz := by
  refine y_enterI (cc := cX6_hasRoom) (maxL := 1) (ret := (some .boolean)) (own := RX6) (by decide) rfl (lv0 := [(0, .ref (aS 0))]) rfl (Nat.le_of_ble_eq_true rfl) ?_
  intro p e s m args below meth c A Z hr hlk _
  refine y_aload_n Z dX6_hasRoom_0 0 rfl rfl ?_
  refine y_get (C := RX6) (T := TX6) (N := 19) Z 6 inlX6 rfl 0 rfl 4 (by decide) fl_RX6_68 rfl dX6_hasRoom_1 ?_
  refine y_bipush (v := 100) Z dX6_hasRoom_4 (by decide) ?_
  refine y_icmp_ge (tgt := 13) Z dX6_hasRoom_6 (by decide) (fun h1 => ?_) (fun h2 => ?_)
  · refine y_iconst (v := 0) Z dX6_hasRoom_13 (by decide) ?_
    exact y_retZ Z hr hlk (by decide) dX6_hasRoom_14 (by first | (simp only [mv_hr, h1, if_true, if_false, not_false_eq_true, not_true_eq_false, ↓reduceIte]; done) | (simp only [mv_hr, h1, if_true, if_false, not_false_eq_true, not_true_eq_false, ↓reduceIte, wMix, wLog, wPic, wRep, wScr, wVM, wMd, sR_eq, sR_ne, sF_eq, sF_ne, upd_eq, upd_ne, gs_eq, gs_ne, gm_4, gm_ne, Nat.reduceBEq]; done) | (with_reducible rfl) | contradiction | (simp only [mv_hr, h1, if_true, if_false, not_false_eq_true, not_true_eq_false, ↓reduceIte]; rfl) | rfl) (by first | (simp only [mv_hr, h1, if_true, if_false, not_false_eq_true, not_true_eq_false, ↓reduceIte]; done) | (simp only [mv_hr, h1, if_true, if_false, not_false_eq_true, not_true_eq_false, ↓reduceIte, wMix, wLog, wPic, wRep, wScr, wVM, wMd, sR_eq, sR_ne, sF_eq, sF_ne, upd_eq, upd_ne, gs_eq, gs_ne, gm_4, gm_ne, Nat.reduceBEq]; done) | (with_reducible rfl) | contradiction | (simp only [mv_hr, h1, if_true, if_false, not_false_eq_true, not_true_eq_false, ↓reduceIte]; rfl) | rfl)
  · refine y_iconst (v := 1) Z dX6_hasRoom_9 (by decide) ?_
    refine y_goto (tgt := 14) Z dX6_hasRoom_10 (by decide) ?_
    exact y_retZ Z hr hlk (by decide) dX6_hasRoom_14 (by first | (simp only [mv_hr, h2, if_true, if_false, not_false_eq_true, not_true_eq_false, ↓reduceIte]; done) | (simp only [mv_hr, h2, if_true, if_false, not_false_eq_true, not_true_eq_false, ↓reduceIte, wMix, wLog, wPic, wRep, wScr, wVM, wMd, sR_eq, sR_ne, sF_eq, sF_ne, upd_eq, upd_ne, gs_eq, gs_ne, gm_4, gm_ne, Nat.reduceBEq]; done) | (with_reducible rfl) | contradiction | (simp only [mv_hr, h2, if_true, if_false, not_false_eq_true, not_true_eq_false, ↓reduceIte]; rfl) | rfl) (by first | (simp only [mv_hr, h2, if_true, if_false, not_false_eq_true, not_true_eq_false, ↓reduceIte]; done) | (simp only [mv_hr, h2, if_true, if_false, not_false_eq_true, not_true_eq_false, ↓reduceIte, wMix, wLog, wPic, wRep, wScr, wVM, wMd, sR_eq, sR_ne, sF_eq, sF_ne, upd_eq, upd_ne, gs_eq, gs_ne, gm_4, gm_ne, Nat.reduceBEq]; done) | (with_reducible rfl) | contradiction | (simp only [mv_hr, h2, if_true, if_false, not_false_eq_true, not_true_eq_false, ↓reduceIte]; rfl) | rfl)
