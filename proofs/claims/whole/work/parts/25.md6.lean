def mv_tl (n : Int32) : Int32 := if 120 ≤ n then 0 else 1
theorem tl_in {n : Int32} (h0 : ¬ n < 0) (h : ¬ mv_tl n = 0) : vp_in n 120 := by
  rcases pk_ix n (n := 120) (by decide) with h1 | h1 | ⟨j, hj, rfl⟩
  · exact absurd h1 h0
  · exact absurd (by unfold mv_tl; rw [if_pos (show 120 ≤ n from h1)]) h
  · exact vp_in_nI hj (by decide)
def mv_he (T : Nat → Int32) (L p : Int32) : Int32 := if L ≤ p then -1 else T (cl p)
theorem he_in {L p : Int32} (hL : L ≤ 120) (h0 : ¬ p < 0) (h : ¬ L ≤ p) : vp_in p 120 := by
  rcases pk_ix p (n := 120) (by decide) with h1 | h1 | ⟨j, hj, rfl⟩
  · exact absurd h1 h0
  · exact absurd (Int32.le_trans hL h1) h
  · exact vp_in_nI hj (by decide)
def mv_eq (a b : Int32) : Int32 := if a = b then 1 else 0
theorem mv_eq01 (a b : Int32) : mv_eq a b = 0 ∨ mv_eq a b = 1 := ite01 (Or.inr rfl) (Or.inl rfl)
def mv_fv (is he : Int32) : Int32 := if is = 0 then -1 else he - 48
def mv_fi (T : Nat → Int32) (L p mo : Int32) : Int32 := mv_in (Int32.toInt64 (mv_he T L p)) 48 (Int32.toInt64 (48 + mo))
def mv_fg (T : Nat → Int32) (L p mo : Int32) : Int32 := mv_fv (mv_fi T L p mo) (mv_he T L p)
def mv_fp (T : Nat → Int32) (L p mo : Int32) : Int32 := p + nzF (mv_fi T L p mo)
def mv_dg (T : Nat → Int32) (L p : Int32) : Int32 := mv_in (Int32.toInt64 (mv_he T L p)) 48 57
def rdC (T : Nat → Int32) (L b f : Int32) (x : Int32 × Int32) : Bool := if mv_dg T L x.2 = 0 then false else if b + f ≤ x.2 then false else true
def rdB (T : Nat → Int32) (L : Int32) (x : Int32 × Int32) : Int32 × Int32 := (10 * x.1 + mv_he T L x.2 - 48, x.2 + 1)
def rdX (T : Nat → Int32) (L b f : Int32) : Int32 × Int32 := lw (rdC T L b f) (rdB T L) 5 (0, b)
def mv_rr (T : Nat → Int32) (L b f lo hi : Int32) : Int32 := if (rdX T L b f).2 = b then 0 else if mv_dg T L (rdX T L b f).2 = 0 then mv_in (Int32.toInt64 (rdX T L b f).1) (Int32.toInt64 lo) (Int32.toInt64 hi) else 0
def mv_sl (a b c : Int32) : Int32 := if a = 0 then b else c
def mv_rp (T : Nat → Int32) (L b f lo hi : Int32) : Int32 := if (rdX T L b f).2 = b then (rdX T L b f).2 else if mv_dg T L (rdX T L b f).2 = 0 then mv_sl (mv_in (Int32.toInt64 (rdX T L b f).1) (Int32.toInt64 lo) (Int32.toInt64 hi)) b (rdX T L b f).2 else (rdX T L b f).2
theorem dg_lt {T : Nat → Int32} {L p : Int32} (h : ¬ mv_dg T L p = 0) : ¬ L ≤ p := fun e => h (by
  unfold mv_dg mv_he
  rw [if_pos e]
  decide)
theorem rd_dg {T : Nat → Int32} {L b f : Int32} {x : Int32 × Int32} (h : rdC T L b f x = true) : ¬ mv_dg T L x.2 = 0 := fun e => by unfold rdC at h; rw [if_pos e] at h; cases h
theorem rd_bf {T : Nat → Int32} {L b f : Int32} {x : Int32 × Int32} (h : rdC T L b f x = true) : ¬ b + f ≤ x.2 := fun e => by unfold rdC at h; rw [if_neg (rd_dg (by unfold rdC; exact h)), if_pos e] at h; cases h
theorem rd_p1 {T : Nat → Int32} {L p : Int32} (hL : L ≤ 120) (h0 : ¬ p < 0) (h : ¬ L ≤ p) : ¬ p + 1 < 0 ∧ p + 1 ≤ L := by
  obtain ⟨j, hj, rfl⟩ := vp_in_of (he_in hL h0 h) (by decide)
  rw [nI_1]
  refine ⟨nI_pos (by omega), ?_⟩
  rcases pk_ix L (n := 121) (by decide) with h1 | h1 | ⟨i, hi, rfl⟩
  · exact absurd (Int32.le_of_lt (Int32.lt_of_lt_of_le h1 (nI_pos' (by omega)))) h
  · exact absurd (Int32.le_trans h1 hL) (by decide)
  · refine nI_le ?_ (by omega)
    rcases Nat.lt_or_ge j i with q | q
    · exact q
    · exact absurd (nI_le q (by omega)) h
theorem rd_stop (T : Nat → Int32) {L b f : Int32} (hL : L ≤ 120) (h0 : ¬ b < 0) (hf : vp_in f 5) : rdC T L b f (rdX T L b f) = false := by
  cases hc0 : rdC T L b f (0, b) with
  | false => unfold rdX; rw [lw_f hc0]; exact hc0
  | true =>
    have hb := he_in (p := b) hL h0 (dg_lt (T := T) (rd_dg (x := (0, b)) hc0))
    obtain ⟨p, hp, rfl⟩ := vp_in_of hb (by decide)
    obtain ⟨j, hj, rfl⟩ := vp_in_of hf (by decide)
    have key : ∀ x : Int32 × Int32, (∃ q : Nat, q ≤ j ∧ x.2 = nI (p + q)) → rdC T L (nI p) (nI j) x = true → ∃ q : Nat, q < j ∧ x.2 = nI (p + q) := by
      intro x ⟨q, hq, e⟩ hc
      rcases Nat.lt_or_ge q j with h | h
      · exact ⟨q, h, e⟩
      · exfalso
        have : q = j := by omega
        subst this
        have := rd_bf hc
        rw [e, nI_add] at this
        exact this (nI_le (Nat.le_refl _) (by omega))
    refine lw_stop (fun x => ∃ q : Nat, q ≤ j ∧ x.2 = nI (p + q)) (fun x => p + j - x.2.toNatClampNeg) ?_ ?_ 5 _ ⟨0, by omega, rfl⟩ (by show p + j - (nI p).toNatClampNeg < 5; rw [nI_clamp (by omega)]; omega)
    · intro x hx hc
      obtain ⟨q, hq, e⟩ := key x hx hc
      exact ⟨q + 1, by omega, by show x.2 + 1 = _; rw [e, nI_1]; rfl⟩
    · intro x hx hc
      obtain ⟨q, hq, e⟩ := key x hx hc
      show p + j - (x.2 + 1).toNatClampNeg < p + j - x.2.toNatClampNeg
      rw [e, nI_1, nI_clamp (by omega), nI_clamp (by omega)]
      omega
theorem rd_in {T : Nat → Int32} {L b f : Int32} (hL : L ≤ 120) : ∀ (n : Nat) (x : Int32 × Int32), ¬ x.2 < 0 ∧ (x.2 ≤ L ∨ x.2 = b) → ¬ (lw (rdC T L b f) (rdB T L) n x).2 < 0 ∧ ((lw (rdC T L b f) (rdB T L) n x).2 ≤ L ∨ (lw (rdC T L b f) (rdB T L) n x).2 = b)
  | 0, x, h => h
  | n + 1, x, h => by
    cases hc : rdC T L b f x with
    | false => rw [lw_f hc]; exact h
    | true =>
      rw [lw_t hc]
      have q := rd_p1 (T := T) hL h.1 (dg_lt (rd_dg hc))
      exact rd_in hL n _ ⟨q.1, Or.inl q.2⟩
theorem rp_in {T : Nat → Int32} {L b f : Int32} (lo hi : Int32) (hL : L ≤ 120) (h0 : ¬ b < 0) (hb : b ≤ L) : ¬ mv_rp T L b f lo hi < 0 ∧ mv_rp T L b f lo hi ≤ L := by
  have h := rd_in (T := T) (f := f) (b := b) hL 5 (0, b) ⟨h0, Or.inl hb⟩
  have h2 : ¬ (rdX T L b f).2 < 0 ∧ (rdX T L b f).2 ≤ L := ⟨h.1, h.2.elim id (fun e => by unfold rdX; rw [e]; exact hb)⟩
  unfold mv_rp mv_sl
  split
  · exact h2
  · split
    · split
      · exact ⟨h0, hb⟩
      · exact h2
    · exact h2
theorem rp_nn {T : Nat → Int32} {L b f : Int32} (lo hi : Int32) (hL : L ≤ 120) (h0 : ¬ b < 0) : ¬ mv_rp T L b f lo hi < 0 := by
  have h := rd_in (T := T) (f := f) (b := b) hL 5 (0, b) ⟨h0, Or.inr rfl⟩
  unfold mv_rp mv_sl
  split
  · exact h.1
  · split
    · split
      · exact h0
      · exact h.1
    · exact h.1
theorem fi_lt {T : Nat → Int32} {L p mo : Int32} (h : ¬ mv_fi T L p mo = 0) : ¬ L ≤ p := fun e => h (by
  unfold mv_fi mv_he
  rw [if_pos e]
  unfold mv_in
  exact if_pos (by decide))
theorem fp_in {T : Nat → Int32} {L p : Int32} (mo : Int32) (hL : L ≤ 120) (h0 : ¬ p < 0) (h : p ≤ L) : ¬ mv_fp T L p mo < 0 ∧ mv_fp T L p mo ≤ L := by
  unfold mv_fp nzF
  split
  · rw [Int32.add_zero]; exact ⟨h0, h⟩
  · rename_i q
    exact rd_p1 (T := T) hL h0 (fi_lt q)
set_option maxHeartbeats 4000000 in
set_option maxRecDepth 100000 in
theorem k_X6_append (l : Launch) (D : va_G) {cI : ClassId} {tys : List (ClassId × FieldType)} (ht0 : tys[0]? = some (cI, .int)) (aS : Nat → Nat) (S : Nat → Nat → Int32) (v : Int32) (h_nn : ¬ (S 0 8) < 0) (sz : Nat) : kI l yX6_append cX6_append 2 (some .int) { frames := 1, cells := 0, slots := 0, locals := 25 } D tys [.ref (aS 0), .int v] (wMd cI aS S) (wMdR cI aS (S 0 0) (S 0 1) (mv_gf (mv_in (Int32.toInt64 v) 0 127) (mv_tl (S 0 8)) 1) (S 0 3) (S 0 4) (S 0 5) (S 0 6) (S 0 7) (if mv_go (mv_in (Int32.toInt64 v) 0 127) (mv_tl (S 0 8)) 1 = 0 then (S 0 8) else (S 0 8) + 1) (S 0 9) (S 0 10) (S 0 11) (S 0 12) (S 1) (S 2) (S 3) (S 4) (S 5) (if mv_go (mv_in (Int32.toInt64 v) 0 127) (mv_tl (S 0 8)) 1 = 0 then (S 6) else upd (S 6) (cl (S 0 8)) v)) (if mv_go (mv_in (Int32.toInt64 v) 0 127) (mv_tl (S 0 8)) 1 = 0 then 0 else (S 0 8) + 1) 0 0 sz := by
  refine y_enterI (cc := cX6_append) (maxL := 2) (ret := (some .int)) (own := RX6) (by decide) rfl (lv0 := [(0, .ref (aS 0)), (1, .int v)]) rfl (Nat.le_of_ble_eq_true rfl) ?_
  intro p e s m args below meth c A Z hr hlk _
  refine y_aload_n Z dX6_append_0 0 rfl rfl ?_
  refine y_iload_n Z dX6_append_1 1 rfl rfl ?_
  refine y_i2l Z dX6_append_2 ?_
  refine y_lconst (v := 0) Z dX6_append_3 (by decide) ?_
  refine y_ldc2 Z (127) ct_RX6_182 dX6_append_4 ?_
  refine y_SI Z (k_X6_in l D ht0 (Int32.toInt64 v) 0 127) (y_cwS 3 Z ml_RX6_37 st_X6_in in_X6 co_X6_in rfl rfl hs_X6_in ⟨Nat.le_of_ble_eq_true rfl, Nat.le_of_ble_eq_true rfl⟩) [] rfl (by decide) rfl rfl (Nat.le_of_ble_eq_true rfl) dX6_append_7 ⟨Nat.le_of_ble_eq_true rfl, Nat.le_of_ble_eq_true rfl⟩ [] rfl rfl (wMd cI aS S) rfl ?_
  have hJ1 : Yy p l e { frames := 1, cells := 0, slots := 0, locals := 25 } s m args below meth c (QI D tys A (wMdR cI aS (S 0 0) (S 0 1) (mv_gf (mv_in (Int32.toInt64 v) 0 127) (mv_tl (S 0 8)) 1) (S 0 3) (S 0 4) (S 0 5) (S 0 6) (S 0 7) (if mv_go (mv_in (Int32.toInt64 v) 0 127) (mv_tl (S 0 8)) 1 = 0 then (S 0 8) else (S 0 8) + 1) (S 0 9) (S 0 10) (S 0 11) (S 0 12) (S 1) (S 2) (S 3) (S 4) (S 5) (if mv_go (mv_in (Int32.toInt64 v) 0 127) (mv_tl (S 0 8)) 1 = 0 then (S 6) else upd (S 6) (cl (S 0 8)) v)) (if mv_go (mv_in (Int32.toInt64 v) 0 127) (mv_tl (S 0 8)) 1 = 0 then 0 else (S 0 8) + 1) below args s 0 0) D A 2 0 0 (wMd cI aS S) [(0, .ref (aS 0)), (1, .int v)] [.int (mv_tl (S 0 8)), .int (mv_in (Int32.toInt64 v) 0 127), .ref (aS 0)] 24 := by
    refine y_iconst (v := 1) Z dX6_append_24 (by decide) ?_
    refine y_VIw Z (k_X6_goes l D ht0 aS S (mv_in (Int32.toInt64 v) 0 127) (mv_tl (S 0 8)) 1) (y_cwV 3 Z ml_RX6_84 im_X6_goes se_X6_goes in_X6 co_X6_goes rfl rfl hd_X6_goes ⟨Nat.le_of_ble_eq_true rfl, Nat.le_of_ble_eq_true rfl⟩) List.nil List.nil (by simp only [List.nil_append, List.append_nil, wMix, wLog, wPic, wRep, wScr, wVM, wMd, sR_eq, sR_ne, sF_eq, sF_ne, upd_eq, upd_ne, gs_eq, gs_ne, gm_4, gm_ne, Nat.reduceBEq]) 6 0 rfl rfl rfl rfl (Nat.le_of_ble_eq_true rfl) dX6_append_25 ⟨Nat.le_of_ble_eq_true rfl, Nat.le_of_ble_eq_true rfl⟩ (wMdR cI aS (S 0 0) (S 0 1) (mv_gf (mv_in (Int32.toInt64 v) 0 127) (mv_tl (S 0 8)) 1) (S 0 3) (S 0 4) (S 0 5) (S 0 6) (S 0 7) (S 0 8) (S 0 9) (S 0 10) (S 0 11) (S 0 12) (S 1) (S 2) (S 3) (S 4) (S 5) (S 6)) (by simp only [List.nil_append, List.append_nil, wMix, wLog, wPic, wRep, wScr, wVM, wMd, sR_eq, sR_ne, sF_eq, sF_ne, upd_eq, upd_ne, gs_eq, gs_ne, gm_4, gm_ne, Nat.reduceBEq]) ?_
    refine y_eq rfl rfl (st' := [.int (mv_go (mv_in (Int32.toInt64 v) 0 127) (mv_tl (S 0 8)) 1)]) (by first | with_reducible rfl | simp only [wMix, wLog, wPic, wRep, wScr, wVM, wMd, sR_eq, sR_ne, sF_eq, sF_ne, upd_eq, upd_ne, gs_eq, gs_ne, gm_4, gm_ne, Nat.reduceBEq]) ?_
    refine y_if_ne (tgt := 33) Z dX6_append_28 (by decide) (fun h2 => ?_) (fun h3 => ?_)
    · refine y_aload_n Z dX6_append_33 0 rfl rfl ?_
      refine y_get (C := RX6) (T := TX6) (N := 19) Z 6 inlX6 rfl 0 rfl 13 (by decide) fl_RX6_25 rfl dX6_append_34 ?_
      refine y_aload_n Z dX6_append_37 0 rfl rfl ?_
      refine y_get (C := RX6) (T := TX6) (N := 19) Z 6 inlX6 rfl 0 rfl 14 (by decide) fl_RX6_184 rfl dX6_append_38 ?_
      refine y_iload_n Z dX6_append_41 1 rfl rfl ?_
      refine y_iast Z 6 0 rfl ht0 (tl_in h_nn (go_b h2)) (cl (S 0 8)) rfl (wMdR cI aS (S 0 0) (S 0 1) (mv_gf (mv_in (Int32.toInt64 v) 0 127) (mv_tl (S 0 8)) 1) (S 0 3) (S 0 4) (S 0 5) (S 0 6) (S 0 7) (S 0 8) (S 0 9) (S 0 10) (S 0 11) (S 0 12) (S 1) (S 2) (S 3) (S 4) (S 5) (upd (S 6) (cl (S 0 8)) v)) rfl dX6_append_42 ?_
      refine y_aload_n Z dX6_append_43 0 rfl rfl ?_
      refine y_dup Z dX6_append_44 rfl ?_
      refine y_get (C := RX6) (T := TX6) (N := 19) Z 6 inlX6 rfl 0 rfl 14 (by decide) fl_RX6_184 rfl dX6_append_45 ?_
      refine y_iconst (v := 1) Z dX6_append_48 (by decide) ?_
      refine y_iadd Z dX6_append_49 ?_
      refine y_put (C := RX6) (T := TX6) (N := 19) Z 6 inlX6 rfl tyX6 tyX6_ok nmX6 0 rfl 14 (by decide) fl_RX6_184 rfl rfl rfl (Nat.le_of_ble_eq_true rfl) (wMdR cI aS (S 0 0) (S 0 1) (mv_gf (mv_in (Int32.toInt64 v) 0 127) (mv_tl (S 0 8)) 1) (S 0 3) (S 0 4) (S 0 5) (S 0 6) (S 0 7) ((S 0 8) + 1) (S 0 9) (S 0 10) (S 0 11) (S 0 12) (S 1) (S 2) (S 3) (S 4) (S 5) (upd (S 6) (cl (S 0 8)) v)) rfl dX6_append_50 ?_
      refine y_aload_n Z dX6_append_53 0 rfl rfl ?_
      refine y_get (C := RX6) (T := TX6) (N := 19) Z 6 inlX6 rfl 0 rfl 14 (by decide) fl_RX6_184 rfl dX6_append_54 ?_
      exact y_retI Z hr hlk dX6_append_57 (by first | (simp only [h2, if_true, if_false, not_false_eq_true, not_true_eq_false, ↓reduceIte]; done) | (simp only [h2, if_true, if_false, not_false_eq_true, not_true_eq_false, ↓reduceIte, wMix, wLog, wPic, wRep, wScr, wVM, wMd, sR_eq, sR_ne, sF_eq, sF_ne, upd_eq, upd_ne, gs_eq, gs_ne, gm_4, gm_ne, Nat.reduceBEq]; done) | (with_reducible rfl) | contradiction | (simp only [h2, if_true, if_false, not_false_eq_true, not_true_eq_false, ↓reduceIte]; rfl) | rfl) (by first | (simp only [h2, if_true, if_false, not_false_eq_true, not_true_eq_false, ↓reduceIte]; done) | (simp only [h2, if_true, if_false, not_false_eq_true, not_true_eq_false, ↓reduceIte, wMix, wLog, wPic, wRep, wScr, wVM, wMd, sR_eq, sR_ne, sF_eq, sF_ne, upd_eq, upd_ne, gs_eq, gs_ne, gm_4, gm_ne, Nat.reduceBEq]; done) | (with_reducible rfl) | contradiction | (simp only [h2, if_true, if_false, not_false_eq_true, not_true_eq_false, ↓reduceIte]; rfl) | rfl)
    · refine y_iconst (v := 0) Z dX6_append_31 (by decide) ?_
      exact y_retI Z hr hlk dX6_append_32 (by first | (simp only [eq_true h3, if_true, if_false, not_false_eq_true, not_true_eq_false, ↓reduceIte]; done) | (simp only [eq_true h3, if_true, if_false, not_false_eq_true, not_true_eq_false, ↓reduceIte, wMix, wLog, wPic, wRep, wScr, wVM, wMd, sR_eq, sR_ne, sF_eq, sF_ne, upd_eq, upd_ne, gs_eq, gs_ne, gm_4, gm_ne, Nat.reduceBEq]; done) | (with_reducible rfl) | contradiction | (simp only [eq_true h3, if_true, if_false, not_false_eq_true, not_true_eq_false, ↓reduceIte]; rfl) | rfl) (by first | (simp only [eq_true h3, if_true, if_false, not_false_eq_true, not_true_eq_false, ↓reduceIte]; done) | (simp only [eq_true h3, if_true, if_false, not_false_eq_true, not_true_eq_false, ↓reduceIte, wMix, wLog, wPic, wRep, wScr, wVM, wMd, sR_eq, sR_ne, sF_eq, sF_ne, upd_eq, upd_ne, gs_eq, gs_ne, gm_4, gm_ne, Nat.reduceBEq]; done) | (with_reducible rfl) | contradiction | (simp only [eq_true h3, if_true, if_false, not_false_eq_true, not_true_eq_false, ↓reduceIte]; rfl) | rfl)
  refine y_aload_n Z dX6_append_10 0 rfl rfl ?_
  refine y_get (C := RX6) (T := TX6) (N := 19) Z 6 inlX6 rfl 0 rfl 14 (by decide) fl_RX6_184 rfl dX6_append_11 ?_
  refine y_bipush (v := 120) Z dX6_append_14 (by decide) ?_
  refine y_icmp_ge (tgt := 23) Z dX6_append_16 (by decide) (fun h4 => ?_) (fun h5 => ?_)
  · refine y_iconst (v := 0) Z dX6_append_23 (by decide) ?_
    exact y_eq rfl rfl (st' := [.int (mv_tl (S 0 8)), .int (mv_in (Int32.toInt64 v) 0 127), .ref (aS 0)]) (by first | (simp only [mv_tl, h4, if_true, if_false, not_false_eq_true, not_true_eq_false, ↓reduceIte]; done) | (simp only [mv_tl, h4, if_true, if_false, not_false_eq_true, not_true_eq_false, ↓reduceIte, wMix, wLog, wPic, wRep, wScr, wVM, wMd, sR_eq, sR_ne, sF_eq, sF_ne, upd_eq, upd_ne, gs_eq, gs_ne, gm_4, gm_ne, Nat.reduceBEq]; done) | (with_reducible rfl) | contradiction | (simp only [mv_tl, h4, if_true, if_false, not_false_eq_true, not_true_eq_false, ↓reduceIte]; rfl) | rfl) hJ1
  · refine y_iconst (v := 1) Z dX6_append_19 (by decide) ?_
    refine y_goto (tgt := 24) Z dX6_append_20 (by decide) ?_
    exact y_eq rfl rfl (st' := [.int (mv_tl (S 0 8)), .int (mv_in (Int32.toInt64 v) 0 127), .ref (aS 0)]) (by first | (simp only [mv_tl, h5, if_true, if_false, not_false_eq_true, not_true_eq_false, ↓reduceIte]; done) | (simp only [mv_tl, h5, if_true, if_false, not_false_eq_true, not_true_eq_false, ↓reduceIte, wMix, wLog, wPic, wRep, wScr, wVM, wMd, sR_eq, sR_ne, sF_eq, sF_ne, upd_eq, upd_ne, gs_eq, gs_ne, gm_4, gm_ne, Nat.reduceBEq]; done) | (with_reducible rfl) | contradiction | (simp only [mv_tl, h5, if_true, if_false, not_false_eq_true, not_true_eq_false, ↓reduceIte]; rfl) | rfl) hJ1
set_option maxHeartbeats 4000000 in
set_option maxRecDepth 100000 in
theorem k_X6_clearText (l : Launch) (D : va_G) {cI : ClassId} {tys : List (ClassId × FieldType)} (ht0 : tys[0]? = some (cI, .int)) (aS : Nat → Nat) (S : Nat → Nat → Int32) (sz : Nat) : kI l yX6_clearText cX6_clearText 2 (some .int) { frames := 0, cells := 0, slots := 0, locals := 0 } D tys [.ref (aS 0)] (wMd cI aS S) (wMdR cI aS (S 0 0) (S 0 1) 0 (S 0 3) (S 0 4) (S 0 5) (S 0 6) (S 0 7) 0 (S 0 9) (S 0 10) (S 0 11) (S 0 12) (S 1) (S 2) (S 3) (S 4) (S 5) (S 6)) (S 0 8) 0 0 sz := by
  refine y_enterI (cc := cX6_clearText) (maxL := 2) (ret := (some .int)) (own := RX6) (by decide) rfl (lv0 := [(0, .ref (aS 0))]) rfl (Nat.le_of_ble_eq_true rfl) ?_
  intro p e s m args below meth c A Z hr hlk _
  refine y_aload_n Z dX6_clearText_0 0 rfl rfl ?_
  refine y_iconst (v := 0) Z dX6_clearText_1 (by decide) ?_
  refine y_put (C := RX6) (T := TX6) (N := 19) Z 6 inlX6 rfl tyX6 tyX6_ok nmX6 0 rfl 5 (by decide) fl_RX6_31 rfl rfl rfl (Nat.le_of_ble_eq_true rfl) (wMdR cI aS (S 0 0) (S 0 1) 0 (S 0 3) (S 0 4) (S 0 5) (S 0 6) (S 0 7) (S 0 8) (S 0 9) (S 0 10) (S 0 11) (S 0 12) (S 1) (S 2) (S 3) (S 4) (S 5) (S 6)) rfl dX6_clearText_2 ?_
  refine y_aload_n Z dX6_clearText_5 0 rfl rfl ?_
  refine y_get (C := RX6) (T := TX6) (N := 19) Z 6 inlX6 rfl 0 rfl 14 (by decide) fl_RX6_184 rfl dX6_clearText_6 ?_
  refine y_istore_n Z [(1, .int (S 0 8)), (0, .ref (aS 0))] dX6_clearText_9 rfl (by decide) rfl ?_
  refine y_aload_n Z dX6_clearText_10 1 rfl rfl ?_
  refine y_iconst (v := 0) Z dX6_clearText_11 (by decide) ?_
  refine y_put (C := RX6) (T := TX6) (N := 19) Z 6 inlX6 rfl tyX6 tyX6_ok nmX6 0 rfl 14 (by decide) fl_RX6_184 rfl rfl rfl (Nat.le_of_ble_eq_true rfl) (wMdR cI aS (S 0 0) (S 0 1) 0 (S 0 3) (S 0 4) (S 0 5) (S 0 6) (S 0 7) 0 (S 0 9) (S 0 10) (S 0 11) (S 0 12) (S 1) (S 2) (S 3) (S 4) (S 5) (S 6)) rfl dX6_clearText_12 ?_
  refine y_iload_n Z dX6_clearText_15 0 rfl rfl ?_
  exact y_retI Z hr hlk dX6_clearText_16 (by first | (with_reducible rfl) | (simp only [wMix, wLog, wPic, wRep, wScr, wVM, wMd, sR_eq, sR_ne, sF_eq, sF_ne, upd_eq, upd_ne, gs_eq, gs_ne, gm_4, gm_ne, Nat.reduceBEq]; done) | rfl) (by first | (with_reducible rfl) | (simp only [wMix, wLog, wPic, wRep, wScr, wVM, wMd, sR_eq, sR_ne, sF_eq, sF_ne, upd_eq, upd_ne, gs_eq, gs_ne, gm_4, gm_ne, Nat.reduceBEq]; done) | rfl)
set_option maxHeartbeats 4000000 in
set_option maxRecDepth 100000 in
theorem k_X6_here (l : Launch) (D : va_G) {cI : ClassId} {tys : List (ClassId × FieldType)} (ht0 : tys[0]? = some (cI, .int)) (aS : Nat → Nat) (S : Nat → Nat → Int32) (h_l : (S 0 8) ≤ 120) (h_p : ¬ (S 0 9) < 0) (sz : Nat) : kI l yX6_here cX6_here 1 (some .int) { frames := 0, cells := 0, slots := 0, locals := 0 } D tys [.ref (aS 0)] (wMd cI aS S) (wMd cI aS S) (mv_he (S 6) (S 0 8) (S 0 9)) 0 0 sz := by
  refine y_enterI (cc := cX6_here) (maxL := 1) (ret := (some .int)) (own := RX6) (by decide) rfl (lv0 := [(0, .ref (aS 0))]) rfl (Nat.le_of_ble_eq_true rfl) ?_
  intro p e s m args below meth c A Z hr hlk _
  refine y_aload_n Z dX6_here_0 0 rfl rfl ?_
  refine y_get (C := RX6) (T := TX6) (N := 19) Z 6 inlX6 rfl 0 rfl 15 (by decide) fl_RX6_187 rfl dX6_here_1 ?_
  refine y_aload_n Z dX6_here_4 0 rfl rfl ?_
  refine y_get (C := RX6) (T := TX6) (N := 19) Z 6 inlX6 rfl 0 rfl 14 (by decide) fl_RX6_184 rfl dX6_here_5 ?_
  refine y_icmp_ge (tgt := 23) Z dX6_here_8 (by decide) (fun h1 => ?_) (fun h2 => ?_)
  · refine y_iconst (v := -1) Z dX6_here_23 (by decide) ?_
    exact y_retI Z hr hlk dX6_here_24 (by first | (simp only [mv_he, h1, if_true, if_false, not_false_eq_true, not_true_eq_false, ↓reduceIte]; done) | (simp only [mv_he, h1, if_true, if_false, not_false_eq_true, not_true_eq_false, ↓reduceIte, wMix, wLog, wPic, wRep, wScr, wVM, wMd, sR_eq, sR_ne, sF_eq, sF_ne, upd_eq, upd_ne, gs_eq, gs_ne, gm_4, gm_ne, Nat.reduceBEq]; done) | (with_reducible rfl) | contradiction | (simp only [mv_he, h1, if_true, if_false, not_false_eq_true, not_true_eq_false, ↓reduceIte]; rfl) | rfl) (by first | (simp only [mv_he, h1, if_true, if_false, not_false_eq_true, not_true_eq_false, ↓reduceIte]; done) | (simp only [mv_he, h1, if_true, if_false, not_false_eq_true, not_true_eq_false, ↓reduceIte, wMix, wLog, wPic, wRep, wScr, wVM, wMd, sR_eq, sR_ne, sF_eq, sF_ne, upd_eq, upd_ne, gs_eq, gs_ne, gm_4, gm_ne, Nat.reduceBEq]; done) | (with_reducible rfl) | contradiction | (simp only [mv_he, h1, if_true, if_false, not_false_eq_true, not_true_eq_false, ↓reduceIte]; rfl) | rfl)
  · refine y_aload_n Z dX6_here_11 0 rfl rfl ?_
    refine y_get (C := RX6) (T := TX6) (N := 19) Z 6 inlX6 rfl 0 rfl 13 (by decide) fl_RX6_25 rfl dX6_here_12 ?_
    refine y_aload_n Z dX6_here_15 0 rfl rfl ?_
    refine y_get (C := RX6) (T := TX6) (N := 19) Z 6 inlX6 rfl 0 rfl 15 (by decide) fl_RX6_187 rfl dX6_here_16 ?_
    refine y_iald Z 6 0 rfl ht0 (he_in h_l h_p (by assumption)) (cl (S 0 9)) rfl dX6_here_19 ?_
    refine y_goto (tgt := 24) Z dX6_here_20 (by decide) ?_
    exact y_retI Z hr hlk dX6_here_24 (by first | (simp only [mv_he, h2, if_true, if_false, not_false_eq_true, not_true_eq_false, ↓reduceIte]; done) | (simp only [mv_he, h2, if_true, if_false, not_false_eq_true, not_true_eq_false, ↓reduceIte, wMix, wLog, wPic, wRep, wScr, wVM, wMd, sR_eq, sR_ne, sF_eq, sF_ne, upd_eq, upd_ne, gs_eq, gs_ne, gm_4, gm_ne, Nat.reduceBEq]; done) | (with_reducible rfl) | contradiction | (simp only [mv_he, h2, if_true, if_false, not_false_eq_true, not_true_eq_false, ↓reduceIte]; rfl) | rfl) (by first | (simp only [mv_he, h2, if_true, if_false, not_false_eq_true, not_true_eq_false, ↓reduceIte]; done) | (simp only [mv_he, h2, if_true, if_false, not_false_eq_true, not_true_eq_false, ↓reduceIte, wMix, wLog, wPic, wRep, wScr, wVM, wMd, sR_eq, sR_ne, sF_eq, sF_ne, upd_eq, upd_ne, gs_eq, gs_ne, gm_4, gm_ne, Nat.reduceBEq]; done) | (with_reducible rfl) | contradiction | (simp only [mv_he, h2, if_true, if_false, not_false_eq_true, not_true_eq_false, ↓reduceIte]; rfl) | rfl)
set_option maxHeartbeats 4000000 in
set_option maxRecDepth 100000 in
theorem k_X6_passesByte (l : Launch) (D : va_G) {cI : ClassId} {tys : List (ClassId × FieldType)} (ht0 : tys[0]? = some (cI, .int)) (aS : Nat → Nat) (S : Nat → Nat → Int32) (g : Int32) (h_l : (S 0 8) ≤ 120) (h_p : ¬ (S 0 9) < 0) (sz : Nat) : kI l yX6_passesByte cX6_passesByte 3 (some .boolean) { frames := 1, cells := 0, slots := 0, locals := 20 } D tys [.ref (aS 0), .int g] (wMd cI aS S) (wMdR cI aS (S 0 0) (S 0 1) (S 0 2) (S 0 3) (S 0 4) (S 0 5) (S 0 6) (S 0 7) (S 0 8) ((S 0 9) + nzF (mv_eq (mv_he (S 6) (S 0 8) (S 0 9)) g)) (S 0 10) (S 0 11) (S 0 12) (S 1) (S 2) (S 3) (S 4) (S 5) (S 6)) (mv_eq (mv_he (S 6) (S 0 8) (S 0 9)) g) 0 0 sz := by
  refine y_enterI (cc := cX6_passesByte) (maxL := 3) (ret := (some .boolean)) (own := RX6) (by decide) rfl (lv0 := [(0, .ref (aS 0)), (1, .int g)]) rfl (Nat.le_of_ble_eq_true rfl) ?_
  intro p e s m args below meth c A Z hr hlk _
  refine y_aload_n Z dX6_passesByte_0 0 rfl rfl ?_
  refine y_VIw Z (k_X6_here l D ht0 aS S (by first | exact h_l | (simp only [sR_eq, sR_ne, sF_eq, sF_ne, upd_eq, upd_ne, Nat.reduceBEq]; exact h_l)) (by first | exact h_p | (simp only [sR_eq, sR_ne, sF_eq, sF_ne, upd_eq, upd_ne, Nat.reduceBEq]; exact h_p))) (y_cwV 0 Z ml_RX6_190 im_X6_here se_X6_here in_X6 co_X6_here rfl rfl hd_X6_here ⟨Nat.le_of_ble_eq_true rfl, Nat.le_of_ble_eq_true rfl⟩) List.nil List.nil (by simp only [List.nil_append, List.append_nil, wMix, wLog, wPic, wRep, wScr, wVM, wMd, sR_eq, sR_ne, sF_eq, sF_ne, upd_eq, upd_ne, gs_eq, gs_ne, gm_4, gm_ne, Nat.reduceBEq]) 6 0 rfl rfl rfl rfl (Nat.le_of_ble_eq_true rfl) dX6_passesByte_1 ⟨Nat.le_of_ble_eq_true rfl, Nat.le_of_ble_eq_true rfl⟩ (wMd cI aS S) (by simp only [List.nil_append, List.append_nil, wMix, wLog, wPic, wRep, wScr, wVM, wMd, sR_eq, sR_ne, sF_eq, sF_ne, upd_eq, upd_ne, gs_eq, gs_ne, gm_4, gm_ne, Nat.reduceBEq]) ?_
  refine y_eq rfl rfl (st' := [.int (mv_he (S 6) (S 0 8) (S 0 9))]) (by first | with_reducible rfl | simp only [wMix, wLog, wPic, wRep, wScr, wVM, wMd, sR_eq, sR_ne, sF_eq, sF_ne, upd_eq, upd_ne, gs_eq, gs_ne, gm_4, gm_ne, Nat.reduceBEq]) ?_
  have hJ1 : Yy p l e { frames := 1, cells := 0, slots := 0, locals := 20 } s m args below meth c (QI D tys A (wMdR cI aS (S 0 0) (S 0 1) (S 0 2) (S 0 3) (S 0 4) (S 0 5) (S 0 6) (S 0 7) (S 0 8) ((S 0 9) + nzF (mv_eq (mv_he (S 6) (S 0 8) (S 0 9)) g)) (S 0 10) (S 0 11) (S 0 12) (S 1) (S 2) (S 3) (S 4) (S 5) (S 6)) (mv_eq (mv_he (S 6) (S 0 8) (S 0 9)) g) below args s 0 0) D A 3 0 0 (wMd cI aS S) [(0, .ref (aS 0)), (1, .int g)] [.int (mv_eq (mv_he (S 6) (S 0 8) (S 0 9)) g)] 13 := by
    refine y_istore_n Z [(2, .int (mv_eq (mv_he (S 6) (S 0 8) (S 0 9)) g)), (0, .ref (aS 0)), (1, .int g)] dX6_passesByte_13 rfl (by decide) rfl ?_
    refine y_aload_n Z dX6_passesByte_14 1 rfl rfl ?_
    refine y_dup Z dX6_passesByte_15 rfl ?_
    refine y_get (C := RX6) (T := TX6) (N := 19) Z 6 inlX6 rfl 0 rfl 15 (by decide) fl_RX6_187 rfl dX6_passesByte_16 ?_
    have hJ2 : Yy p l e { frames := 1, cells := 0, slots := 0, locals := 20 } s m args below meth c (QI D tys A (wMdR cI aS (S 0 0) (S 0 1) (S 0 2) (S 0 3) (S 0 4) (S 0 5) (S 0 6) (S 0 7) (S 0 8) ((S 0 9) + nzF (mv_eq (mv_he (S 6) (S 0 8) (S 0 9)) g)) (S 0 10) (S 0 11) (S 0 12) (S 1) (S 2) (S 3) (S 4) (S 5) (S 6)) (mv_eq (mv_he (S 6) (S 0 8) (S 0 9)) g) below args s 0 0) D A 3 0 0 (wMd cI aS S) [(2, .int (mv_eq (mv_he (S 6) (S 0 8) (S 0 9)) g)), (0, .ref (aS 0)), (1, .int g)] [.int (nzF (mv_eq (mv_he (S 6) (S 0 8) (S 0 9)) g)), .int (S 0 9), .ref (aS 0)] 28 := by
      refine y_iadd Z dX6_passesByte_28 ?_
      refine y_put (C := RX6) (T := TX6) (N := 19) Z 6 inlX6 rfl tyX6 tyX6_ok nmX6 0 rfl 15 (by decide) fl_RX6_187 rfl rfl rfl (Nat.le_of_ble_eq_true rfl) (wMdR cI aS (S 0 0) (S 0 1) (S 0 2) (S 0 3) (S 0 4) (S 0 5) (S 0 6) (S 0 7) (S 0 8) ((S 0 9) + (nzF (mv_eq (mv_he (S 6) (S 0 8) (S 0 9)) g))) (S 0 10) (S 0 11) (S 0 12) (S 1) (S 2) (S 3) (S 4) (S 5) (S 6)) rfl dX6_passesByte_29 ?_
      refine y_iload_n Z dX6_passesByte_32 0 rfl rfl ?_
      exact y_retZ Z hr hlk ((nb01 (mv_eq01 _ _))) dX6_passesByte_33 (by first | (with_reducible rfl) | (simp only [wMix, wLog, wPic, wRep, wScr, wVM, wMd, sR_eq, sR_ne, sF_eq, sF_ne, upd_eq, upd_ne, gs_eq, gs_ne, gm_4, gm_ne, Nat.reduceBEq]; done) | rfl) (by first | (with_reducible rfl) | (simp only [wMix, wLog, wPic, wRep, wScr, wVM, wMd, sR_eq, sR_ne, sF_eq, sF_ne, upd_eq, upd_ne, gs_eq, gs_ne, gm_4, gm_ne, Nat.reduceBEq]; done) | rfl)
    refine y_iload_n Z dX6_passesByte_19 0 rfl rfl ?_
    refine y_if_eq (tgt := 27) Z dX6_passesByte_20 (by decide) (fun h3 => ?_) (fun h4 => ?_)
    · refine y_iconst (v := 0) Z dX6_passesByte_27 (by decide) ?_
      exact y_eq rfl rfl (st' := [.int (nzF (mv_eq (mv_he (S 6) (S 0 8) (S 0 9)) g)), .int (S 0 9), .ref (aS 0)]) (by first | (simp only [nzF, eq_true h3, if_true, if_false, not_false_eq_true, not_true_eq_false, ↓reduceIte]; done) | (simp only [nzF, eq_true h3, if_true, if_false, not_false_eq_true, not_true_eq_false, ↓reduceIte, wMix, wLog, wPic, wRep, wScr, wVM, wMd, sR_eq, sR_ne, sF_eq, sF_ne, upd_eq, upd_ne, gs_eq, gs_ne, gm_4, gm_ne, Nat.reduceBEq]; done) | (with_reducible rfl) | contradiction | (simp only [nzF, eq_true h3, if_true, if_false, not_false_eq_true, not_true_eq_false, ↓reduceIte]; rfl) | rfl) hJ2
    · refine y_iconst (v := 1) Z dX6_passesByte_23 (by decide) ?_
      refine y_goto (tgt := 28) Z dX6_passesByte_24 (by decide) ?_
      exact y_eq rfl rfl (st' := [.int (nzF (mv_eq (mv_he (S 6) (S 0 8) (S 0 9)) g)), .int (S 0 9), .ref (aS 0)]) (by first | (simp only [nzF, h4, if_true, if_false, not_false_eq_true, not_true_eq_false, ↓reduceIte]; done) | (simp only [nzF, h4, if_true, if_false, not_false_eq_true, not_true_eq_false, ↓reduceIte, wMix, wLog, wPic, wRep, wScr, wVM, wMd, sR_eq, sR_ne, sF_eq, sF_ne, upd_eq, upd_ne, gs_eq, gs_ne, gm_4, gm_ne, Nat.reduceBEq]; done) | (with_reducible rfl) | contradiction | (simp only [nzF, h4, if_true, if_false, not_false_eq_true, not_true_eq_false, ↓reduceIte]; rfl) | rfl) hJ2
  refine y_iload_n Z dX6_passesByte_4 1 rfl rfl ?_
  refine y_icmp_ne (tgt := 12) Z dX6_passesByte_5 (by decide) (fun h5 => ?_) (fun h6 => ?_)
  · refine y_iconst (v := 0) Z dX6_passesByte_12 (by decide) ?_
    exact y_eq rfl rfl (st' := [.int (mv_eq (mv_he (S 6) (S 0 8) (S 0 9)) g)]) (by first | (simp only [mv_eq, h5, if_true, if_false, not_false_eq_true, not_true_eq_false, ↓reduceIte]; done) | (simp only [mv_eq, h5, if_true, if_false, not_false_eq_true, not_true_eq_false, ↓reduceIte, wMix, wLog, wPic, wRep, wScr, wVM, wMd, sR_eq, sR_ne, sF_eq, sF_ne, upd_eq, upd_ne, gs_eq, gs_ne, gm_4, gm_ne, Nat.reduceBEq]; done) | (with_reducible rfl) | contradiction | (simp only [mv_eq, h5, if_true, if_false, not_false_eq_true, not_true_eq_false, ↓reduceIte]; rfl) | rfl) hJ1
  · refine y_iconst (v := 1) Z dX6_passesByte_8 (by decide) ?_
    refine y_goto (tgt := 13) Z dX6_passesByte_9 (by decide) ?_
    exact y_eq rfl rfl (st' := [.int (mv_eq (mv_he (S 6) (S 0 8) (S 0 9)) g)]) (by first | (simp only [mv_eq, eq_true h6, if_true, if_false, not_false_eq_true, not_true_eq_false, ↓reduceIte]; done) | (simp only [mv_eq, eq_true h6, if_true, if_false, not_false_eq_true, not_true_eq_false, ↓reduceIte, wMix, wLog, wPic, wRep, wScr, wVM, wMd, sR_eq, sR_ne, sF_eq, sF_ne, upd_eq, upd_ne, gs_eq, gs_ne, gm_4, gm_ne, Nat.reduceBEq]; done) | (with_reducible rfl) | contradiction | (simp only [mv_eq, eq_true h6, if_true, if_false, not_false_eq_true, not_true_eq_false, ↓reduceIte]; rfl) | rfl) hJ1
set_option maxHeartbeats 4000000 in
set_option maxRecDepth 100000 in
theorem k_X6_figure (l : Launch) (D : va_G) {cI : ClassId} {tys : List (ClassId × FieldType)} (ht0 : tys[0]? = some (cI, .int)) (aS : Nat → Nat) (S : Nat → Nat → Int32) (mo : Int32) (h_l : (S 0 8) ≤ 120) (h_p : ¬ (S 0 9) < 0) (sz : Nat) : kI l yX6_figure cX6_figure 4 (some .int) { frames := 1, cells := 0, slots := 0, locals := 25 } D tys [.ref (aS 0), .int mo] (wMd cI aS S) (wMdR cI aS (S 0 0) (S 0 1) (S 0 2) (S 0 3) (S 0 4) (S 0 5) (S 0 6) (S 0 7) (S 0 8) (mv_fp (S 6) (S 0 8) (S 0 9) mo) (S 0 10) (S 0 11) (S 0 12) (S 1) (S 2) (S 3) (S 4) (S 5) (S 6)) (mv_fg (S 6) (S 0 8) (S 0 9) mo) 0 0 sz := by
  refine y_enterI (cc := cX6_figure) (maxL := 4) (ret := (some .int)) (own := RX6) (by decide) rfl (lv0 := [(0, .ref (aS 0)), (1, .int mo)]) rfl (Nat.le_of_ble_eq_true rfl) ?_
  intro p e s m args below meth c A Z hr hlk _
  refine y_aload_n Z dX6_figure_0 0 rfl rfl ?_
  refine y_VIw Z (k_X6_here l D ht0 aS S (by first | exact h_l | (simp only [sR_eq, sR_ne, sF_eq, sF_ne, upd_eq, upd_ne, Nat.reduceBEq]; exact h_l)) (by first | exact h_p | (simp only [sR_eq, sR_ne, sF_eq, sF_ne, upd_eq, upd_ne, Nat.reduceBEq]; exact h_p))) (y_cwV 0 Z ml_RX6_190 im_X6_here se_X6_here in_X6 co_X6_here rfl rfl hd_X6_here ⟨Nat.le_of_ble_eq_true rfl, Nat.le_of_ble_eq_true rfl⟩) List.nil List.nil (by simp only [List.nil_append, List.append_nil, wMix, wLog, wPic, wRep, wScr, wVM, wMd, sR_eq, sR_ne, sF_eq, sF_ne, upd_eq, upd_ne, gs_eq, gs_ne, gm_4, gm_ne, Nat.reduceBEq]) 6 0 rfl rfl rfl rfl (Nat.le_of_ble_eq_true rfl) dX6_figure_1 ⟨Nat.le_of_ble_eq_true rfl, Nat.le_of_ble_eq_true rfl⟩ (wMd cI aS S) (by simp only [List.nil_append, List.append_nil, wMix, wLog, wPic, wRep, wScr, wVM, wMd, sR_eq, sR_ne, sF_eq, sF_ne, upd_eq, upd_ne, gs_eq, gs_ne, gm_4, gm_ne, Nat.reduceBEq]) ?_
  refine y_eq rfl rfl (st' := [.int (mv_he (S 6) (S 0 8) (S 0 9))]) (by first | with_reducible rfl | simp only [wMix, wLog, wPic, wRep, wScr, wVM, wMd, sR_eq, sR_ne, sF_eq, sF_ne, upd_eq, upd_ne, gs_eq, gs_ne, gm_4, gm_ne, Nat.reduceBEq]) ?_
  refine y_i2l Z dX6_figure_4 ?_
  refine y_ldc2 Z (48) ct_RX6_193 dX6_figure_5 ?_
  refine y_bipush (v := 48) Z dX6_figure_8 (by decide) ?_
  refine y_iload_n Z dX6_figure_10 1 rfl rfl ?_
  refine y_iadd Z dX6_figure_11 ?_
  refine y_i2l Z dX6_figure_12 ?_
  refine y_SI Z (k_X6_in l D ht0 (Int32.toInt64 (mv_he (S 6) (S 0 8) (S 0 9))) 48 (Int32.toInt64 (48 + mo))) (y_cwS 3 Z ml_RX6_37 st_X6_in in_X6 co_X6_in rfl rfl hs_X6_in ⟨Nat.le_of_ble_eq_true rfl, Nat.le_of_ble_eq_true rfl⟩) [] rfl (by decide) rfl rfl (Nat.le_of_ble_eq_true rfl) dX6_figure_13 ⟨Nat.le_of_ble_eq_true rfl, Nat.le_of_ble_eq_true rfl⟩ [] rfl rfl (wMd cI aS S) rfl ?_
  refine y_istore_n Z [(2, .int (mv_in (Int32.toInt64 (mv_he (S 6) (S 0 8) (S 0 9))) 48 (Int32.toInt64 (48 + mo)))), (0, .ref (aS 0)), (1, .int mo)] dX6_figure_16 rfl (by decide) rfl ?_
  have hJ1 : Yy p l e { frames := 1, cells := 0, slots := 0, locals := 25 } s m args below meth c (QI D tys A (wMdR cI aS (S 0 0) (S 0 1) (S 0 2) (S 0 3) (S 0 4) (S 0 5) (S 0 6) (S 0 7) (S 0 8) (mv_fp (S 6) (S 0 8) (S 0 9) mo) (S 0 10) (S 0 11) (S 0 12) (S 1) (S 2) (S 3) (S 4) (S 5) (S 6)) (mv_fg (S 6) (S 0 8) (S 0 9) mo) below args s 0 0) D A 4 0 0 (wMd cI aS S) [(2, .int (mv_in (Int32.toInt64 (mv_he (S 6) (S 0 8) (S 0 9))) 48 (Int32.toInt64 (48 + mo)))), (0, .ref (aS 0)), (1, .int mo)] [.int (mv_fv (mv_in (Int32.toInt64 (mv_he (S 6) (S 0 8) (S 0 9))) 48 (Int32.toInt64 (48 + mo))) (mv_he (S 6) (S 0 8) (S 0 9)))] 32 := by
    refine y_istore_n Z [(3, .int (mv_fv (mv_in (Int32.toInt64 (mv_he (S 6) (S 0 8) (S 0 9))) 48 (Int32.toInt64 (48 + mo))) (mv_he (S 6) (S 0 8) (S 0 9)))), (2, .int (mv_in (Int32.toInt64 (mv_he (S 6) (S 0 8) (S 0 9))) 48 (Int32.toInt64 (48 + mo)))), (0, .ref (aS 0)), (1, .int mo)] dX6_figure_32 rfl (by decide) rfl ?_
    refine y_aload_n Z dX6_figure_33 2 rfl rfl ?_
    refine y_dup Z dX6_figure_34 rfl ?_
    refine y_get (C := RX6) (T := TX6) (N := 19) Z 6 inlX6 rfl 0 rfl 15 (by decide) fl_RX6_187 rfl dX6_figure_35 ?_
    have hJ2 : Yy p l e { frames := 1, cells := 0, slots := 0, locals := 25 } s m args below meth c (QI D tys A (wMdR cI aS (S 0 0) (S 0 1) (S 0 2) (S 0 3) (S 0 4) (S 0 5) (S 0 6) (S 0 7) (S 0 8) (mv_fp (S 6) (S 0 8) (S 0 9) mo) (S 0 10) (S 0 11) (S 0 12) (S 1) (S 2) (S 3) (S 4) (S 5) (S 6)) (mv_fg (S 6) (S 0 8) (S 0 9) mo) below args s 0 0) D A 4 0 0 (wMd cI aS S) [(3, .int (mv_fv (mv_in (Int32.toInt64 (mv_he (S 6) (S 0 8) (S 0 9))) 48 (Int32.toInt64 (48 + mo))) (mv_he (S 6) (S 0 8) (S 0 9)))), (2, .int (mv_in (Int32.toInt64 (mv_he (S 6) (S 0 8) (S 0 9))) 48 (Int32.toInt64 (48 + mo)))), (0, .ref (aS 0)), (1, .int mo)] [.int (nzF (mv_in (Int32.toInt64 (mv_he (S 6) (S 0 8) (S 0 9))) 48 (Int32.toInt64 (48 + mo)))), .int (S 0 9), .ref (aS 0)] 47 := by
      refine y_iadd Z dX6_figure_47 ?_
      refine y_put (C := RX6) (T := TX6) (N := 19) Z 6 inlX6 rfl tyX6 tyX6_ok nmX6 0 rfl 15 (by decide) fl_RX6_187 rfl rfl rfl (Nat.le_of_ble_eq_true rfl) (wMdR cI aS (S 0 0) (S 0 1) (S 0 2) (S 0 3) (S 0 4) (S 0 5) (S 0 6) (S 0 7) (S 0 8) ((S 0 9) + (nzF (mv_in (Int32.toInt64 (mv_he (S 6) (S 0 8) (S 0 9))) 48 (Int32.toInt64 (48 + mo))))) (S 0 10) (S 0 11) (S 0 12) (S 1) (S 2) (S 3) (S 4) (S 5) (S 6)) rfl dX6_figure_48 ?_
      refine y_iload_n Z dX6_figure_51 0 rfl rfl ?_
      exact y_retI Z hr hlk dX6_figure_52 (by first | (simp only [mv_fg, mv_fp, mv_fi, if_true, if_false, not_false_eq_true, not_true_eq_false, ↓reduceIte]; done) | (simp only [mv_fg, mv_fp, mv_fi, if_true, if_false, not_false_eq_true, not_true_eq_false, ↓reduceIte, wMix, wLog, wPic, wRep, wScr, wVM, wMd, sR_eq, sR_ne, sF_eq, sF_ne, upd_eq, upd_ne, gs_eq, gs_ne, gm_4, gm_ne, Nat.reduceBEq]; done) | (with_reducible rfl) | contradiction | (simp only [mv_fg, mv_fp, mv_fi, if_true, if_false, not_false_eq_true, not_true_eq_false, ↓reduceIte]; rfl) | rfl) (by first | (simp only [mv_fg, mv_fp, mv_fi, if_true, if_false, not_false_eq_true, not_true_eq_false, ↓reduceIte]; done) | (simp only [mv_fg, mv_fp, mv_fi, if_true, if_false, not_false_eq_true, not_true_eq_false, ↓reduceIte, wMix, wLog, wPic, wRep, wScr, wVM, wMd, sR_eq, sR_ne, sF_eq, sF_ne, upd_eq, upd_ne, gs_eq, gs_ne, gm_4, gm_ne, Nat.reduceBEq]; done) | (with_reducible rfl) | contradiction | (simp only [mv_fg, mv_fp, mv_fi, if_true, if_false, not_false_eq_true, not_true_eq_false, ↓reduceIte]; rfl) | rfl)
    refine y_iload_n Z dX6_figure_38 1 rfl rfl ?_
    refine y_if_eq (tgt := 46) Z dX6_figure_39 (by decide) (fun h3 => ?_) (fun h4 => ?_)
    · refine y_iconst (v := 0) Z dX6_figure_46 (by decide) ?_
      exact y_eq rfl rfl (st' := [.int (nzF (mv_in (Int32.toInt64 (mv_he (S 6) (S 0 8) (S 0 9))) 48 (Int32.toInt64 (48 + mo)))), .int (S 0 9), .ref (aS 0)]) (by first | (simp only [nzF, eq_true h3, if_true, if_false, not_false_eq_true, not_true_eq_false, ↓reduceIte]; done) | (simp only [nzF, eq_true h3, if_true, if_false, not_false_eq_true, not_true_eq_false, ↓reduceIte, wMix, wLog, wPic, wRep, wScr, wVM, wMd, sR_eq, sR_ne, sF_eq, sF_ne, upd_eq, upd_ne, gs_eq, gs_ne, gm_4, gm_ne, Nat.reduceBEq]; done) | (with_reducible rfl) | contradiction | (simp only [nzF, eq_true h3, if_true, if_false, not_false_eq_true, not_true_eq_false, ↓reduceIte]; rfl) | rfl) hJ2
    · refine y_iconst (v := 1) Z dX6_figure_42 (by decide) ?_
      refine y_goto (tgt := 47) Z dX6_figure_43 (by decide) ?_
      exact y_eq rfl rfl (st' := [.int (nzF (mv_in (Int32.toInt64 (mv_he (S 6) (S 0 8) (S 0 9))) 48 (Int32.toInt64 (48 + mo)))), .int (S 0 9), .ref (aS 0)]) (by first | (simp only [nzF, h4, if_true, if_false, not_false_eq_true, not_true_eq_false, ↓reduceIte]; done) | (simp only [nzF, h4, if_true, if_false, not_false_eq_true, not_true_eq_false, ↓reduceIte, wMix, wLog, wPic, wRep, wScr, wVM, wMd, sR_eq, sR_ne, sF_eq, sF_ne, upd_eq, upd_ne, gs_eq, gs_ne, gm_4, gm_ne, Nat.reduceBEq]; done) | (with_reducible rfl) | contradiction | (simp only [nzF, h4, if_true, if_false, not_false_eq_true, not_true_eq_false, ↓reduceIte]; rfl) | rfl) hJ2
  refine y_iload_n Z dX6_figure_17 0 rfl rfl ?_
  refine y_if_eq (tgt := 31) Z dX6_figure_18 (by decide) (fun h5 => ?_) (fun h6 => ?_)
  · refine y_iconst (v := -1) Z dX6_figure_31 (by decide) ?_
    exact y_eq rfl rfl (st' := [.int (mv_fv (mv_in (Int32.toInt64 (mv_he (S 6) (S 0 8) (S 0 9))) 48 (Int32.toInt64 (48 + mo))) (mv_he (S 6) (S 0 8) (S 0 9)))]) (by first | (simp only [mv_fv, eq_true h5, if_true, if_false, not_false_eq_true, not_true_eq_false, ↓reduceIte]; done) | (simp only [mv_fv, eq_true h5, if_true, if_false, not_false_eq_true, not_true_eq_false, ↓reduceIte, wMix, wLog, wPic, wRep, wScr, wVM, wMd, sR_eq, sR_ne, sF_eq, sF_ne, upd_eq, upd_ne, gs_eq, gs_ne, gm_4, gm_ne, Nat.reduceBEq]; done) | (with_reducible rfl) | contradiction | (simp only [mv_fv, eq_true h5, if_true, if_false, not_false_eq_true, not_true_eq_false, ↓reduceIte]; rfl) | rfl) hJ1
  · refine y_aload_n Z dX6_figure_21 1 rfl rfl ?_
    refine y_VIw Z (k_X6_here l D ht0 aS S (by first | exact h_l | (simp only [sR_eq, sR_ne, sF_eq, sF_ne, upd_eq, upd_ne, Nat.reduceBEq]; exact h_l)) (by first | exact h_p | (simp only [sR_eq, sR_ne, sF_eq, sF_ne, upd_eq, upd_ne, Nat.reduceBEq]; exact h_p))) (y_cwV 0 Z ml_RX6_190 im_X6_here se_X6_here in_X6 co_X6_here rfl rfl hd_X6_here ⟨Nat.le_of_ble_eq_true rfl, Nat.le_of_ble_eq_true rfl⟩) List.nil List.nil (by simp only [List.nil_append, List.append_nil, wMix, wLog, wPic, wRep, wScr, wVM, wMd, sR_eq, sR_ne, sF_eq, sF_ne, upd_eq, upd_ne, gs_eq, gs_ne, gm_4, gm_ne, Nat.reduceBEq]) 6 0 rfl rfl rfl rfl (Nat.le_of_ble_eq_true rfl) dX6_figure_22 ⟨Nat.le_of_ble_eq_true rfl, Nat.le_of_ble_eq_true rfl⟩ (wMd cI aS S) (by simp only [List.nil_append, List.append_nil, wMix, wLog, wPic, wRep, wScr, wVM, wMd, sR_eq, sR_ne, sF_eq, sF_ne, upd_eq, upd_ne, gs_eq, gs_ne, gm_4, gm_ne, Nat.reduceBEq]) ?_
    refine y_eq rfl rfl (st' := [.int (mv_he (S 6) (S 0 8) (S 0 9))]) (by first | with_reducible rfl | simp only [wMix, wLog, wPic, wRep, wScr, wVM, wMd, sR_eq, sR_ne, sF_eq, sF_ne, upd_eq, upd_ne, gs_eq, gs_ne, gm_4, gm_ne, Nat.reduceBEq]) ?_
    refine y_bipush (v := 48) Z dX6_figure_25 (by decide) ?_
    refine y_isub Z dX6_figure_27 ?_
    refine y_goto (tgt := 32) Z dX6_figure_28 (by decide) ?_
    exact y_eq rfl rfl (st' := [.int (mv_fv (mv_in (Int32.toInt64 (mv_he (S 6) (S 0 8) (S 0 9))) 48 (Int32.toInt64 (48 + mo))) (mv_he (S 6) (S 0 8) (S 0 9)))]) (by first | (simp only [mv_fv, h6, if_true, if_false, not_false_eq_true, not_true_eq_false, ↓reduceIte]; done) | (simp only [mv_fv, h6, if_true, if_false, not_false_eq_true, not_true_eq_false, ↓reduceIte, wMix, wLog, wPic, wRep, wScr, wVM, wMd, sR_eq, sR_ne, sF_eq, sF_ne, upd_eq, upd_ne, gs_eq, gs_ne, gm_4, gm_ne, Nat.reduceBEq]; done) | (with_reducible rfl) | contradiction | (simp only [mv_fv, h6, if_true, if_false, not_false_eq_true, not_true_eq_false, ↓reduceIte]; rfl) | rfl) hJ1
set_option maxHeartbeats 4000000 in
set_option maxRecDepth 100000 in
theorem k_X6_reads (l : Launch) (D : va_G) {cI : ClassId} {tys : List (ClassId × FieldType)} (ht0 : tys[0]? = some (cI, .int)) (aS : Nat → Nat) (S : Nat → Nat → Int32) (f : Int32) (lo : Int32) (hi : Int32) (h_l : (S 0 8) ≤ 120) (h_p : ¬ (S 0 9) < 0) (h_f : vp_in f 5) (sz : Nat) : kI l yX6_reads cX6_reads 6 (some .boolean) { frames := 1, cells := 0, slots := 0, locals := 25 } D tys [.ref (aS 0), .int f, .int lo, .int hi] (wMd cI aS S) (wMdR cI aS (S 0 0) (S 0 1) (S 0 2) (S 0 3) (S 0 4) (S 0 5) (S 0 6) (S 0 7) (S 0 8) (mv_rp (S 6) (S 0 8) (S 0 9) f lo hi) ((rdX (S 6) (S 0 8) (S 0 9) f).1) (S 0 11) (S 0 12) (S 1) (S 2) (S 3) (S 4) (S 5) (S 6)) (mv_rr (S 6) (S 0 8) (S 0 9) f lo hi) 0 0 sz := by
  refine y_enterI (cc := cX6_reads) (maxL := 6) (ret := (some .boolean)) (own := RX6) (by decide) rfl (lv0 := [(0, .ref (aS 0)), (1, .int f), (2, .int lo), (3, .int hi)]) rfl (Nat.le_of_ble_eq_true rfl) ?_
  intro p e s m args below meth c A Z hr hlk _
  have L11 : ∀ (n : Nat) (x : Int32 × Int32), ¬ x.2 < 0 → (rdC (S 6) (S 0 8) (S 0 9) f) (lw (rdC (S 6) (S 0 8) (S 0 9) f) (rdB (S 6) (S 0 8)) n x) = false → lw (rdC (S 6) (S 0 8) (S 0 9) f) (rdB (S 6) (S 0 8)) n x = (lw (rdC (S 6) (S 0 8) (S 0 9) f) (rdB (S 6) (S 0 8)) 5 (0, S 0 9)) → Yy p l e { frames := 1, cells := 0, slots := 0, locals := 25 } s m args below meth c (QI D tys A (wMdR cI aS (S 0 0) (S 0 1) (S 0 2) (S 0 3) (S 0 4) (S 0 5) (S 0 6) (S 0 7) (S 0 8) (mv_rp (S 6) (S 0 8) (S 0 9) f lo hi) ((rdX (S 6) (S 0 8) (S 0 9) f).1) (S 0 11) (S 0 12) (S 1) (S 2) (S 3) (S 4) (S 5) (S 6)) (mv_rr (S 6) (S 0 8) (S 0 9) f lo hi) below args s 0 0) D A 6 0 0 (wMdR cI aS (S 0 0) (S 0 1) (S 0 2) (S 0 3) (S 0 4) (S 0 5) (S 0 6) (S 0 7) (S 0 8) x.2 x.1 (S 0 11) (S 0 12) (S 1) (S 2) (S 3) (S 4) (S 5) (S 6)) [(0, .ref (aS 0)), (1, .int f), (2, .int lo), (3, .int hi), (4, .int (S 0 9))] [] 11 := by
    intro n; induction n with
    | zero =>
      intro x hI hc hx
      refine y_aload_n Z dX6_reads_11 0 rfl rfl ?_
      refine y_VIw Z (k_X6_here l D ht0 aS (sF (sF S 0 10 x.1) 0 9 x.2) (by first | exact h_l | (simp only [sR_eq, sR_ne, sF_eq, sF_ne, upd_eq, upd_ne, Nat.reduceBEq]; exact h_l)) (by first | exact hI | (simp only [sR_eq, sR_ne, sF_eq, sF_ne, upd_eq, upd_ne, Nat.reduceBEq]; exact hI))) (y_cwV 0 Z ml_RX6_190 im_X6_here se_X6_here in_X6 co_X6_here rfl rfl hd_X6_here ⟨Nat.le_of_ble_eq_true rfl, Nat.le_of_ble_eq_true rfl⟩) List.nil List.nil (by simp only [List.nil_append, List.append_nil, wMix, wLog, wPic, wRep, wScr, wVM, wMd, sR_eq, sR_ne, sF_eq, sF_ne, upd_eq, upd_ne, gs_eq, gs_ne, gm_4, gm_ne, Nat.reduceBEq]) 6 0 rfl rfl rfl rfl (Nat.le_of_ble_eq_true rfl) dX6_reads_12 ⟨Nat.le_of_ble_eq_true rfl, Nat.le_of_ble_eq_true rfl⟩ (wMdR cI aS (S 0 0) (S 0 1) (S 0 2) (S 0 3) (S 0 4) (S 0 5) (S 0 6) (S 0 7) (S 0 8) x.2 x.1 (S 0 11) (S 0 12) (S 1) (S 2) (S 3) (S 4) (S 5) (S 6)) (by simp only [List.nil_append, List.append_nil, wMix, wLog, wPic, wRep, wScr, wVM, wMd, sR_eq, sR_ne, sF_eq, sF_ne, upd_eq, upd_ne, gs_eq, gs_ne, gm_4, gm_ne, Nat.reduceBEq]) ?_
      refine y_eq rfl rfl (st' := [.int (mv_he (S 6) (S 0 8) x.2)]) (by first | with_reducible rfl | simp only [wMix, wLog, wPic, wRep, wScr, wVM, wMd, sR_eq, sR_ne, sF_eq, sF_ne, upd_eq, upd_ne, gs_eq, gs_ne, gm_4, gm_ne, Nat.reduceBEq]) ?_
      refine y_i2l Z dX6_reads_15 ?_
      refine y_ldc2 Z (48) ct_RX6_193 dX6_reads_16 ?_
      refine y_ldc2 Z (57) ct_RX6_198 dX6_reads_19 ?_
      refine y_SI Z (k_X6_in l D ht0 (Int32.toInt64 (mv_he (S 6) (S 0 8) x.2)) 48 57) (y_cwS 3 Z ml_RX6_37 st_X6_in in_X6 co_X6_in rfl rfl hs_X6_in ⟨Nat.le_of_ble_eq_true rfl, Nat.le_of_ble_eq_true rfl⟩) [] rfl (by decide) rfl rfl (Nat.le_of_ble_eq_true rfl) dX6_reads_22 ⟨Nat.le_of_ble_eq_true rfl, Nat.le_of_ble_eq_true rfl⟩ [] rfl rfl (wMdR cI aS (S 0 0) (S 0 1) (S 0 2) (S 0 3) (S 0 4) (S 0 5) (S 0 6) (S 0 7) (S 0 8) x.2 x.1 (S 0 11) (S 0 12) (S 1) (S 2) (S 3) (S 4) (S 5) (S 6)) rfl ?_
      refine y_if_eq (tgt := 71) Z dX6_reads_25 (by decide) (fun h1 => ?_) (fun h2 => ?_)
      · have hb : (rdC (S 6) (S 0 8) (S 0 9) f) x = false := by simp only [rdC, mv_dg, eq_true h1, ↓reduceIte]
        have ex : x = (lw (rdC (S 6) (S 0 8) (S 0 9) f) (rdB (S 6) (S 0 8)) 5 (0, S 0 9)) := by rw [← hx, lw_f hb]
        refine y_aload_n Z dX6_reads_71 0 rfl rfl ?_
        refine y_get (C := RX6) (T := TX6) (N := 19) Z 6 inlX6 rfl 0 rfl 15 (by decide) fl_RX6_187 rfl dX6_reads_72 ?_
        refine y_iload Z dX6_reads_75 4 rfl ?_
        refine y_icmp_eq (tgt := 97) Z dX6_reads_77 (by decide) (fun h3 => ?_) (fun h4 => ?_)
        · refine y_iconst (v := 0) Z dX6_reads_97 (by decide) ?_
          exact y_retZ Z hr hlk (by decide) dX6_reads_98 (by subst ex; first | (simp only [mv_rr, mv_rp, mv_dg, rdX, eq_true h1, eq_true h3, if_true, if_false, not_false_eq_true, not_true_eq_false, ↓reduceIte]; done) | (simp only [mv_rr, mv_rp, mv_dg, rdX, eq_true h1, eq_true h3, if_true, if_false, not_false_eq_true, not_true_eq_false, ↓reduceIte, wMix, wLog, wPic, wRep, wScr, wVM, wMd, sR_eq, sR_ne, sF_eq, sF_ne, upd_eq, upd_ne, gs_eq, gs_ne, gm_4, gm_ne, Nat.reduceBEq]; done) | (with_reducible rfl) | contradiction | (simp only [mv_rr, mv_rp, mv_dg, rdX, eq_true h1, eq_true h3, if_true, if_false, not_false_eq_true, not_true_eq_false, ↓reduceIte]; rfl) | rfl) (by subst ex; first | (simp only [mv_rr, mv_rp, mv_dg, rdX, eq_true h1, eq_true h3, if_true, if_false, not_false_eq_true, not_true_eq_false, ↓reduceIte]; done) | (simp only [mv_rr, mv_rp, mv_dg, rdX, eq_true h1, eq_true h3, if_true, if_false, not_false_eq_true, not_true_eq_false, ↓reduceIte, wMix, wLog, wPic, wRep, wScr, wVM, wMd, sR_eq, sR_ne, sF_eq, sF_ne, upd_eq, upd_ne, gs_eq, gs_ne, gm_4, gm_ne, Nat.reduceBEq]; done) | (with_reducible rfl) | contradiction | (simp only [mv_rr, mv_rp, mv_dg, rdX, eq_true h1, eq_true h3, if_true, if_false, not_false_eq_true, not_true_eq_false, ↓reduceIte]; rfl) | rfl)
        · refine y_aload_n Z dX6_reads_80 0 rfl rfl ?_
          refine y_VIw Z (k_X6_here l D ht0 aS (sF (sF S 0 10 x.1) 0 9 x.2) (by first | exact h_l | (simp only [sR_eq, sR_ne, sF_eq, sF_ne, upd_eq, upd_ne, Nat.reduceBEq]; exact h_l)) (by first | exact hI | (simp only [sR_eq, sR_ne, sF_eq, sF_ne, upd_eq, upd_ne, Nat.reduceBEq]; exact hI))) (y_cwV 0 Z ml_RX6_190 im_X6_here se_X6_here in_X6 co_X6_here rfl rfl hd_X6_here ⟨Nat.le_of_ble_eq_true rfl, Nat.le_of_ble_eq_true rfl⟩) List.nil List.nil (by simp only [List.nil_append, List.append_nil, wMix, wLog, wPic, wRep, wScr, wVM, wMd, sR_eq, sR_ne, sF_eq, sF_ne, upd_eq, upd_ne, gs_eq, gs_ne, gm_4, gm_ne, Nat.reduceBEq]) 6 0 rfl rfl rfl rfl (Nat.le_of_ble_eq_true rfl) dX6_reads_81 ⟨Nat.le_of_ble_eq_true rfl, Nat.le_of_ble_eq_true rfl⟩ (wMdR cI aS (S 0 0) (S 0 1) (S 0 2) (S 0 3) (S 0 4) (S 0 5) (S 0 6) (S 0 7) (S 0 8) x.2 x.1 (S 0 11) (S 0 12) (S 1) (S 2) (S 3) (S 4) (S 5) (S 6)) (by simp only [List.nil_append, List.append_nil, wMix, wLog, wPic, wRep, wScr, wVM, wMd, sR_eq, sR_ne, sF_eq, sF_ne, upd_eq, upd_ne, gs_eq, gs_ne, gm_4, gm_ne, Nat.reduceBEq]) ?_
          refine y_eq rfl rfl (st' := [.int (mv_he (S 6) (S 0 8) x.2)]) (by first | with_reducible rfl | simp only [wMix, wLog, wPic, wRep, wScr, wVM, wMd, sR_eq, sR_ne, sF_eq, sF_ne, upd_eq, upd_ne, gs_eq, gs_ne, gm_4, gm_ne, Nat.reduceBEq]) ?_
          refine y_i2l Z dX6_reads_84 ?_
          refine y_ldc2 Z (48) ct_RX6_193 dX6_reads_85 ?_
          refine y_ldc2 Z (57) ct_RX6_198 dX6_reads_88 ?_
          refine y_SI Z (k_X6_in l D ht0 (Int32.toInt64 (mv_he (S 6) (S 0 8) x.2)) 48 57) (y_cwS 3 Z ml_RX6_37 st_X6_in in_X6 co_X6_in rfl rfl hs_X6_in ⟨Nat.le_of_ble_eq_true rfl, Nat.le_of_ble_eq_true rfl⟩) [] rfl (by decide) rfl rfl (Nat.le_of_ble_eq_true rfl) dX6_reads_91 ⟨Nat.le_of_ble_eq_true rfl, Nat.le_of_ble_eq_true rfl⟩ [] rfl rfl (wMdR cI aS (S 0 0) (S 0 1) (S 0 2) (S 0 3) (S 0 4) (S 0 5) (S 0 6) (S 0 7) (S 0 8) x.2 x.1 (S 0 11) (S 0 12) (S 1) (S 2) (S 3) (S 4) (S 5) (S 6)) rfl ?_
          refine y_if_eq (tgt := 99) Z dX6_reads_94 (by decide) (fun h5 => ?_) (fun h6 => ?_)
          · refine y_aload_n Z dX6_reads_99 0 rfl rfl ?_
            refine y_get (C := RX6) (T := TX6) (N := 19) Z 6 inlX6 rfl 0 rfl 16 (by decide) fl_RX6_195 rfl dX6_reads_100 ?_
            refine y_i2l Z dX6_reads_103 ?_
            refine y_iload_n Z dX6_reads_104 2 rfl rfl ?_
            refine y_i2l Z dX6_reads_105 ?_
            refine y_iload_n Z dX6_reads_106 3 rfl rfl ?_
            refine y_i2l Z dX6_reads_107 ?_
            refine y_SI Z (k_X6_in l D ht0 (Int32.toInt64 x.1) (Int32.toInt64 lo) (Int32.toInt64 hi)) (y_cwS 3 Z ml_RX6_37 st_X6_in in_X6 co_X6_in rfl rfl hs_X6_in ⟨Nat.le_of_ble_eq_true rfl, Nat.le_of_ble_eq_true rfl⟩) [] rfl (by decide) rfl rfl (Nat.le_of_ble_eq_true rfl) dX6_reads_108 ⟨Nat.le_of_ble_eq_true rfl, Nat.le_of_ble_eq_true rfl⟩ [] rfl rfl (wMdR cI aS (S 0 0) (S 0 1) (S 0 2) (S 0 3) (S 0 4) (S 0 5) (S 0 6) (S 0 7) (S 0 8) x.2 x.1 (S 0 11) (S 0 12) (S 1) (S 2) (S 3) (S 4) (S 5) (S 6)) rfl ?_
            refine y_istore Z [(5, .int (mv_in (Int32.toInt64 x.1) (Int32.toInt64 lo) (Int32.toInt64 hi))), (0, .ref (aS 0)), (1, .int f), (2, .int lo), (3, .int hi), (4, .int (S 0 9))] dX6_reads_111 (by decide) rfl ?_
            refine y_aload_n Z dX6_reads_113 1 rfl rfl ?_
            have hJ7 : Yy p l e { frames := 1, cells := 0, slots := 0, locals := 25 } s m args below meth c (QI D tys A (wMdR cI aS (S 0 0) (S 0 1) (S 0 2) (S 0 3) (S 0 4) (S 0 5) (S 0 6) (S 0 7) (S 0 8) (mv_rp (S 6) (S 0 8) (S 0 9) f lo hi) ((rdX (S 6) (S 0 8) (S 0 9) f).1) (S 0 11) (S 0 12) (S 1) (S 2) (S 3) (S 4) (S 5) (S 6)) (mv_rr (S 6) (S 0 8) (S 0 9) f lo hi) below args s 0 0) D A 6 0 0 (wMdR cI aS (S 0 0) (S 0 1) (S 0 2) (S 0 3) (S 0 4) (S 0 5) (S 0 6) (S 0 7) (S 0 8) x.2 x.1 (S 0 11) (S 0 12) (S 1) (S 2) (S 3) (S 4) (S 5) (S 6)) [(5, .int (mv_in (Int32.toInt64 x.1) (Int32.toInt64 lo) (Int32.toInt64 hi))), (0, .ref (aS 0)), (1, .int f), (2, .int lo), (3, .int hi), (4, .int (S 0 9))] [.int (mv_sl (mv_in (Int32.toInt64 x.1) (Int32.toInt64 lo) (Int32.toInt64 hi)) (S 0 9) x.2), .ref (aS 0)] 128 := by
              refine y_put (C := RX6) (T := TX6) (N := 19) Z 6 inlX6 rfl tyX6 tyX6_ok nmX6 0 rfl 15 (by decide) fl_RX6_187 rfl rfl rfl (Nat.le_of_ble_eq_true rfl) (wMdR cI aS (S 0 0) (S 0 1) (S 0 2) (S 0 3) (S 0 4) (S 0 5) (S 0 6) (S 0 7) (S 0 8) (mv_sl (mv_in (Int32.toInt64 x.1) (Int32.toInt64 lo) (Int32.toInt64 hi)) (S 0 9) x.2) x.1 (S 0 11) (S 0 12) (S 1) (S 2) (S 3) (S 4) (S 5) (S 6)) rfl dX6_reads_128 ?_
              refine y_iload Z dX6_reads_131 0 rfl ?_
              exact y_retZ Z hr hlk ((nb01 (mv_in01 _ _ _))) dX6_reads_133 (by subst ex; first | (simp only [mv_rr, mv_rp, mv_dg, rdX, eq_true h1, h4, eq_true h5, if_true, if_false, not_false_eq_true, not_true_eq_false, ↓reduceIte]; done) | (simp only [mv_rr, mv_rp, mv_dg, rdX, eq_true h1, h4, eq_true h5, if_true, if_false, not_false_eq_true, not_true_eq_false, ↓reduceIte, wMix, wLog, wPic, wRep, wScr, wVM, wMd, sR_eq, sR_ne, sF_eq, sF_ne, upd_eq, upd_ne, gs_eq, gs_ne, gm_4, gm_ne, Nat.reduceBEq]; done) | (with_reducible rfl) | contradiction | (simp only [mv_rr, mv_rp, mv_dg, rdX, eq_true h1, h4, eq_true h5, if_true, if_false, not_false_eq_true, not_true_eq_false, ↓reduceIte]; rfl) | rfl) (by subst ex; first | (simp only [mv_rr, mv_rp, mv_dg, rdX, eq_true h1, h4, eq_true h5, if_true, if_false, not_false_eq_true, not_true_eq_false, ↓reduceIte]; done) | (simp only [mv_rr, mv_rp, mv_dg, rdX, eq_true h1, h4, eq_true h5, if_true, if_false, not_false_eq_true, not_true_eq_false, ↓reduceIte, wMix, wLog, wPic, wRep, wScr, wVM, wMd, sR_eq, sR_ne, sF_eq, sF_ne, upd_eq, upd_ne, gs_eq, gs_ne, gm_4, gm_ne, Nat.reduceBEq]; done) | (with_reducible rfl) | contradiction | (simp only [mv_rr, mv_rp, mv_dg, rdX, eq_true h1, h4, eq_true h5, if_true, if_false, not_false_eq_true, not_true_eq_false, ↓reduceIte]; rfl) | rfl)
            refine y_iload Z dX6_reads_114 0 rfl ?_
            refine y_if_eq (tgt := 126) Z dX6_reads_116 (by decide) (fun h8 => ?_) (fun h9 => ?_)
            · refine y_iload Z dX6_reads_126 5 rfl ?_
              exact y_eq rfl rfl (st' := [.int (mv_sl (mv_in (Int32.toInt64 x.1) (Int32.toInt64 lo) (Int32.toInt64 hi)) (S 0 9) x.2), .ref (aS 0)]) (by first | (simp only [mv_sl, eq_true h1, h4, eq_true h5, eq_true h8, if_true, if_false, not_false_eq_true, not_true_eq_false, ↓reduceIte]; done) | (simp only [mv_sl, eq_true h1, h4, eq_true h5, eq_true h8, if_true, if_false, not_false_eq_true, not_true_eq_false, ↓reduceIte, wMix, wLog, wPic, wRep, wScr, wVM, wMd, sR_eq, sR_ne, sF_eq, sF_ne, upd_eq, upd_ne, gs_eq, gs_ne, gm_4, gm_ne, Nat.reduceBEq]; done) | (with_reducible rfl) | contradiction | (simp only [mv_sl, eq_true h1, h4, eq_true h5, eq_true h8, if_true, if_false, not_false_eq_true, not_true_eq_false, ↓reduceIte]; rfl) | rfl) hJ7
            · refine y_aload_n Z dX6_reads_119 1 rfl rfl ?_
              refine y_get (C := RX6) (T := TX6) (N := 19) Z 6 inlX6 rfl 0 rfl 15 (by decide) fl_RX6_187 rfl dX6_reads_120 ?_
              refine y_goto (tgt := 128) Z dX6_reads_123 (by decide) ?_
              exact y_eq rfl rfl (st' := [.int (mv_sl (mv_in (Int32.toInt64 x.1) (Int32.toInt64 lo) (Int32.toInt64 hi)) (S 0 9) x.2), .ref (aS 0)]) (by first | (simp only [mv_sl, eq_true h1, h4, eq_true h5, h9, if_true, if_false, not_false_eq_true, not_true_eq_false, ↓reduceIte]; done) | (simp only [mv_sl, eq_true h1, h4, eq_true h5, h9, if_true, if_false, not_false_eq_true, not_true_eq_false, ↓reduceIte, wMix, wLog, wPic, wRep, wScr, wVM, wMd, sR_eq, sR_ne, sF_eq, sF_ne, upd_eq, upd_ne, gs_eq, gs_ne, gm_4, gm_ne, Nat.reduceBEq]; done) | (with_reducible rfl) | contradiction | (simp only [mv_sl, eq_true h1, h4, eq_true h5, h9, if_true, if_false, not_false_eq_true, not_true_eq_false, ↓reduceIte]; rfl) | rfl) hJ7
          · exact absurd h1 h6
      · refine y_aload_n Z dX6_reads_28 0 rfl rfl ?_
        refine y_get (C := RX6) (T := TX6) (N := 19) Z 6 inlX6 rfl 0 rfl 15 (by decide) fl_RX6_187 rfl dX6_reads_29 ?_
        refine y_iload Z dX6_reads_32 4 rfl ?_
        refine y_iload_n Z dX6_reads_34 1 rfl rfl ?_
        refine y_iadd Z dX6_reads_35 ?_
        refine y_icmp_ge (tgt := 71) Z dX6_reads_36 (by decide) (fun h10 => ?_) (fun h11 => ?_)
        · have hb : (rdC (S 6) (S 0 8) (S 0 9) f) x = false := by simp only [rdC, mv_dg, h2, h10, ↓reduceIte]
          have ex : x = (lw (rdC (S 6) (S 0 8) (S 0 9) f) (rdB (S 6) (S 0 8)) 5 (0, S 0 9)) := by rw [← hx, lw_f hb]
          refine y_aload_n Z dX6_reads_71 0 rfl rfl ?_
          refine y_get (C := RX6) (T := TX6) (N := 19) Z 6 inlX6 rfl 0 rfl 15 (by decide) fl_RX6_187 rfl dX6_reads_72 ?_
          refine y_iload Z dX6_reads_75 4 rfl ?_
          refine y_icmp_eq (tgt := 97) Z dX6_reads_77 (by decide) (fun h12 => ?_) (fun h13 => ?_)
          · refine y_iconst (v := 0) Z dX6_reads_97 (by decide) ?_
            exact y_retZ Z hr hlk (by decide) dX6_reads_98 (by subst ex; first | (simp only [mv_rr, mv_rp, mv_dg, rdX, h2, h10, eq_true h12, if_true, if_false, not_false_eq_true, not_true_eq_false, ↓reduceIte]; done) | (simp only [mv_rr, mv_rp, mv_dg, rdX, h2, h10, eq_true h12, if_true, if_false, not_false_eq_true, not_true_eq_false, ↓reduceIte, wMix, wLog, wPic, wRep, wScr, wVM, wMd, sR_eq, sR_ne, sF_eq, sF_ne, upd_eq, upd_ne, gs_eq, gs_ne, gm_4, gm_ne, Nat.reduceBEq]; done) | (with_reducible rfl) | contradiction | (simp only [mv_rr, mv_rp, mv_dg, rdX, h2, h10, eq_true h12, if_true, if_false, not_false_eq_true, not_true_eq_false, ↓reduceIte]; rfl) | rfl) (by subst ex; first | (simp only [mv_rr, mv_rp, mv_dg, rdX, h2, h10, eq_true h12, if_true, if_false, not_false_eq_true, not_true_eq_false, ↓reduceIte]; done) | (simp only [mv_rr, mv_rp, mv_dg, rdX, h2, h10, eq_true h12, if_true, if_false, not_false_eq_true, not_true_eq_false, ↓reduceIte, wMix, wLog, wPic, wRep, wScr, wVM, wMd, sR_eq, sR_ne, sF_eq, sF_ne, upd_eq, upd_ne, gs_eq, gs_ne, gm_4, gm_ne, Nat.reduceBEq]; done) | (with_reducible rfl) | contradiction | (simp only [mv_rr, mv_rp, mv_dg, rdX, h2, h10, eq_true h12, if_true, if_false, not_false_eq_true, not_true_eq_false, ↓reduceIte]; rfl) | rfl)
          · refine y_aload_n Z dX6_reads_80 0 rfl rfl ?_
            refine y_VIw Z (k_X6_here l D ht0 aS (sF (sF S 0 10 x.1) 0 9 x.2) (by first | exact h_l | (simp only [sR_eq, sR_ne, sF_eq, sF_ne, upd_eq, upd_ne, Nat.reduceBEq]; exact h_l)) (by first | exact hI | (simp only [sR_eq, sR_ne, sF_eq, sF_ne, upd_eq, upd_ne, Nat.reduceBEq]; exact hI))) (y_cwV 0 Z ml_RX6_190 im_X6_here se_X6_here in_X6 co_X6_here rfl rfl hd_X6_here ⟨Nat.le_of_ble_eq_true rfl, Nat.le_of_ble_eq_true rfl⟩) List.nil List.nil (by simp only [List.nil_append, List.append_nil, wMix, wLog, wPic, wRep, wScr, wVM, wMd, sR_eq, sR_ne, sF_eq, sF_ne, upd_eq, upd_ne, gs_eq, gs_ne, gm_4, gm_ne, Nat.reduceBEq]) 6 0 rfl rfl rfl rfl (Nat.le_of_ble_eq_true rfl) dX6_reads_81 ⟨Nat.le_of_ble_eq_true rfl, Nat.le_of_ble_eq_true rfl⟩ (wMdR cI aS (S 0 0) (S 0 1) (S 0 2) (S 0 3) (S 0 4) (S 0 5) (S 0 6) (S 0 7) (S 0 8) x.2 x.1 (S 0 11) (S 0 12) (S 1) (S 2) (S 3) (S 4) (S 5) (S 6)) (by simp only [List.nil_append, List.append_nil, wMix, wLog, wPic, wRep, wScr, wVM, wMd, sR_eq, sR_ne, sF_eq, sF_ne, upd_eq, upd_ne, gs_eq, gs_ne, gm_4, gm_ne, Nat.reduceBEq]) ?_
            refine y_eq rfl rfl (st' := [.int (mv_he (S 6) (S 0 8) x.2)]) (by first | with_reducible rfl | simp only [wMix, wLog, wPic, wRep, wScr, wVM, wMd, sR_eq, sR_ne, sF_eq, sF_ne, upd_eq, upd_ne, gs_eq, gs_ne, gm_4, gm_ne, Nat.reduceBEq]) ?_
            refine y_i2l Z dX6_reads_84 ?_
            refine y_ldc2 Z (48) ct_RX6_193 dX6_reads_85 ?_
            refine y_ldc2 Z (57) ct_RX6_198 dX6_reads_88 ?_
            refine y_SI Z (k_X6_in l D ht0 (Int32.toInt64 (mv_he (S 6) (S 0 8) x.2)) 48 57) (y_cwS 3 Z ml_RX6_37 st_X6_in in_X6 co_X6_in rfl rfl hs_X6_in ⟨Nat.le_of_ble_eq_true rfl, Nat.le_of_ble_eq_true rfl⟩) [] rfl (by decide) rfl rfl (Nat.le_of_ble_eq_true rfl) dX6_reads_91 ⟨Nat.le_of_ble_eq_true rfl, Nat.le_of_ble_eq_true rfl⟩ [] rfl rfl (wMdR cI aS (S 0 0) (S 0 1) (S 0 2) (S 0 3) (S 0 4) (S 0 5) (S 0 6) (S 0 7) (S 0 8) x.2 x.1 (S 0 11) (S 0 12) (S 1) (S 2) (S 3) (S 4) (S 5) (S 6)) rfl ?_
            refine y_if_eq (tgt := 99) Z dX6_reads_94 (by decide) (fun h14 => ?_) (fun h15 => ?_)
            · exact absurd h14 h2
            · refine y_iconst (v := 0) Z dX6_reads_97 (by decide) ?_
              exact y_retZ Z hr hlk (by decide) dX6_reads_98 (by subst ex; first | (simp only [mv_rr, mv_rp, mv_dg, rdX, h2, h10, h13, h15, if_true, if_false, not_false_eq_true, not_true_eq_false, ↓reduceIte]; done) | (simp only [mv_rr, mv_rp, mv_dg, rdX, h2, h10, h13, h15, if_true, if_false, not_false_eq_true, not_true_eq_false, ↓reduceIte, wMix, wLog, wPic, wRep, wScr, wVM, wMd, sR_eq, sR_ne, sF_eq, sF_ne, upd_eq, upd_ne, gs_eq, gs_ne, gm_4, gm_ne, Nat.reduceBEq]; done) | (with_reducible rfl) | contradiction | (simp only [mv_rr, mv_rp, mv_dg, rdX, h2, h10, h13, h15, if_true, if_false, not_false_eq_true, not_true_eq_false, ↓reduceIte]; rfl) | rfl) (by subst ex; first | (simp only [mv_rr, mv_rp, mv_dg, rdX, h2, h10, h13, h15, if_true, if_false, not_false_eq_true, not_true_eq_false, ↓reduceIte]; done) | (simp only [mv_rr, mv_rp, mv_dg, rdX, h2, h10, h13, h15, if_true, if_false, not_false_eq_true, not_true_eq_false, ↓reduceIte, wMix, wLog, wPic, wRep, wScr, wVM, wMd, sR_eq, sR_ne, sF_eq, sF_ne, upd_eq, upd_ne, gs_eq, gs_ne, gm_4, gm_ne, Nat.reduceBEq]; done) | (with_reducible rfl) | contradiction | (simp only [mv_rr, mv_rp, mv_dg, rdX, h2, h10, h13, h15, if_true, if_false, not_false_eq_true, not_true_eq_false, ↓reduceIte]; rfl) | rfl)
        · exact absurd (show (rdC (S 6) (S 0 8) (S 0 9) f) x = true by simp only [rdC, mv_dg, h2, h11, ↓reduceIte]) (by rw [show (rdC (S 6) (S 0 8) (S 0 9) f) x = false from hc]; decide)
    | succ n ih =>
      intro x hI hc hx
      refine y_aload_n Z dX6_reads_11 0 rfl rfl ?_
      refine y_VIw Z (k_X6_here l D ht0 aS (sF (sF S 0 10 x.1) 0 9 x.2) (by first | exact h_l | (simp only [sR_eq, sR_ne, sF_eq, sF_ne, upd_eq, upd_ne, Nat.reduceBEq]; exact h_l)) (by first | exact hI | (simp only [sR_eq, sR_ne, sF_eq, sF_ne, upd_eq, upd_ne, Nat.reduceBEq]; exact hI))) (y_cwV 0 Z ml_RX6_190 im_X6_here se_X6_here in_X6 co_X6_here rfl rfl hd_X6_here ⟨Nat.le_of_ble_eq_true rfl, Nat.le_of_ble_eq_true rfl⟩) List.nil List.nil (by simp only [List.nil_append, List.append_nil, wMix, wLog, wPic, wRep, wScr, wVM, wMd, sR_eq, sR_ne, sF_eq, sF_ne, upd_eq, upd_ne, gs_eq, gs_ne, gm_4, gm_ne, Nat.reduceBEq]) 6 0 rfl rfl rfl rfl (Nat.le_of_ble_eq_true rfl) dX6_reads_12 ⟨Nat.le_of_ble_eq_true rfl, Nat.le_of_ble_eq_true rfl⟩ (wMdR cI aS (S 0 0) (S 0 1) (S 0 2) (S 0 3) (S 0 4) (S 0 5) (S 0 6) (S 0 7) (S 0 8) x.2 x.1 (S 0 11) (S 0 12) (S 1) (S 2) (S 3) (S 4) (S 5) (S 6)) (by simp only [List.nil_append, List.append_nil, wMix, wLog, wPic, wRep, wScr, wVM, wMd, sR_eq, sR_ne, sF_eq, sF_ne, upd_eq, upd_ne, gs_eq, gs_ne, gm_4, gm_ne, Nat.reduceBEq]) ?_
      refine y_eq rfl rfl (st' := [.int (mv_he (S 6) (S 0 8) x.2)]) (by first | with_reducible rfl | simp only [wMix, wLog, wPic, wRep, wScr, wVM, wMd, sR_eq, sR_ne, sF_eq, sF_ne, upd_eq, upd_ne, gs_eq, gs_ne, gm_4, gm_ne, Nat.reduceBEq]) ?_
      refine y_i2l Z dX6_reads_15 ?_
      refine y_ldc2 Z (48) ct_RX6_193 dX6_reads_16 ?_
      refine y_ldc2 Z (57) ct_RX6_198 dX6_reads_19 ?_
      refine y_SI Z (k_X6_in l D ht0 (Int32.toInt64 (mv_he (S 6) (S 0 8) x.2)) 48 57) (y_cwS 3 Z ml_RX6_37 st_X6_in in_X6 co_X6_in rfl rfl hs_X6_in ⟨Nat.le_of_ble_eq_true rfl, Nat.le_of_ble_eq_true rfl⟩) [] rfl (by decide) rfl rfl (Nat.le_of_ble_eq_true rfl) dX6_reads_22 ⟨Nat.le_of_ble_eq_true rfl, Nat.le_of_ble_eq_true rfl⟩ [] rfl rfl (wMdR cI aS (S 0 0) (S 0 1) (S 0 2) (S 0 3) (S 0 4) (S 0 5) (S 0 6) (S 0 7) (S 0 8) x.2 x.1 (S 0 11) (S 0 12) (S 1) (S 2) (S 3) (S 4) (S 5) (S 6)) rfl ?_
      refine y_if_eq (tgt := 71) Z dX6_reads_25 (by decide) (fun h16 => ?_) (fun h17 => ?_)
      · have hb : (rdC (S 6) (S 0 8) (S 0 9) f) x = false := by simp only [rdC, mv_dg, eq_true h16, ↓reduceIte]
        have ex : x = (lw (rdC (S 6) (S 0 8) (S 0 9) f) (rdB (S 6) (S 0 8)) 5 (0, S 0 9)) := by rw [← hx, lw_f hb]
        refine y_aload_n Z dX6_reads_71 0 rfl rfl ?_
        refine y_get (C := RX6) (T := TX6) (N := 19) Z 6 inlX6 rfl 0 rfl 15 (by decide) fl_RX6_187 rfl dX6_reads_72 ?_
        refine y_iload Z dX6_reads_75 4 rfl ?_
        refine y_icmp_eq (tgt := 97) Z dX6_reads_77 (by decide) (fun h18 => ?_) (fun h19 => ?_)
        · refine y_iconst (v := 0) Z dX6_reads_97 (by decide) ?_
          exact y_retZ Z hr hlk (by decide) dX6_reads_98 (by subst ex; first | (simp only [mv_rr, mv_rp, mv_dg, rdX, eq_true h16, eq_true h18, if_true, if_false, not_false_eq_true, not_true_eq_false, ↓reduceIte]; done) | (simp only [mv_rr, mv_rp, mv_dg, rdX, eq_true h16, eq_true h18, if_true, if_false, not_false_eq_true, not_true_eq_false, ↓reduceIte, wMix, wLog, wPic, wRep, wScr, wVM, wMd, sR_eq, sR_ne, sF_eq, sF_ne, upd_eq, upd_ne, gs_eq, gs_ne, gm_4, gm_ne, Nat.reduceBEq]; done) | (with_reducible rfl) | contradiction | (simp only [mv_rr, mv_rp, mv_dg, rdX, eq_true h16, eq_true h18, if_true, if_false, not_false_eq_true, not_true_eq_false, ↓reduceIte]; rfl) | rfl) (by subst ex; first | (simp only [mv_rr, mv_rp, mv_dg, rdX, eq_true h16, eq_true h18, if_true, if_false, not_false_eq_true, not_true_eq_false, ↓reduceIte]; done) | (simp only [mv_rr, mv_rp, mv_dg, rdX, eq_true h16, eq_true h18, if_true, if_false, not_false_eq_true, not_true_eq_false, ↓reduceIte, wMix, wLog, wPic, wRep, wScr, wVM, wMd, sR_eq, sR_ne, sF_eq, sF_ne, upd_eq, upd_ne, gs_eq, gs_ne, gm_4, gm_ne, Nat.reduceBEq]; done) | (with_reducible rfl) | contradiction | (simp only [mv_rr, mv_rp, mv_dg, rdX, eq_true h16, eq_true h18, if_true, if_false, not_false_eq_true, not_true_eq_false, ↓reduceIte]; rfl) | rfl)
        · refine y_aload_n Z dX6_reads_80 0 rfl rfl ?_
          refine y_VIw Z (k_X6_here l D ht0 aS (sF (sF S 0 10 x.1) 0 9 x.2) (by first | exact h_l | (simp only [sR_eq, sR_ne, sF_eq, sF_ne, upd_eq, upd_ne, Nat.reduceBEq]; exact h_l)) (by first | exact hI | (simp only [sR_eq, sR_ne, sF_eq, sF_ne, upd_eq, upd_ne, Nat.reduceBEq]; exact hI))) (y_cwV 0 Z ml_RX6_190 im_X6_here se_X6_here in_X6 co_X6_here rfl rfl hd_X6_here ⟨Nat.le_of_ble_eq_true rfl, Nat.le_of_ble_eq_true rfl⟩) List.nil List.nil (by simp only [List.nil_append, List.append_nil, wMix, wLog, wPic, wRep, wScr, wVM, wMd, sR_eq, sR_ne, sF_eq, sF_ne, upd_eq, upd_ne, gs_eq, gs_ne, gm_4, gm_ne, Nat.reduceBEq]) 6 0 rfl rfl rfl rfl (Nat.le_of_ble_eq_true rfl) dX6_reads_81 ⟨Nat.le_of_ble_eq_true rfl, Nat.le_of_ble_eq_true rfl⟩ (wMdR cI aS (S 0 0) (S 0 1) (S 0 2) (S 0 3) (S 0 4) (S 0 5) (S 0 6) (S 0 7) (S 0 8) x.2 x.1 (S 0 11) (S 0 12) (S 1) (S 2) (S 3) (S 4) (S 5) (S 6)) (by simp only [List.nil_append, List.append_nil, wMix, wLog, wPic, wRep, wScr, wVM, wMd, sR_eq, sR_ne, sF_eq, sF_ne, upd_eq, upd_ne, gs_eq, gs_ne, gm_4, gm_ne, Nat.reduceBEq]) ?_
          refine y_eq rfl rfl (st' := [.int (mv_he (S 6) (S 0 8) x.2)]) (by first | with_reducible rfl | simp only [wMix, wLog, wPic, wRep, wScr, wVM, wMd, sR_eq, sR_ne, sF_eq, sF_ne, upd_eq, upd_ne, gs_eq, gs_ne, gm_4, gm_ne, Nat.reduceBEq]) ?_
          refine y_i2l Z dX6_reads_84 ?_
          refine y_ldc2 Z (48) ct_RX6_193 dX6_reads_85 ?_
          refine y_ldc2 Z (57) ct_RX6_198 dX6_reads_88 ?_
          refine y_SI Z (k_X6_in l D ht0 (Int32.toInt64 (mv_he (S 6) (S 0 8) x.2)) 48 57) (y_cwS 3 Z ml_RX6_37 st_X6_in in_X6 co_X6_in rfl rfl hs_X6_in ⟨Nat.le_of_ble_eq_true rfl, Nat.le_of_ble_eq_true rfl⟩) [] rfl (by decide) rfl rfl (Nat.le_of_ble_eq_true rfl) dX6_reads_91 ⟨Nat.le_of_ble_eq_true rfl, Nat.le_of_ble_eq_true rfl⟩ [] rfl rfl (wMdR cI aS (S 0 0) (S 0 1) (S 0 2) (S 0 3) (S 0 4) (S 0 5) (S 0 6) (S 0 7) (S 0 8) x.2 x.1 (S 0 11) (S 0 12) (S 1) (S 2) (S 3) (S 4) (S 5) (S 6)) rfl ?_
          refine y_if_eq (tgt := 99) Z dX6_reads_94 (by decide) (fun h20 => ?_) (fun h21 => ?_)
          · refine y_aload_n Z dX6_reads_99 0 rfl rfl ?_
            refine y_get (C := RX6) (T := TX6) (N := 19) Z 6 inlX6 rfl 0 rfl 16 (by decide) fl_RX6_195 rfl dX6_reads_100 ?_
            refine y_i2l Z dX6_reads_103 ?_
            refine y_iload_n Z dX6_reads_104 2 rfl rfl ?_
            refine y_i2l Z dX6_reads_105 ?_
            refine y_iload_n Z dX6_reads_106 3 rfl rfl ?_
            refine y_i2l Z dX6_reads_107 ?_
            refine y_SI Z (k_X6_in l D ht0 (Int32.toInt64 x.1) (Int32.toInt64 lo) (Int32.toInt64 hi)) (y_cwS 3 Z ml_RX6_37 st_X6_in in_X6 co_X6_in rfl rfl hs_X6_in ⟨Nat.le_of_ble_eq_true rfl, Nat.le_of_ble_eq_true rfl⟩) [] rfl (by decide) rfl rfl (Nat.le_of_ble_eq_true rfl) dX6_reads_108 ⟨Nat.le_of_ble_eq_true rfl, Nat.le_of_ble_eq_true rfl⟩ [] rfl rfl (wMdR cI aS (S 0 0) (S 0 1) (S 0 2) (S 0 3) (S 0 4) (S 0 5) (S 0 6) (S 0 7) (S 0 8) x.2 x.1 (S 0 11) (S 0 12) (S 1) (S 2) (S 3) (S 4) (S 5) (S 6)) rfl ?_
            refine y_istore Z [(5, .int (mv_in (Int32.toInt64 x.1) (Int32.toInt64 lo) (Int32.toInt64 hi))), (0, .ref (aS 0)), (1, .int f), (2, .int lo), (3, .int hi), (4, .int (S 0 9))] dX6_reads_111 (by decide) rfl ?_
            refine y_aload_n Z dX6_reads_113 1 rfl rfl ?_
            have hJ22 : Yy p l e { frames := 1, cells := 0, slots := 0, locals := 25 } s m args below meth c (QI D tys A (wMdR cI aS (S 0 0) (S 0 1) (S 0 2) (S 0 3) (S 0 4) (S 0 5) (S 0 6) (S 0 7) (S 0 8) (mv_rp (S 6) (S 0 8) (S 0 9) f lo hi) ((rdX (S 6) (S 0 8) (S 0 9) f).1) (S 0 11) (S 0 12) (S 1) (S 2) (S 3) (S 4) (S 5) (S 6)) (mv_rr (S 6) (S 0 8) (S 0 9) f lo hi) below args s 0 0) D A 6 0 0 (wMdR cI aS (S 0 0) (S 0 1) (S 0 2) (S 0 3) (S 0 4) (S 0 5) (S 0 6) (S 0 7) (S 0 8) x.2 x.1 (S 0 11) (S 0 12) (S 1) (S 2) (S 3) (S 4) (S 5) (S 6)) [(5, .int (mv_in (Int32.toInt64 x.1) (Int32.toInt64 lo) (Int32.toInt64 hi))), (0, .ref (aS 0)), (1, .int f), (2, .int lo), (3, .int hi), (4, .int (S 0 9))] [.int (mv_sl (mv_in (Int32.toInt64 x.1) (Int32.toInt64 lo) (Int32.toInt64 hi)) (S 0 9) x.2), .ref (aS 0)] 128 := by
              refine y_put (C := RX6) (T := TX6) (N := 19) Z 6 inlX6 rfl tyX6 tyX6_ok nmX6 0 rfl 15 (by decide) fl_RX6_187 rfl rfl rfl (Nat.le_of_ble_eq_true rfl) (wMdR cI aS (S 0 0) (S 0 1) (S 0 2) (S 0 3) (S 0 4) (S 0 5) (S 0 6) (S 0 7) (S 0 8) (mv_sl (mv_in (Int32.toInt64 x.1) (Int32.toInt64 lo) (Int32.toInt64 hi)) (S 0 9) x.2) x.1 (S 0 11) (S 0 12) (S 1) (S 2) (S 3) (S 4) (S 5) (S 6)) rfl dX6_reads_128 ?_
              refine y_iload Z dX6_reads_131 0 rfl ?_
              exact y_retZ Z hr hlk ((nb01 (mv_in01 _ _ _))) dX6_reads_133 (by subst ex; first | (simp only [mv_rr, mv_rp, mv_dg, rdX, eq_true h16, h19, eq_true h20, if_true, if_false, not_false_eq_true, not_true_eq_false, ↓reduceIte]; done) | (simp only [mv_rr, mv_rp, mv_dg, rdX, eq_true h16, h19, eq_true h20, if_true, if_false, not_false_eq_true, not_true_eq_false, ↓reduceIte, wMix, wLog, wPic, wRep, wScr, wVM, wMd, sR_eq, sR_ne, sF_eq, sF_ne, upd_eq, upd_ne, gs_eq, gs_ne, gm_4, gm_ne, Nat.reduceBEq]; done) | (with_reducible rfl) | contradiction | (simp only [mv_rr, mv_rp, mv_dg, rdX, eq_true h16, h19, eq_true h20, if_true, if_false, not_false_eq_true, not_true_eq_false, ↓reduceIte]; rfl) | rfl) (by subst ex; first | (simp only [mv_rr, mv_rp, mv_dg, rdX, eq_true h16, h19, eq_true h20, if_true, if_false, not_false_eq_true, not_true_eq_false, ↓reduceIte]; done) | (simp only [mv_rr, mv_rp, mv_dg, rdX, eq_true h16, h19, eq_true h20, if_true, if_false, not_false_eq_true, not_true_eq_false, ↓reduceIte, wMix, wLog, wPic, wRep, wScr, wVM, wMd, sR_eq, sR_ne, sF_eq, sF_ne, upd_eq, upd_ne, gs_eq, gs_ne, gm_4, gm_ne, Nat.reduceBEq]; done) | (with_reducible rfl) | contradiction | (simp only [mv_rr, mv_rp, mv_dg, rdX, eq_true h16, h19, eq_true h20, if_true, if_false, not_false_eq_true, not_true_eq_false, ↓reduceIte]; rfl) | rfl)
            refine y_iload Z dX6_reads_114 0 rfl ?_
            refine y_if_eq (tgt := 126) Z dX6_reads_116 (by decide) (fun h23 => ?_) (fun h24 => ?_)
            · refine y_iload Z dX6_reads_126 5 rfl ?_
              exact y_eq rfl rfl (st' := [.int (mv_sl (mv_in (Int32.toInt64 x.1) (Int32.toInt64 lo) (Int32.toInt64 hi)) (S 0 9) x.2), .ref (aS 0)]) (by first | (simp only [mv_sl, eq_true h16, h19, eq_true h20, eq_true h23, if_true, if_false, not_false_eq_true, not_true_eq_false, ↓reduceIte]; done) | (simp only [mv_sl, eq_true h16, h19, eq_true h20, eq_true h23, if_true, if_false, not_false_eq_true, not_true_eq_false, ↓reduceIte, wMix, wLog, wPic, wRep, wScr, wVM, wMd, sR_eq, sR_ne, sF_eq, sF_ne, upd_eq, upd_ne, gs_eq, gs_ne, gm_4, gm_ne, Nat.reduceBEq]; done) | (with_reducible rfl) | contradiction | (simp only [mv_sl, eq_true h16, h19, eq_true h20, eq_true h23, if_true, if_false, not_false_eq_true, not_true_eq_false, ↓reduceIte]; rfl) | rfl) hJ22
            · refine y_aload_n Z dX6_reads_119 1 rfl rfl ?_
              refine y_get (C := RX6) (T := TX6) (N := 19) Z 6 inlX6 rfl 0 rfl 15 (by decide) fl_RX6_187 rfl dX6_reads_120 ?_
              refine y_goto (tgt := 128) Z dX6_reads_123 (by decide) ?_
              exact y_eq rfl rfl (st' := [.int (mv_sl (mv_in (Int32.toInt64 x.1) (Int32.toInt64 lo) (Int32.toInt64 hi)) (S 0 9) x.2), .ref (aS 0)]) (by first | (simp only [mv_sl, eq_true h16, h19, eq_true h20, h24, if_true, if_false, not_false_eq_true, not_true_eq_false, ↓reduceIte]; done) | (simp only [mv_sl, eq_true h16, h19, eq_true h20, h24, if_true, if_false, not_false_eq_true, not_true_eq_false, ↓reduceIte, wMix, wLog, wPic, wRep, wScr, wVM, wMd, sR_eq, sR_ne, sF_eq, sF_ne, upd_eq, upd_ne, gs_eq, gs_ne, gm_4, gm_ne, Nat.reduceBEq]; done) | (with_reducible rfl) | contradiction | (simp only [mv_sl, eq_true h16, h19, eq_true h20, h24, if_true, if_false, not_false_eq_true, not_true_eq_false, ↓reduceIte]; rfl) | rfl) hJ22
          · exact absurd h16 h21
      · refine y_aload_n Z dX6_reads_28 0 rfl rfl ?_
        refine y_get (C := RX6) (T := TX6) (N := 19) Z 6 inlX6 rfl 0 rfl 15 (by decide) fl_RX6_187 rfl dX6_reads_29 ?_
        refine y_iload Z dX6_reads_32 4 rfl ?_
        refine y_iload_n Z dX6_reads_34 1 rfl rfl ?_
        refine y_iadd Z dX6_reads_35 ?_
        refine y_icmp_ge (tgt := 71) Z dX6_reads_36 (by decide) (fun h25 => ?_) (fun h26 => ?_)
        · have hb : (rdC (S 6) (S 0 8) (S 0 9) f) x = false := by simp only [rdC, mv_dg, h17, h25, ↓reduceIte]
          have ex : x = (lw (rdC (S 6) (S 0 8) (S 0 9) f) (rdB (S 6) (S 0 8)) 5 (0, S 0 9)) := by rw [← hx, lw_f hb]
          refine y_aload_n Z dX6_reads_71 0 rfl rfl ?_
          refine y_get (C := RX6) (T := TX6) (N := 19) Z 6 inlX6 rfl 0 rfl 15 (by decide) fl_RX6_187 rfl dX6_reads_72 ?_
          refine y_iload Z dX6_reads_75 4 rfl ?_
          refine y_icmp_eq (tgt := 97) Z dX6_reads_77 (by decide) (fun h27 => ?_) (fun h28 => ?_)
          · refine y_iconst (v := 0) Z dX6_reads_97 (by decide) ?_
            exact y_retZ Z hr hlk (by decide) dX6_reads_98 (by subst ex; first | (simp only [mv_rr, mv_rp, mv_dg, rdX, h17, h25, eq_true h27, if_true, if_false, not_false_eq_true, not_true_eq_false, ↓reduceIte]; done) | (simp only [mv_rr, mv_rp, mv_dg, rdX, h17, h25, eq_true h27, if_true, if_false, not_false_eq_true, not_true_eq_false, ↓reduceIte, wMix, wLog, wPic, wRep, wScr, wVM, wMd, sR_eq, sR_ne, sF_eq, sF_ne, upd_eq, upd_ne, gs_eq, gs_ne, gm_4, gm_ne, Nat.reduceBEq]; done) | (with_reducible rfl) | contradiction | (simp only [mv_rr, mv_rp, mv_dg, rdX, h17, h25, eq_true h27, if_true, if_false, not_false_eq_true, not_true_eq_false, ↓reduceIte]; rfl) | rfl) (by subst ex; first | (simp only [mv_rr, mv_rp, mv_dg, rdX, h17, h25, eq_true h27, if_true, if_false, not_false_eq_true, not_true_eq_false, ↓reduceIte]; done) | (simp only [mv_rr, mv_rp, mv_dg, rdX, h17, h25, eq_true h27, if_true, if_false, not_false_eq_true, not_true_eq_false, ↓reduceIte, wMix, wLog, wPic, wRep, wScr, wVM, wMd, sR_eq, sR_ne, sF_eq, sF_ne, upd_eq, upd_ne, gs_eq, gs_ne, gm_4, gm_ne, Nat.reduceBEq]; done) | (with_reducible rfl) | contradiction | (simp only [mv_rr, mv_rp, mv_dg, rdX, h17, h25, eq_true h27, if_true, if_false, not_false_eq_true, not_true_eq_false, ↓reduceIte]; rfl) | rfl)
          · refine y_aload_n Z dX6_reads_80 0 rfl rfl ?_
            refine y_VIw Z (k_X6_here l D ht0 aS (sF (sF S 0 10 x.1) 0 9 x.2) (by first | exact h_l | (simp only [sR_eq, sR_ne, sF_eq, sF_ne, upd_eq, upd_ne, Nat.reduceBEq]; exact h_l)) (by first | exact hI | (simp only [sR_eq, sR_ne, sF_eq, sF_ne, upd_eq, upd_ne, Nat.reduceBEq]; exact hI))) (y_cwV 0 Z ml_RX6_190 im_X6_here se_X6_here in_X6 co_X6_here rfl rfl hd_X6_here ⟨Nat.le_of_ble_eq_true rfl, Nat.le_of_ble_eq_true rfl⟩) List.nil List.nil (by simp only [List.nil_append, List.append_nil, wMix, wLog, wPic, wRep, wScr, wVM, wMd, sR_eq, sR_ne, sF_eq, sF_ne, upd_eq, upd_ne, gs_eq, gs_ne, gm_4, gm_ne, Nat.reduceBEq]) 6 0 rfl rfl rfl rfl (Nat.le_of_ble_eq_true rfl) dX6_reads_81 ⟨Nat.le_of_ble_eq_true rfl, Nat.le_of_ble_eq_true rfl⟩ (wMdR cI aS (S 0 0) (S 0 1) (S 0 2) (S 0 3) (S 0 4) (S 0 5) (S 0 6) (S 0 7) (S 0 8) x.2 x.1 (S 0 11) (S 0 12) (S 1) (S 2) (S 3) (S 4) (S 5) (S 6)) (by simp only [List.nil_append, List.append_nil, wMix, wLog, wPic, wRep, wScr, wVM, wMd, sR_eq, sR_ne, sF_eq, sF_ne, upd_eq, upd_ne, gs_eq, gs_ne, gm_4, gm_ne, Nat.reduceBEq]) ?_
            refine y_eq rfl rfl (st' := [.int (mv_he (S 6) (S 0 8) x.2)]) (by first | with_reducible rfl | simp only [wMix, wLog, wPic, wRep, wScr, wVM, wMd, sR_eq, sR_ne, sF_eq, sF_ne, upd_eq, upd_ne, gs_eq, gs_ne, gm_4, gm_ne, Nat.reduceBEq]) ?_
            refine y_i2l Z dX6_reads_84 ?_
            refine y_ldc2 Z (48) ct_RX6_193 dX6_reads_85 ?_
            refine y_ldc2 Z (57) ct_RX6_198 dX6_reads_88 ?_
            refine y_SI Z (k_X6_in l D ht0 (Int32.toInt64 (mv_he (S 6) (S 0 8) x.2)) 48 57) (y_cwS 3 Z ml_RX6_37 st_X6_in in_X6 co_X6_in rfl rfl hs_X6_in ⟨Nat.le_of_ble_eq_true rfl, Nat.le_of_ble_eq_true rfl⟩) [] rfl (by decide) rfl rfl (Nat.le_of_ble_eq_true rfl) dX6_reads_91 ⟨Nat.le_of_ble_eq_true rfl, Nat.le_of_ble_eq_true rfl⟩ [] rfl rfl (wMdR cI aS (S 0 0) (S 0 1) (S 0 2) (S 0 3) (S 0 4) (S 0 5) (S 0 6) (S 0 7) (S 0 8) x.2 x.1 (S 0 11) (S 0 12) (S 1) (S 2) (S 3) (S 4) (S 5) (S 6)) rfl ?_
            refine y_if_eq (tgt := 99) Z dX6_reads_94 (by decide) (fun h29 => ?_) (fun h30 => ?_)
            · exact absurd h29 h17
            · refine y_iconst (v := 0) Z dX6_reads_97 (by decide) ?_
              exact y_retZ Z hr hlk (by decide) dX6_reads_98 (by subst ex; first | (simp only [mv_rr, mv_rp, mv_dg, rdX, h17, h25, h28, h30, if_true, if_false, not_false_eq_true, not_true_eq_false, ↓reduceIte]; done) | (simp only [mv_rr, mv_rp, mv_dg, rdX, h17, h25, h28, h30, if_true, if_false, not_false_eq_true, not_true_eq_false, ↓reduceIte, wMix, wLog, wPic, wRep, wScr, wVM, wMd, sR_eq, sR_ne, sF_eq, sF_ne, upd_eq, upd_ne, gs_eq, gs_ne, gm_4, gm_ne, Nat.reduceBEq]; done) | (with_reducible rfl) | contradiction | (simp only [mv_rr, mv_rp, mv_dg, rdX, h17, h25, h28, h30, if_true, if_false, not_false_eq_true, not_true_eq_false, ↓reduceIte]; rfl) | rfl) (by subst ex; first | (simp only [mv_rr, mv_rp, mv_dg, rdX, h17, h25, h28, h30, if_true, if_false, not_false_eq_true, not_true_eq_false, ↓reduceIte]; done) | (simp only [mv_rr, mv_rp, mv_dg, rdX, h17, h25, h28, h30, if_true, if_false, not_false_eq_true, not_true_eq_false, ↓reduceIte, wMix, wLog, wPic, wRep, wScr, wVM, wMd, sR_eq, sR_ne, sF_eq, sF_ne, upd_eq, upd_ne, gs_eq, gs_ne, gm_4, gm_ne, Nat.reduceBEq]; done) | (with_reducible rfl) | contradiction | (simp only [mv_rr, mv_rp, mv_dg, rdX, h17, h25, h28, h30, if_true, if_false, not_false_eq_true, not_true_eq_false, ↓reduceIte]; rfl) | rfl)
        · have hb : (rdC (S 6) (S 0 8) (S 0 9) f) x = true := by simp only [rdC, mv_dg, h17, h26, ↓reduceIte]
          refine y_aload_n Z dX6_reads_39 0 rfl rfl ?_
          refine y_bipush (v := 10) Z dX6_reads_40 (by decide) ?_
          refine y_aload_n Z dX6_reads_42 0 rfl rfl ?_
          refine y_get (C := RX6) (T := TX6) (N := 19) Z 6 inlX6 rfl 0 rfl 16 (by decide) fl_RX6_195 rfl dX6_reads_43 ?_
          refine y_imul Z dX6_reads_46 ?_
          refine y_aload_n Z dX6_reads_47 0 rfl rfl ?_
          refine y_VIw Z (k_X6_here l D ht0 aS (sF (sF S 0 10 x.1) 0 9 x.2) (by first | exact h_l | (simp only [sR_eq, sR_ne, sF_eq, sF_ne, upd_eq, upd_ne, Nat.reduceBEq]; exact h_l)) (by first | exact hI | (simp only [sR_eq, sR_ne, sF_eq, sF_ne, upd_eq, upd_ne, Nat.reduceBEq]; exact hI))) (y_cwV 0 Z ml_RX6_190 im_X6_here se_X6_here in_X6 co_X6_here rfl rfl hd_X6_here ⟨Nat.le_of_ble_eq_true rfl, Nat.le_of_ble_eq_true rfl⟩) List.nil List.nil (by simp only [List.nil_append, List.append_nil, wMix, wLog, wPic, wRep, wScr, wVM, wMd, sR_eq, sR_ne, sF_eq, sF_ne, upd_eq, upd_ne, gs_eq, gs_ne, gm_4, gm_ne, Nat.reduceBEq]) 6 0 rfl rfl rfl rfl (Nat.le_of_ble_eq_true rfl) dX6_reads_48 ⟨Nat.le_of_ble_eq_true rfl, Nat.le_of_ble_eq_true rfl⟩ (wMdR cI aS (S 0 0) (S 0 1) (S 0 2) (S 0 3) (S 0 4) (S 0 5) (S 0 6) (S 0 7) (S 0 8) x.2 x.1 (S 0 11) (S 0 12) (S 1) (S 2) (S 3) (S 4) (S 5) (S 6)) (by simp only [List.nil_append, List.append_nil, wMix, wLog, wPic, wRep, wScr, wVM, wMd, sR_eq, sR_ne, sF_eq, sF_ne, upd_eq, upd_ne, gs_eq, gs_ne, gm_4, gm_ne, Nat.reduceBEq]) ?_
          refine y_eq rfl rfl (st' := [.int (mv_he (S 6) (S 0 8) x.2), .int (10 * x.1), .ref (aS 0)]) (by first | with_reducible rfl | simp only [wMix, wLog, wPic, wRep, wScr, wVM, wMd, sR_eq, sR_ne, sF_eq, sF_ne, upd_eq, upd_ne, gs_eq, gs_ne, gm_4, gm_ne, Nat.reduceBEq]) ?_
          refine y_iadd Z dX6_reads_51 ?_
          refine y_bipush (v := 48) Z dX6_reads_52 (by decide) ?_
          refine y_isub Z dX6_reads_54 ?_
          refine y_put (C := RX6) (T := TX6) (N := 19) Z 6 inlX6 rfl tyX6 tyX6_ok nmX6 0 rfl 16 (by decide) fl_RX6_195 rfl rfl rfl (Nat.le_of_ble_eq_true rfl) (wMdR cI aS (S 0 0) (S 0 1) (S 0 2) (S 0 3) (S 0 4) (S 0 5) (S 0 6) (S 0 7) (S 0 8) x.2 (((10 * x.1) + (mv_he (S 6) (S 0 8) x.2)) - 48) (S 0 11) (S 0 12) (S 1) (S 2) (S 3) (S 4) (S 5) (S 6)) rfl dX6_reads_55 ?_
          refine y_aload_n Z dX6_reads_58 0 rfl rfl ?_
          refine y_dup Z dX6_reads_59 rfl ?_
          refine y_get (C := RX6) (T := TX6) (N := 19) Z 6 inlX6 rfl 0 rfl 15 (by decide) fl_RX6_187 rfl dX6_reads_60 ?_
          refine y_iconst (v := 1) Z dX6_reads_63 (by decide) ?_
          refine y_iadd Z dX6_reads_64 ?_
          refine y_put (C := RX6) (T := TX6) (N := 19) Z 6 inlX6 rfl tyX6 tyX6_ok nmX6 0 rfl 15 (by decide) fl_RX6_187 rfl rfl rfl (Nat.le_of_ble_eq_true rfl) (wMdR cI aS (S 0 0) (S 0 1) (S 0 2) (S 0 3) (S 0 4) (S 0 5) (S 0 6) (S 0 7) (S 0 8) (x.2 + 1) (((10 * x.1) + (mv_he (S 6) (S 0 8) x.2)) - 48) (S 0 11) (S 0 12) (S 1) (S 2) (S 3) (S 4) (S 5) (S 6)) rfl dX6_reads_65 ?_
          refine y_goto (tgt := 11) Z dX6_reads_68 (by decide) ?_
          refine y_eq (ws' := (wMdR cI aS (S 0 0) (S 0 1) (S 0 2) (S 0 3) (S 0 4) (S 0 5) (S 0 6) (S 0 7) (S 0 8) (((rdB (S 6) (S 0 8)) x).2) (((rdB (S 6) (S 0 8)) x).1) (S 0 11) (S 0 12) (S 1) (S 2) (S 3) (S 4) (S 5) (S 6))) (lv' := [(0, .ref (aS 0)), (1, .int f), (2, .int lo), (3, .int hi), (4, .int (S 0 9))]) (st' := []) (by first | (simp only [rdB, h17, h26, if_true, if_false, not_false_eq_true, not_true_eq_false, ↓reduceIte]; done) | (simp only [rdB, h17, h26, if_true, if_false, not_false_eq_true, not_true_eq_false, ↓reduceIte, wMix, wLog, wPic, wRep, wScr, wVM, wMd, sR_eq, sR_ne, sF_eq, sF_ne, upd_eq, upd_ne, gs_eq, gs_ne, gm_4, gm_ne, Nat.reduceBEq]; done) | (with_reducible rfl) | contradiction | (simp only [rdB, h17, h26, if_true, if_false, not_false_eq_true, not_true_eq_false, ↓reduceIte]; rfl) | rfl) (by first | (simp only [rdB, h17, h26, if_true, if_false, not_false_eq_true, not_true_eq_false, ↓reduceIte]; done) | (simp only [rdB, h17, h26, if_true, if_false, not_false_eq_true, not_true_eq_false, ↓reduceIte, wMix, wLog, wPic, wRep, wScr, wVM, wMd, sR_eq, sR_ne, sF_eq, sF_ne, upd_eq, upd_ne, gs_eq, gs_ne, gm_4, gm_ne, Nat.reduceBEq]; done) | (with_reducible rfl) | contradiction | (simp only [rdB, h17, h26, if_true, if_false, not_false_eq_true, not_true_eq_false, ↓reduceIte]; rfl) | rfl) rfl ?_
          exact ih _ (rd_p1 (T := S 6) h_l hI (dg_lt (rd_dg hb))).1 (by rw [lw_t hb] at hc; exact hc) (by rw [lw_t hb] at hx; exact hx)
  refine y_aload_n Z dX6_reads_0 0 rfl rfl ?_
  refine y_get (C := RX6) (T := TX6) (N := 19) Z 6 inlX6 rfl 0 rfl 15 (by decide) fl_RX6_187 rfl dX6_reads_1 ?_
  refine y_istore Z [(4, .int (S 0 9)), (0, .ref (aS 0)), (1, .int f), (2, .int lo), (3, .int hi)] dX6_reads_4 (by decide) rfl ?_
  refine y_aload_n Z dX6_reads_6 1 rfl rfl ?_
  refine y_iconst (v := 0) Z dX6_reads_7 (by decide) ?_
  refine y_put (C := RX6) (T := TX6) (N := 19) Z 6 inlX6 rfl tyX6 tyX6_ok nmX6 0 rfl 16 (by decide) fl_RX6_195 rfl rfl rfl (Nat.le_of_ble_eq_true rfl) (wMdR cI aS (S 0 0) (S 0 1) (S 0 2) (S 0 3) (S 0 4) (S 0 5) (S 0 6) (S 0 7) (S 0 8) (S 0 9) 0 (S 0 11) (S 0 12) (S 1) (S 2) (S 3) (S 4) (S 5) (S 6)) rfl dX6_reads_8 ?_
  refine y_lv [1, 2, 3, 4, 0] (lv' := [(0, .ref (aS 0)), (1, .int f), (2, .int lo), (3, .int hi), (4, .int (S 0 9))]) rfl ?_
  exact L11 5 (0, S 0 9) h_p (rd_stop _ h_l h_p h_f) rfl
set_option maxHeartbeats 4000000 in
set_option maxRecDepth 100000 in
theorem k_X6_sums (l : Launch) (D : va_G) {cI : ClassId} {tys : List (ClassId × FieldType)} (ht0 : tys[0]? = some (cI, .int)) (h : Int64) (v : Int64) (sz : Nat) : kL l yX6_sums cX6_sums 4 (some .long) { frames := 0, cells := 0, slots := 0, locals := 0 } D tys [.long h, .long v] ([] : va_W) ([] : va_W) (31 * h + v) 0 0 sz := by
  refine y_enterL (cc := cX6_sums) (maxL := 4) (ret := (some .long)) (own := RX6) (by decide) rfl (lv0 := [(0, .long h), (2, .long v)]) rfl (Nat.le_of_ble_eq_true rfl) ?_
  intro p e s m args below meth c A Z hr hlk _
  refine y_ldc2 Z (31) ct_RX6_249 dX6_sums_0 ?_
  refine y_lload_n Z dX6_sums_3 0 rfl rfl ?_
  refine y_lmul Z dX6_sums_4 ?_
  refine y_lload_n Z dX6_sums_5 1 rfl rfl ?_
  refine y_ladd Z dX6_sums_6 ?_
  exact y_retL Z hr hlk dX6_sums_7 (by first | (with_reducible rfl) | (simp only [wMix, wLog, wPic, wRep, wScr, wVM, wMd, sR_eq, sR_ne, sF_eq, sF_ne, upd_eq, upd_ne, gs_eq, gs_ne, gm_4, gm_ne, Nat.reduceBEq]; done) | rfl) (by first | (with_reducible rfl) | (simp only [wMix, wLog, wPic, wRep, wScr, wVM, wMd, sR_eq, sR_ne, sF_eq, sF_ne, upd_eq, upd_ne, gs_eq, gs_ne, gm_4, gm_ne, Nat.reduceBEq]; done) | rfl)
