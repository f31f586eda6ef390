def okm (m : Nat → Int32) : Prop := vp_in (m 0) 10 ∧ vp_in (m 1) 10 ∧ vp_in (m 7) 10 ∧ vp_in (m 11) 10 ∧ vp_in (m 15) 10 ∧ ¬ m 3 = 0
theorem nI_nz {i : Nat} : nI i = nI i := rfl
def mr_z (k : Nat) (s : Nat → Int32) : Nat → Int32 := upd s k 0
def cl (x : Int32) : Nat := x.toNatClampNeg
def mr_ad (s : Nat → Int32) (k : Nat) (v : Int32) : Nat → Int32 := upd s k (s k + v)
def mr_sb (m s : Nat → Int32) : Nat → Int32 := if mv_el m 0 = 0 then mr_ad s (cl (m 0)) 1000000 else if 2 ≤ m 2 then (if 500 < m 5 then mr_ad (mr_ad s 0 ((2000 - 2 * m 5) * 1000)) (cl (m 1)) ((2 * m 5 - 1000) * 1000) else mr_ad (mr_ad s (cl (m 0)) ((1000 - 2 * m 5) * 1000)) 0 (2 * m 5 * 1000)) else mr_ad (mr_ad s (cl (m 0)) ((1000 - m 5) * 1000)) (cl (m 1)) (m 5 * 1000)
def mv_co (m : Nat → Int32) (k t : Int32) : Int32 := if mv_el m (1 + k) = 0 then m (kx k 1) * m (kx k 2) * m (kx k 3) else m (kx k 1) * m (kx k 2) * (if m (kx k 3) = 1 then 1000 - t else t) / 1000
def mv_tk (c : Int32) (k : Nat) (s : Nat → Int32) : Int32 := Int64.toInt32 (Int32.toInt64 (s k) * Int32.toInt64 c / 10000)
def mr_ts (c : Int32) (k : Nat) (x : (Nat → Int32) × Int32) : (Nat → Int32) × Int32 := (upd x.1 k (x.1 k - mv_tk c k x.1), x.2 + mv_tk c k x.1)
def mr_ta (c : Int32) (n : Nat) (s : Nat → Int32) : (Nat → Int32) × Int32 := it (mr_ts c) n (s, 0)
def mr_cv (m : Nat → Int32) (k c : Int32) (s : Nat → Int32) : Nat → Int32 := upd (mr_ta c 10 s).1 (cl (m (kx k 0))) ((mr_ta c 10 s).1 (cl (m (kx k 0))) + (mr_ta c 10 s).2)
def mr_cvs (m : Nat → Int32) (k : Nat) (s : Nat → Int32) : Nat → Int32 := mr_cv m (nI k) (mv_co m (nI k) (m 5)) s
def mr_ls (m s : Nat → Int32) : Nat → Int32 := it (mr_cvs m) 3 (mr_sb m (it mr_z 10 s))
def mv_st (m : Nat → Int32) (c n w : Int32) : Int32 := if 7 ≤ w then (if w = 7 then c else n) else m (cl w)
def mv_rs (s : Nat → Int32) (k : Nat) (x : Int32) : Int32 := if s k ≤ 0 then x ||| 0 else x ||| (1 <<< (nI k &&& 31))
def mv_rd (s : Nat → Int32) : Int32 := it (mv_rs s) 10 0
def mr_c1 (m : Nat → Int32) (k : Nat) (s : Nat → Int32) : Nat → Int32 := upd s k (m k)
def mr_ly (m a : Nat → Int32) : Nat → Int32 := it (mr_c1 m) 20 a
def mr_as (m a : Nat → Int32) : Nat → Int32 := mr_ly m a
def mr_tb (m a : Nat → Int32) : Nat → Int32 := mr_ly (mr_ly m a) (mr_cp m)
def mv_bt (x q : Int32) : Int32 := (x >>> (q &&& 31)) &&& 1
def mv_rb (m s : Nat → Int32) : Int32 := mv_rd (mr_ls (mr_cp m) s)
def mv_ty (m s : Nat → Int32) (q : Int32) : Int32 := if mv_bt (mv_rd (mr_ls m s)) q = 1 then 2 else mv_bt (mv_rb m (mr_ls m s)) q
def mr_t1 (m a s : Nat → Int32) (q : Int32) : Nat → Int32 := if mv_bt (mv_rd (mr_ls m s)) q = 1 then m else mr_tb m a
def mr_t2 (m a s : Nat → Int32) (q : Int32) : Nat → Int32 := if mv_bt (mv_rd (mr_ls m s)) q = 1 then a else mr_ly m a
def mr_t4 (m s : Nat → Int32) (q : Int32) : Nat → Int32 := if mv_bt (mv_rd (mr_ls m s)) q = 1 then mr_ls m s else mr_ls (mr_cp m) (mr_ls m s)
def mv_fs (m s : Nat → Int32) (k : Nat) (x : Int32) : Int32 := if mv_bt (m 19) (nI (k + 1)) = 1 then x + s (k + 1) else x + 0
def mv_sc (m s : Nat → Int32) (q : Int32) (x : Int32 × Int32) : Bool := if 10 ≤ x.2 then false else if q = 0 then true else false
def mv_sn (m s : Nat → Int32) (x : Int32 × Int32) : Int32 × Int32 := (if mv_bt (m 19) x.2 = 1 then x.1 + s (cl x.2) else x.1 + 0, x.2 + 1)
def mv_sh (m s : Nat → Int32) (q sn : Int32) : Int32 := if sn = 0 then s (cl q) else if mv_bt (m 19) q = 1 then 0 else (lw (mv_sc m s q) (mv_sn m s) 10 (s (cl q), 1)).1
theorem sn_k {m s : Nat → Int32} {q : Int32} {x : Int32 × Int32} (h : ∃ k : Nat, k ≤ 10 ∧ x.2 = nI k) (hc : mv_sc m s q x = true) : ∃ k : Nat, k < 10 ∧ x.2 = nI k := by
  obtain ⟨k, hk, e⟩ := h
  rcases Nat.lt_or_ge k 10 with h | h
  · exact ⟨k, h, e⟩
  · exfalso
    have : k = 10 := by omega
    subst this
    unfold mv_sc at hc
    rw [e, if_pos (show (10 : Int32) ≤ nI 10 by decide)] at hc
    cases hc
theorem sn_stop (m s : Nat → Int32) (q : Int32) (x : Int32) : mv_sc m s q (lw (mv_sc m s q) (mv_sn m s) 10 (x, 1)) = false := by
  refine lw_stop (fun x => ∃ k : Nat, k ≤ 10 ∧ x.2 = nI k) (fun x => 10 - x.2.toNatClampNeg) ?_ ?_ 10 _ ⟨1, by omega, rfl⟩ (by show 10 - (1 : Int32).toNatClampNeg < 10; decide)
  · intro x hx hc
    obtain ⟨k, hk, e⟩ := sn_k hx hc
    exact ⟨k + 1, by omega, by show x.2 + 1 = _; rw [e, nI_1]⟩
  · intro x hx hc
    obtain ⟨k, hk, e⟩ := sn_k hx hc
    show 10 - (x.2 + 1).toNatClampNeg < 10 - x.2.toNatClampNeg
    rw [e, nI_1, nI_clamp (by omega), nI_clamp (by omega)]
    omega
theorem sn_in {x : Int32} (h : ∃ k : Nat, k ≤ 10 ∧ x = nI k) (h2 : ¬ 10 ≤ x) : vp_in x 10 := by
  obtain ⟨k, hk, rfl⟩ := h
  rcases Nat.lt_or_ge k 10 with h | h
  · exact vp_in_nI h (by decide)
  · exact absurd (nI_le h (by omega)) h2
theorem okm_cp {m : Nat → Int32} (h : okm m) : okm (mr_cp m) := by
  have e : ∀ j : Nat, (j == 10) = false → (j == 14) = false → (j == 18) = false → (j == 5) = false → (j == 6) = false → mr_cp m j = mr_sw m j := by
    intro j h1 h2 h3 h4 h5
    unfold mr_cp
    rw [upd_ne _ _ _ h5, upd_ne _ _ _ h4]
    show mr_cs 2 (mr_cs 1 (mr_cs 0 (mr_sw m))) j = _
    unfold mr_cs
    rw [upd_ne _ _ _ h3, upd_ne _ _ _ h2, upd_ne _ _ _ h1]
  unfold okm
  rw [e 0 rfl rfl rfl rfl rfl, e 1 rfl rfl rfl rfl rfl, e 7 rfl rfl rfl rfl rfl, e 11 rfl rfl rfl rfl rfl, e 15 rfl rfl rfl rfl rfl, e 3 rfl rfl rfl rfl rfl]
  unfold mr_sw
  split
  · exact h
  · exact ⟨h.2.1, h.1, h.2.2.1, h.2.2.2.1, h.2.2.2.2.1, h.2.2.2.2.2⟩
theorem okm_f {m : Nat → Int32} (h : okm m) {k : Int32} (hk : kOk k) : vp_in (m (kx k 0)) 10 := by
  obtain ⟨j, hj, rfl⟩ := vp_in_of hk (by decide)
  rcases (show j = 0 ∨ j = 1 ∨ j = 2 by omega) with rfl | rfl | rfl
  · exact h.2.2.1
  · exact h.2.2.2.1
  · exact h.2.2.2.2.1
theorem st7 {w : Int32} (h : ¬ w < 0) (h2 : ¬ 7 ≤ w) : w.toNatClampNeg < 7 := by
  rcases pk_ix w (n := 7) (by decide) with h1 | h1 | ⟨j, hj, rfl⟩
  · exact absurd h1 h
  · exact absurd h1 h2
  · rw [nI_clamp (by omega)]; exact hj
set_option maxHeartbeats 4000000 in
set_option maxRecDepth 100000 in
theorem k_X6_coverOf (l : Launch) (D : va_G) {cI : ClassId} {tys : List (ClassId × FieldType)} (ht0 : tys[0]? = some (cI, .int)) (aS : Nat → Nat) (S : Nat → Nat → Int32) (k : Int32) (t : Int32) (h_k : kOk k) (sz : Nat) : kI l yX6_coverOf cX6_coverOf 4 (some .int) { frames := 1, cells := 0, slots := 0, locals := 22 } D tys [.ref (aS 0), .int k, .int t] (wMd cI aS S) (wMd cI aS S) (mv_co (S 1) k t) 0 0 sz := by
  refine y_enterI (cc := cX6_coverOf) (maxL := 4) (ret := (some .int)) (own := RX6) (by decide) rfl (lv0 := [(0, .ref (aS 0)), (1, .int k), (2, .int t)]) rfl (Nat.le_of_ble_eq_true rfl) ?_
  intro p e s m args below meth c A Z hr hlk _
  refine y_aload_n Z dX6_coverOf_0 0 rfl rfl ?_
  refine y_iload_n Z dX6_coverOf_1 1 rfl rfl ?_
  refine y_iconst (v := 1) Z dX6_coverOf_2 (by decide) ?_
  refine y_VIw Z (k_X6_ofKeyer l D ht0 aS S k 1 (kx_in h_k 1 (by decide))) (y_cwV 2 Z ml_RX6_60 im_X6_ofKeyer se_X6_ofKeyer in_X6 co_X6_ofKeyer rfl rfl hd_X6_ofKeyer ⟨Nat.le_of_ble_eq_true rfl, Nat.le_of_ble_eq_true rfl⟩) List.nil List.nil (by simp only [List.nil_append, List.append_nil, wMix, wLog, wPic, wRep, wScr, wVM, wMd, sR_eq, sR_ne, sF_eq, sF_ne, upd_eq, upd_ne, gs_eq, gs_ne, gm_4, gm_ne, Nat.reduceBEq]) 6 0 rfl rfl rfl rfl (Nat.le_of_ble_eq_true rfl) dX6_coverOf_3 ⟨Nat.le_of_ble_eq_true rfl, Nat.le_of_ble_eq_true rfl⟩ (wMd cI aS S) (by simp only [List.nil_append, List.append_nil, wMix, wLog, wPic, wRep, wScr, wVM, wMd, sR_eq, sR_ne, sF_eq, sF_ne, upd_eq, upd_ne, gs_eq, gs_ne, gm_4, gm_ne, Nat.reduceBEq]) ?_
  refine y_eq rfl rfl (st' := [.int ((S 1) (kx k 1))]) (by first | with_reducible rfl | simp only [wMix, wLog, wPic, wRep, wScr, wVM, wMd, sR_eq, sR_ne, sF_eq, sF_ne, upd_eq, upd_ne, gs_eq, gs_ne, gm_4, gm_ne, Nat.reduceBEq]) ?_
  refine y_aload_n Z dX6_coverOf_6 0 rfl rfl ?_
  refine y_iload_n Z dX6_coverOf_7 1 rfl rfl ?_
  refine y_iconst (v := 2) Z dX6_coverOf_8 (by decide) ?_
  refine y_VIw Z (k_X6_ofKeyer l D ht0 aS S k 2 (kx_in h_k 2 (by decide))) (y_cwV 2 Z ml_RX6_60 im_X6_ofKeyer se_X6_ofKeyer in_X6 co_X6_ofKeyer rfl rfl hd_X6_ofKeyer ⟨Nat.le_of_ble_eq_true rfl, Nat.le_of_ble_eq_true rfl⟩) List.nil List.nil (by simp only [List.nil_append, List.append_nil, wMix, wLog, wPic, wRep, wScr, wVM, wMd, sR_eq, sR_ne, sF_eq, sF_ne, upd_eq, upd_ne, gs_eq, gs_ne, gm_4, gm_ne, Nat.reduceBEq]) 6 0 rfl rfl rfl rfl (Nat.le_of_ble_eq_true rfl) dX6_coverOf_9 ⟨Nat.le_of_ble_eq_true rfl, Nat.le_of_ble_eq_true rfl⟩ (wMd cI aS S) (by simp only [List.nil_append, List.append_nil, wMix, wLog, wPic, wRep, wScr, wVM, wMd, sR_eq, sR_ne, sF_eq, sF_ne, upd_eq, upd_ne, gs_eq, gs_ne, gm_4, gm_ne, Nat.reduceBEq]) ?_
  refine y_eq rfl rfl (st' := [.int ((S 1) (kx k 2)), .int ((S 1) (kx k 1))]) (by first | with_reducible rfl | simp only [wMix, wLog, wPic, wRep, wScr, wVM, wMd, sR_eq, sR_ne, sF_eq, sF_ne, upd_eq, upd_ne, gs_eq, gs_ne, gm_4, gm_ne, Nat.reduceBEq]) ?_
  refine y_imul Z dX6_coverOf_12 ?_
  refine y_istore_n Z [(3, .int ((S 1) (kx k 1) * (S 1) (kx k 2))), (0, .ref (aS 0)), (1, .int k), (2, .int t)] dX6_coverOf_13 rfl (by decide) rfl ?_
  refine y_aload_n Z dX6_coverOf_14 1 rfl rfl ?_
  refine y_iconst (v := 1) Z dX6_coverOf_15 (by decide) ?_
  refine y_iload_n Z dX6_coverOf_16 2 rfl rfl ?_
  refine y_iadd Z dX6_coverOf_17 ?_
  refine y_VIw Z (k_X6_isElement l D ht0 aS S (1 + k)) (y_cwV 1 Z ml_RX6_43 im_X6_isElement se_X6_isElement in_X6 co_X6_isElement rfl rfl hd_X6_isElement ⟨Nat.le_of_ble_eq_true rfl, Nat.le_of_ble_eq_true rfl⟩) List.nil List.nil (by simp only [List.nil_append, List.append_nil, wMix, wLog, wPic, wRep, wScr, wVM, wMd, sR_eq, sR_ne, sF_eq, sF_ne, upd_eq, upd_ne, gs_eq, gs_ne, gm_4, gm_ne, Nat.reduceBEq]) 6 0 rfl rfl rfl rfl (Nat.le_of_ble_eq_true rfl) dX6_coverOf_18 ⟨Nat.le_of_ble_eq_true rfl, Nat.le_of_ble_eq_true rfl⟩ (wMd cI aS S) (by simp only [List.nil_append, List.append_nil, wMix, wLog, wPic, wRep, wScr, wVM, wMd, sR_eq, sR_ne, sF_eq, sF_ne, upd_eq, upd_ne, gs_eq, gs_ne, gm_4, gm_ne, Nat.reduceBEq]) ?_
  refine y_eq rfl rfl (st' := [.int (mv_el (S 1) (1 + k))]) (by first | with_reducible rfl | simp only [wMix, wLog, wPic, wRep, wScr, wVM, wMd, sR_eq, sR_ne, sF_eq, sF_ne, upd_eq, upd_ne, gs_eq, gs_ne, gm_4, gm_ne, Nat.reduceBEq]) ?_
  refine y_if_ne (tgt := 33) Z dX6_coverOf_21 (by decide) (fun h1 => ?_) (fun h2 => ?_)
  · refine y_iload_n Z dX6_coverOf_33 0 rfl rfl ?_
    refine y_aload_n Z dX6_coverOf_34 1 rfl rfl ?_
    refine y_iload_n Z dX6_coverOf_35 2 rfl rfl ?_
    refine y_iconst (v := 3) Z dX6_coverOf_36 (by decide) ?_
    refine y_VIw Z (k_X6_ofKeyer l D ht0 aS S k 3 (kx_in h_k 3 (by decide))) (y_cwV 2 Z ml_RX6_60 im_X6_ofKeyer se_X6_ofKeyer in_X6 co_X6_ofKeyer rfl rfl hd_X6_ofKeyer ⟨Nat.le_of_ble_eq_true rfl, Nat.le_of_ble_eq_true rfl⟩) List.nil List.nil (by simp only [List.nil_append, List.append_nil, wMix, wLog, wPic, wRep, wScr, wVM, wMd, sR_eq, sR_ne, sF_eq, sF_ne, upd_eq, upd_ne, gs_eq, gs_ne, gm_4, gm_ne, Nat.reduceBEq]) 6 0 rfl rfl rfl rfl (Nat.le_of_ble_eq_true rfl) dX6_coverOf_37 ⟨Nat.le_of_ble_eq_true rfl, Nat.le_of_ble_eq_true rfl⟩ (wMd cI aS S) (by simp only [List.nil_append, List.append_nil, wMix, wLog, wPic, wRep, wScr, wVM, wMd, sR_eq, sR_ne, sF_eq, sF_ne, upd_eq, upd_ne, gs_eq, gs_ne, gm_4, gm_ne, Nat.reduceBEq]) ?_
    refine y_eq rfl rfl (st' := [.int ((S 1) (kx k 3)), .int ((S 1) (kx k 1) * (S 1) (kx k 2))]) (by first | with_reducible rfl | simp only [wMix, wLog, wPic, wRep, wScr, wVM, wMd, sR_eq, sR_ne, sF_eq, sF_ne, upd_eq, upd_ne, gs_eq, gs_ne, gm_4, gm_ne, Nat.reduceBEq]) ?_
    refine y_iconst (v := 1) Z dX6_coverOf_40 (by decide) ?_
    refine y_icmp_ne (tgt := 52) Z dX6_coverOf_41 (by decide) (fun h3 => ?_) (fun h4 => ?_)
    · refine y_iload_n Z dX6_coverOf_52 3 rfl rfl ?_
      refine y_imul Z dX6_coverOf_53 ?_
      refine y_sipush (v := 1000) Z dX6_coverOf_54 (by decide) ?_
      refine y_idiv Z dX6_coverOf_57 (by decide) ?_
      exact y_retI Z hr hlk dX6_coverOf_58 (by first | (simp only [mv_co, h1, h3, if_true, if_false, not_false_eq_true, not_true_eq_false, ↓reduceIte]; done) | (simp only [mv_co, h1, h3, if_true, if_false, not_false_eq_true, not_true_eq_false, ↓reduceIte, wMix, wLog, wPic, wRep, wScr, wVM, wMd, sR_eq, sR_ne, sF_eq, sF_ne, upd_eq, upd_ne, gs_eq, gs_ne, gm_4, gm_ne, Nat.reduceBEq]; done) | (with_reducible rfl) | contradiction | (simp only [mv_co, h1, h3, if_true, if_false, not_false_eq_true, not_true_eq_false, ↓reduceIte]; rfl) | rfl) (by first | (simp only [mv_co, h1, h3, if_true, if_false, not_false_eq_true, not_true_eq_false, ↓reduceIte]; done) | (simp only [mv_co, h1, h3, if_true, if_false, not_false_eq_true, not_true_eq_false, ↓reduceIte, wMix, wLog, wPic, wRep, wScr, wVM, wMd, sR_eq, sR_ne, sF_eq, sF_ne, upd_eq, upd_ne, gs_eq, gs_ne, gm_4, gm_ne, Nat.reduceBEq]; done) | (with_reducible rfl) | contradiction | (simp only [mv_co, h1, h3, if_true, if_false, not_false_eq_true, not_true_eq_false, ↓reduceIte]; rfl) | rfl)
    · refine y_sipush (v := 1000) Z dX6_coverOf_44 (by decide) ?_
      refine y_iload_n Z dX6_coverOf_47 3 rfl rfl ?_
      refine y_isub Z dX6_coverOf_48 ?_
      refine y_goto (tgt := 53) Z dX6_coverOf_49 (by decide) ?_
      refine y_imul Z dX6_coverOf_53 ?_
      refine y_sipush (v := 1000) Z dX6_coverOf_54 (by decide) ?_
      refine y_idiv Z dX6_coverOf_57 (by decide) ?_
      exact y_retI Z hr hlk dX6_coverOf_58 (by first | (simp only [mv_co, h1, eq_true h4, if_true, if_false, not_false_eq_true, not_true_eq_false, ↓reduceIte]; done) | (simp only [mv_co, h1, eq_true h4, if_true, if_false, not_false_eq_true, not_true_eq_false, ↓reduceIte, wMix, wLog, wPic, wRep, wScr, wVM, wMd, sR_eq, sR_ne, sF_eq, sF_ne, upd_eq, upd_ne, gs_eq, gs_ne, gm_4, gm_ne, Nat.reduceBEq]; done) | (with_reducible rfl) | contradiction | (simp only [mv_co, h1, eq_true h4, if_true, if_false, not_false_eq_true, not_true_eq_false, ↓reduceIte]; rfl) | rfl) (by first | (simp only [mv_co, h1, eq_true h4, if_true, if_false, not_false_eq_true, not_true_eq_false, ↓reduceIte]; done) | (simp only [mv_co, h1, eq_true h4, if_true, if_false, not_false_eq_true, not_true_eq_false, ↓reduceIte, wMix, wLog, wPic, wRep, wScr, wVM, wMd, sR_eq, sR_ne, sF_eq, sF_ne, upd_eq, upd_ne, gs_eq, gs_ne, gm_4, gm_ne, Nat.reduceBEq]; done) | (with_reducible rfl) | contradiction | (simp only [mv_co, h1, eq_true h4, if_true, if_false, not_false_eq_true, not_true_eq_false, ↓reduceIte]; rfl) | rfl)
  · refine y_iload_n Z dX6_coverOf_24 0 rfl rfl ?_
    refine y_aload_n Z dX6_coverOf_25 1 rfl rfl ?_
    refine y_iload_n Z dX6_coverOf_26 2 rfl rfl ?_
    refine y_iconst (v := 3) Z dX6_coverOf_27 (by decide) ?_
    refine y_VIw Z (k_X6_ofKeyer l D ht0 aS S k 3 (kx_in h_k 3 (by decide))) (y_cwV 2 Z ml_RX6_60 im_X6_ofKeyer se_X6_ofKeyer in_X6 co_X6_ofKeyer rfl rfl hd_X6_ofKeyer ⟨Nat.le_of_ble_eq_true rfl, Nat.le_of_ble_eq_true rfl⟩) List.nil List.nil (by simp only [List.nil_append, List.append_nil, wMix, wLog, wPic, wRep, wScr, wVM, wMd, sR_eq, sR_ne, sF_eq, sF_ne, upd_eq, upd_ne, gs_eq, gs_ne, gm_4, gm_ne, Nat.reduceBEq]) 6 0 rfl rfl rfl rfl (Nat.le_of_ble_eq_true rfl) dX6_coverOf_28 ⟨Nat.le_of_ble_eq_true rfl, Nat.le_of_ble_eq_true rfl⟩ (wMd cI aS S) (by simp only [List.nil_append, List.append_nil, wMix, wLog, wPic, wRep, wScr, wVM, wMd, sR_eq, sR_ne, sF_eq, sF_ne, upd_eq, upd_ne, gs_eq, gs_ne, gm_4, gm_ne, Nat.reduceBEq]) ?_
    refine y_eq rfl rfl (st' := [.int ((S 1) (kx k 3)), .int ((S 1) (kx k 1) * (S 1) (kx k 2))]) (by first | with_reducible rfl | simp only [wMix, wLog, wPic, wRep, wScr, wVM, wMd, sR_eq, sR_ne, sF_eq, sF_ne, upd_eq, upd_ne, gs_eq, gs_ne, gm_4, gm_ne, Nat.reduceBEq]) ?_
    refine y_imul Z dX6_coverOf_31 ?_
    exact y_retI Z hr hlk dX6_coverOf_32 (by first | (simp only [mv_co, eq_true h2, if_true, if_false, not_false_eq_true, not_true_eq_false, ↓reduceIte]; done) | (simp only [mv_co, eq_true h2, if_true, if_false, not_false_eq_true, not_true_eq_false, ↓reduceIte, wMix, wLog, wPic, wRep, wScr, wVM, wMd, sR_eq, sR_ne, sF_eq, sF_ne, upd_eq, upd_ne, gs_eq, gs_ne, gm_4, gm_ne, Nat.reduceBEq]; done) | (with_reducible rfl) | contradiction | (simp only [mv_co, eq_true h2, if_true, if_false, not_false_eq_true, not_true_eq_false, ↓reduceIte]; rfl) | rfl) (by first | (simp only [mv_co, eq_true h2, if_true, if_false, not_false_eq_true, not_true_eq_false, ↓reduceIte]; done) | (simp only [mv_co, eq_true h2, if_true, if_false, not_false_eq_true, not_true_eq_false, ↓reduceIte, wMix, wLog, wPic, wRep, wScr, wVM, wMd, sR_eq, sR_ne, sF_eq, sF_ne, upd_eq, upd_ne, gs_eq, gs_ne, gm_4, gm_ne, Nat.reduceBEq]; done) | (with_reducible rfl) | contradiction | (simp only [mv_co, eq_true h2, if_true, if_false, not_false_eq_true, not_true_eq_false, ↓reduceIte]; rfl) | rfl)
set_option maxHeartbeats 4000000 in
set_option maxRecDepth 100000 in
theorem k_X6_covers (l : Launch) (D : va_G) {cI : ClassId} {tys : List (ClassId × FieldType)} (ht0 : tys[0]? = some (cI, .int)) (aS : Nat → Nat) (S : Nat → Nat → Int32) (k : Int32) (c0 : Int32) (h_k : kOk k) (h_f : vp_in ((S 1) (kx k 0)) 10) (sz : Nat) : kV l yX6_covers cX6_covers 6 none { frames := 1, cells := 0, slots := 0, locals := 22 } D tys [.ref (aS 0), .int k, .int c0] (wMd cI aS S) (wMdR cI aS (S 0 0) (S 0 1) (S 0 2) (S 0 3) (S 0 4) (S 0 5) (S 0 6) (S 0 7) (S 0 8) (S 0 9) (S 0 10) (S 0 11) (S 0 12) (S 1) (S 2) (S 3) (mr_cv (S 1) k c0 (S 4)) (S 5) (S 6)) 0 0 sz := by
  refine y_enterV (cc := cX6_covers) (maxL := 6) (ret := none) (own := RX6) (by decide) rfl (lv0 := [(0, .ref (aS 0)), (1, .int k), (2, .int c0)]) rfl (Nat.le_of_ble_eq_true rfl) ?_
  intro p e s m args below meth c A Z hr hlk _
  have L5 : ∀ (n i : Nat), i + n = 10 → Yy p l e { frames := 1, cells := 0, slots := 0, locals := 22 } s m args below meth c (QV D tys A (wMdR cI aS (S 0 0) (S 0 1) (S 0 2) (S 0 3) (S 0 4) (S 0 5) (S 0 6) (S 0 7) (S 0 8) (S 0 9) (S 0 10) (S 0 11) (S 0 12) (S 1) (S 2) (S 3) (mr_cv (S 1) k c0 (S 4)) (S 5) (S 6)) below args s 0 0) D A 6 0 0 (wMdR cI aS (S 0 0) (S 0 1) (S 0 2) (S 0 3) (S 0 4) (S 0 5) (S 0 6) (S 0 7) (S 0 8) (S 0 9) (S 0 10) (S 0 11) (S 0 12) (S 1) (S 2) (S 3) ((it (mr_ts c0) i (S 4, 0)).1) (S 5) (S 6)) [(0, .ref (aS 0)), (1, .int k), (2, .int c0), (3, .int ((it (mr_ts c0) i (S 4, 0)).2)), (4, .int (nI i))] [] 5 := by
    intro n; induction n with
    | zero =>
      intro i hi
      have hi : i = 10 := by omega
      subst hi
      refine y_iload Z dX6_covers_5 4 rfl ?_
      refine y_bipush (v := 10) Z dX6_covers_7 (by decide) ?_
      refine y_icmp_ge (tgt := 53) Z dX6_covers_9 (by decide) (fun h1 => ?_) (fun h2 => ?_)
      · refine y_aload_n Z dX6_covers_53 0 rfl rfl ?_
        refine y_get (C := RX6) (T := TX6) (N := 19) Z 6 inlX6 rfl 0 rfl 7 (by decide) fl_RX6_19 rfl dX6_covers_54 ?_
        refine y_aload_n Z dX6_covers_57 0 rfl rfl ?_
        refine y_iload_n Z dX6_covers_58 1 rfl rfl ?_
        refine y_iconst (v := 0) Z dX6_covers_59 (by decide) ?_
        refine y_VIw Z (k_X6_ofKeyer l D ht0 aS (sR S 4 ((it (mr_ts c0) 10 (S 4, 0)).1)) k 0 (kx_in h_k 0 (by decide))) (y_cwV 2 Z ml_RX6_60 im_X6_ofKeyer se_X6_ofKeyer in_X6 co_X6_ofKeyer rfl rfl hd_X6_ofKeyer ⟨Nat.le_of_ble_eq_true rfl, Nat.le_of_ble_eq_true rfl⟩) List.nil List.nil (by simp only [List.nil_append, List.append_nil, wMix, wLog, wPic, wRep, wScr, wVM, wMd, sR_eq, sR_ne, sF_eq, sF_ne, upd_eq, upd_ne, gs_eq, gs_ne, gm_4, gm_ne, Nat.reduceBEq]) 6 0 rfl rfl rfl rfl (Nat.le_of_ble_eq_true rfl) dX6_covers_60 ⟨Nat.le_of_ble_eq_true rfl, Nat.le_of_ble_eq_true rfl⟩ (wMdR cI aS (S 0 0) (S 0 1) (S 0 2) (S 0 3) (S 0 4) (S 0 5) (S 0 6) (S 0 7) (S 0 8) (S 0 9) (S 0 10) (S 0 11) (S 0 12) (S 1) (S 2) (S 3) ((it (mr_ts c0) 10 (S 4, 0)).1) (S 5) (S 6)) (by simp only [List.nil_append, List.append_nil, wMix, wLog, wPic, wRep, wScr, wVM, wMd, sR_eq, sR_ne, sF_eq, sF_ne, upd_eq, upd_ne, gs_eq, gs_ne, gm_4, gm_ne, Nat.reduceBEq]) ?_
        refine y_eq rfl rfl (st' := [.int ((S 1) (kx k 0)), .ref (aS 4)]) (by first | with_reducible rfl | simp only [wMix, wLog, wPic, wRep, wScr, wVM, wMd, sR_eq, sR_ne, sF_eq, sF_ne, upd_eq, upd_ne, gs_eq, gs_ne, gm_4, gm_ne, Nat.reduceBEq]) ?_
        refine y_dup2 Z dX6_covers_63 rfl rfl ?_
        refine y_iald Z 4 0 rfl ht0 h_f (cl ((S 1) (kx k 0))) rfl dX6_covers_64 ?_
        refine y_iload_n Z dX6_covers_65 3 rfl rfl ?_
        refine y_iadd Z dX6_covers_66 ?_
        refine y_iast Z 4 0 rfl ht0 h_f (cl ((S 1) (kx k 0))) rfl (wMdR cI aS (S 0 0) (S 0 1) (S 0 2) (S 0 3) (S 0 4) (S 0 5) (S 0 6) (S 0 7) (S 0 8) (S 0 9) (S 0 10) (S 0 11) (S 0 12) (S 1) (S 2) (S 3) (upd ((it (mr_ts c0) 10 (S 4, 0)).1) (cl ((S 1) (kx k 0))) ((((it (mr_ts c0) 10 (S 4, 0)).1) (cl ((S 1) (kx k 0)))) + (it (mr_ts c0) 10 (S 4, 0)).2)) (S 5) (S 6)) rfl dX6_covers_67 ?_
        exact y_retV Z hr hlk dX6_covers_68 (by first | (simp only [mr_cv, mr_ta, h1, if_true, if_false, not_false_eq_true, not_true_eq_false, ↓reduceIte]; done) | (simp only [mr_cv, mr_ta, h1, if_true, if_false, not_false_eq_true, not_true_eq_false, ↓reduceIte, wMix, wLog, wPic, wRep, wScr, wVM, wMd, sR_eq, sR_ne, sF_eq, sF_ne, upd_eq, upd_ne, gs_eq, gs_ne, gm_4, gm_ne, Nat.reduceBEq]; done) | (with_reducible rfl) | contradiction | (simp only [mr_cv, mr_ta, h1, if_true, if_false, not_false_eq_true, not_true_eq_false, ↓reduceIte]; rfl) | rfl)
      · exact absurd (nI_le (a := 10) (b := 10) (by omega) (by decide)) h2
    | succ n ih =>
      intro i hi
      refine y_iload Z dX6_covers_5 4 rfl ?_
      refine y_bipush (v := 10) Z dX6_covers_7 (by decide) ?_
      refine y_icmp_ge (tgt := 53) Z dX6_covers_9 (by decide) (fun h3 => ?_) (fun h4 => ?_)
      · exact absurd h3 (nI_ge (a := i) (b := 10) (by omega) (by decide))
      · refine y_aload_n Z dX6_covers_12 0 rfl rfl ?_
        refine y_get (C := RX6) (T := TX6) (N := 19) Z 6 inlX6 rfl 0 rfl 7 (by decide) fl_RX6_19 rfl dX6_covers_13 ?_
        refine y_iload Z dX6_covers_16 4 rfl ?_
        refine y_iald Z 4 0 rfl ht0 (vp_in_nI (by omega) (by decide)) i (nI_clamp (by omega)) dX6_covers_18 ?_
        refine y_i2l Z dX6_covers_19 ?_
        refine y_iload_n Z dX6_covers_20 2 rfl rfl ?_
        refine y_i2l Z dX6_covers_21 ?_
        refine y_lmul Z dX6_covers_22 ?_
        refine y_ldc2 Z (10000) ct_RX6_116 dX6_covers_23 ?_
        refine y_ldiv Z dX6_covers_26 (by decide) ?_
        refine y_l2i Z dX6_covers_27 ?_
        refine y_istore Z [(5, .int (Int64.toInt32 (((Int32.toInt64 (((it (mr_ts c0) i (S 4, 0)).1) i)) * (Int32.toInt64 c0)) / 10000))), (0, .ref (aS 0)), (1, .int k), (2, .int c0), (3, .int ((it (mr_ts c0) i (S 4, 0)).2)), (4, .int (nI i))] dX6_covers_28 (by decide) rfl ?_
        refine y_aload_n Z dX6_covers_30 1 rfl rfl ?_
        refine y_get (C := RX6) (T := TX6) (N := 19) Z 6 inlX6 rfl 0 rfl 7 (by decide) fl_RX6_19 rfl dX6_covers_31 ?_
        refine y_iload Z dX6_covers_34 5 rfl ?_
        refine y_dup2 Z dX6_covers_36 rfl rfl ?_
        refine y_iald Z 4 0 rfl ht0 (vp_in_nI (by omega) (by decide)) i (nI_clamp (by omega)) dX6_covers_37 ?_
        refine y_iload Z dX6_covers_38 0 rfl ?_
        refine y_isub Z dX6_covers_40 ?_
        refine y_iast Z 4 0 rfl ht0 (vp_in_nI (by omega) (by decide)) i (nI_clamp (by omega)) (wMdR cI aS (S 0 0) (S 0 1) (S 0 2) (S 0 3) (S 0 4) (S 0 5) (S 0 6) (S 0 7) (S 0 8) (S 0 9) (S 0 10) (S 0 11) (S 0 12) (S 1) (S 2) (S 3) (upd ((it (mr_ts c0) i (S 4, 0)).1) i ((((it (mr_ts c0) i (S 4, 0)).1) i) - (Int64.toInt32 (((Int32.toInt64 (((it (mr_ts c0) i (S 4, 0)).1) i)) * (Int32.toInt64 c0)) / 10000)))) (S 5) (S 6)) rfl dX6_covers_41 ?_
        refine y_iload_n Z dX6_covers_42 4 rfl rfl ?_
        refine y_iload Z dX6_covers_43 0 rfl ?_
        refine y_iadd Z dX6_covers_45 ?_
        refine y_istore_n Z [(3, .int ((it (mr_ts c0) i (S 4, 0)).2 + (Int64.toInt32 (((Int32.toInt64 (((it (mr_ts c0) i (S 4, 0)).1) i)) * (Int32.toInt64 c0)) / 10000)))), (5, .int (Int64.toInt32 (((Int32.toInt64 (((it (mr_ts c0) i (S 4, 0)).1) i)) * (Int32.toInt64 c0)) / 10000))), (0, .ref (aS 0)), (1, .int k), (2, .int c0), (4, .int (nI i))] dX6_covers_46 rfl (by decide) rfl ?_
        refine y_iinc Z [(4, .int (nI (i + 1))), (3, .int ((it (mr_ts c0) i (S 4, 0)).2 + (Int64.toInt32 (((Int32.toInt64 (((it (mr_ts c0) i (S 4, 0)).1) i)) * (Int32.toInt64 c0)) / 10000)))), (5, .int (Int64.toInt32 (((Int32.toInt64 (((it (mr_ts c0) i (S 4, 0)).1) i)) * (Int32.toInt64 c0)) / 10000))), (0, .ref (aS 0)), (1, .int k), (2, .int c0)] dX6_covers_47 5 rfl (nI_1 _) (by decide) rfl ?_
        refine y_goto (tgt := 5) Z dX6_covers_50 (by decide) ?_
        refine y_lv [3, 4, 5, 1, 0] (lv' := [(0, .ref (aS 0)), (1, .int k), (2, .int c0), (3, .int ((it (mr_ts c0) i (S 4, 0)).2 + (Int64.toInt32 (((Int32.toInt64 (((it (mr_ts c0) i (S 4, 0)).1) i)) * (Int32.toInt64 c0)) / 10000)))), (4, .int (nI (i + 1)))]) rfl ?_
        refine y_eq (ws' := (wMdR cI aS (S 0 0) (S 0 1) (S 0 2) (S 0 3) (S 0 4) (S 0 5) (S 0 6) (S 0 7) (S 0 8) (S 0 9) (S 0 10) (S 0 11) (S 0 12) (S 1) (S 2) (S 3) ((it (mr_ts c0) (i + 1) (S 4, 0)).1) (S 5) (S 6))) (lv' := [(0, .ref (aS 0)), (1, .int k), (2, .int c0), (3, .int ((it (mr_ts c0) (i + 1) (S 4, 0)).2)), (4, .int (nI (i + 1)))]) (st' := []) (by first | (simp only [it_s, mr_ts, mv_tk, h4, if_true, if_false, not_false_eq_true, not_true_eq_false, ↓reduceIte]; done) | (simp only [it_s, mr_ts, mv_tk, h4, if_true, if_false, not_false_eq_true, not_true_eq_false, ↓reduceIte, wMix, wLog, wPic, wRep, wScr, wVM, wMd, sR_eq, sR_ne, sF_eq, sF_ne, upd_eq, upd_ne, gs_eq, gs_ne, gm_4, gm_ne, Nat.reduceBEq]; done) | (with_reducible rfl) | contradiction | (simp only [it_s, mr_ts, mv_tk, h4, if_true, if_false, not_false_eq_true, not_true_eq_false, ↓reduceIte]; rfl) | rfl) (by first | (simp only [it_s, mr_ts, mv_tk, h4, if_true, if_false, not_false_eq_true, not_true_eq_false, ↓reduceIte]; done) | (simp only [it_s, mr_ts, mv_tk, h4, if_true, if_false, not_false_eq_true, not_true_eq_false, ↓reduceIte, wMix, wLog, wPic, wRep, wScr, wVM, wMd, sR_eq, sR_ne, sF_eq, sF_ne, upd_eq, upd_ne, gs_eq, gs_ne, gm_4, gm_ne, Nat.reduceBEq]; done) | (with_reducible rfl) | contradiction | (simp only [it_s, mr_ts, mv_tk, h4, if_true, if_false, not_false_eq_true, not_true_eq_false, ↓reduceIte]; rfl) | rfl) rfl ?_
        exact ih (i + 1)  (by omega)
  refine y_iconst (v := 0) Z dX6_covers_0 (by decide) ?_
  refine y_istore_n Z [(3, .int 0), (0, .ref (aS 0)), (1, .int k), (2, .int c0)] dX6_covers_1 rfl (by decide) rfl ?_
  refine y_iconst (v := 0) Z dX6_covers_2 (by decide) ?_
  refine y_istore Z [(4, .int 0), (3, .int 0), (0, .ref (aS 0)), (1, .int k), (2, .int c0)] dX6_covers_3 (by decide) rfl ?_
  refine y_lv [2, 3, 4, 1, 0] (lv' := [(0, .ref (aS 0)), (1, .int k), (2, .int c0), (3, .int 0), (4, .int 0)]) rfl ?_
  exact L5 10 0  (by omega)
set_option maxHeartbeats 4000000 in
set_option maxRecDepth 100000 in
theorem k_X6_laysShares (l : Launch) (D : va_G) {cI : ClassId} {tys : List (ClassId × FieldType)} (ht0 : tys[0]? = some (cI, .int)) (aS : Nat → Nat) (S : Nat → Nat → Int32) (h_o : okm (S 1)) (sz : Nat) : kV l yX6_laysShares cX6_laysShares 3 none { frames := 2, cells := 0, slots := 0, locals := 47 } D tys [.ref (aS 0)] (wMd cI aS S) (wMdR cI aS (S 0 0) (S 0 1) (S 0 2) (S 0 3) (S 0 4) (S 0 5) (S 0 6) (S 0 7) (S 0 8) (S 0 9) (S 0 10) (S 0 11) (S 0 12) (S 1) (S 2) (S 3) (mr_ls (S 1) (S 4)) (S 5) (S 6)) 0 0 sz := by
  refine y_enterV (cc := cX6_laysShares) (maxL := 3) (ret := none) (own := RX6) (by decide) rfl (lv0 := [(0, .ref (aS 0))]) rfl (Nat.le_of_ble_eq_true rfl) ?_
  intro p e s m args below meth c A Z hr hlk _
  have L208 : ∀ (n i : Nat), i + n = 3 → Yy p l e { frames := 2, cells := 0, slots := 0, locals := 47 } s m args below meth c (QV D tys A (wMdR cI aS (S 0 0) (S 0 1) (S 0 2) (S 0 3) (S 0 4) (S 0 5) (S 0 6) (S 0 7) (S 0 8) (S 0 9) (S 0 10) (S 0 11) (S 0 12) (S 1) (S 2) (S 3) (mr_ls (S 1) (S 4)) (S 5) (S 6)) below args s 0 0) D A 3 0 0 (wMdR cI aS (S 0 0) (S 0 1) (S 0 2) (S 0 3) (S 0 4) (S 0 5) (S 0 6) (S 0 7) (S 0 8) (S 0 9) (S 0 10) (S 0 11) (S 0 12) (S 1) (S 2) (S 3) (it (mr_cvs (S 1)) i (mr_sb (S 1) (it mr_z 10 (S 4)))) (S 5) (S 6)) [(0, .ref (aS 0)), (1, .int (S 1 5)), (2, .int (nI i))] [] 208 := by
    intro n; induction n with
    | zero =>
      intro i hi
      have hi : i = 3 := by omega
      subst hi
      refine y_iload_n Z dX6_laysShares_208 2 rfl rfl ?_
      refine y_iconst (v := 3) Z dX6_laysShares_209 (by decide) ?_
      refine y_icmp_ge (tgt := 230) Z dX6_laysShares_210 (by decide) (fun h1 => ?_) (fun h2 => ?_)
      · exact y_retV Z hr hlk dX6_laysShares_230 (by first | (simp only [mr_ls, h1, if_true, if_false, not_false_eq_true, not_true_eq_false, ↓reduceIte]; done) | (simp only [mr_ls, h1, if_true, if_false, not_false_eq_true, not_true_eq_false, ↓reduceIte, wMix, wLog, wPic, wRep, wScr, wVM, wMd, sR_eq, sR_ne, sF_eq, sF_ne, upd_eq, upd_ne, gs_eq, gs_ne, gm_4, gm_ne, Nat.reduceBEq]; done) | (with_reducible rfl) | contradiction | (simp only [mr_ls, h1, if_true, if_false, not_false_eq_true, not_true_eq_false, ↓reduceIte]; rfl) | rfl)
      · exact absurd (nI_le (a := 3) (b := 3) (by omega) (by decide)) h2
    | succ n ih =>
      intro i hi
      refine y_iload_n Z dX6_laysShares_208 2 rfl rfl ?_
      refine y_iconst (v := 3) Z dX6_laysShares_209 (by decide) ?_
      refine y_icmp_ge (tgt := 230) Z dX6_laysShares_210 (by decide) (fun h3 => ?_) (fun h4 => ?_)
      · exact absurd h3 (nI_ge (a := i) (b := 3) (by omega) (by decide))
      · refine y_aload_n Z dX6_laysShares_213 0 rfl rfl ?_
        refine y_iload_n Z dX6_laysShares_214 2 rfl rfl ?_
        refine y_aload_n Z dX6_laysShares_215 0 rfl rfl ?_
        refine y_iload_n Z dX6_laysShares_216 2 rfl rfl ?_
        refine y_iload_n Z dX6_laysShares_217 1 rfl rfl ?_
        refine y_VIw Z (k_X6_coverOf l D ht0 aS (sR S 4 (it (mr_cvs (S 1)) i (mr_sb (S 1) (it mr_z 10 (S 4))))) (nI i) (S 1 5) (vp_in_nI (by omega) (by decide))) (y_cwV 2 Z ml_RX6_109 im_X6_coverOf se_X6_coverOf in_X6 co_X6_coverOf rfl rfl hd_X6_coverOf ⟨Nat.le_of_ble_eq_true rfl, Nat.le_of_ble_eq_true rfl⟩) List.nil List.nil (by simp only [List.nil_append, List.append_nil, wMix, wLog, wPic, wRep, wScr, wVM, wMd, sR_eq, sR_ne, sF_eq, sF_ne, upd_eq, upd_ne, gs_eq, gs_ne, gm_4, gm_ne, Nat.reduceBEq]) 6 0 rfl rfl rfl rfl (Nat.le_of_ble_eq_true rfl) dX6_laysShares_218 ⟨Nat.le_of_ble_eq_true rfl, Nat.le_of_ble_eq_true rfl⟩ (wMdR cI aS (S 0 0) (S 0 1) (S 0 2) (S 0 3) (S 0 4) (S 0 5) (S 0 6) (S 0 7) (S 0 8) (S 0 9) (S 0 10) (S 0 11) (S 0 12) (S 1) (S 2) (S 3) (it (mr_cvs (S 1)) i (mr_sb (S 1) (it mr_z 10 (S 4)))) (S 5) (S 6)) (by simp only [List.nil_append, List.append_nil, wMix, wLog, wPic, wRep, wScr, wVM, wMd, sR_eq, sR_ne, sF_eq, sF_ne, upd_eq, upd_ne, gs_eq, gs_ne, gm_4, gm_ne, Nat.reduceBEq]) ?_
        refine y_eq rfl rfl (st' := [.int (mv_co (S 1) (nI i) (S 1 5)), .int (nI i), .ref (aS 0)]) (by first | with_reducible rfl | simp only [wMix, wLog, wPic, wRep, wScr, wVM, wMd, sR_eq, sR_ne, sF_eq, sF_ne, upd_eq, upd_ne, gs_eq, gs_ne, gm_4, gm_ne, Nat.reduceBEq]) ?_
        refine y_VVw Z (k_X6_covers l D ht0 aS (sR S 4 (it (mr_cvs (S 1)) i (mr_sb (S 1) (it mr_z 10 (S 4))))) (nI i) (mv_co (S 1) (nI i) (S 1 5)) (vp_in_nI (by omega) (by decide)) (okm_f h_o (vp_in_nI (by omega) (by decide)))) (y_cwV 2 Z ml_RX6_112 im_X6_covers se_X6_covers in_X6 co_X6_covers rfl rfl hd_X6_covers ⟨Nat.le_of_ble_eq_true rfl, Nat.le_of_ble_eq_true rfl⟩) List.nil List.nil (by simp only [List.nil_append, List.append_nil, wMix, wLog, wPic, wRep, wScr, wVM, wMd, sR_eq, sR_ne, sF_eq, sF_ne, upd_eq, upd_ne, gs_eq, gs_ne, gm_4, gm_ne, Nat.reduceBEq]) 6 0 rfl rfl rfl rfl (Nat.le_of_ble_eq_true rfl) dX6_laysShares_221 ⟨Nat.le_of_ble_eq_true rfl, Nat.le_of_ble_eq_true rfl⟩ (wMdR cI aS (S 0 0) (S 0 1) (S 0 2) (S 0 3) (S 0 4) (S 0 5) (S 0 6) (S 0 7) (S 0 8) (S 0 9) (S 0 10) (S 0 11) (S 0 12) (S 1) (S 2) (S 3) (mr_cv (S 1) (nI i) (mv_co (S 1) (nI i) (S 1 5)) (it (mr_cvs (S 1)) i (mr_sb (S 1) (it mr_z 10 (S 4))))) (S 5) (S 6)) (by simp only [List.nil_append, List.append_nil, wMix, wLog, wPic, wRep, wScr, wVM, wMd, sR_eq, sR_ne, sF_eq, sF_ne, upd_eq, upd_ne, gs_eq, gs_ne, gm_4, gm_ne, Nat.reduceBEq]) ?_
        refine y_iinc Z [(2, .int (nI (i + 1))), (0, .ref (aS 0)), (1, .int (S 1 5))] dX6_laysShares_224 2 rfl (nI_1 _) (by decide) rfl ?_
        refine y_goto (tgt := 208) Z dX6_laysShares_227 (by decide) ?_
        refine y_lv [1, 2, 0] (lv' := [(0, .ref (aS 0)), (1, .int (S 1 5)), (2, .int (nI (i + 1)))]) rfl ?_
        refine y_eq (ws' := (wMdR cI aS (S 0 0) (S 0 1) (S 0 2) (S 0 3) (S 0 4) (S 0 5) (S 0 6) (S 0 7) (S 0 8) (S 0 9) (S 0 10) (S 0 11) (S 0 12) (S 1) (S 2) (S 3) (it (mr_cvs (S 1)) (i + 1) (mr_sb (S 1) (it mr_z 10 (S 4)))) (S 5) (S 6))) (lv' := [(0, .ref (aS 0)), (1, .int (S 1 5)), (2, .int (nI (i + 1)))]) (st' := []) (by first | (simp only [it_s, mr_cvs, h4, if_true, if_false, not_false_eq_true, not_true_eq_false, ↓reduceIte]; done) | (simp only [it_s, mr_cvs, h4, if_true, if_false, not_false_eq_true, not_true_eq_false, ↓reduceIte, wMix, wLog, wPic, wRep, wScr, wVM, wMd, sR_eq, sR_ne, sF_eq, sF_ne, upd_eq, upd_ne, gs_eq, gs_ne, gm_4, gm_ne, Nat.reduceBEq]; done) | (with_reducible rfl) | contradiction | (simp only [it_s, mr_cvs, h4, if_true, if_false, not_false_eq_true, not_true_eq_false, ↓reduceIte]; rfl) | rfl) (by first | (simp only [it_s, mr_cvs, h4, if_true, if_false, not_false_eq_true, not_true_eq_false, ↓reduceIte]; done) | (simp only [it_s, mr_cvs, h4, if_true, if_false, not_false_eq_true, not_true_eq_false, ↓reduceIte, wMix, wLog, wPic, wRep, wScr, wVM, wMd, sR_eq, sR_ne, sF_eq, sF_ne, upd_eq, upd_ne, gs_eq, gs_ne, gm_4, gm_ne, Nat.reduceBEq]; done) | (with_reducible rfl) | contradiction | (simp only [it_s, mr_cvs, h4, if_true, if_false, not_false_eq_true, not_true_eq_false, ↓reduceIte]; rfl) | rfl) rfl ?_
        exact ih (i + 1)  (by omega)
  have L2 : ∀ (n i : Nat), i + n = 10 → Yy p l e { frames := 2, cells := 0, slots := 0, locals := 47 } s m args below meth c (QV D tys A (wMdR cI aS (S 0 0) (S 0 1) (S 0 2) (S 0 3) (S 0 4) (S 0 5) (S 0 6) (S 0 7) (S 0 8) (S 0 9) (S 0 10) (S 0 11) (S 0 12) (S 1) (S 2) (S 3) (mr_ls (S 1) (S 4)) (S 5) (S 6)) below args s 0 0) D A 3 0 0 (wMdR cI aS (S 0 0) (S 0 1) (S 0 2) (S 0 3) (S 0 4) (S 0 5) (S 0 6) (S 0 7) (S 0 8) (S 0 9) (S 0 10) (S 0 11) (S 0 12) (S 1) (S 2) (S 3) (it mr_z i (S 4)) (S 5) (S 6)) [(0, .ref (aS 0)), (1, .int (nI i))] [] 2 := by
    intro n; induction n with
    | zero =>
      intro i hi
      have hi : i = 10 := by omega
      subst hi
      refine y_iload_n Z dX6_laysShares_2 1 rfl rfl ?_
      refine y_bipush (v := 10) Z dX6_laysShares_3 (by decide) ?_
      refine y_icmp_ge (tgt := 21) Z dX6_laysShares_5 (by decide) (fun h5 => ?_) (fun h6 => ?_)
      · refine y_aload_n Z dX6_laysShares_21 0 rfl rfl ?_
        refine y_get (C := RX6) (T := TX6) (N := 19) Z 6 inlX6 rfl 0 rfl 0 (by decide) fl_RX6_7 rfl dX6_laysShares_22 ?_
        refine y_iconst (v := 5) Z dX6_laysShares_25 (by decide) ?_
        refine y_iald Z 1 0 rfl ht0 (vpd (by decide) (by decide)) 5 (by decide) dX6_laysShares_26 ?_
        refine y_istore_n Z [(1, .int (S 1 5)), (0, .ref (aS 0))] dX6_laysShares_27 rfl (by decide) rfl ?_
        refine y_aload_n Z dX6_laysShares_28 1 rfl rfl ?_
        refine y_iconst (v := 0) Z dX6_laysShares_29 (by decide) ?_
        refine y_VIw Z (k_X6_isElement l D ht0 aS (sR S 4 (it mr_z 10 (S 4))) 0) (y_cwV 1 Z ml_RX6_43 im_X6_isElement se_X6_isElement in_X6 co_X6_isElement rfl rfl hd_X6_isElement ⟨Nat.le_of_ble_eq_true rfl, Nat.le_of_ble_eq_true rfl⟩) List.nil List.nil (by simp only [List.nil_append, List.append_nil, wMix, wLog, wPic, wRep, wScr, wVM, wMd, sR_eq, sR_ne, sF_eq, sF_ne, upd_eq, upd_ne, gs_eq, gs_ne, gm_4, gm_ne, Nat.reduceBEq]) 6 0 rfl rfl rfl rfl (Nat.le_of_ble_eq_true rfl) dX6_laysShares_30 ⟨Nat.le_of_ble_eq_true rfl, Nat.le_of_ble_eq_true rfl⟩ (wMdR cI aS (S 0 0) (S 0 1) (S 0 2) (S 0 3) (S 0 4) (S 0 5) (S 0 6) (S 0 7) (S 0 8) (S 0 9) (S 0 10) (S 0 11) (S 0 12) (S 1) (S 2) (S 3) (it mr_z 10 (S 4)) (S 5) (S 6)) (by simp only [List.nil_append, List.append_nil, wMix, wLog, wPic, wRep, wScr, wVM, wMd, sR_eq, sR_ne, sF_eq, sF_ne, upd_eq, upd_ne, gs_eq, gs_ne, gm_4, gm_ne, Nat.reduceBEq]) ?_
        refine y_eq rfl rfl (st' := [.int (mv_el (S 1) 0)]) (by first | with_reducible rfl | simp only [wMix, wLog, wPic, wRep, wScr, wVM, wMd, sR_eq, sR_ne, sF_eq, sF_ne, upd_eq, upd_ne, gs_eq, gs_ne, gm_4, gm_ne, Nat.reduceBEq]) ?_
        refine y_if_ne (tgt := 55) Z dX6_laysShares_33 (by decide) (fun h7 => ?_) (fun h8 => ?_)
        · refine y_aload_n Z dX6_laysShares_55 1 rfl rfl ?_
          refine y_get (C := RX6) (T := TX6) (N := 19) Z 6 inlX6 rfl 0 rfl 0 (by decide) fl_RX6_7 rfl dX6_laysShares_56 ?_
          refine y_iconst (v := 2) Z dX6_laysShares_59 (by decide) ?_
          refine y_iald Z 1 0 rfl ht0 (vpd (by decide) (by decide)) 2 (by decide) dX6_laysShares_60 ?_
          refine y_iconst (v := 2) Z dX6_laysShares_61 (by decide) ?_
          refine y_icmp_ge (tgt := 110) Z dX6_laysShares_62 (by decide) (fun h9 => ?_) (fun h10 => ?_)
          · refine y_iload_n Z dX6_laysShares_110 0 rfl rfl ?_
            refine y_sipush (v := 500) Z dX6_laysShares_111 (by decide) ?_
            refine y_icmp_gt (tgt := 161) Z dX6_laysShares_114 (by decide) (fun h11 => ?_) (fun h12 => ?_)
            · refine y_aload_n Z dX6_laysShares_161 1 rfl rfl ?_
              refine y_get (C := RX6) (T := TX6) (N := 19) Z 6 inlX6 rfl 0 rfl 7 (by decide) fl_RX6_19 rfl dX6_laysShares_162 ?_
              refine y_iconst (v := 0) Z dX6_laysShares_165 (by decide) ?_
              refine y_dup2 Z dX6_laysShares_166 rfl rfl ?_
              refine y_iald Z 4 0 rfl ht0 (vpd (by decide) (by decide)) 0 (by decide) dX6_laysShares_167 ?_
              refine y_sipush (v := 2000) Z dX6_laysShares_168 (by decide) ?_
              refine y_iconst (v := 2) Z dX6_laysShares_171 (by decide) ?_
              refine y_iload_n Z dX6_laysShares_172 0 rfl rfl ?_
              refine y_imul Z dX6_laysShares_173 ?_
              refine y_isub Z dX6_laysShares_174 ?_
              refine y_sipush (v := 1000) Z dX6_laysShares_175 (by decide) ?_
              refine y_imul Z dX6_laysShares_178 ?_
              refine y_iadd Z dX6_laysShares_179 ?_
              refine y_iast Z 4 0 rfl ht0 (vpd (by decide) (by decide)) 0 (by decide) (wMdR cI aS (S 0 0) (S 0 1) (S 0 2) (S 0 3) (S 0 4) (S 0 5) (S 0 6) (S 0 7) (S 0 8) (S 0 9) (S 0 10) (S 0 11) (S 0 12) (S 1) (S 2) (S 3) (upd (it mr_z 10 (S 4)) 0 (((it mr_z 10 (S 4)) 0) + ((2000 - (2 * (S 1 5))) * 1000))) (S 5) (S 6)) rfl dX6_laysShares_180 ?_
              refine y_aload_n Z dX6_laysShares_181 1 rfl rfl ?_
              refine y_get (C := RX6) (T := TX6) (N := 19) Z 6 inlX6 rfl 0 rfl 7 (by decide) fl_RX6_19 rfl dX6_laysShares_182 ?_
              refine y_aload_n Z dX6_laysShares_185 1 rfl rfl ?_
              refine y_get (C := RX6) (T := TX6) (N := 19) Z 6 inlX6 rfl 0 rfl 0 (by decide) fl_RX6_7 rfl dX6_laysShares_186 ?_
              refine y_iconst (v := 1) Z dX6_laysShares_189 (by decide) ?_
              refine y_iald Z 1 0 rfl ht0 (vpd (by decide) (by decide)) 1 (by decide) dX6_laysShares_190 ?_
              refine y_dup2 Z dX6_laysShares_191 rfl rfl ?_
              refine y_iald Z 4 0 rfl ht0 h_o.2.1 (cl (S 1 1)) rfl dX6_laysShares_192 ?_
              refine y_iconst (v := 2) Z dX6_laysShares_193 (by decide) ?_
              refine y_iload_n Z dX6_laysShares_194 0 rfl rfl ?_
              refine y_imul Z dX6_laysShares_195 ?_
              refine y_sipush (v := 1000) Z dX6_laysShares_196 (by decide) ?_
              refine y_isub Z dX6_laysShares_199 ?_
              refine y_sipush (v := 1000) Z dX6_laysShares_200 (by decide) ?_
              refine y_imul Z dX6_laysShares_203 ?_
              refine y_iadd Z dX6_laysShares_204 ?_
              refine y_iast Z 4 0 rfl ht0 h_o.2.1 (cl (S 1 1)) rfl (wMdR cI aS (S 0 0) (S 0 1) (S 0 2) (S 0 3) (S 0 4) (S 0 5) (S 0 6) (S 0 7) (S 0 8) (S 0 9) (S 0 10) (S 0 11) (S 0 12) (S 1) (S 2) (S 3) (upd (upd (it mr_z 10 (S 4)) 0 (((it mr_z 10 (S 4)) 0) + ((2000 - (2 * (S 1 5))) * 1000))) (cl (S 1 1)) (((upd (it mr_z 10 (S 4)) 0 (((it mr_z 10 (S 4)) 0) + ((2000 - (2 * (S 1 5))) * 1000))) (cl (S 1 1))) + (((2 * (S 1 5)) - 1000) * 1000))) (S 5) (S 6)) rfl dX6_laysShares_205 ?_
              refine y_iconst (v := 0) Z dX6_laysShares_206 (by decide) ?_
              refine y_istore_n Z [(2, .int 0), (1, .int (S 1 5)), (0, .ref (aS 0))] dX6_laysShares_207 rfl (by decide) rfl ?_
              refine y_lv [2, 1, 0] (lv' := [(0, .ref (aS 0)), (1, .int (S 1 5)), (2, .int 0)]) rfl ?_
              refine y_eq (ws' := (wMdR cI aS (S 0 0) (S 0 1) (S 0 2) (S 0 3) (S 0 4) (S 0 5) (S 0 6) (S 0 7) (S 0 8) (S 0 9) (S 0 10) (S 0 11) (S 0 12) (S 1) (S 2) (S 3) (it (mr_cvs (S 1)) 0 (mr_sb (S 1) (it mr_z 10 (S 4)))) (S 5) (S 6))) (lv' := [(0, .ref (aS 0)), (1, .int (S 1 5)), (2, .int (nI 0))]) (st' := []) (by first | (simp only [mr_sb, mr_ad, it_0, h5, h7, h9, h11, if_true, if_false, not_false_eq_true, not_true_eq_false, ↓reduceIte]; done) | (simp only [mr_sb, mr_ad, it_0, h5, h7, h9, h11, if_true, if_false, not_false_eq_true, not_true_eq_false, ↓reduceIte, wMix, wLog, wPic, wRep, wScr, wVM, wMd, sR_eq, sR_ne, sF_eq, sF_ne, upd_eq, upd_ne, gs_eq, gs_ne, gm_4, gm_ne, Nat.reduceBEq]; done) | (with_reducible rfl) | contradiction | (simp only [mr_sb, mr_ad, it_0, h5, h7, h9, h11, if_true, if_false, not_false_eq_true, not_true_eq_false, ↓reduceIte]; rfl) | rfl) (by first | (simp only [mr_sb, mr_ad, it_0, h5, h7, h9, h11, if_true, if_false, not_false_eq_true, not_true_eq_false, ↓reduceIte]; done) | (simp only [mr_sb, mr_ad, it_0, h5, h7, h9, h11, if_true, if_false, not_false_eq_true, not_true_eq_false, ↓reduceIte, wMix, wLog, wPic, wRep, wScr, wVM, wMd, sR_eq, sR_ne, sF_eq, sF_ne, upd_eq, upd_ne, gs_eq, gs_ne, gm_4, gm_ne, Nat.reduceBEq]; done) | (with_reducible rfl) | contradiction | (simp only [mr_sb, mr_ad, it_0, h5, h7, h9, h11, if_true, if_false, not_false_eq_true, not_true_eq_false, ↓reduceIte]; rfl) | rfl) rfl ?_
              exact L208 3 0  (by omega)
            · refine y_aload_n Z dX6_laysShares_117 1 rfl rfl ?_
              refine y_get (C := RX6) (T := TX6) (N := 19) Z 6 inlX6 rfl 0 rfl 7 (by decide) fl_RX6_19 rfl dX6_laysShares_118 ?_
              refine y_aload_n Z dX6_laysShares_121 1 rfl rfl ?_
              refine y_get (C := RX6) (T := TX6) (N := 19) Z 6 inlX6 rfl 0 rfl 0 (by decide) fl_RX6_7 rfl dX6_laysShares_122 ?_
              refine y_iconst (v := 0) Z dX6_laysShares_125 (by decide) ?_
              refine y_iald Z 1 0 rfl ht0 (vpd (by decide) (by decide)) 0 (by decide) dX6_laysShares_126 ?_
              refine y_dup2 Z dX6_laysShares_127 rfl rfl ?_
              refine y_iald Z 4 0 rfl ht0 h_o.1 (cl (S 1 0)) rfl dX6_laysShares_128 ?_
              refine y_sipush (v := 1000) Z dX6_laysShares_129 (by decide) ?_
              refine y_iconst (v := 2) Z dX6_laysShares_132 (by decide) ?_
              refine y_iload_n Z dX6_laysShares_133 0 rfl rfl ?_
              refine y_imul Z dX6_laysShares_134 ?_
              refine y_isub Z dX6_laysShares_135 ?_
              refine y_sipush (v := 1000) Z dX6_laysShares_136 (by decide) ?_
              refine y_imul Z dX6_laysShares_139 ?_
              refine y_iadd Z dX6_laysShares_140 ?_
              refine y_iast Z 4 0 rfl ht0 h_o.1 (cl (S 1 0)) rfl (wMdR cI aS (S 0 0) (S 0 1) (S 0 2) (S 0 3) (S 0 4) (S 0 5) (S 0 6) (S 0 7) (S 0 8) (S 0 9) (S 0 10) (S 0 11) (S 0 12) (S 1) (S 2) (S 3) (upd (it mr_z 10 (S 4)) (cl (S 1 0)) (((it mr_z 10 (S 4)) (cl (S 1 0))) + ((1000 - (2 * (S 1 5))) * 1000))) (S 5) (S 6)) rfl dX6_laysShares_141 ?_
              refine y_aload_n Z dX6_laysShares_142 1 rfl rfl ?_
              refine y_get (C := RX6) (T := TX6) (N := 19) Z 6 inlX6 rfl 0 rfl 7 (by decide) fl_RX6_19 rfl dX6_laysShares_143 ?_
              refine y_iconst (v := 0) Z dX6_laysShares_146 (by decide) ?_
              refine y_dup2 Z dX6_laysShares_147 rfl rfl ?_
              refine y_iald Z 4 0 rfl ht0 (vpd (by decide) (by decide)) 0 (by decide) dX6_laysShares_148 ?_
              refine y_iconst (v := 2) Z dX6_laysShares_149 (by decide) ?_
              refine y_iload_n Z dX6_laysShares_150 0 rfl rfl ?_
              refine y_imul Z dX6_laysShares_151 ?_
              refine y_sipush (v := 1000) Z dX6_laysShares_152 (by decide) ?_
              refine y_imul Z dX6_laysShares_155 ?_
              refine y_iadd Z dX6_laysShares_156 ?_
              refine y_iast Z 4 0 rfl ht0 (vpd (by decide) (by decide)) 0 (by decide) (wMdR cI aS (S 0 0) (S 0 1) (S 0 2) (S 0 3) (S 0 4) (S 0 5) (S 0 6) (S 0 7) (S 0 8) (S 0 9) (S 0 10) (S 0 11) (S 0 12) (S 1) (S 2) (S 3) (upd (upd (it mr_z 10 (S 4)) (cl (S 1 0)) (((it mr_z 10 (S 4)) (cl (S 1 0))) + ((1000 - (2 * (S 1 5))) * 1000))) 0 (((upd (it mr_z 10 (S 4)) (cl (S 1 0)) (((it mr_z 10 (S 4)) (cl (S 1 0))) + ((1000 - (2 * (S 1 5))) * 1000))) 0) + ((2 * (S 1 5)) * 1000))) (S 5) (S 6)) rfl dX6_laysShares_157 ?_
              refine y_goto (tgt := 206) Z dX6_laysShares_158 (by decide) ?_
              refine y_iconst (v := 0) Z dX6_laysShares_206 (by decide) ?_
              refine y_istore_n Z [(2, .int 0), (1, .int (S 1 5)), (0, .ref (aS 0))] dX6_laysShares_207 rfl (by decide) rfl ?_
              refine y_lv [2, 1, 0] (lv' := [(0, .ref (aS 0)), (1, .int (S 1 5)), (2, .int 0)]) rfl ?_
              refine y_eq (ws' := (wMdR cI aS (S 0 0) (S 0 1) (S 0 2) (S 0 3) (S 0 4) (S 0 5) (S 0 6) (S 0 7) (S 0 8) (S 0 9) (S 0 10) (S 0 11) (S 0 12) (S 1) (S 2) (S 3) (it (mr_cvs (S 1)) 0 (mr_sb (S 1) (it mr_z 10 (S 4)))) (S 5) (S 6))) (lv' := [(0, .ref (aS 0)), (1, .int (S 1 5)), (2, .int (nI 0))]) (st' := []) (by first | (simp only [mr_sb, mr_ad, it_0, h5, h7, h9, h12, if_true, if_false, not_false_eq_true, not_true_eq_false, ↓reduceIte]; done) | (simp only [mr_sb, mr_ad, it_0, h5, h7, h9, h12, if_true, if_false, not_false_eq_true, not_true_eq_false, ↓reduceIte, wMix, wLog, wPic, wRep, wScr, wVM, wMd, sR_eq, sR_ne, sF_eq, sF_ne, upd_eq, upd_ne, gs_eq, gs_ne, gm_4, gm_ne, Nat.reduceBEq]; done) | (with_reducible rfl) | contradiction | (simp only [mr_sb, mr_ad, it_0, h5, h7, h9, h12, if_true, if_false, not_false_eq_true, not_true_eq_false, ↓reduceIte]; rfl) | rfl) (by first | (simp only [mr_sb, mr_ad, it_0, h5, h7, h9, h12, if_true, if_false, not_false_eq_true, not_true_eq_false, ↓reduceIte]; done) | (simp only [mr_sb, mr_ad, it_0, h5, h7, h9, h12, if_true, if_false, not_false_eq_true, not_true_eq_false, ↓reduceIte, wMix, wLog, wPic, wRep, wScr, wVM, wMd, sR_eq, sR_ne, sF_eq, sF_ne, upd_eq, upd_ne, gs_eq, gs_ne, gm_4, gm_ne, Nat.reduceBEq]; done) | (with_reducible rfl) | contradiction | (simp only [mr_sb, mr_ad, it_0, h5, h7, h9, h12, if_true, if_false, not_false_eq_true, not_true_eq_false, ↓reduceIte]; rfl) | rfl) rfl ?_
              exact L208 3 0  (by omega)
          · refine y_aload_n Z dX6_laysShares_65 1 rfl rfl ?_
            refine y_get (C := RX6) (T := TX6) (N := 19) Z 6 inlX6 rfl 0 rfl 7 (by decide) fl_RX6_19 rfl dX6_laysShares_66 ?_
            refine y_aload_n Z dX6_laysShares_69 1 rfl rfl ?_
            refine y_get (C := RX6) (T := TX6) (N := 19) Z 6 inlX6 rfl 0 rfl 0 (by decide) fl_RX6_7 rfl dX6_laysShares_70 ?_
            refine y_iconst (v := 0) Z dX6_laysShares_73 (by decide) ?_
            refine y_iald Z 1 0 rfl ht0 (vpd (by decide) (by decide)) 0 (by decide) dX6_laysShares_74 ?_
            refine y_dup2 Z dX6_laysShares_75 rfl rfl ?_
            refine y_iald Z 4 0 rfl ht0 h_o.1 (cl (S 1 0)) rfl dX6_laysShares_76 ?_
            refine y_sipush (v := 1000) Z dX6_laysShares_77 (by decide) ?_
            refine y_iload_n Z dX6_laysShares_80 0 rfl rfl ?_
            refine y_isub Z dX6_laysShares_81 ?_
            refine y_sipush (v := 1000) Z dX6_laysShares_82 (by decide) ?_
            refine y_imul Z dX6_laysShares_85 ?_
            refine y_iadd Z dX6_laysShares_86 ?_
            refine y_iast Z 4 0 rfl ht0 h_o.1 (cl (S 1 0)) rfl (wMdR cI aS (S 0 0) (S 0 1) (S 0 2) (S 0 3) (S 0 4) (S 0 5) (S 0 6) (S 0 7) (S 0 8) (S 0 9) (S 0 10) (S 0 11) (S 0 12) (S 1) (S 2) (S 3) (upd (it mr_z 10 (S 4)) (cl (S 1 0)) (((it mr_z 10 (S 4)) (cl (S 1 0))) + ((1000 - (S 1 5)) * 1000))) (S 5) (S 6)) rfl dX6_laysShares_87 ?_
            refine y_aload_n Z dX6_laysShares_88 1 rfl rfl ?_
            refine y_get (C := RX6) (T := TX6) (N := 19) Z 6 inlX6 rfl 0 rfl 7 (by decide) fl_RX6_19 rfl dX6_laysShares_89 ?_
            refine y_aload_n Z dX6_laysShares_92 1 rfl rfl ?_
            refine y_get (C := RX6) (T := TX6) (N := 19) Z 6 inlX6 rfl 0 rfl 0 (by decide) fl_RX6_7 rfl dX6_laysShares_93 ?_
            refine y_iconst (v := 1) Z dX6_laysShares_96 (by decide) ?_
            refine y_iald Z 1 0 rfl ht0 (vpd (by decide) (by decide)) 1 (by decide) dX6_laysShares_97 ?_
            refine y_dup2 Z dX6_laysShares_98 rfl rfl ?_
            refine y_iald Z 4 0 rfl ht0 h_o.2.1 (cl (S 1 1)) rfl dX6_laysShares_99 ?_
            refine y_iload_n Z dX6_laysShares_100 0 rfl rfl ?_
            refine y_sipush (v := 1000) Z dX6_laysShares_101 (by decide) ?_
            refine y_imul Z dX6_laysShares_104 ?_
            refine y_iadd Z dX6_laysShares_105 ?_
            refine y_iast Z 4 0 rfl ht0 h_o.2.1 (cl (S 1 1)) rfl (wMdR cI aS (S 0 0) (S 0 1) (S 0 2) (S 0 3) (S 0 4) (S 0 5) (S 0 6) (S 0 7) (S 0 8) (S 0 9) (S 0 10) (S 0 11) (S 0 12) (S 1) (S 2) (S 3) (upd (upd (it mr_z 10 (S 4)) (cl (S 1 0)) (((it mr_z 10 (S 4)) (cl (S 1 0))) + ((1000 - (S 1 5)) * 1000))) (cl (S 1 1)) (((upd (it mr_z 10 (S 4)) (cl (S 1 0)) (((it mr_z 10 (S 4)) (cl (S 1 0))) + ((1000 - (S 1 5)) * 1000))) (cl (S 1 1))) + ((S 1 5) * 1000))) (S 5) (S 6)) rfl dX6_laysShares_106 ?_
            refine y_goto (tgt := 206) Z dX6_laysShares_107 (by decide) ?_
            refine y_iconst (v := 0) Z dX6_laysShares_206 (by decide) ?_
            refine y_istore_n Z [(2, .int 0), (1, .int (S 1 5)), (0, .ref (aS 0))] dX6_laysShares_207 rfl (by decide) rfl ?_
            refine y_lv [2, 1, 0] (lv' := [(0, .ref (aS 0)), (1, .int (S 1 5)), (2, .int 0)]) rfl ?_
            refine y_eq (ws' := (wMdR cI aS (S 0 0) (S 0 1) (S 0 2) (S 0 3) (S 0 4) (S 0 5) (S 0 6) (S 0 7) (S 0 8) (S 0 9) (S 0 10) (S 0 11) (S 0 12) (S 1) (S 2) (S 3) (it (mr_cvs (S 1)) 0 (mr_sb (S 1) (it mr_z 10 (S 4)))) (S 5) (S 6))) (lv' := [(0, .ref (aS 0)), (1, .int (S 1 5)), (2, .int (nI 0))]) (st' := []) (by first | (simp only [mr_sb, mr_ad, it_0, h5, h7, h10, if_true, if_false, not_false_eq_true, not_true_eq_false, ↓reduceIte]; done) | (simp only [mr_sb, mr_ad, it_0, h5, h7, h10, if_true, if_false, not_false_eq_true, not_true_eq_false, ↓reduceIte, wMix, wLog, wPic, wRep, wScr, wVM, wMd, sR_eq, sR_ne, sF_eq, sF_ne, upd_eq, upd_ne, gs_eq, gs_ne, gm_4, gm_ne, Nat.reduceBEq]; done) | (with_reducible rfl) | contradiction | (simp only [mr_sb, mr_ad, it_0, h5, h7, h10, if_true, if_false, not_false_eq_true, not_true_eq_false, ↓reduceIte]; rfl) | rfl) (by first | (simp only [mr_sb, mr_ad, it_0, h5, h7, h10, if_true, if_false, not_false_eq_true, not_true_eq_false, ↓reduceIte]; done) | (simp only [mr_sb, mr_ad, it_0, h5, h7, h10, if_true, if_false, not_false_eq_true, not_true_eq_false, ↓reduceIte, wMix, wLog, wPic, wRep, wScr, wVM, wMd, sR_eq, sR_ne, sF_eq, sF_ne, upd_eq, upd_ne, gs_eq, gs_ne, gm_4, gm_ne, Nat.reduceBEq]; done) | (with_reducible rfl) | contradiction | (simp only [mr_sb, mr_ad, it_0, h5, h7, h10, if_true, if_false, not_false_eq_true, not_true_eq_false, ↓reduceIte]; rfl) | rfl) rfl ?_
            exact L208 3 0  (by omega)
        · refine y_aload_n Z dX6_laysShares_36 1 rfl rfl ?_
          refine y_get (C := RX6) (T := TX6) (N := 19) Z 6 inlX6 rfl 0 rfl 7 (by decide) fl_RX6_19 rfl dX6_laysShares_37 ?_
          refine y_aload_n Z dX6_laysShares_40 1 rfl rfl ?_
          refine y_get (C := RX6) (T := TX6) (N := 19) Z 6 inlX6 rfl 0 rfl 0 (by decide) fl_RX6_7 rfl dX6_laysShares_41 ?_
          refine y_iconst (v := 0) Z dX6_laysShares_44 (by decide) ?_
          refine y_iald Z 1 0 rfl ht0 (vpd (by decide) (by decide)) 0 (by decide) dX6_laysShares_45 ?_
          refine y_dup2 Z dX6_laysShares_46 rfl rfl ?_
          refine y_iald Z 4 0 rfl ht0 h_o.1 (cl (S 1 0)) rfl dX6_laysShares_47 ?_
          refine y_ldc Z (1000000) ct_RX6_108 dX6_laysShares_48 ?_
          refine y_iadd Z dX6_laysShares_50 ?_
          refine y_iast Z 4 0 rfl ht0 h_o.1 (cl (S 1 0)) rfl (wMdR cI aS (S 0 0) (S 0 1) (S 0 2) (S 0 3) (S 0 4) (S 0 5) (S 0 6) (S 0 7) (S 0 8) (S 0 9) (S 0 10) (S 0 11) (S 0 12) (S 1) (S 2) (S 3) (upd (it mr_z 10 (S 4)) (cl (S 1 0)) (((it mr_z 10 (S 4)) (cl (S 1 0))) + 1000000)) (S 5) (S 6)) rfl dX6_laysShares_51 ?_
          refine y_goto (tgt := 206) Z dX6_laysShares_52 (by decide) ?_
          refine y_iconst (v := 0) Z dX6_laysShares_206 (by decide) ?_
          refine y_istore_n Z [(2, .int 0), (1, .int (S 1 5)), (0, .ref (aS 0))] dX6_laysShares_207 rfl (by decide) rfl ?_
          refine y_lv [2, 1, 0] (lv' := [(0, .ref (aS 0)), (1, .int (S 1 5)), (2, .int 0)]) rfl ?_
          refine y_eq (ws' := (wMdR cI aS (S 0 0) (S 0 1) (S 0 2) (S 0 3) (S 0 4) (S 0 5) (S 0 6) (S 0 7) (S 0 8) (S 0 9) (S 0 10) (S 0 11) (S 0 12) (S 1) (S 2) (S 3) (it (mr_cvs (S 1)) 0 (mr_sb (S 1) (it mr_z 10 (S 4)))) (S 5) (S 6))) (lv' := [(0, .ref (aS 0)), (1, .int (S 1 5)), (2, .int (nI 0))]) (st' := []) (by first | (simp only [mr_sb, mr_ad, it_0, h5, eq_true h8, if_true, if_false, not_false_eq_true, not_true_eq_false, ↓reduceIte]; done) | (simp only [mr_sb, mr_ad, it_0, h5, eq_true h8, if_true, if_false, not_false_eq_true, not_true_eq_false, ↓reduceIte, wMix, wLog, wPic, wRep, wScr, wVM, wMd, sR_eq, sR_ne, sF_eq, sF_ne, upd_eq, upd_ne, gs_eq, gs_ne, gm_4, gm_ne, Nat.reduceBEq]; done) | (with_reducible rfl) | contradiction | (simp only [mr_sb, mr_ad, it_0, h5, eq_true h8, if_true, if_false, not_false_eq_true, not_true_eq_false, ↓reduceIte]; rfl) | rfl) (by first | (simp only [mr_sb, mr_ad, it_0, h5, eq_true h8, if_true, if_false, not_false_eq_true, not_true_eq_false, ↓reduceIte]; done) | (simp only [mr_sb, mr_ad, it_0, h5, eq_true h8, if_true, if_false, not_false_eq_true, not_true_eq_false, ↓reduceIte, wMix, wLog, wPic, wRep, wScr, wVM, wMd, sR_eq, sR_ne, sF_eq, sF_ne, upd_eq, upd_ne, gs_eq, gs_ne, gm_4, gm_ne, Nat.reduceBEq]; done) | (with_reducible rfl) | contradiction | (simp only [mr_sb, mr_ad, it_0, h5, eq_true h8, if_true, if_false, not_false_eq_true, not_true_eq_false, ↓reduceIte]; rfl) | rfl) rfl ?_
          exact L208 3 0  (by omega)
      · exact absurd (nI_le (a := 10) (b := 10) (by omega) (by decide)) h6
    | succ n ih =>
      intro i hi
      refine y_iload_n Z dX6_laysShares_2 1 rfl rfl ?_
      refine y_bipush (v := 10) Z dX6_laysShares_3 (by decide) ?_
      refine y_icmp_ge (tgt := 21) Z dX6_laysShares_5 (by decide) (fun h13 => ?_) (fun h14 => ?_)
      · exact absurd h13 (nI_ge (a := i) (b := 10) (by omega) (by decide))
      · refine y_aload_n Z dX6_laysShares_8 0 rfl rfl ?_
        refine y_get (C := RX6) (T := TX6) (N := 19) Z 6 inlX6 rfl 0 rfl 7 (by decide) fl_RX6_19 rfl dX6_laysShares_9 ?_
        refine y_iload_n Z dX6_laysShares_12 1 rfl rfl ?_
        refine y_iconst (v := 0) Z dX6_laysShares_13 (by decide) ?_
        refine y_iast Z 4 0 rfl ht0 (vp_in_nI (by omega) (by decide)) i (nI_clamp (by omega)) (wMdR cI aS (S 0 0) (S 0 1) (S 0 2) (S 0 3) (S 0 4) (S 0 5) (S 0 6) (S 0 7) (S 0 8) (S 0 9) (S 0 10) (S 0 11) (S 0 12) (S 1) (S 2) (S 3) (upd (it mr_z i (S 4)) i 0) (S 5) (S 6)) rfl dX6_laysShares_14 ?_
        refine y_iinc Z [(1, .int (nI (i + 1))), (0, .ref (aS 0))] dX6_laysShares_15 1 rfl (nI_1 _) (by decide) rfl ?_
        refine y_goto (tgt := 2) Z dX6_laysShares_18 (by decide) ?_
        refine y_lv [1, 0] (lv' := [(0, .ref (aS 0)), (1, .int (nI (i + 1)))]) rfl ?_
        refine y_eq (ws' := (wMdR cI aS (S 0 0) (S 0 1) (S 0 2) (S 0 3) (S 0 4) (S 0 5) (S 0 6) (S 0 7) (S 0 8) (S 0 9) (S 0 10) (S 0 11) (S 0 12) (S 1) (S 2) (S 3) (it mr_z (i + 1) (S 4)) (S 5) (S 6))) (lv' := [(0, .ref (aS 0)), (1, .int (nI (i + 1)))]) (st' := []) (by first | (simp only [it_s, mr_z, h14, if_true, if_false, not_false_eq_true, not_true_eq_false, ↓reduceIte]; done) | (simp only [it_s, mr_z, h14, if_true, if_false, not_false_eq_true, not_true_eq_false, ↓reduceIte, wMix, wLog, wPic, wRep, wScr, wVM, wMd, sR_eq, sR_ne, sF_eq, sF_ne, upd_eq, upd_ne, gs_eq, gs_ne, gm_4, gm_ne, Nat.reduceBEq]; done) | (with_reducible rfl) | contradiction | (simp only [it_s, mr_z, h14, if_true, if_false, not_false_eq_true, not_true_eq_false, ↓reduceIte]; rfl) | rfl) (by first | (simp only [it_s, mr_z, h14, if_true, if_false, not_false_eq_true, not_true_eq_false, ↓reduceIte]; done) | (simp only [it_s, mr_z, h14, if_true, if_false, not_false_eq_true, not_true_eq_false, ↓reduceIte, wMix, wLog, wPic, wRep, wScr, wVM, wMd, sR_eq, sR_ne, sF_eq, sF_ne, upd_eq, upd_ne, gs_eq, gs_ne, gm_4, gm_ne, Nat.reduceBEq]; done) | (with_reducible rfl) | contradiction | (simp only [it_s, mr_z, h14, if_true, if_false, not_false_eq_true, not_true_eq_false, ↓reduceIte]; rfl) | rfl) rfl ?_
        exact ih (i + 1)  (by omega)
  refine y_iconst (v := 0) Z dX6_laysShares_0 (by decide) ?_
  refine y_istore_n Z [(1, .int 0), (0, .ref (aS 0))] dX6_laysShares_1 rfl (by decide) rfl ?_
  refine y_lv [1, 0] (lv' := [(0, .ref (aS 0)), (1, .int 0)]) rfl ?_
  refine y_eq (ws' := (wMdR cI aS (S 0 0) (S 0 1) (S 0 2) (S 0 3) (S 0 4) (S 0 5) (S 0 6) (S 0 7) (S 0 8) (S 0 9) (S 0 10) (S 0 11) (S 0 12) (S 1) (S 2) (S 3) (it mr_z 0 (S 4)) (S 5) (S 6))) (lv' := [(0, .ref (aS 0)), (1, .int (nI 0))]) (st' := []) (by first | (simp only [it_0, if_true, if_false, not_false_eq_true, not_true_eq_false, ↓reduceIte]; done) | (simp only [it_0, if_true, if_false, not_false_eq_true, not_true_eq_false, ↓reduceIte, wMix, wLog, wPic, wRep, wScr, wVM, wMd, sR_eq, sR_ne, sF_eq, sF_ne, upd_eq, upd_ne, gs_eq, gs_ne, gm_4, gm_ne, Nat.reduceBEq]; done) | (with_reducible rfl) | contradiction | (simp only [it_0, if_true, if_false, not_false_eq_true, not_true_eq_false, ↓reduceIte]; rfl) | rfl) (by first | (simp only [it_0, if_true, if_false, not_false_eq_true, not_true_eq_false, ↓reduceIte]; done) | (simp only [it_0, if_true, if_false, not_false_eq_true, not_true_eq_false, ↓reduceIte, wMix, wLog, wPic, wRep, wScr, wVM, wMd, sR_eq, sR_ne, sF_eq, sF_ne, upd_eq, upd_ne, gs_eq, gs_ne, gm_4, gm_ne, Nat.reduceBEq]; done) | (with_reducible rfl) | contradiction | (simp only [it_0, if_true, if_false, not_false_eq_true, not_true_eq_false, ↓reduceIte]; rfl) | rfl) rfl ?_
  exact L2 10 0  (by omega)
set_option maxHeartbeats 4000000 in
set_option maxRecDepth 100000 in
theorem k_X6_reds (l : Launch) (D : va_G) {cI : ClassId} {tys : List (ClassId × FieldType)} (ht0 : tys[0]? = some (cI, .int)) (aS : Nat → Nat) (S : Nat → Nat → Int32) (h_o : okm (S 1)) (sz : Nat) : kI l yX6_reds cX6_reds 3 (some .int) { frames := 3, cells := 0, slots := 0, locals := 69 } D tys [.ref (aS 0)] (wMd cI aS S) (wMdR cI aS (S 0 0) (S 0 1) (S 0 2) (S 0 3) (S 0 4) (S 0 5) (S 0 6) (S 0 7) (S 0 8) (S 0 9) (S 0 10) (S 0 11) (S 0 12) (S 1) (S 2) (S 3) (mr_ls (S 1) (S 4)) (S 5) (S 6)) (mv_rd (mr_ls (S 1) (S 4))) 0 0 sz := by
  refine y_enterI (cc := cX6_reds) (maxL := 3) (ret := (some .int)) (own := RX6) (by decide) rfl (lv0 := [(0, .ref (aS 0))]) rfl (Nat.le_of_ble_eq_true rfl) ?_
  intro p e s m args below meth c A Z hr hlk _
  have L8 : ∀ (n i : Nat), i + n = 10 → Yy p l e { frames := 3, cells := 0, slots := 0, locals := 69 } s m args below meth c (QI D tys A (wMdR cI aS (S 0 0) (S 0 1) (S 0 2) (S 0 3) (S 0 4) (S 0 5) (S 0 6) (S 0 7) (S 0 8) (S 0 9) (S 0 10) (S 0 11) (S 0 12) (S 1) (S 2) (S 3) (mr_ls (S 1) (S 4)) (S 5) (S 6)) (mv_rd (mr_ls (S 1) (S 4))) below args s 0 0) D A 3 0 0 (wMdR cI aS (S 0 0) (S 0 1) (S 0 2) (S 0 3) (S 0 4) (S 0 5) (S 0 6) (S 0 7) (S 0 8) (S 0 9) (S 0 10) (S 0 11) (S 0 12) (S 1) (S 2) (S 3) (mr_ls (S 1) (S 4)) (S 5) (S 6)) [(0, .ref (aS 0)), (1, .int (it (mv_rs (mr_ls (S 1) (S 4))) i 0)), (2, .int (nI i))] [] 8 := by
    intro n; induction n with
    | zero =>
      intro i hi
      have hi : i = 10 := by omega
      subst hi
      refine y_iload_n Z dX6_reds_8 2 rfl rfl ?_
      refine y_bipush (v := 10) Z dX6_reds_9 (by decide) ?_
      refine y_icmp_ge (tgt := 39) Z dX6_reds_11 (by decide) (fun h1 => ?_) (fun h2 => ?_)
      · refine y_iload_n Z dX6_reds_39 1 rfl rfl ?_
        exact y_retI Z hr hlk dX6_reds_40 (by first | (simp only [mv_rd, h1, if_true, if_false, not_false_eq_true, not_true_eq_false, ↓reduceIte]; done) | (simp only [mv_rd, h1, if_true, if_false, not_false_eq_true, not_true_eq_false, ↓reduceIte, wMix, wLog, wPic, wRep, wScr, wVM, wMd, sR_eq, sR_ne, sF_eq, sF_ne, upd_eq, upd_ne, gs_eq, gs_ne, gm_4, gm_ne, Nat.reduceBEq]; done) | (with_reducible rfl) | contradiction | (simp only [mv_rd, h1, if_true, if_false, not_false_eq_true, not_true_eq_false, ↓reduceIte]; rfl) | rfl) (by first | (simp only [mv_rd, h1, if_true, if_false, not_false_eq_true, not_true_eq_false, ↓reduceIte]; done) | (simp only [mv_rd, h1, if_true, if_false, not_false_eq_true, not_true_eq_false, ↓reduceIte, wMix, wLog, wPic, wRep, wScr, wVM, wMd, sR_eq, sR_ne, sF_eq, sF_ne, upd_eq, upd_ne, gs_eq, gs_ne, gm_4, gm_ne, Nat.reduceBEq]; done) | (with_reducible rfl) | contradiction | (simp only [mv_rd, h1, if_true, if_false, not_false_eq_true, not_true_eq_false, ↓reduceIte]; rfl) | rfl)
      · exact absurd (nI_le (a := 10) (b := 10) (by omega) (by decide)) h2
    | succ n ih =>
      intro i hi
      refine y_iload_n Z dX6_reds_8 2 rfl rfl ?_
      refine y_bipush (v := 10) Z dX6_reds_9 (by decide) ?_
      refine y_icmp_ge (tgt := 39) Z dX6_reds_11 (by decide) (fun h3 => ?_) (fun h4 => ?_)
      · exact absurd h3 (nI_ge (a := i) (b := 10) (by omega) (by decide))
      · refine y_iload_n Z dX6_reds_14 1 rfl rfl ?_
        refine y_aload_n Z dX6_reds_15 0 rfl rfl ?_
        refine y_get (C := RX6) (T := TX6) (N := 19) Z 6 inlX6 rfl 0 rfl 7 (by decide) fl_RX6_19 rfl dX6_reds_16 ?_
        refine y_iload_n Z dX6_reds_19 2 rfl rfl ?_
        refine y_iald Z 4 0 rfl ht0 (vp_in_nI (by omega) (by decide)) i (nI_clamp (by omega)) dX6_reds_20 ?_
        refine y_if_le (tgt := 30) Z dX6_reds_21 (by decide) (fun h5 => ?_) (fun h6 => ?_)
        · refine y_iconst (v := 0) Z dX6_reds_30 (by decide) ?_
          refine y_ior Z dX6_reds_31 ?_
          refine y_istore_n Z [(1, .int ((it (mv_rs (mr_ls (S 1) (S 4))) i 0) ||| 0)), (0, .ref (aS 0)), (2, .int (nI i))] dX6_reds_32 rfl (by decide) rfl ?_
          refine y_iinc Z [(2, .int (nI (i + 1))), (1, .int ((it (mv_rs (mr_ls (S 1) (S 4))) i 0) ||| 0)), (0, .ref (aS 0))] dX6_reds_33 2 rfl (nI_1 _) (by decide) rfl ?_
          refine y_goto (tgt := 8) Z dX6_reds_36 (by decide) ?_
          refine y_lv [2, 1, 0] (lv' := [(0, .ref (aS 0)), (1, .int ((it (mv_rs (mr_ls (S 1) (S 4))) i 0) ||| 0)), (2, .int (nI (i + 1)))]) rfl ?_
          refine y_eq (ws' := (wMdR cI aS (S 0 0) (S 0 1) (S 0 2) (S 0 3) (S 0 4) (S 0 5) (S 0 6) (S 0 7) (S 0 8) (S 0 9) (S 0 10) (S 0 11) (S 0 12) (S 1) (S 2) (S 3) (mr_ls (S 1) (S 4)) (S 5) (S 6))) (lv' := [(0, .ref (aS 0)), (1, .int (it (mv_rs (mr_ls (S 1) (S 4))) (i + 1) 0)), (2, .int (nI (i + 1)))]) (st' := []) (by first | (simp only [it_s, mv_rs, h4, h5, if_true, if_false, not_false_eq_true, not_true_eq_false, ↓reduceIte]; done) | (simp only [it_s, mv_rs, h4, h5, if_true, if_false, not_false_eq_true, not_true_eq_false, ↓reduceIte, wMix, wLog, wPic, wRep, wScr, wVM, wMd, sR_eq, sR_ne, sF_eq, sF_ne, upd_eq, upd_ne, gs_eq, gs_ne, gm_4, gm_ne, Nat.reduceBEq]; done) | (with_reducible rfl) | contradiction | (simp only [it_s, mv_rs, h4, h5, if_true, if_false, not_false_eq_true, not_true_eq_false, ↓reduceIte]; rfl) | rfl) (by first | (simp only [it_s, mv_rs, h4, h5, if_true, if_false, not_false_eq_true, not_true_eq_false, ↓reduceIte]; done) | (simp only [it_s, mv_rs, h4, h5, if_true, if_false, not_false_eq_true, not_true_eq_false, ↓reduceIte, wMix, wLog, wPic, wRep, wScr, wVM, wMd, sR_eq, sR_ne, sF_eq, sF_ne, upd_eq, upd_ne, gs_eq, gs_ne, gm_4, gm_ne, Nat.reduceBEq]; done) | (with_reducible rfl) | contradiction | (simp only [it_s, mv_rs, h4, h5, if_true, if_false, not_false_eq_true, not_true_eq_false, ↓reduceIte]; rfl) | rfl) rfl ?_
          exact ih (i + 1)  (by omega)
        · refine y_iconst (v := 1) Z dX6_reds_24 (by decide) ?_
          refine y_iload_n Z dX6_reds_25 2 rfl rfl ?_
          refine y_ishl Z dX6_reds_26 ?_
          refine y_goto (tgt := 31) Z dX6_reds_27 (by decide) ?_
          refine y_ior Z dX6_reds_31 ?_
          refine y_istore_n Z [(1, .int ((it (mv_rs (mr_ls (S 1) (S 4))) i 0) ||| (1 <<< ((nI i) &&& 31)))), (0, .ref (aS 0)), (2, .int (nI i))] dX6_reds_32 rfl (by decide) rfl ?_
          refine y_iinc Z [(2, .int (nI (i + 1))), (1, .int ((it (mv_rs (mr_ls (S 1) (S 4))) i 0) ||| (1 <<< ((nI i) &&& 31)))), (0, .ref (aS 0))] dX6_reds_33 2 rfl (nI_1 _) (by decide) rfl ?_
          refine y_goto (tgt := 8) Z dX6_reds_36 (by decide) ?_
          refine y_lv [2, 1, 0] (lv' := [(0, .ref (aS 0)), (1, .int ((it (mv_rs (mr_ls (S 1) (S 4))) i 0) ||| (1 <<< ((nI i) &&& 31)))), (2, .int (nI (i + 1)))]) rfl ?_
          refine y_eq (ws' := (wMdR cI aS (S 0 0) (S 0 1) (S 0 2) (S 0 3) (S 0 4) (S 0 5) (S 0 6) (S 0 7) (S 0 8) (S 0 9) (S 0 10) (S 0 11) (S 0 12) (S 1) (S 2) (S 3) (mr_ls (S 1) (S 4)) (S 5) (S 6))) (lv' := [(0, .ref (aS 0)), (1, .int (it (mv_rs (mr_ls (S 1) (S 4))) (i + 1) 0)), (2, .int (nI (i + 1)))]) (st' := []) (by first | (simp only [it_s, mv_rs, h4, h6, if_true, if_false, not_false_eq_true, not_true_eq_false, ↓reduceIte]; done) | (simp only [it_s, mv_rs, h4, h6, if_true, if_false, not_false_eq_true, not_true_eq_false, ↓reduceIte, wMix, wLog, wPic, wRep, wScr, wVM, wMd, sR_eq, sR_ne, sF_eq, sF_ne, upd_eq, upd_ne, gs_eq, gs_ne, gm_4, gm_ne, Nat.reduceBEq]; done) | (with_reducible rfl) | contradiction | (simp only [it_s, mv_rs, h4, h6, if_true, if_false, not_false_eq_true, not_true_eq_false, ↓reduceIte]; rfl) | rfl) (by first | (simp only [it_s, mv_rs, h4, h6, if_true, if_false, not_false_eq_true, not_true_eq_false, ↓reduceIte]; done) | (simp only [it_s, mv_rs, h4, h6, if_true, if_false, not_false_eq_true, not_true_eq_false, ↓reduceIte, wMix, wLog, wPic, wRep, wScr, wVM, wMd, sR_eq, sR_ne, sF_eq, sF_ne, upd_eq, upd_ne, gs_eq, gs_ne, gm_4, gm_ne, Nat.reduceBEq]; done) | (with_reducible rfl) | contradiction | (simp only [it_s, mv_rs, h4, h6, if_true, if_false, not_false_eq_true, not_true_eq_false, ↓reduceIte]; rfl) | rfl) rfl ?_
          exact ih (i + 1)  (by omega)
  refine y_aload_n Z dX6_reds_0 0 rfl rfl ?_
  refine y_VVw Z (k_X6_laysShares l D ht0 aS S h_o) (y_cwV 0 Z ml_RX6_118 im_X6_laysShares se_X6_laysShares in_X6 co_X6_laysShares rfl rfl hd_X6_laysShares ⟨Nat.le_of_ble_eq_true rfl, Nat.le_of_ble_eq_true rfl⟩) List.nil List.nil (by simp only [List.nil_append, List.append_nil, wMix, wLog, wPic, wRep, wScr, wVM, wMd, sR_eq, sR_ne, sF_eq, sF_ne, upd_eq, upd_ne, gs_eq, gs_ne, gm_4, gm_ne, Nat.reduceBEq]) 6 0 rfl rfl rfl rfl (Nat.le_of_ble_eq_true rfl) dX6_reds_1 ⟨Nat.le_of_ble_eq_true rfl, Nat.le_of_ble_eq_true rfl⟩ (wMdR cI aS (S 0 0) (S 0 1) (S 0 2) (S 0 3) (S 0 4) (S 0 5) (S 0 6) (S 0 7) (S 0 8) (S 0 9) (S 0 10) (S 0 11) (S 0 12) (S 1) (S 2) (S 3) (mr_ls (S 1) (S 4)) (S 5) (S 6)) (by simp only [List.nil_append, List.append_nil, wMix, wLog, wPic, wRep, wScr, wVM, wMd, sR_eq, sR_ne, sF_eq, sF_ne, upd_eq, upd_ne, gs_eq, gs_ne, gm_4, gm_ne, Nat.reduceBEq]) ?_
  refine y_iconst (v := 0) Z dX6_reds_4 (by decide) ?_
  refine y_istore_n Z [(1, .int 0), (0, .ref (aS 0))] dX6_reds_5 rfl (by decide) rfl ?_
  refine y_iconst (v := 0) Z dX6_reds_6 (by decide) ?_
  refine y_istore_n Z [(2, .int 0), (1, .int 0), (0, .ref (aS 0))] dX6_reds_7 rfl (by decide) rfl ?_
  refine y_lv [2, 1, 0] (lv' := [(0, .ref (aS 0)), (1, .int 0), (2, .int 0)]) rfl ?_
  exact L8 10 0  (by omega)
set_option maxHeartbeats 4000000 in
set_option maxRecDepth 100000 in
theorem k_X6_lays (l : Launch) (D : va_G) {cI : ClassId} {tys : List (ClassId × FieldType)} (ht0 : tys[0]? = some (cI, .int)) (aS : Nat → Nat) (S : Nat → Nat → Int32) (sz : Nat) : kV l yX6_lays cX6_lays 2 none { frames := 0, cells := 0, slots := 0, locals := 0 } D tys [.ref (aS 0)] (wMd cI aS S) (wMdR cI aS (S 0 0) (S 0 1) (S 0 2) (S 0 3) (S 0 4) (S 0 5) (S 0 6) (S 0 7) (S 0 8) (S 0 9) (S 0 10) (S 0 11) (S 0 12) (S 1) (mr_ly (S 1) (S 2)) (S 3) (S 4) (S 5) (S 6)) 0 0 sz := by
  refine y_enterV (cc := cX6_lays) (maxL := 2) (ret := none) (own := RX6) (by decide) rfl (lv0 := [(0, .ref (aS 0))]) rfl (Nat.le_of_ble_eq_true rfl) ?_
  intro p e s m args below meth c A Z hr hlk _
  have L2 : ∀ (n i : Nat), i + n = 20 → Yy p l e { frames := 0, cells := 0, slots := 0, locals := 0 } s m args below meth c (QV D tys A (wMdR cI aS (S 0 0) (S 0 1) (S 0 2) (S 0 3) (S 0 4) (S 0 5) (S 0 6) (S 0 7) (S 0 8) (S 0 9) (S 0 10) (S 0 11) (S 0 12) (S 1) (mr_ly (S 1) (S 2)) (S 3) (S 4) (S 5) (S 6)) below args s 0 0) D A 2 0 0 (wMdR cI aS (S 0 0) (S 0 1) (S 0 2) (S 0 3) (S 0 4) (S 0 5) (S 0 6) (S 0 7) (S 0 8) (S 0 9) (S 0 10) (S 0 11) (S 0 12) (S 1) (it (mr_c1 (S 1)) i (S 2)) (S 3) (S 4) (S 5) (S 6)) [(0, .ref (aS 0)), (1, .int (nI i))] [] 2 := by
    intro n; induction n with
    | zero =>
      intro i hi
      have hi : i = 20 := by omega
      subst hi
      refine y_iload_n Z dX6_lays_2 1 rfl rfl ?_
      refine y_bipush (v := 20) Z dX6_lays_3 (by decide) ?_
      refine y_icmp_ge (tgt := 26) Z dX6_lays_5 (by decide) (fun h1 => ?_) (fun h2 => ?_)
      · exact y_retV Z hr hlk dX6_lays_26 (by first | (simp only [mr_ly, h1, if_true, if_false, not_false_eq_true, not_true_eq_false, ↓reduceIte]; done) | (simp only [mr_ly, h1, if_true, if_false, not_false_eq_true, not_true_eq_false, ↓reduceIte, wMix, wLog, wPic, wRep, wScr, wVM, wMd, sR_eq, sR_ne, sF_eq, sF_ne, upd_eq, upd_ne, gs_eq, gs_ne, gm_4, gm_ne, Nat.reduceBEq]; done) | (with_reducible rfl) | contradiction | (simp only [mr_ly, h1, if_true, if_false, not_false_eq_true, not_true_eq_false, ↓reduceIte]; rfl) | rfl)
      · exact absurd (nI_le (a := 20) (b := 20) (by omega) (by decide)) h2
    | succ n ih =>
      intro i hi
      refine y_iload_n Z dX6_lays_2 1 rfl rfl ?_
      refine y_bipush (v := 20) Z dX6_lays_3 (by decide) ?_
      refine y_icmp_ge (tgt := 26) Z dX6_lays_5 (by decide) (fun h3 => ?_) (fun h4 => ?_)
      · exact absurd h3 (nI_ge (a := i) (b := 20) (by omega) (by decide))
      · refine y_aload_n Z dX6_lays_8 0 rfl rfl ?_
        refine y_get (C := RX6) (T := TX6) (N := 19) Z 6 inlX6 rfl 0 rfl 1 (by decide) fl_RX6_13 rfl dX6_lays_9 ?_
        refine y_iload_n Z dX6_lays_12 1 rfl rfl ?_
        refine y_aload_n Z dX6_lays_13 0 rfl rfl ?_
        refine y_get (C := RX6) (T := TX6) (N := 19) Z 6 inlX6 rfl 0 rfl 0 (by decide) fl_RX6_7 rfl dX6_lays_14 ?_
        refine y_iload_n Z dX6_lays_17 1 rfl rfl ?_
        refine y_iald Z 1 0 rfl ht0 (vp_in_nI (by omega) (by decide)) i (nI_clamp (by omega)) dX6_lays_18 ?_
        refine y_iast Z 2 0 rfl ht0 (vp_in_nI (by omega) (by decide)) i (nI_clamp (by omega)) (wMdR cI aS (S 0 0) (S 0 1) (S 0 2) (S 0 3) (S 0 4) (S 0 5) (S 0 6) (S 0 7) (S 0 8) (S 0 9) (S 0 10) (S 0 11) (S 0 12) (S 1) (upd (it (mr_c1 (S 1)) i (S 2)) i (S 1 i)) (S 3) (S 4) (S 5) (S 6)) rfl dX6_lays_19 ?_
        refine y_iinc Z [(1, .int (nI (i + 1))), (0, .ref (aS 0))] dX6_lays_20 1 rfl (nI_1 _) (by decide) rfl ?_
        refine y_goto (tgt := 2) Z dX6_lays_23 (by decide) ?_
        refine y_lv [1, 0] (lv' := [(0, .ref (aS 0)), (1, .int (nI (i + 1)))]) rfl ?_
        refine y_eq (ws' := (wMdR cI aS (S 0 0) (S 0 1) (S 0 2) (S 0 3) (S 0 4) (S 0 5) (S 0 6) (S 0 7) (S 0 8) (S 0 9) (S 0 10) (S 0 11) (S 0 12) (S 1) (it (mr_c1 (S 1)) (i + 1) (S 2)) (S 3) (S 4) (S 5) (S 6))) (lv' := [(0, .ref (aS 0)), (1, .int (nI (i + 1)))]) (st' := []) (by first | (simp only [it_s, mr_c1, h4, if_true, if_false, not_false_eq_true, not_true_eq_false, ↓reduceIte]; done) | (simp only [it_s, mr_c1, h4, if_true, if_false, not_false_eq_true, not_true_eq_false, ↓reduceIte, wMix, wLog, wPic, wRep, wScr, wVM, wMd, sR_eq, sR_ne, sF_eq, sF_ne, upd_eq, upd_ne, gs_eq, gs_ne, gm_4, gm_ne, Nat.reduceBEq]; done) | (with_reducible rfl) | contradiction | (simp only [it_s, mr_c1, h4, if_true, if_false, not_false_eq_true, not_true_eq_false, ↓reduceIte]; rfl) | rfl) (by first | (simp only [it_s, mr_c1, h4, if_true, if_false, not_false_eq_true, not_true_eq_false, ↓reduceIte]; done) | (simp only [it_s, mr_c1, h4, if_true, if_false, not_false_eq_true, not_true_eq_false, ↓reduceIte, wMix, wLog, wPic, wRep, wScr, wVM, wMd, sR_eq, sR_ne, sF_eq, sF_ne, upd_eq, upd_ne, gs_eq, gs_ne, gm_4, gm_ne, Nat.reduceBEq]; done) | (with_reducible rfl) | contradiction | (simp only [it_s, mr_c1, h4, if_true, if_false, not_false_eq_true, not_true_eq_false, ↓reduceIte]; rfl) | rfl) rfl ?_
        exact ih (i + 1)  (by omega)
  refine y_iconst (v := 0) Z dX6_lays_0 (by decide) ?_
  refine y_istore_n Z [(1, .int 0), (0, .ref (aS 0))] dX6_lays_1 rfl (by decide) rfl ?_
  refine y_lv [1, 0] (lv' := [(0, .ref (aS 0)), (1, .int 0)]) rfl ?_
  exact L2 20 0  (by omega)
set_option maxHeartbeats 4000000 in
set_option maxRecDepth 100000 in
theorem k_X6_takesBack (l : Launch) (D : va_G) {cI : ClassId} {tys : List (ClassId × FieldType)} (ht0 : tys[0]? = some (cI, .int)) (aS : Nat → Nat) (S : Nat → Nat → Int32) (sz : Nat) : kV l yX6_takesBack cX6_takesBack 2 none { frames := 0, cells := 0, slots := 0, locals := 0 } D tys [.ref (aS 0)] (wMd cI aS S) (wMdR cI aS (S 0 0) (S 0 1) (S 0 2) (S 0 3) (S 0 4) (S 0 5) (S 0 6) (S 0 7) (S 0 8) (S 0 9) (S 0 10) (S 0 11) (S 0 12) (mr_ly (S 2) (S 1)) (S 2) (S 3) (S 4) (S 5) (S 6)) 0 0 sz := by
  refine y_enterV (cc := cX6_takesBack) (maxL := 2) (ret := none) (own := RX6) (by decide) rfl (lv0 := [(0, .ref (aS 0))]) rfl (Nat.le_of_ble_eq_true rfl) ?_
  intro p e s m args below meth c A Z hr hlk _
  have L2 : ∀ (n i : Nat), i + n = 20 → Yy p l e { frames := 0, cells := 0, slots := 0, locals := 0 } s m args below meth c (QV D tys A (wMdR cI aS (S 0 0) (S 0 1) (S 0 2) (S 0 3) (S 0 4) (S 0 5) (S 0 6) (S 0 7) (S 0 8) (S 0 9) (S 0 10) (S 0 11) (S 0 12) (mr_ly (S 2) (S 1)) (S 2) (S 3) (S 4) (S 5) (S 6)) below args s 0 0) D A 2 0 0 (wMdR cI aS (S 0 0) (S 0 1) (S 0 2) (S 0 3) (S 0 4) (S 0 5) (S 0 6) (S 0 7) (S 0 8) (S 0 9) (S 0 10) (S 0 11) (S 0 12) (it (mr_c1 (S 2)) i (S 1)) (S 2) (S 3) (S 4) (S 5) (S 6)) [(0, .ref (aS 0)), (1, .int (nI i))] [] 2 := by
    intro n; induction n with
    | zero =>
      intro i hi
      have hi : i = 20 := by omega
      subst hi
      refine y_iload_n Z dX6_takesBack_2 1 rfl rfl ?_
      refine y_bipush (v := 20) Z dX6_takesBack_3 (by decide) ?_
      refine y_icmp_ge (tgt := 26) Z dX6_takesBack_5 (by decide) (fun h1 => ?_) (fun h2 => ?_)
      · exact y_retV Z hr hlk dX6_takesBack_26 (by first | (simp only [mr_ly, h1, if_true, if_false, not_false_eq_true, not_true_eq_false, ↓reduceIte]; done) | (simp only [mr_ly, h1, if_true, if_false, not_false_eq_true, not_true_eq_false, ↓reduceIte, wMix, wLog, wPic, wRep, wScr, wVM, wMd, sR_eq, sR_ne, sF_eq, sF_ne, upd_eq, upd_ne, gs_eq, gs_ne, gm_4, gm_ne, Nat.reduceBEq]; done) | (with_reducible rfl) | contradiction | (simp only [mr_ly, h1, if_true, if_false, not_false_eq_true, not_true_eq_false, ↓reduceIte]; rfl) | rfl)
      · exact absurd (nI_le (a := 20) (b := 20) (by omega) (by decide)) h2
    | succ n ih =>
      intro i hi
      refine y_iload_n Z dX6_takesBack_2 1 rfl rfl ?_
      refine y_bipush (v := 20) Z dX6_takesBack_3 (by decide) ?_
      refine y_icmp_ge (tgt := 26) Z dX6_takesBack_5 (by decide) (fun h3 => ?_) (fun h4 => ?_)
      · exact absurd h3 (nI_ge (a := i) (b := 20) (by omega) (by decide))
      · refine y_aload_n Z dX6_takesBack_8 0 rfl rfl ?_
        refine y_get (C := RX6) (T := TX6) (N := 19) Z 6 inlX6 rfl 0 rfl 0 (by decide) fl_RX6_7 rfl dX6_takesBack_9 ?_
        refine y_iload_n Z dX6_takesBack_12 1 rfl rfl ?_
        refine y_aload_n Z dX6_takesBack_13 0 rfl rfl ?_
        refine y_get (C := RX6) (T := TX6) (N := 19) Z 6 inlX6 rfl 0 rfl 1 (by decide) fl_RX6_13 rfl dX6_takesBack_14 ?_
        refine y_iload_n Z dX6_takesBack_17 1 rfl rfl ?_
        refine y_iald Z 2 0 rfl ht0 (vp_in_nI (by omega) (by decide)) i (nI_clamp (by omega)) dX6_takesBack_18 ?_
        refine y_iast Z 1 0 rfl ht0 (vp_in_nI (by omega) (by decide)) i (nI_clamp (by omega)) (wMdR cI aS (S 0 0) (S 0 1) (S 0 2) (S 0 3) (S 0 4) (S 0 5) (S 0 6) (S 0 7) (S 0 8) (S 0 9) (S 0 10) (S 0 11) (S 0 12) (upd (it (mr_c1 (S 2)) i (S 1)) i (S 2 i)) (S 2) (S 3) (S 4) (S 5) (S 6)) rfl dX6_takesBack_19 ?_
        refine y_iinc Z [(1, .int (nI (i + 1))), (0, .ref (aS 0))] dX6_takesBack_20 1 rfl (nI_1 _) (by decide) rfl ?_
        refine y_goto (tgt := 2) Z dX6_takesBack_23 (by decide) ?_
        refine y_lv [1, 0] (lv' := [(0, .ref (aS 0)), (1, .int (nI (i + 1)))]) rfl ?_
        refine y_eq (ws' := (wMdR cI aS (S 0 0) (S 0 1) (S 0 2) (S 0 3) (S 0 4) (S 0 5) (S 0 6) (S 0 7) (S 0 8) (S 0 9) (S 0 10) (S 0 11) (S 0 12) (it (mr_c1 (S 2)) (i + 1) (S 1)) (S 2) (S 3) (S 4) (S 5) (S 6))) (lv' := [(0, .ref (aS 0)), (1, .int (nI (i + 1)))]) (st' := []) (by first | (simp only [it_s, mr_c1, h4, if_true, if_false, not_false_eq_true, not_true_eq_false, ↓reduceIte]; done) | (simp only [it_s, mr_c1, h4, if_true, if_false, not_false_eq_true, not_true_eq_false, ↓reduceIte, wMix, wLog, wPic, wRep, wScr, wVM, wMd, sR_eq, sR_ne, sF_eq, sF_ne, upd_eq, upd_ne, gs_eq, gs_ne, gm_4, gm_ne, Nat.reduceBEq]; done) | (with_reducible rfl) | contradiction | (simp only [it_s, mr_c1, h4, if_true, if_false, not_false_eq_true, not_true_eq_false, ↓reduceIte]; rfl) | rfl) (by first | (simp only [it_s, mr_c1, h4, if_true, if_false, not_false_eq_true, not_true_eq_false, ↓reduceIte]; done) | (simp only [it_s, mr_c1, h4, if_true, if_false, not_false_eq_true, not_true_eq_false, ↓reduceIte, wMix, wLog, wPic, wRep, wScr, wVM, wMd, sR_eq, sR_ne, sF_eq, sF_ne, upd_eq, upd_ne, gs_eq, gs_ne, gm_4, gm_ne, Nat.reduceBEq]; done) | (with_reducible rfl) | contradiction | (simp only [it_s, mr_c1, h4, if_true, if_false, not_false_eq_true, not_true_eq_false, ↓reduceIte]; rfl) | rfl) rfl ?_
        exact ih (i + 1)  (by omega)
  refine y_iconst (v := 0) Z dX6_takesBack_0 (by decide) ?_
  refine y_istore_n Z [(1, .int 0), (0, .ref (aS 0))] dX6_takesBack_1 rfl (by decide) rfl ?_
  refine y_lv [1, 0] (lv' := [(0, .ref (aS 0)), (1, .int 0)]) rfl ?_
  exact L2 20 0  (by omega)
set_option maxHeartbeats 4000000 in
set_option maxRecDepth 100000 in
theorem k_X6_redsBehind (l : Launch) (D : va_G) {cI : ClassId} {tys : List (ClassId × FieldType)} (ht0 : tys[0]? = some (cI, .int)) (aS : Nat → Nat) (S : Nat → Nat → Int32) (h_o : okm (S 1)) (sz : Nat) : kI l yX6_redsBehind cX6_redsBehind 2 (some .int) { frames := 4, cells := 0, slots := 0, locals := 91 } D tys [.ref (aS 0)] (wMd cI aS S) (wMdR cI aS (S 0 0) (S 0 1) (S 0 2) (S 0 3) (S 0 4) (S 0 5) (S 0 6) (S 0 7) (S 0 8) (S 0 9) (S 0 10) (S 0 11) (S 0 12) (mr_tb (S 1) (S 2)) (mr_ly (S 1) (S 2)) (S 3) (mr_ls (mr_cp (S 1)) (S 4)) (S 5) (S 6)) (mv_rb (S 1) (S 4)) 0 0 sz := by
  refine y_enterI (cc := cX6_redsBehind) (maxL := 2) (ret := (some .int)) (own := RX6) (by decide) rfl (lv0 := [(0, .ref (aS 0))]) rfl (Nat.le_of_ble_eq_true rfl) ?_
  intro p e s m args below meth c A Z hr hlk _
  refine y_aload_n Z dX6_redsBehind_0 0 rfl rfl ?_
  refine y_VVw Z (k_X6_lays l D ht0 aS S) (y_cwV 0 Z ml_RX6_121 im_X6_lays se_X6_lays in_X6 co_X6_lays rfl rfl hd_X6_lays ⟨Nat.le_of_ble_eq_true rfl, Nat.le_of_ble_eq_true rfl⟩) List.nil List.nil (by simp only [List.nil_append, List.append_nil, wMix, wLog, wPic, wRep, wScr, wVM, wMd, sR_eq, sR_ne, sF_eq, sF_ne, upd_eq, upd_ne, gs_eq, gs_ne, gm_4, gm_ne, Nat.reduceBEq]) 6 0 rfl rfl rfl rfl (Nat.le_of_ble_eq_true rfl) dX6_redsBehind_1 ⟨Nat.le_of_ble_eq_true rfl, Nat.le_of_ble_eq_true rfl⟩ (wMdR cI aS (S 0 0) (S 0 1) (S 0 2) (S 0 3) (S 0 4) (S 0 5) (S 0 6) (S 0 7) (S 0 8) (S 0 9) (S 0 10) (S 0 11) (S 0 12) (S 1) (mr_ly (S 1) (S 2)) (S 3) (S 4) (S 5) (S 6)) (by simp only [List.nil_append, List.append_nil, wMix, wLog, wPic, wRep, wScr, wVM, wMd, sR_eq, sR_ne, sF_eq, sF_ne, upd_eq, upd_ne, gs_eq, gs_ne, gm_4, gm_ne, Nat.reduceBEq]) ?_
  refine y_aload_n Z dX6_redsBehind_4 0 rfl rfl ?_
  refine y_VVw Z (k_X6_completes l D ht0 aS (sR S 2 (mr_ly (S 1) (S 2)))) (y_cwV 0 Z ml_RX6_47 im_X6_completes se_X6_completes in_X6 co_X6_completes rfl rfl hd_X6_completes ⟨Nat.le_of_ble_eq_true rfl, Nat.le_of_ble_eq_true rfl⟩) List.nil List.nil (by simp only [List.nil_append, List.append_nil, wMix, wLog, wPic, wRep, wScr, wVM, wMd, sR_eq, sR_ne, sF_eq, sF_ne, upd_eq, upd_ne, gs_eq, gs_ne, gm_4, gm_ne, Nat.reduceBEq]) 6 0 rfl rfl rfl rfl (Nat.le_of_ble_eq_true rfl) dX6_redsBehind_5 ⟨Nat.le_of_ble_eq_true rfl, Nat.le_of_ble_eq_true rfl⟩ (wMdR cI aS (S 0 0) (S 0 1) (S 0 2) (S 0 3) (S 0 4) (S 0 5) (S 0 6) (S 0 7) (S 0 8) (S 0 9) (S 0 10) (S 0 11) (S 0 12) (mr_cp (S 1)) (mr_ly (S 1) (S 2)) (S 3) (S 4) (S 5) (S 6)) (by simp only [List.nil_append, List.append_nil, wMix, wLog, wPic, wRep, wScr, wVM, wMd, sR_eq, sR_ne, sF_eq, sF_ne, upd_eq, upd_ne, gs_eq, gs_ne, gm_4, gm_ne, Nat.reduceBEq]) ?_
  refine y_aload_n Z dX6_redsBehind_8 0 rfl rfl ?_
  refine y_VIw Z (k_X6_reds l D ht0 aS (sR (sR S 2 (mr_ly (S 1) (S 2))) 1 (mr_cp (S 1))) (by simp only [sR_eq, sR_ne, sF_eq, sF_ne, Nat.reduceBEq]; exact okm_cp h_o)) (y_cwV 0 Z ml_RX6_124 im_X6_reds se_X6_reds in_X6 co_X6_reds rfl rfl hd_X6_reds ⟨Nat.le_of_ble_eq_true rfl, Nat.le_of_ble_eq_true rfl⟩) List.nil List.nil (by simp only [List.nil_append, List.append_nil, wMix, wLog, wPic, wRep, wScr, wVM, wMd, sR_eq, sR_ne, sF_eq, sF_ne, upd_eq, upd_ne, gs_eq, gs_ne, gm_4, gm_ne, Nat.reduceBEq]) 6 0 rfl rfl rfl rfl (Nat.le_of_ble_eq_true rfl) dX6_redsBehind_9 ⟨Nat.le_of_ble_eq_true rfl, Nat.le_of_ble_eq_true rfl⟩ (wMdR cI aS (S 0 0) (S 0 1) (S 0 2) (S 0 3) (S 0 4) (S 0 5) (S 0 6) (S 0 7) (S 0 8) (S 0 9) (S 0 10) (S 0 11) (S 0 12) (mr_cp (S 1)) (mr_ly (S 1) (S 2)) (S 3) (mr_ls (mr_cp (S 1)) (S 4)) (S 5) (S 6)) (by simp only [List.nil_append, List.append_nil, wMix, wLog, wPic, wRep, wScr, wVM, wMd, sR_eq, sR_ne, sF_eq, sF_ne, upd_eq, upd_ne, gs_eq, gs_ne, gm_4, gm_ne, Nat.reduceBEq]) ?_
  refine y_eq rfl rfl (st' := [.int (mv_rd (mr_ls (mr_cp (S 1)) (S 4)))]) (by first | with_reducible rfl | simp only [wMix, wLog, wPic, wRep, wScr, wVM, wMd, sR_eq, sR_ne, sF_eq, sF_ne, upd_eq, upd_ne, gs_eq, gs_ne, gm_4, gm_ne, Nat.reduceBEq]) ?_
  refine y_istore_n Z [(1, .int (mv_rd (mr_ls (mr_cp (S 1)) (S 4)))), (0, .ref (aS 0))] dX6_redsBehind_12 rfl (by decide) rfl ?_
  refine y_aload_n Z dX6_redsBehind_13 1 rfl rfl ?_
  refine y_VVw Z (k_X6_takesBack l D ht0 aS (sR (sR (sR S 2 (mr_ly (S 1) (S 2))) 1 (mr_cp (S 1))) 4 (mr_ls (mr_cp (S 1)) (S 4)))) (y_cwV 0 Z ml_RX6_128 im_X6_takesBack se_X6_takesBack in_X6 co_X6_takesBack rfl rfl hd_X6_takesBack ⟨Nat.le_of_ble_eq_true rfl, Nat.le_of_ble_eq_true rfl⟩) List.nil List.nil (by simp only [List.nil_append, List.append_nil, wMix, wLog, wPic, wRep, wScr, wVM, wMd, sR_eq, sR_ne, sF_eq, sF_ne, upd_eq, upd_ne, gs_eq, gs_ne, gm_4, gm_ne, Nat.reduceBEq]) 6 0 rfl rfl rfl rfl (Nat.le_of_ble_eq_true rfl) dX6_redsBehind_14 ⟨Nat.le_of_ble_eq_true rfl, Nat.le_of_ble_eq_true rfl⟩ (wMdR cI aS (S 0 0) (S 0 1) (S 0 2) (S 0 3) (S 0 4) (S 0 5) (S 0 6) (S 0 7) (S 0 8) (S 0 9) (S 0 10) (S 0 11) (S 0 12) (mr_ly (mr_ly (S 1) (S 2)) (mr_cp (S 1))) (mr_ly (S 1) (S 2)) (S 3) (mr_ls (mr_cp (S 1)) (S 4)) (S 5) (S 6)) (by simp only [List.nil_append, List.append_nil, wMix, wLog, wPic, wRep, wScr, wVM, wMd, sR_eq, sR_ne, sF_eq, sF_ne, upd_eq, upd_ne, gs_eq, gs_ne, gm_4, gm_ne, Nat.reduceBEq]) ?_
  refine y_iload_n Z dX6_redsBehind_17 0 rfl rfl ?_
  exact y_retI Z hr hlk dX6_redsBehind_18 (by first | (simp only [mv_rb, mr_tb, if_true, if_false, not_false_eq_true, not_true_eq_false, ↓reduceIte]; done) | (simp only [mv_rb, mr_tb, if_true, if_false, not_false_eq_true, not_true_eq_false, ↓reduceIte, wMix, wLog, wPic, wRep, wScr, wVM, wMd, sR_eq, sR_ne, sF_eq, sF_ne, upd_eq, upd_ne, gs_eq, gs_ne, gm_4, gm_ne, Nat.reduceBEq]; done) | (with_reducible rfl) | contradiction | (simp only [mv_rb, mr_tb, if_true, if_false, not_false_eq_true, not_true_eq_false, ↓reduceIte]; rfl) | rfl) (by first | (simp only [mv_rb, mr_tb, if_true, if_false, not_false_eq_true, not_true_eq_false, ↓reduceIte]; done) | (simp only [mv_rb, mr_tb, if_true, if_false, not_false_eq_true, not_true_eq_false, ↓reduceIte, wMix, wLog, wPic, wRep, wScr, wVM, wMd, sR_eq, sR_ne, sF_eq, sF_ne, upd_eq, upd_ne, gs_eq, gs_ne, gm_4, gm_ne, Nat.reduceBEq]; done) | (with_reducible rfl) | contradiction | (simp only [mv_rb, mr_tb, if_true, if_false, not_false_eq_true, not_true_eq_false, ↓reduceIte]; rfl) | rfl)
set_option maxHeartbeats 4000000 in
set_option maxRecDepth 100000 in
theorem k_X6_tallyOf (l : Launch) (D : va_G) {cI : ClassId} {tys : List (ClassId × FieldType)} (ht0 : tys[0]? = some (cI, .int)) (aS : Nat → Nat) (S : Nat → Nat → Int32) (q : Int32) (h_o : okm (S 1)) (sz : Nat) : kI l yX6_tallyOf cX6_tallyOf 2 (some .int) { frames := 5, cells := 0, slots := 0, locals := 112 } D tys [.ref (aS 0), .int q] (wMd cI aS S) (wMdR cI aS (S 0 0) (S 0 1) (S 0 2) (S 0 3) (S 0 4) (S 0 5) (S 0 6) (S 0 7) (S 0 8) (S 0 9) (S 0 10) (S 0 11) (S 0 12) (mr_t1 (S 1) (S 2) (S 4) q) (mr_t2 (S 1) (S 2) (S 4) q) (S 3) (mr_t4 (S 1) (S 4) q) (S 5) (S 6)) (mv_ty (S 1) (S 4) q) 0 0 sz := by
  refine y_enterI (cc := cX6_tallyOf) (maxL := 2) (ret := (some .int)) (own := RX6) (by decide) rfl (lv0 := [(0, .ref (aS 0)), (1, .int q)]) rfl (Nat.le_of_ble_eq_true rfl) ?_
  intro p e s m args below meth c A Z hr hlk _
  refine y_aload_n Z dX6_tallyOf_0 0 rfl rfl ?_
  refine y_VIw Z (k_X6_reds l D ht0 aS S h_o) (y_cwV 0 Z ml_RX6_124 im_X6_reds se_X6_reds in_X6 co_X6_reds rfl rfl hd_X6_reds ⟨Nat.le_of_ble_eq_true rfl, Nat.le_of_ble_eq_true rfl⟩) List.nil List.nil (by simp only [List.nil_append, List.append_nil, wMix, wLog, wPic, wRep, wScr, wVM, wMd, sR_eq, sR_ne, sF_eq, sF_ne, upd_eq, upd_ne, gs_eq, gs_ne, gm_4, gm_ne, Nat.reduceBEq]) 6 0 rfl rfl rfl rfl (Nat.le_of_ble_eq_true rfl) dX6_tallyOf_1 ⟨Nat.le_of_ble_eq_true rfl, Nat.le_of_ble_eq_true rfl⟩ (wMdR cI aS (S 0 0) (S 0 1) (S 0 2) (S 0 3) (S 0 4) (S 0 5) (S 0 6) (S 0 7) (S 0 8) (S 0 9) (S 0 10) (S 0 11) (S 0 12) (S 1) (S 2) (S 3) (mr_ls (S 1) (S 4)) (S 5) (S 6)) (by simp only [List.nil_append, List.append_nil, wMix, wLog, wPic, wRep, wScr, wVM, wMd, sR_eq, sR_ne, sF_eq, sF_ne, upd_eq, upd_ne, gs_eq, gs_ne, gm_4, gm_ne, Nat.reduceBEq]) ?_
  refine y_eq rfl rfl (st' := [.int (mv_rd (mr_ls (S 1) (S 4)))]) (by first | with_reducible rfl | simp only [wMix, wLog, wPic, wRep, wScr, wVM, wMd, sR_eq, sR_ne, sF_eq, sF_ne, upd_eq, upd_ne, gs_eq, gs_ne, gm_4, gm_ne, Nat.reduceBEq]) ?_
  refine y_iload_n Z dX6_tallyOf_4 1 rfl rfl ?_
  refine y_ishr Z dX6_tallyOf_5 ?_
  refine y_iconst (v := 1) Z dX6_tallyOf_6 (by decide) ?_
  refine y_iand Z dX6_tallyOf_7 ?_
  refine y_iconst (v := 1) Z dX6_tallyOf_8 (by decide) ?_
  refine y_icmp_ne (tgt := 16) Z dX6_tallyOf_9 (by decide) (fun h1 => ?_) (fun h2 => ?_)
  · refine y_aload_n Z dX6_tallyOf_16 0 rfl rfl ?_
    refine y_VIw Z (k_X6_redsBehind l D ht0 aS (sR S 4 (mr_ls (S 1) (S 4))) (by simp only [sR_eq, sR_ne, sF_eq, sF_ne, Nat.reduceBEq]; exact h_o)) (y_cwV 0 Z ml_RX6_131 im_X6_redsBehind se_X6_redsBehind in_X6 co_X6_redsBehind rfl rfl hd_X6_redsBehind ⟨Nat.le_of_ble_eq_true rfl, Nat.le_of_ble_eq_true rfl⟩) List.nil List.nil (by simp only [List.nil_append, List.append_nil, wMix, wLog, wPic, wRep, wScr, wVM, wMd, sR_eq, sR_ne, sF_eq, sF_ne, upd_eq, upd_ne, gs_eq, gs_ne, gm_4, gm_ne, Nat.reduceBEq]) 6 0 rfl rfl rfl rfl (Nat.le_of_ble_eq_true rfl) dX6_tallyOf_17 ⟨Nat.le_of_ble_eq_true rfl, Nat.le_of_ble_eq_true rfl⟩ (wMdR cI aS (S 0 0) (S 0 1) (S 0 2) (S 0 3) (S 0 4) (S 0 5) (S 0 6) (S 0 7) (S 0 8) (S 0 9) (S 0 10) (S 0 11) (S 0 12) (mr_tb (S 1) (S 2)) (mr_ly (S 1) (S 2)) (S 3) (mr_ls (mr_cp (S 1)) (mr_ls (S 1) (S 4))) (S 5) (S 6)) (by simp only [List.nil_append, List.append_nil, wMix, wLog, wPic, wRep, wScr, wVM, wMd, sR_eq, sR_ne, sF_eq, sF_ne, upd_eq, upd_ne, gs_eq, gs_ne, gm_4, gm_ne, Nat.reduceBEq]) ?_
    refine y_eq rfl rfl (st' := [.int (mv_rb (S 1) (mr_ls (S 1) (S 4)))]) (by first | with_reducible rfl | simp only [wMix, wLog, wPic, wRep, wScr, wVM, wMd, sR_eq, sR_ne, sF_eq, sF_ne, upd_eq, upd_ne, gs_eq, gs_ne, gm_4, gm_ne, Nat.reduceBEq]) ?_
    refine y_iload_n Z dX6_tallyOf_20 1 rfl rfl ?_
    refine y_ishr Z dX6_tallyOf_21 ?_
    refine y_iconst (v := 1) Z dX6_tallyOf_22 (by decide) ?_
    refine y_iand Z dX6_tallyOf_23 ?_
    exact y_retI Z hr hlk dX6_tallyOf_24 (by first | (simp only [mv_ty, mr_t1, mr_t2, mr_t4, mv_bt, h1, if_true, if_false, not_false_eq_true, not_true_eq_false, ↓reduceIte]; done) | (simp only [mv_ty, mr_t1, mr_t2, mr_t4, mv_bt, h1, if_true, if_false, not_false_eq_true, not_true_eq_false, ↓reduceIte, wMix, wLog, wPic, wRep, wScr, wVM, wMd, sR_eq, sR_ne, sF_eq, sF_ne, upd_eq, upd_ne, gs_eq, gs_ne, gm_4, gm_ne, Nat.reduceBEq]; done) | (with_reducible rfl) | contradiction | (simp only [mv_ty, mr_t1, mr_t2, mr_t4, mv_bt, h1, if_true, if_false, not_false_eq_true, not_true_eq_false, ↓reduceIte]; rfl) | rfl) (by first | (simp only [mv_ty, mr_t1, mr_t2, mr_t4, mv_bt, h1, if_true, if_false, not_false_eq_true, not_true_eq_false, ↓reduceIte]; done) | (simp only [mv_ty, mr_t1, mr_t2, mr_t4, mv_bt, h1, if_true, if_false, not_false_eq_true, not_true_eq_false, ↓reduceIte, wMix, wLog, wPic, wRep, wScr, wVM, wMd, sR_eq, sR_ne, sF_eq, sF_ne, upd_eq, upd_ne, gs_eq, gs_ne, gm_4, gm_ne, Nat.reduceBEq]; done) | (with_reducible rfl) | contradiction | (simp only [mv_ty, mr_t1, mr_t2, mr_t4, mv_bt, h1, if_true, if_false, not_false_eq_true, not_true_eq_false, ↓reduceIte]; rfl) | rfl)
  · refine y_iconst (v := 2) Z dX6_tallyOf_12 (by decide) ?_
    refine y_goto (tgt := 24) Z dX6_tallyOf_13 (by decide) ?_
    exact y_retI Z hr hlk dX6_tallyOf_24 (by first | (simp only [mv_ty, mr_t1, mr_t2, mr_t4, mv_bt, eq_true h2, if_true, if_false, not_false_eq_true, not_true_eq_false, ↓reduceIte]; done) | (simp only [mv_ty, mr_t1, mr_t2, mr_t4, mv_bt, eq_true h2, if_true, if_false, not_false_eq_true, not_true_eq_false, ↓reduceIte, wMix, wLog, wPic, wRep, wScr, wVM, wMd, sR_eq, sR_ne, sF_eq, sF_ne, upd_eq, upd_ne, gs_eq, gs_ne, gm_4, gm_ne, Nat.reduceBEq]; done) | (with_reducible rfl) | contradiction | (simp only [mv_ty, mr_t1, mr_t2, mr_t4, mv_bt, eq_true h2, if_true, if_false, not_false_eq_true, not_true_eq_false, ↓reduceIte]; rfl) | rfl) (by first | (simp only [mv_ty, mr_t1, mr_t2, mr_t4, mv_bt, eq_true h2, if_true, if_false, not_false_eq_true, not_true_eq_false, ↓reduceIte]; done) | (simp only [mv_ty, mr_t1, mr_t2, mr_t4, mv_bt, eq_true h2, if_true, if_false, not_false_eq_true, not_true_eq_false, ↓reduceIte, wMix, wLog, wPic, wRep, wScr, wVM, wMd, sR_eq, sR_ne, sF_eq, sF_ne, upd_eq, upd_ne, gs_eq, gs_ne, gm_4, gm_ne, Nat.reduceBEq]; done) | (with_reducible rfl) | contradiction | (simp only [mv_ty, mr_t1, mr_t2, mr_t4, mv_bt, eq_true h2, if_true, if_false, not_false_eq_true, not_true_eq_false, ↓reduceIte]; rfl) | rfl)
set_option maxHeartbeats 4000000 in
set_option maxRecDepth 100000 in
theorem k_X6_shareOf (l : Launch) (D : va_G) {cI : ClassId} {tys : List (ClassId × FieldType)} (ht0 : tys[0]? = some (cI, .int)) (aS : Nat → Nat) (S : Nat → Nat → Int32) (q : Int32) (sn : Int32) (h_o : okm (S 1)) (h_q : vp_in q 10) (sz : Nat) : kI l yX6_shareOf cX6_shareOf 5 (some .int) { frames := 3, cells := 0, slots := 0, locals := 69 } D tys [.ref (aS 0), .int q, .int sn] (wMd cI aS S) (wMdR cI aS (S 0 0) (S 0 1) (S 0 2) (S 0 3) (S 0 4) (S 0 5) (S 0 6) (S 0 7) (S 0 8) (S 0 9) (S 0 10) (S 0 11) (S 0 12) (S 1) (S 2) (S 3) (mr_ls (S 1) (S 4)) (S 5) (S 6)) (mv_sh (S 1) (mr_ls (S 1) (S 4)) q sn) 0 0 sz := by
  refine y_enterI (cc := cX6_shareOf) (maxL := 5) (ret := (some .int)) (own := RX6) (by decide) rfl (lv0 := [(0, .ref (aS 0)), (1, .int q), (2, .int sn)]) rfl (Nat.le_of_ble_eq_true rfl) ?_
  intro p e s m args below meth c A Z hr hlk _
  have L20 : ∀ (n : Nat) (x : Int32 × Int32), ((∃ k : Nat, k ≤ 10 ∧ x.2 = nI k) ∧ ¬ sn = 0) → (mv_sc (S 1) (mr_ls (S 1) (S 4)) q) (lw (mv_sc (S 1) (mr_ls (S 1) (S 4)) q) (mv_sn (S 1) (mr_ls (S 1) (S 4))) n x) = false → lw (mv_sc (S 1) (mr_ls (S 1) (S 4)) q) (mv_sn (S 1) (mr_ls (S 1) (S 4))) n x = (lw (mv_sc (S 1) (mr_ls (S 1) (S 4)) q) (mv_sn (S 1) (mr_ls (S 1) (S 4))) 10 (mr_ls (S 1) (S 4) (cl q), 1)) → Yy p l e { frames := 3, cells := 0, slots := 0, locals := 69 } s m args below meth c (QI D tys A (wMdR cI aS (S 0 0) (S 0 1) (S 0 2) (S 0 3) (S 0 4) (S 0 5) (S 0 6) (S 0 7) (S 0 8) (S 0 9) (S 0 10) (S 0 11) (S 0 12) (S 1) (S 2) (S 3) (mr_ls (S 1) (S 4)) (S 5) (S 6)) (mv_sh (S 1) (mr_ls (S 1) (S 4)) q sn) below args s 0 0) D A 5 0 0 (wMdR cI aS (S 0 0) (S 0 1) (S 0 2) (S 0 3) (S 0 4) (S 0 5) (S 0 6) (S 0 7) (S 0 8) (S 0 9) (S 0 10) (S 0 11) (S 0 12) (S 1) (S 2) (S 3) (mr_ls (S 1) (S 4)) (S 5) (S 6)) [(0, .ref (aS 0)), (1, .int q), (2, .int sn), (3, .int x.1), (4, .int x.2)] [] 20 := by
    intro n; induction n with
    | zero =>
      intro x hI hc hx
      refine y_iload Z dX6_shareOf_20 4 rfl ?_
      refine y_bipush (v := 10) Z dX6_shareOf_22 (by decide) ?_
      refine y_icmp_ge (tgt := 67) Z dX6_shareOf_24 (by decide) (fun h1 => ?_) (fun h2 => ?_)
      · have hb : (mv_sc (S 1) (mr_ls (S 1) (S 4)) q) x = false := by simp only [mv_sc, hI.2, h1, ↓reduceIte]
        have ex : x = (lw (mv_sc (S 1) (mr_ls (S 1) (S 4)) q) (mv_sn (S 1) (mr_ls (S 1) (S 4))) 10 (mr_ls (S 1) (S 4) (cl q), 1)) := by rw [← hx, lw_f hb]
        refine y_aload_n Z dX6_shareOf_67 0 rfl rfl ?_
        refine y_get (C := RX6) (T := TX6) (N := 19) Z 6 inlX6 rfl 0 rfl 0 (by decide) fl_RX6_7 rfl dX6_shareOf_68 ?_
        refine y_bipush (v := 19) Z dX6_shareOf_71 (by decide) ?_
        refine y_iald Z 1 0 rfl ht0 (vpd (by decide) (by decide)) 19 (by decide) dX6_shareOf_73 ?_
        refine y_iload_n Z dX6_shareOf_74 1 rfl rfl ?_
        refine y_ishr Z dX6_shareOf_75 ?_
        refine y_iconst (v := 1) Z dX6_shareOf_76 (by decide) ?_
        refine y_iand Z dX6_shareOf_77 ?_
        refine y_iconst (v := 1) Z dX6_shareOf_78 (by decide) ?_
        refine y_icmp_ne (tgt := 86) Z dX6_shareOf_79 (by decide) (fun h3 => ?_) (fun h4 => ?_)
        · refine y_iload_n Z dX6_shareOf_86 3 rfl rfl ?_
          exact y_retI Z hr hlk dX6_shareOf_87 (by subst ex; first | (simp only [mv_sh, mv_bt, hI.2, h1, h3, if_true, if_false, not_false_eq_true, not_true_eq_false, ↓reduceIte]; done) | (simp only [mv_sh, mv_bt, hI.2, h1, h3, if_true, if_false, not_false_eq_true, not_true_eq_false, ↓reduceIte, wMix, wLog, wPic, wRep, wScr, wVM, wMd, sR_eq, sR_ne, sF_eq, sF_ne, upd_eq, upd_ne, gs_eq, gs_ne, gm_4, gm_ne, Nat.reduceBEq]; done) | (with_reducible rfl) | contradiction | (simp only [mv_sh, mv_bt, hI.2, h1, h3, if_true, if_false, not_false_eq_true, not_true_eq_false, ↓reduceIte]; rfl) | rfl) (by subst ex; first | (simp only [mv_sh, mv_bt, hI.2, h1, h3, if_true, if_false, not_false_eq_true, not_true_eq_false, ↓reduceIte]; done) | (simp only [mv_sh, mv_bt, hI.2, h1, h3, if_true, if_false, not_false_eq_true, not_true_eq_false, ↓reduceIte, wMix, wLog, wPic, wRep, wScr, wVM, wMd, sR_eq, sR_ne, sF_eq, sF_ne, upd_eq, upd_ne, gs_eq, gs_ne, gm_4, gm_ne, Nat.reduceBEq]; done) | (with_reducible rfl) | contradiction | (simp only [mv_sh, mv_bt, hI.2, h1, h3, if_true, if_false, not_false_eq_true, not_true_eq_false, ↓reduceIte]; rfl) | rfl)
        · refine y_iconst (v := 0) Z dX6_shareOf_82 (by decide) ?_
          refine y_goto (tgt := 87) Z dX6_shareOf_83 (by decide) ?_
          exact y_retI Z hr hlk dX6_shareOf_87 (by subst ex; first | (simp only [mv_sh, mv_bt, hI.2, h1, eq_true h4, if_true, if_false, not_false_eq_true, not_true_eq_false, ↓reduceIte]; done) | (simp only [mv_sh, mv_bt, hI.2, h1, eq_true h4, if_true, if_false, not_false_eq_true, not_true_eq_false, ↓reduceIte, wMix, wLog, wPic, wRep, wScr, wVM, wMd, sR_eq, sR_ne, sF_eq, sF_ne, upd_eq, upd_ne, gs_eq, gs_ne, gm_4, gm_ne, Nat.reduceBEq]; done) | (with_reducible rfl) | contradiction | (simp only [mv_sh, mv_bt, hI.2, h1, eq_true h4, if_true, if_false, not_false_eq_true, not_true_eq_false, ↓reduceIte]; rfl) | rfl) (by subst ex; first | (simp only [mv_sh, mv_bt, hI.2, h1, eq_true h4, if_true, if_false, not_false_eq_true, not_true_eq_false, ↓reduceIte]; done) | (simp only [mv_sh, mv_bt, hI.2, h1, eq_true h4, if_true, if_false, not_false_eq_true, not_true_eq_false, ↓reduceIte, wMix, wLog, wPic, wRep, wScr, wVM, wMd, sR_eq, sR_ne, sF_eq, sF_ne, upd_eq, upd_ne, gs_eq, gs_ne, gm_4, gm_ne, Nat.reduceBEq]; done) | (with_reducible rfl) | contradiction | (simp only [mv_sh, mv_bt, hI.2, h1, eq_true h4, if_true, if_false, not_false_eq_true, not_true_eq_false, ↓reduceIte]; rfl) | rfl)
      · refine y_iload_n Z dX6_shareOf_27 1 rfl rfl ?_
        refine y_if_ne (tgt := 67) Z dX6_shareOf_28 (by decide) (fun h5 => ?_) (fun h6 => ?_)
        · have hb : (mv_sc (S 1) (mr_ls (S 1) (S 4)) q) x = false := by simp only [mv_sc, hI.2, h2, h5, ↓reduceIte]
          have ex : x = (lw (mv_sc (S 1) (mr_ls (S 1) (S 4)) q) (mv_sn (S 1) (mr_ls (S 1) (S 4))) 10 (mr_ls (S 1) (S 4) (cl q), 1)) := by rw [← hx, lw_f hb]
          refine y_aload_n Z dX6_shareOf_67 0 rfl rfl ?_
          refine y_get (C := RX6) (T := TX6) (N := 19) Z 6 inlX6 rfl 0 rfl 0 (by decide) fl_RX6_7 rfl dX6_shareOf_68 ?_
          refine y_bipush (v := 19) Z dX6_shareOf_71 (by decide) ?_
          refine y_iald Z 1 0 rfl ht0 (vpd (by decide) (by decide)) 19 (by decide) dX6_shareOf_73 ?_
          refine y_iload_n Z dX6_shareOf_74 1 rfl rfl ?_
          refine y_ishr Z dX6_shareOf_75 ?_
          refine y_iconst (v := 1) Z dX6_shareOf_76 (by decide) ?_
          refine y_iand Z dX6_shareOf_77 ?_
          refine y_iconst (v := 1) Z dX6_shareOf_78 (by decide) ?_
          refine y_icmp_ne (tgt := 86) Z dX6_shareOf_79 (by decide) (fun h7 => ?_) (fun h8 => ?_)
          · refine y_iload_n Z dX6_shareOf_86 3 rfl rfl ?_
            exact y_retI Z hr hlk dX6_shareOf_87 (by subst ex; first | (simp only [mv_sh, mv_bt, hI.2, h2, h5, h7, if_true, if_false, not_false_eq_true, not_true_eq_false, ↓reduceIte]; done) | (simp only [mv_sh, mv_bt, hI.2, h2, h5, h7, if_true, if_false, not_false_eq_true, not_true_eq_false, ↓reduceIte, wMix, wLog, wPic, wRep, wScr, wVM, wMd, sR_eq, sR_ne, sF_eq, sF_ne, upd_eq, upd_ne, gs_eq, gs_ne, gm_4, gm_ne, Nat.reduceBEq]; done) | (with_reducible rfl) | contradiction | (simp only [mv_sh, mv_bt, hI.2, h2, h5, h7, if_true, if_false, not_false_eq_true, not_true_eq_false, ↓reduceIte]; rfl) | rfl) (by subst ex; first | (simp only [mv_sh, mv_bt, hI.2, h2, h5, h7, if_true, if_false, not_false_eq_true, not_true_eq_false, ↓reduceIte]; done) | (simp only [mv_sh, mv_bt, hI.2, h2, h5, h7, if_true, if_false, not_false_eq_true, not_true_eq_false, ↓reduceIte, wMix, wLog, wPic, wRep, wScr, wVM, wMd, sR_eq, sR_ne, sF_eq, sF_ne, upd_eq, upd_ne, gs_eq, gs_ne, gm_4, gm_ne, Nat.reduceBEq]; done) | (with_reducible rfl) | contradiction | (simp only [mv_sh, mv_bt, hI.2, h2, h5, h7, if_true, if_false, not_false_eq_true, not_true_eq_false, ↓reduceIte]; rfl) | rfl)
          · refine y_iconst (v := 0) Z dX6_shareOf_82 (by decide) ?_
            refine y_goto (tgt := 87) Z dX6_shareOf_83 (by decide) ?_
            exact y_retI Z hr hlk dX6_shareOf_87 (by subst ex; first | (simp only [mv_sh, mv_bt, hI.2, h2, h5, eq_true h8, if_true, if_false, not_false_eq_true, not_true_eq_false, ↓reduceIte]; done) | (simp only [mv_sh, mv_bt, hI.2, h2, h5, eq_true h8, if_true, if_false, not_false_eq_true, not_true_eq_false, ↓reduceIte, wMix, wLog, wPic, wRep, wScr, wVM, wMd, sR_eq, sR_ne, sF_eq, sF_ne, upd_eq, upd_ne, gs_eq, gs_ne, gm_4, gm_ne, Nat.reduceBEq]; done) | (with_reducible rfl) | contradiction | (simp only [mv_sh, mv_bt, hI.2, h2, h5, eq_true h8, if_true, if_false, not_false_eq_true, not_true_eq_false, ↓reduceIte]; rfl) | rfl) (by subst ex; first | (simp only [mv_sh, mv_bt, hI.2, h2, h5, eq_true h8, if_true, if_false, not_false_eq_true, not_true_eq_false, ↓reduceIte]; done) | (simp only [mv_sh, mv_bt, hI.2, h2, h5, eq_true h8, if_true, if_false, not_false_eq_true, not_true_eq_false, ↓reduceIte, wMix, wLog, wPic, wRep, wScr, wVM, wMd, sR_eq, sR_ne, sF_eq, sF_ne, upd_eq, upd_ne, gs_eq, gs_ne, gm_4, gm_ne, Nat.reduceBEq]; done) | (with_reducible rfl) | contradiction | (simp only [mv_sh, mv_bt, hI.2, h2, h5, eq_true h8, if_true, if_false, not_false_eq_true, not_true_eq_false, ↓reduceIte]; rfl) | rfl)
        · exact absurd (show (mv_sc (S 1) (mr_ls (S 1) (S 4)) q) x = true by simp only [mv_sc, hI.2, h2, eq_true h6, ↓reduceIte]) (by rw [show (mv_sc (S 1) (mr_ls (S 1) (S 4)) q) x = false from hc]; decide)
    | succ n ih =>
      intro x hI hc hx
      refine y_iload Z dX6_shareOf_20 4 rfl ?_
      refine y_bipush (v := 10) Z dX6_shareOf_22 (by decide) ?_
      refine y_icmp_ge (tgt := 67) Z dX6_shareOf_24 (by decide) (fun h9 => ?_) (fun h10 => ?_)
      · have hb : (mv_sc (S 1) (mr_ls (S 1) (S 4)) q) x = false := by simp only [mv_sc, hI.2, h9, ↓reduceIte]
        have ex : x = (lw (mv_sc (S 1) (mr_ls (S 1) (S 4)) q) (mv_sn (S 1) (mr_ls (S 1) (S 4))) 10 (mr_ls (S 1) (S 4) (cl q), 1)) := by rw [← hx, lw_f hb]
        refine y_aload_n Z dX6_shareOf_67 0 rfl rfl ?_
        refine y_get (C := RX6) (T := TX6) (N := 19) Z 6 inlX6 rfl 0 rfl 0 (by decide) fl_RX6_7 rfl dX6_shareOf_68 ?_
        refine y_bipush (v := 19) Z dX6_shareOf_71 (by decide) ?_
        refine y_iald Z 1 0 rfl ht0 (vpd (by decide) (by decide)) 19 (by decide) dX6_shareOf_73 ?_
        refine y_iload_n Z dX6_shareOf_74 1 rfl rfl ?_
        refine y_ishr Z dX6_shareOf_75 ?_
        refine y_iconst (v := 1) Z dX6_shareOf_76 (by decide) ?_
        refine y_iand Z dX6_shareOf_77 ?_
        refine y_iconst (v := 1) Z dX6_shareOf_78 (by decide) ?_
        refine y_icmp_ne (tgt := 86) Z dX6_shareOf_79 (by decide) (fun h11 => ?_) (fun h12 => ?_)
        · refine y_iload_n Z dX6_shareOf_86 3 rfl rfl ?_
          exact y_retI Z hr hlk dX6_shareOf_87 (by subst ex; first | (simp only [mv_sh, mv_bt, hI.2, h9, h11, if_true, if_false, not_false_eq_true, not_true_eq_false, ↓reduceIte]; done) | (simp only [mv_sh, mv_bt, hI.2, h9, h11, if_true, if_false, not_false_eq_true, not_true_eq_false, ↓reduceIte, wMix, wLog, wPic, wRep, wScr, wVM, wMd, sR_eq, sR_ne, sF_eq, sF_ne, upd_eq, upd_ne, gs_eq, gs_ne, gm_4, gm_ne, Nat.reduceBEq]; done) | (with_reducible rfl) | contradiction | (simp only [mv_sh, mv_bt, hI.2, h9, h11, if_true, if_false, not_false_eq_true, not_true_eq_false, ↓reduceIte]; rfl) | rfl) (by subst ex; first | (simp only [mv_sh, mv_bt, hI.2, h9, h11, if_true, if_false, not_false_eq_true, not_true_eq_false, ↓reduceIte]; done) | (simp only [mv_sh, mv_bt, hI.2, h9, h11, if_true, if_false, not_false_eq_true, not_true_eq_false, ↓reduceIte, wMix, wLog, wPic, wRep, wScr, wVM, wMd, sR_eq, sR_ne, sF_eq, sF_ne, upd_eq, upd_ne, gs_eq, gs_ne, gm_4, gm_ne, Nat.reduceBEq]; done) | (with_reducible rfl) | contradiction | (simp only [mv_sh, mv_bt, hI.2, h9, h11, if_true, if_false, not_false_eq_true, not_true_eq_false, ↓reduceIte]; rfl) | rfl)
        · refine y_iconst (v := 0) Z dX6_shareOf_82 (by decide) ?_
          refine y_goto (tgt := 87) Z dX6_shareOf_83 (by decide) ?_
          exact y_retI Z hr hlk dX6_shareOf_87 (by subst ex; first | (simp only [mv_sh, mv_bt, hI.2, h9, eq_true h12, if_true, if_false, not_false_eq_true, not_true_eq_false, ↓reduceIte]; done) | (simp only [mv_sh, mv_bt, hI.2, h9, eq_true h12, if_true, if_false, not_false_eq_true, not_true_eq_false, ↓reduceIte, wMix, wLog, wPic, wRep, wScr, wVM, wMd, sR_eq, sR_ne, sF_eq, sF_ne, upd_eq, upd_ne, gs_eq, gs_ne, gm_4, gm_ne, Nat.reduceBEq]; done) | (with_reducible rfl) | contradiction | (simp only [mv_sh, mv_bt, hI.2, h9, eq_true h12, if_true, if_false, not_false_eq_true, not_true_eq_false, ↓reduceIte]; rfl) | rfl) (by subst ex; first | (simp only [mv_sh, mv_bt, hI.2, h9, eq_true h12, if_true, if_false, not_false_eq_true, not_true_eq_false, ↓reduceIte]; done) | (simp only [mv_sh, mv_bt, hI.2, h9, eq_true h12, if_true, if_false, not_false_eq_true, not_true_eq_false, ↓reduceIte, wMix, wLog, wPic, wRep, wScr, wVM, wMd, sR_eq, sR_ne, sF_eq, sF_ne, upd_eq, upd_ne, gs_eq, gs_ne, gm_4, gm_ne, Nat.reduceBEq]; done) | (with_reducible rfl) | contradiction | (simp only [mv_sh, mv_bt, hI.2, h9, eq_true h12, if_true, if_false, not_false_eq_true, not_true_eq_false, ↓reduceIte]; rfl) | rfl)
      · refine y_iload_n Z dX6_shareOf_27 1 rfl rfl ?_
        refine y_if_ne (tgt := 67) Z dX6_shareOf_28 (by decide) (fun h13 => ?_) (fun h14 => ?_)
        · have hb : (mv_sc (S 1) (mr_ls (S 1) (S 4)) q) x = false := by simp only [mv_sc, hI.2, h10, h13, ↓reduceIte]
          have ex : x = (lw (mv_sc (S 1) (mr_ls (S 1) (S 4)) q) (mv_sn (S 1) (mr_ls (S 1) (S 4))) 10 (mr_ls (S 1) (S 4) (cl q), 1)) := by rw [← hx, lw_f hb]
          refine y_aload_n Z dX6_shareOf_67 0 rfl rfl ?_
          refine y_get (C := RX6) (T := TX6) (N := 19) Z 6 inlX6 rfl 0 rfl 0 (by decide) fl_RX6_7 rfl dX6_shareOf_68 ?_
          refine y_bipush (v := 19) Z dX6_shareOf_71 (by decide) ?_
          refine y_iald Z 1 0 rfl ht0 (vpd (by decide) (by decide)) 19 (by decide) dX6_shareOf_73 ?_
          refine y_iload_n Z dX6_shareOf_74 1 rfl rfl ?_
          refine y_ishr Z dX6_shareOf_75 ?_
          refine y_iconst (v := 1) Z dX6_shareOf_76 (by decide) ?_
          refine y_iand Z dX6_shareOf_77 ?_
          refine y_iconst (v := 1) Z dX6_shareOf_78 (by decide) ?_
          refine y_icmp_ne (tgt := 86) Z dX6_shareOf_79 (by decide) (fun h15 => ?_) (fun h16 => ?_)
          · refine y_iload_n Z dX6_shareOf_86 3 rfl rfl ?_
            exact y_retI Z hr hlk dX6_shareOf_87 (by subst ex; first | (simp only [mv_sh, mv_bt, hI.2, h10, h13, h15, if_true, if_false, not_false_eq_true, not_true_eq_false, ↓reduceIte]; done) | (simp only [mv_sh, mv_bt, hI.2, h10, h13, h15, if_true, if_false, not_false_eq_true, not_true_eq_false, ↓reduceIte, wMix, wLog, wPic, wRep, wScr, wVM, wMd, sR_eq, sR_ne, sF_eq, sF_ne, upd_eq, upd_ne, gs_eq, gs_ne, gm_4, gm_ne, Nat.reduceBEq]; done) | (with_reducible rfl) | contradiction | (simp only [mv_sh, mv_bt, hI.2, h10, h13, h15, if_true, if_false, not_false_eq_true, not_true_eq_false, ↓reduceIte]; rfl) | rfl) (by subst ex; first | (simp only [mv_sh, mv_bt, hI.2, h10, h13, h15, if_true, if_false, not_false_eq_true, not_true_eq_false, ↓reduceIte]; done) | (simp only [mv_sh, mv_bt, hI.2, h10, h13, h15, if_true, if_false, not_false_eq_true, not_true_eq_false, ↓reduceIte, wMix, wLog, wPic, wRep, wScr, wVM, wMd, sR_eq, sR_ne, sF_eq, sF_ne, upd_eq, upd_ne, gs_eq, gs_ne, gm_4, gm_ne, Nat.reduceBEq]; done) | (with_reducible rfl) | contradiction | (simp only [mv_sh, mv_bt, hI.2, h10, h13, h15, if_true, if_false, not_false_eq_true, not_true_eq_false, ↓reduceIte]; rfl) | rfl)
          · refine y_iconst (v := 0) Z dX6_shareOf_82 (by decide) ?_
            refine y_goto (tgt := 87) Z dX6_shareOf_83 (by decide) ?_
            exact y_retI Z hr hlk dX6_shareOf_87 (by subst ex; first | (simp only [mv_sh, mv_bt, hI.2, h10, h13, eq_true h16, if_true, if_false, not_false_eq_true, not_true_eq_false, ↓reduceIte]; done) | (simp only [mv_sh, mv_bt, hI.2, h10, h13, eq_true h16, if_true, if_false, not_false_eq_true, not_true_eq_false, ↓reduceIte, wMix, wLog, wPic, wRep, wScr, wVM, wMd, sR_eq, sR_ne, sF_eq, sF_ne, upd_eq, upd_ne, gs_eq, gs_ne, gm_4, gm_ne, Nat.reduceBEq]; done) | (with_reducible rfl) | contradiction | (simp only [mv_sh, mv_bt, hI.2, h10, h13, eq_true h16, if_true, if_false, not_false_eq_true, not_true_eq_false, ↓reduceIte]; rfl) | rfl) (by subst ex; first | (simp only [mv_sh, mv_bt, hI.2, h10, h13, eq_true h16, if_true, if_false, not_false_eq_true, not_true_eq_false, ↓reduceIte]; done) | (simp only [mv_sh, mv_bt, hI.2, h10, h13, eq_true h16, if_true, if_false, not_false_eq_true, not_true_eq_false, ↓reduceIte, wMix, wLog, wPic, wRep, wScr, wVM, wMd, sR_eq, sR_ne, sF_eq, sF_ne, upd_eq, upd_ne, gs_eq, gs_ne, gm_4, gm_ne, Nat.reduceBEq]; done) | (with_reducible rfl) | contradiction | (simp only [mv_sh, mv_bt, hI.2, h10, h13, eq_true h16, if_true, if_false, not_false_eq_true, not_true_eq_false, ↓reduceIte]; rfl) | rfl)
        · have hb : (mv_sc (S 1) (mr_ls (S 1) (S 4)) q) x = true := by simp only [mv_sc, hI.2, h10, eq_true h14, ↓reduceIte]
          refine y_iload_n Z dX6_shareOf_31 3 rfl rfl ?_
          refine y_aload_n Z dX6_shareOf_32 0 rfl rfl ?_
          refine y_get (C := RX6) (T := TX6) (N := 19) Z 6 inlX6 rfl 0 rfl 0 (by decide) fl_RX6_7 rfl dX6_shareOf_33 ?_
          refine y_bipush (v := 19) Z dX6_shareOf_36 (by decide) ?_
          refine y_iald Z 1 0 rfl ht0 (vpd (by decide) (by decide)) 19 (by decide) dX6_shareOf_38 ?_
          refine y_iload Z dX6_shareOf_39 4 rfl ?_
          refine y_ishr Z dX6_shareOf_41 ?_
          refine y_iconst (v := 1) Z dX6_shareOf_42 (by decide) ?_
          refine y_iand Z dX6_shareOf_43 ?_
          refine y_iconst (v := 1) Z dX6_shareOf_44 (by decide) ?_
          refine y_icmp_ne (tgt := 58) Z dX6_shareOf_45 (by decide) (fun h17 => ?_) (fun h18 => ?_)
          · refine y_iconst (v := 0) Z dX6_shareOf_58 (by decide) ?_
            refine y_iadd Z dX6_shareOf_59 ?_
            refine y_istore_n Z [(3, .int (x.1 + 0)), (0, .ref (aS 0)), (1, .int q), (2, .int sn), (4, .int x.2)] dX6_shareOf_60 rfl (by decide) rfl ?_
            refine y_iinc Z [(4, .int (x.2 + 1)), (3, .int (x.1 + 0)), (0, .ref (aS 0)), (1, .int q), (2, .int sn)] dX6_shareOf_61 4 rfl rfl (by decide) rfl ?_
            refine y_goto (tgt := 20) Z dX6_shareOf_64 (by decide) ?_
            refine y_lv [2, 3, 4, 1, 0] (lv' := [(0, .ref (aS 0)), (1, .int q), (2, .int sn), (3, .int (x.1 + 0)), (4, .int (x.2 + 1))]) rfl ?_
            refine y_eq (ws' := (wMdR cI aS (S 0 0) (S 0 1) (S 0 2) (S 0 3) (S 0 4) (S 0 5) (S 0 6) (S 0 7) (S 0 8) (S 0 9) (S 0 10) (S 0 11) (S 0 12) (S 1) (S 2) (S 3) (mr_ls (S 1) (S 4)) (S 5) (S 6))) (lv' := [(0, .ref (aS 0)), (1, .int q), (2, .int sn), (3, .int (((mv_sn (S 1) (mr_ls (S 1) (S 4))) x).1)), (4, .int (((mv_sn (S 1) (mr_ls (S 1) (S 4))) x).2))]) (st' := []) (by first | (simp only [mv_sn, mv_bt, hI.2, h10, eq_true h14, h17, if_true, if_false, not_false_eq_true, not_true_eq_false, ↓reduceIte]; done) | (simp only [mv_sn, mv_bt, hI.2, h10, eq_true h14, h17, if_true, if_false, not_false_eq_true, not_true_eq_false, ↓reduceIte, wMix, wLog, wPic, wRep, wScr, wVM, wMd, sR_eq, sR_ne, sF_eq, sF_ne, upd_eq, upd_ne, gs_eq, gs_ne, gm_4, gm_ne, Nat.reduceBEq]; done) | (with_reducible rfl) | contradiction | (simp only [mv_sn, mv_bt, hI.2, h10, eq_true h14, h17, if_true, if_false, not_false_eq_true, not_true_eq_false, ↓reduceIte]; rfl) | rfl) (by first | (simp only [mv_sn, mv_bt, hI.2, h10, eq_true h14, h17, if_true, if_false, not_false_eq_true, not_true_eq_false, ↓reduceIte]; done) | (simp only [mv_sn, mv_bt, hI.2, h10, eq_true h14, h17, if_true, if_false, not_false_eq_true, not_true_eq_false, ↓reduceIte, wMix, wLog, wPic, wRep, wScr, wVM, wMd, sR_eq, sR_ne, sF_eq, sF_ne, upd_eq, upd_ne, gs_eq, gs_ne, gm_4, gm_ne, Nat.reduceBEq]; done) | (with_reducible rfl) | contradiction | (simp only [mv_sn, mv_bt, hI.2, h10, eq_true h14, h17, if_true, if_false, not_false_eq_true, not_true_eq_false, ↓reduceIte]; rfl) | rfl) rfl ?_
            exact ih _ (by obtain ⟨k, hk, e⟩ := sn_k hI.1 hb; exact ⟨⟨k + 1, by omega, by show x.2 + 1 = _; rw [e, nI_1]⟩, hI.2⟩) (by rw [lw_t hb] at hc; exact hc) (by rw [lw_t hb] at hx; exact hx)
          · refine y_aload_n Z dX6_shareOf_48 0 rfl rfl ?_
            refine y_get (C := RX6) (T := TX6) (N := 19) Z 6 inlX6 rfl 0 rfl 7 (by decide) fl_RX6_19 rfl dX6_shareOf_49 ?_
            refine y_iload Z dX6_shareOf_52 4 rfl ?_
            refine y_iald Z 4 0 rfl ht0 (sn_in hI.1 (by assumption)) (cl x.2) rfl dX6_shareOf_54 ?_
            refine y_goto (tgt := 59) Z dX6_shareOf_55 (by decide) ?_
            refine y_iadd Z dX6_shareOf_59 ?_
            refine y_istore_n Z [(3, .int (x.1 + ((mr_ls (S 1) (S 4)) (cl x.2)))), (0, .ref (aS 0)), (1, .int q), (2, .int sn), (4, .int x.2)] dX6_shareOf_60 rfl (by decide) rfl ?_
            refine y_iinc Z [(4, .int (x.2 + 1)), (3, .int (x.1 + ((mr_ls (S 1) (S 4)) (cl x.2)))), (0, .ref (aS 0)), (1, .int q), (2, .int sn)] dX6_shareOf_61 4 rfl rfl (by decide) rfl ?_
            refine y_goto (tgt := 20) Z dX6_shareOf_64 (by decide) ?_
            refine y_lv [2, 3, 4, 1, 0] (lv' := [(0, .ref (aS 0)), (1, .int q), (2, .int sn), (3, .int (x.1 + ((mr_ls (S 1) (S 4)) (cl x.2)))), (4, .int (x.2 + 1))]) rfl ?_
            refine y_eq (ws' := (wMdR cI aS (S 0 0) (S 0 1) (S 0 2) (S 0 3) (S 0 4) (S 0 5) (S 0 6) (S 0 7) (S 0 8) (S 0 9) (S 0 10) (S 0 11) (S 0 12) (S 1) (S 2) (S 3) (mr_ls (S 1) (S 4)) (S 5) (S 6))) (lv' := [(0, .ref (aS 0)), (1, .int q), (2, .int sn), (3, .int (((mv_sn (S 1) (mr_ls (S 1) (S 4))) x).1)), (4, .int (((mv_sn (S 1) (mr_ls (S 1) (S 4))) x).2))]) (st' := []) (by first | (simp only [mv_sn, mv_bt, hI.2, h10, eq_true h14, eq_true h18, if_true, if_false, not_false_eq_true, not_true_eq_false, ↓reduceIte]; done) | (simp only [mv_sn, mv_bt, hI.2, h10, eq_true h14, eq_true h18, if_true, if_false, not_false_eq_true, not_true_eq_false, ↓reduceIte, wMix, wLog, wPic, wRep, wScr, wVM, wMd, sR_eq, sR_ne, sF_eq, sF_ne, upd_eq, upd_ne, gs_eq, gs_ne, gm_4, gm_ne, Nat.reduceBEq]; done) | (with_reducible rfl) | contradiction | (simp only [mv_sn, mv_bt, hI.2, h10, eq_true h14, eq_true h18, if_true, if_false, not_false_eq_true, not_true_eq_false, ↓reduceIte]; rfl) | rfl) (by first | (simp only [mv_sn, mv_bt, hI.2, h10, eq_true h14, eq_true h18, if_true, if_false, not_false_eq_true, not_true_eq_false, ↓reduceIte]; done) | (simp only [mv_sn, mv_bt, hI.2, h10, eq_true h14, eq_true h18, if_true, if_false, not_false_eq_true, not_true_eq_false, ↓reduceIte, wMix, wLog, wPic, wRep, wScr, wVM, wMd, sR_eq, sR_ne, sF_eq, sF_ne, upd_eq, upd_ne, gs_eq, gs_ne, gm_4, gm_ne, Nat.reduceBEq]; done) | (with_reducible rfl) | contradiction | (simp only [mv_sn, mv_bt, hI.2, h10, eq_true h14, eq_true h18, if_true, if_false, not_false_eq_true, not_true_eq_false, ↓reduceIte]; rfl) | rfl) rfl ?_
            exact ih _ (by obtain ⟨k, hk, e⟩ := sn_k hI.1 hb; exact ⟨⟨k + 1, by omega, by show x.2 + 1 = _; rw [e, nI_1]⟩, hI.2⟩) (by rw [lw_t hb] at hc; exact hc) (by rw [lw_t hb] at hx; exact hx)
  refine y_aload_n Z dX6_shareOf_0 0 rfl rfl ?_
  refine y_VVw Z (k_X6_laysShares l D ht0 aS S h_o) (y_cwV 0 Z ml_RX6_118 im_X6_laysShares se_X6_laysShares in_X6 co_X6_laysShares rfl rfl hd_X6_laysShares ⟨Nat.le_of_ble_eq_true rfl, Nat.le_of_ble_eq_true rfl⟩) List.nil List.nil (by simp only [List.nil_append, List.append_nil, wMix, wLog, wPic, wRep, wScr, wVM, wMd, sR_eq, sR_ne, sF_eq, sF_ne, upd_eq, upd_ne, gs_eq, gs_ne, gm_4, gm_ne, Nat.reduceBEq]) 6 0 rfl rfl rfl rfl (Nat.le_of_ble_eq_true rfl) dX6_shareOf_1 ⟨Nat.le_of_ble_eq_true rfl, Nat.le_of_ble_eq_true rfl⟩ (wMdR cI aS (S 0 0) (S 0 1) (S 0 2) (S 0 3) (S 0 4) (S 0 5) (S 0 6) (S 0 7) (S 0 8) (S 0 9) (S 0 10) (S 0 11) (S 0 12) (S 1) (S 2) (S 3) (mr_ls (S 1) (S 4)) (S 5) (S 6)) (by simp only [List.nil_append, List.append_nil, wMix, wLog, wPic, wRep, wScr, wVM, wMd, sR_eq, sR_ne, sF_eq, sF_ne, upd_eq, upd_ne, gs_eq, gs_ne, gm_4, gm_ne, Nat.reduceBEq]) ?_
  refine y_aload_n Z dX6_shareOf_4 0 rfl rfl ?_
  refine y_get (C := RX6) (T := TX6) (N := 19) Z 6 inlX6 rfl 0 rfl 7 (by decide) fl_RX6_19 rfl dX6_shareOf_5 ?_
  refine y_iload_n Z dX6_shareOf_8 1 rfl rfl ?_
  refine y_iald Z 4 0 rfl ht0 h_q (cl q) rfl dX6_shareOf_9 ?_
  refine y_istore_n Z [(3, .int ((mr_ls (S 1) (S 4)) (cl q))), (0, .ref (aS 0)), (1, .int q), (2, .int sn)] dX6_shareOf_10 rfl (by decide) rfl ?_
  refine y_iload_n Z dX6_shareOf_11 3 rfl rfl ?_
  refine y_if_ne (tgt := 17) Z dX6_shareOf_12 (by decide) (fun h19 => ?_) (fun h20 => ?_)
  · refine y_iconst (v := 1) Z dX6_shareOf_17 (by decide) ?_
    refine y_istore Z [(4, .int 1), (3, .int ((mr_ls (S 1) (S 4)) (cl q))), (0, .ref (aS 0)), (1, .int q), (2, .int sn)] dX6_shareOf_18 (by decide) rfl ?_
    refine y_lv [2, 3, 4, 1, 0] (lv' := [(0, .ref (aS 0)), (1, .int q), (2, .int sn), (3, .int ((mr_ls (S 1) (S 4)) (cl q))), (4, .int 1)]) rfl ?_
    exact L20 10 (mr_ls (S 1) (S 4) (cl q), 1) ⟨⟨1, by omega, rfl⟩, by assumption⟩ (sn_stop _ _ _ _) rfl
  · refine y_iload_n Z dX6_shareOf_15 0 rfl rfl ?_
    exact y_retI Z hr hlk dX6_shareOf_16 (by first | (simp only [mv_sh, mv_bt, eq_true h20, if_true, if_false, not_false_eq_true, not_true_eq_false, ↓reduceIte]; done) | (simp only [mv_sh, mv_bt, eq_true h20, if_true, if_false, not_false_eq_true, not_true_eq_false, ↓reduceIte, wMix, wLog, wPic, wRep, wScr, wVM, wMd, sR_eq, sR_ne, sF_eq, sF_ne, upd_eq, upd_ne, gs_eq, gs_ne, gm_4, gm_ne, Nat.reduceBEq]; done) | (with_reducible rfl) | contradiction | (simp only [mv_sh, mv_bt, eq_true h20, if_true, if_false, not_false_eq_true, not_true_eq_false, ↓reduceIte]; rfl) | rfl) (by first | (simp only [mv_sh, mv_bt, eq_true h20, if_true, if_false, not_false_eq_true, not_true_eq_false, ↓reduceIte]; done) | (simp only [mv_sh, mv_bt, eq_true h20, if_true, if_false, not_false_eq_true, not_true_eq_false, ↓reduceIte, wMix, wLog, wPic, wRep, wScr, wVM, wMd, sR_eq, sR_ne, sF_eq, sF_ne, upd_eq, upd_ne, gs_eq, gs_ne, gm_4, gm_ne, Nat.reduceBEq]; done) | (with_reducible rfl) | contradiction | (simp only [mv_sh, mv_bt, eq_true h20, if_true, if_false, not_false_eq_true, not_true_eq_false, ↓reduceIte]; rfl) | rfl)
set_option maxHeartbeats 4000000 in
set_option maxRecDepth 100000 in
theorem k_X6_settingOf (l : Launch) (D : va_G) {cI : ClassId} {tys : List (ClassId × FieldType)} (ht0 : tys[0]? = some (cI, .int)) (aS : Nat → Nat) (S : Nat → Nat → Int32) (w : Int32) (h_w : ¬ w < 0) (sz : Nat) : kI l yX6_settingOf cX6_settingOf 2 (some .int) { frames := 0, cells := 0, slots := 0, locals := 0 } D tys [.ref (aS 0), .int w] (wMd cI aS S) (wMd cI aS S) (mv_st (S 1) (S 0 0) (S 0 1) w) 0 0 sz := by
  refine y_enterI (cc := cX6_settingOf) (maxL := 2) (ret := (some .int)) (own := RX6) (by decide) rfl (lv0 := [(0, .ref (aS 0)), (1, .int w)]) rfl (Nat.le_of_ble_eq_true rfl) ?_
  intro p e s m args below meth c A Z hr hlk _
  refine y_iload_n Z dX6_settingOf_0 1 rfl rfl ?_
  refine y_bipush (v := 7) Z dX6_settingOf_1 (by decide) ?_
  refine y_icmp_ge (tgt := 15) Z dX6_settingOf_3 (by decide) (fun h1 => ?_) (fun h2 => ?_)
  · refine y_iload_n Z dX6_settingOf_15 1 rfl rfl ?_
    refine y_bipush (v := 7) Z dX6_settingOf_16 (by decide) ?_
    refine y_icmp_ne (tgt := 28) Z dX6_settingOf_18 (by decide) (fun h3 => ?_) (fun h4 => ?_)
    · refine y_aload_n Z dX6_settingOf_28 0 rfl rfl ?_
      refine y_get (C := RX6) (T := TX6) (N := 19) Z 6 inlX6 rfl 0 rfl 4 (by decide) fl_RX6_68 rfl dX6_settingOf_29 ?_
      exact y_retI Z hr hlk dX6_settingOf_32 (by first | (simp only [mv_st, h1, h3, if_true, if_false, not_false_eq_true, not_true_eq_false, ↓reduceIte]; done) | (simp only [mv_st, h1, h3, if_true, if_false, not_false_eq_true, not_true_eq_false, ↓reduceIte, wMix, wLog, wPic, wRep, wScr, wVM, wMd, sR_eq, sR_ne, sF_eq, sF_ne, upd_eq, upd_ne, gs_eq, gs_ne, gm_4, gm_ne, Nat.reduceBEq]; done) | (with_reducible rfl) | contradiction | (simp only [mv_st, h1, h3, if_true, if_false, not_false_eq_true, not_true_eq_false, ↓reduceIte]; rfl) | rfl) (by first | (simp only [mv_st, h1, h3, if_true, if_false, not_false_eq_true, not_true_eq_false, ↓reduceIte]; done) | (simp only [mv_st, h1, h3, if_true, if_false, not_false_eq_true, not_true_eq_false, ↓reduceIte, wMix, wLog, wPic, wRep, wScr, wVM, wMd, sR_eq, sR_ne, sF_eq, sF_ne, upd_eq, upd_ne, gs_eq, gs_ne, gm_4, gm_ne, Nat.reduceBEq]; done) | (with_reducible rfl) | contradiction | (simp only [mv_st, h1, h3, if_true, if_false, not_false_eq_true, not_true_eq_false, ↓reduceIte]; rfl) | rfl)
    · refine y_aload_n Z dX6_settingOf_21 0 rfl rfl ?_
      refine y_get (C := RX6) (T := TX6) (N := 19) Z 6 inlX6 rfl 0 rfl 2 (by decide) fl_RX6_71 rfl dX6_settingOf_22 ?_
      refine y_goto (tgt := 32) Z dX6_settingOf_25 (by decide) ?_
      exact y_retI Z hr hlk dX6_settingOf_32 (by first | (simp only [mv_st, h1, eq_true h4, if_true, if_false, not_false_eq_true, not_true_eq_false, ↓reduceIte]; done) | (simp only [mv_st, h1, eq_true h4, if_true, if_false, not_false_eq_true, not_true_eq_false, ↓reduceIte, wMix, wLog, wPic, wRep, wScr, wVM, wMd, sR_eq, sR_ne, sF_eq, sF_ne, upd_eq, upd_ne, gs_eq, gs_ne, gm_4, gm_ne, Nat.reduceBEq]; done) | (with_reducible rfl) | contradiction | (simp only [mv_st, h1, eq_true h4, if_true, if_false, not_false_eq_true, not_true_eq_false, ↓reduceIte]; rfl) | rfl) (by first | (simp only [mv_st, h1, eq_true h4, if_true, if_false, not_false_eq_true, not_true_eq_false, ↓reduceIte]; done) | (simp only [mv_st, h1, eq_true h4, if_true, if_false, not_false_eq_true, not_true_eq_false, ↓reduceIte, wMix, wLog, wPic, wRep, wScr, wVM, wMd, sR_eq, sR_ne, sF_eq, sF_ne, upd_eq, upd_ne, gs_eq, gs_ne, gm_4, gm_ne, Nat.reduceBEq]; done) | (with_reducible rfl) | contradiction | (simp only [mv_st, h1, eq_true h4, if_true, if_false, not_false_eq_true, not_true_eq_false, ↓reduceIte]; rfl) | rfl)
  · refine y_aload_n Z dX6_settingOf_6 0 rfl rfl ?_
    refine y_get (C := RX6) (T := TX6) (N := 19) Z 6 inlX6 rfl 0 rfl 0 (by decide) fl_RX6_7 rfl dX6_settingOf_7 ?_
    refine y_iload_n Z dX6_settingOf_10 1 rfl rfl ?_
    refine y_iald Z 1 0 rfl ht0 (vpd h_w (Nat.lt_trans (st7 h_w (by assumption)) (by decide))) (cl w) rfl dX6_settingOf_11 ?_
    refine y_goto (tgt := 32) Z dX6_settingOf_12 (by decide) ?_
    exact y_retI Z hr hlk dX6_settingOf_32 (by first | (simp only [mv_st, h2, if_true, if_false, not_false_eq_true, not_true_eq_false, ↓reduceIte]; done) | (simp only [mv_st, h2, if_true, if_false, not_false_eq_true, not_true_eq_false, ↓reduceIte, wMix, wLog, wPic, wRep, wScr, wVM, wMd, sR_eq, sR_ne, sF_eq, sF_ne, upd_eq, upd_ne, gs_eq, gs_ne, gm_4, gm_ne, Nat.reduceBEq]; done) | (with_reducible rfl) | contradiction | (simp only [mv_st, h2, if_true, if_false, not_false_eq_true, not_true_eq_false, ↓reduceIte]; rfl) | rfl) (by first | (simp only [mv_st, h2, if_true, if_false, not_false_eq_true, not_true_eq_false, ↓reduceIte]; done) | (simp only [mv_st, h2, if_true, if_false, not_false_eq_true, not_true_eq_false, ↓reduceIte, wMix, wLog, wPic, wRep, wScr, wVM, wMd, sR_eq, sR_ne, sF_eq, sF_ne, upd_eq, upd_ne, gs_eq, gs_ne, gm_4, gm_ne, Nat.reduceBEq]; done) | (with_reducible rfl) | contradiction | (simp only [mv_st, h2, if_true, if_false, not_false_eq_true, not_true_eq_false, ↓reduceIte]; rfl) | rfl)
