theorem goB_4 (L : Nat → Nat → Int32) (wo : Int32) (R : Nat → Nat → Int32) : goB L wo R 4 0 = R 4 0 + 1 := by
  unfold goB
  split <;> simp only [gt_up, gt_st2, gt_st1, sF_eq, upd_eq, gm_4]
theorem go_k {L : Nat → Nat → Int32} {t : Int32} {R : Nat → Nat → Int32} (h1 : L 0 0 ≤ 100) (h2 : 0 ≤ R 4 0) (hc : goC L t R = true) : ∃ k : Nat, k < 100 ∧ R 4 0 = nI k := by
  unfold goC at hc
  split at hc
  · cases hc
  · rename_i h
    rcases pk_ix (R 4 0) (n := 100) (by omega) with h3 | h3 | ⟨j, hj, e⟩
    · exact absurd h2 (Int32.not_le.mpr h3)
    · exact absurd (Int32.le_trans h1 h3) h
    · exact ⟨j, hj, e⟩
theorem go_stop {L : Nat → Nat → Int32} (t wo : Int32) {R : Nat → Nat → Int32} (h1 : L 0 0 ≤ 100) (h2 : 0 ≤ R 4 0) : goStop L t wo R := by
  refine lw_stop (fun R => 0 ≤ R 4 0) (fun R => 100 - (R 4 0).toNatClampNeg) ?_ ?_ 101 R h2 (by show 100 - _ < 101; omega)
  · intro R h hc
    obtain ⟨k, hk, e⟩ := go_k h1 h hc
    show 0 ≤ goB L wo R 4 0
    rw [goB_4, e, nI_1]
    exact nI_pos' (by omega)
  · intro R h hc
    obtain ⟨k, hk, e⟩ := go_k h1 h hc
    show 100 - (goB L wo R 4 0).toNatClampNeg < 100 - (R 4 0).toNatClampNeg
    rw [goB_4, e, nI_1, nI_clamp (by omega), nI_clamp (by omega)]
    omega
theorem go_nl {L : Nat → Nat → Int32} (t wo : Int32) (h1 : L 0 0 ≤ 100) : ∀ (n : Nat) (R : Nat → Nat → Int32), 0 ≤ R 4 0 → 0 ≤ lw (goC L t) (goB L wo) n R 4 0
  | 0, R, h => h
  | n + 1, R, h => by
    cases hc : goC L t R with
    | false => rw [lw_f hc]; exact h
    | true =>
      rw [lw_t hc]
      refine go_nl t wo h1 n _ ?_
      obtain ⟨k, hk, e⟩ := go_k h1 h hc
      rw [goB_4, e, nI_1]
      exact nI_pos' (by omega)
theorem go_nn {L : Nat → Nat → Int32} {t wo : Int32} {R : Nat → Nat → Int32} (h1 : L 0 0 ≤ 100) (h2 : 0 ≤ R 4 0) : 0 ≤ gt_goTo L t wo R 4 0 := by
  show 0 ≤ gt_goE t _ 4 0
  rw [gt_goE, gm_4]
  exact go_nl t wo h1 101 R h2
theorem bg_nn (R : Nat → Nat → Int32) : 0 ≤ gt_begin R 4 0 := by
  rw [gt_begin, sF_eq, upd_eq]
  decide
def vm_replay (J : Nat → Nat → Nat → Int32) (t wo : Int32) : Nat → Nat → Nat → Int32 := gs J 4 (gt_goTo (J 3) t wo (gt_begin (J 4)))
def vm_pO (J : Nat → Nat → Nat → Int32) : Nat → Nat → Nat → Int32 := gs J 6 (gt_paint (J 4) (J 6))
def vm_ra (J : Nat → Nat → Nat → Int32) (t : Int32) : Nat → Nat → Nat → Int32 := vm_pO (gs J 4 (gt_goTo (J 3) t (-1) (J 4)))
def vm_rp (J : Nat → Nat → Nat → Int32) (t wo : Int32) : Nat → Nat → Nat → Int32 := vm_pO (vm_replay J t wo)
def vm_cn (J : Nat → Nat → Nat → Int32) : Nat → Nat → Nat → Int32 := gs J 0 (gt_copy (J 0) (J 4))
def vm_rm (J : Nat → Nat → Nat → Int32) (a : Int32) : Nat → Nat → Nat → Int32 := gs J 3 (gt_lrem (J 3) a)
def vm_tk (J : Nat → Nat → Nat → Int32) (a : Int32) : Nat → Nat → Nat → Int32 := vm_cn (vm_replay (vm_rm J a) (J 0 0 7) (-1))
def vm_pr (J : Nat → Nat → Nat → Int32) : Nat → Nat → Nat → Int32 := vm_cn (vm_replay J (J 0 0 7) (-1))
def mx1 (z : Int32) : Int32 := if 1 < z then z else 1
def vm_ap (J : Nat → Nat → Nat → Int32) (v : Int32) : Nat → Nat → Nat → Int32 := gs J 7 (gt_sadd (J 7) v)
def vm_cl (J : Nat → Nat → Nat → Int32) : Nat → Nat → Nat → Int32 := gs J 7 (sF (J 7) 0 0 0)
def lpR (J : Nat → Nat → Nat → Int32) (t : Int32) (R : Nat → Nat → Int32) : Nat → Nat → Int32 := gt_goTo (J 3) t (-1) R
def lpO (J : Nat → Nat → Nat → Int32) (t : Int32) (R O : Nat → Nat → Int32) : Nat → Nat → Int32 := gt_paint (lpR J t R) O
def lpS (J : Nat → Nat → Nat → Int32) (t : Int32) (R : Nat → Nat → Int32) : Int32 := mx1 (stF (J 3) (lpR J t R) (J 0 0 7))
def trC (J : Nat → Nat → Nat → Int32) (x : (Nat → Nat → Int32) × (Nat → Nat → Int32) × Int32 × Int32 × Int32) : Bool := if J 0 0 7 < x.2.2.2.2 then false else true
def trB (J : Nat → Nat → Nat → Int32) (q : Int32) (x : (Nat → Nat → Int32) × (Nat → Nat → Int32) × Int32 × Int32 × Int32) : (Nat → Nat → Int32) × (Nat → Nat → Int32) × Int32 × Int32 × Int32 :=
  (lpR J x.2.2.2.2 x.1, lpO J x.2.2.2.2 x.1 x.2.1, if bitF (rdF (lpO J x.2.2.2.2 x.1 x.2.1)) q = 0 then x.2.2.1 else x.2.2.1 + lpS J x.2.2.2.2 x.1, lpS J x.2.2.2.2 x.1, x.2.2.2.2 + lpS J x.2.2.2.2 x.1)
def trX (J : Nat → Nat → Nat → Int32) (q : Int32) : (Nat → Nat → Int32) × (Nat → Nat → Int32) × Int32 × Int32 × Int32 := lw (trC J) (trB J q) 5002 (gt_begin (J 4), J 6, 0, 1, 0)
def vm_46 (J : Nat → Nat → Nat → Int32) (R O : Nat → Nat → Int32) : Nat → Nat → Nat → Int32 := gs (gs J 4 R) 6 O
theorem sm_ne (P N : Nat → Nat → Int32) (i : Nat) (h : ¬ cellF (P 1) 10 (nI i) = cellF (N 1) 10 (nI i)) (hi : i < 10) : smF P N = 0 := by
  have h1 : it (smS P N) (i + 1) 1 = 0 := by rw [it_s]; unfold smS; rw [if_neg h]
  have h2 := sm_0 P N (i + 1) h1 (10 - (i + 1))
  rwa [show i + 1 + (10 - (i + 1)) = 10 by omega] at h2
theorem sm_st {P N : Nat → Nat → Int32} {i : Nat} (h : it (smS P N) i 1 = 1) (e : cellF (P 1) 10 (nI i) = cellF (N 1) 10 (nI i)) : it (smS P N) (i + 1) 1 = 1 := by
  rw [it_s, h]; unfold smS; rw [if_pos e]
def frC (J : Nat → Nat → Nat → Int32) (q : Int32) (x : (Nat → Nat → Int32) × (Nat → Nat → Int32) × Int32 × Int32) : Bool := if J 0 0 7 < x.2.2.2 then false else if bitF (rdF (lpO J x.2.2.2 x.1 x.2.1)) q = 0 then true else false
def frB (J : Nat → Nat → Nat → Int32) (x : (Nat → Nat → Int32) × (Nat → Nat → Int32) × Int32 × Int32) : (Nat → Nat → Int32) × (Nat → Nat → Int32) × Int32 × Int32 :=
  (lpR J x.2.2.2 x.1, lpO J x.2.2.2 x.1 x.2.1, lpS J x.2.2.2 x.1, x.2.2.2 + lpS J x.2.2.2 x.1)
def frX (J : Nat → Nat → Nat → Int32) (q : Int32) : (Nat → Nat → Int32) × (Nat → Nat → Int32) × Int32 × Int32 := lw (frC J q) (frB J) 5002 (gt_begin (J 4), J 6, 1, 0)
def frR (J : Nat → Nat → Nat → Int32) (q : Int32) : Int32 := if J 0 0 7 < (frX J q).2.2.2 then -1 else (frX J q).2.2.2
def vm_fr (J : Nat → Nat → Nat → Int32) (q : Int32) : Nat → Nat → Nat → Int32 := if J 0 0 7 < (frX J q).2.2.2 then vm_46 J (frX J q).1 (frX J q).2.1 else vm_46 J (lpR J (frX J q).2.2.2 (frX J q).1) (lpO J (frX J q).2.2.2 (frX J q).1 (frX J q).2.1)
def lsC (J : Nat → Nat → Nat → Int32) (x : (Nat → Nat → Int32) × (Nat → Nat → Int32) × Int32 × Int32 × Int32 × Int32 × Int32) : Bool := if J 0 0 7 < x.2.2.2.2.2.2 then false else true
def lsH (J : Nat → Nat → Nat → Int32) (x : (Nat → Nat → Int32) × (Nat → Nat → Int32) × Int32 × Int32 × Int32 × Int32 × Int32) : Int32 := if rdF (lpO J x.2.2.2.2.2.2 x.1 x.2.1) = x.2.2.2.2.1 then x.2.2.2.1 + lpS J x.2.2.2.2.2.2 x.1 else lpS J x.2.2.2.2.2.2 x.1
def lsB (J : Nat → Nat → Nat → Int32) (x : (Nat → Nat → Int32) × (Nat → Nat → Int32) × Int32 × Int32 × Int32 × Int32 × Int32) : (Nat → Nat → Int32) × (Nat → Nat → Int32) × Int32 × Int32 × Int32 × Int32 × Int32 :=
  (lpR J x.2.2.2.2.2.2 x.1, lpO J x.2.2.2.2.2.2 x.1 x.2.1, if x.2.2.1 < lsH J x then lsH J x else x.2.2.1, lsH J x, rdF (lpO J x.2.2.2.2.2.2 x.1 x.2.1), lpS J x.2.2.2.2.2.2 x.1, x.2.2.2.2.2.2 + lpS J x.2.2.2.2.2.2 x.1)
def lsX (J : Nat → Nat → Nat → Int32) : (Nat → Nat → Int32) × (Nat → Nat → Int32) × Int32 × Int32 × Int32 × Int32 × Int32 := lw (lsC J) (lsB J) 5002 (gt_begin (J 4), J 6, 0, 0, -1, 1, 0)
def idC (J : Nat → Nat → Nat → Int32) (x : (Nat → Nat → Int32) × (Nat → Nat → Int32) × Int32 × Int32) : Bool := if J 3 0 0 ≤ x.2.2.2 then false else true
def idR (J : Nat → Nat → Nat → Int32) (x : (Nat → Nat → Int32) × (Nat → Nat → Int32) × Int32 × Int32) : Nat → Nat → Int32 := gt_goTo (J 3) (J 0 0 7) x.2.2.2 (gt_begin x.1)
def idB (J : Nat → Nat → Nat → Int32) (x : (Nat → Nat → Int32) × (Nat → Nat → Int32) × Int32 × Int32) : (Nat → Nat → Int32) × (Nat → Nat → Int32) × Int32 × Int32 :=
  (idR J x, gt_paint (idR J x) x.2.1, if smF (gt_paint (idR J x) x.2.1) (gt_paint (J 0) (J 5)) = 0 then x.2.2.1 else x.2.2.1 + 1, x.2.2.2 + 1)
def idX (J : Nat → Nat → Nat → Int32) : (Nat → Nat → Int32) × (Nat → Nat → Int32) × Int32 × Int32 := lw (idC J) (idB J) 101 (J 4, J 6, 0, 0)
def vm_id (J : Nat → Nat → Nat → Int32) : Nat → Nat → Nat → Int32 := gs (gs (gs J 4 (idX J).1) 5 (gt_paint (J 0) (J 5))) 6 (idX J).2.1
set_option maxHeartbeats 4000000 in
set_option maxRecDepth 100000 in
theorem k_X5_replayTo (l : Launch) (D : va_G) {cI : ClassId} {tys : List (ClassId × FieldType)} (ht0 : tys[0]? = some (cI, .int)) (aJ : Nat → Nat) (J : Nat → Nat → Nat → Int32) (t : Int32) (wo : Int32) (h_n : J 3 0 0 ≤ 100) (sz : Nat) : kV l yX5_replayTo cX5_replayTo 3 none { frames := 6, cells := 0, slots := 0, locals := 134 } D tys [.ref (aJ 0), .int t, .int wo] (wVM cI aJ J) (wVM cI aJ (vm_replay J t wo)) 0 0 sz := by
  refine y_enterV (cc := cX5_replayTo) (maxL := 3) (ret := none) (own := RX5) (by decide) rfl (lv0 := [(0, .ref (aJ 0)), (1, .int t), (2, .int wo)]) rfl (Nat.le_of_ble_eq_true rfl) ?_
  intro p e s m args below meth c A Z hr hlk _
  refine y_aload_n Z dX5_replayTo_0 0 rfl rfl ?_
  refine y_get (C := RX5) (T := TX5) (N := 8) Z 5 inlX5 rfl 0 rfl 4 (by decide) fl_RX5_32 rfl dX5_replayTo_1 ?_
  refine y_VV Z (k_X3_begin l D ht0 (fun k => aJ (15 + k)) (J 4)) (y_cwV 0 Z ml_RX5_126 im_X3_begin se_X3_begin in_X3 co_X3_begin rfl rfl hd_X3_begin ⟨Nat.le_of_ble_eq_true rfl, Nat.le_of_ble_eq_true rfl⟩) [15, 16, 17, 18, 19] rfl (by decide) 3 15 rfl rfl rfl rfl (Nat.le_of_ble_eq_true rfl) dX5_replayTo_4 ⟨Nat.le_of_ble_eq_true rfl, Nat.le_of_ble_eq_true rfl⟩ [(aJ 15), (aJ 16), (aJ 17), (aJ 18), (aJ 19)] rfl rfl (wVMR cI aJ (J 0) (J 1) (J 2) (J 3) (gt_begin (J 4)) (J 5) (J 6) (J 7)) rfl ?_
  refine y_aload_n Z dX5_replayTo_7 0 rfl rfl ?_
  refine y_get (C := RX5) (T := TX5) (N := 8) Z 5 inlX5 rfl 0 rfl 4 (by decide) fl_RX5_32 rfl dX5_replayTo_8 ?_
  refine y_aload_n Z dX5_replayTo_11 0 rfl rfl ?_
  refine y_get (C := RX5) (T := TX5) (N := 8) Z 5 inlX5 rfl 0 rfl 3 (by decide) fl_RX5_25 rfl dX5_replayTo_12 ?_
  refine y_iload_n Z dX5_replayTo_15 1 rfl rfl ?_
  refine y_iload_n Z dX5_replayTo_16 2 rfl rfl ?_
  refine y_VV Z (k_X3_goTo l D ht0 (fun k => aJ (15 + k)) (gt_begin (J 4)) (fun k => aJ (13 + k)) (J 3) t wo (go_stop _ _ h_n (bg_nn _))) (y_cwV 3 Z ml_RX5_239 im_X3_goTo se_X3_goTo in_X3 co_X3_goTo rfl rfl hd_X3_goTo ⟨Nat.le_of_ble_eq_true rfl, Nat.le_of_ble_eq_true rfl⟩) [15, 16, 17, 18, 19, 13, 14] rfl (by decide) 3 15 rfl rfl rfl rfl (Nat.le_of_ble_eq_true rfl) dX5_replayTo_17 ⟨Nat.le_of_ble_eq_true rfl, Nat.le_of_ble_eq_true rfl⟩ [(aJ 15), (aJ 16), (aJ 17), (aJ 18), (aJ 19), (aJ 13), (aJ 14)] rfl rfl (wVMR cI aJ (J 0) (J 1) (J 2) (J 3) (gt_goTo (J 3) t wo (gt_begin (J 4))) (J 5) (J 6) (J 7)) rfl ?_
  exact y_retV Z hr hlk dX5_replayTo_20 (by first | (simp only [vm_replay, if_true, if_false, not_false_eq_true, not_true_eq_false, ↓reduceIte]; done) | (simp only [vm_replay, if_true, if_false, not_false_eq_true, not_true_eq_false, ↓reduceIte, wMix, wLog, wPic, wRep, wScr, wVM, wMd, sR_eq, sR_ne, sF_eq, sF_ne, upd_eq, upd_ne, gs_eq, gs_ne, gm_4, gm_ne, Nat.reduceBEq]; done) | (with_reducible rfl) | contradiction | (simp only [vm_replay, if_true, if_false, not_false_eq_true, not_true_eq_false, ↓reduceIte]; rfl) | rfl)
set_option maxHeartbeats 4000000 in
set_option maxRecDepth 100000 in
theorem k_X5_redsAt (l : Launch) (D : va_G) {cI : ClassId} {tys : List (ClassId × FieldType)} (ht0 : tys[0]? = some (cI, .int)) (aJ : Nat → Nat) (J : Nat → Nat → Nat → Int32) (t : Int32) (h_n : J 3 0 0 ≤ 100) (h_u : 0 ≤ J 4 4 0) (sz : Nat) : kI l yX5_redsAt cX5_redsAt 2 (some .int) { frames := 6, cells := 0, slots := 0, locals := 134 } D tys [.ref (aJ 0), .int t] (wVM cI aJ J) (wVM cI aJ (vm_ra J t)) (rdF (vm_ra J t 6)) 0 0 sz := by
  refine y_enterI (cc := cX5_redsAt) (maxL := 2) (ret := (some .int)) (own := RX5) (by decide) rfl (lv0 := [(0, .ref (aJ 0)), (1, .int t)]) rfl (Nat.le_of_ble_eq_true rfl) ?_
  intro p e s m args below meth c A Z hr hlk _
  refine y_aload_n Z dX5_redsAt_0 0 rfl rfl ?_
  refine y_get (C := RX5) (T := TX5) (N := 8) Z 5 inlX5 rfl 0 rfl 4 (by decide) fl_RX5_32 rfl dX5_redsAt_1 ?_
  refine y_aload_n Z dX5_redsAt_4 0 rfl rfl ?_
  refine y_get (C := RX5) (T := TX5) (N := 8) Z 5 inlX5 rfl 0 rfl 3 (by decide) fl_RX5_25 rfl dX5_redsAt_5 ?_
  refine y_iload_n Z dX5_redsAt_8 1 rfl rfl ?_
  refine y_iconst (v := -1) Z dX5_redsAt_9 (by decide) ?_
  refine y_VV Z (k_X3_goTo l D ht0 (fun k => aJ (15 + k)) (J 4) (fun k => aJ (13 + k)) (J 3) t (-1) (go_stop _ _ h_n h_u)) (y_cwV 3 Z ml_RX5_239 im_X3_goTo se_X3_goTo in_X3 co_X3_goTo rfl rfl hd_X3_goTo ⟨Nat.le_of_ble_eq_true rfl, Nat.le_of_ble_eq_true rfl⟩) [15, 16, 17, 18, 19, 13, 14] rfl (by decide) 3 15 rfl rfl rfl rfl (Nat.le_of_ble_eq_true rfl) dX5_redsAt_10 ⟨Nat.le_of_ble_eq_true rfl, Nat.le_of_ble_eq_true rfl⟩ [(aJ 15), (aJ 16), (aJ 17), (aJ 18), (aJ 19), (aJ 13), (aJ 14)] rfl rfl (wVMR cI aJ (J 0) (J 1) (J 2) (J 3) (gt_goTo (J 3) t (-1) (J 4)) (J 5) (J 6) (J 7)) rfl ?_
  refine y_aload_n Z dX5_redsAt_13 0 rfl rfl ?_
  refine y_get (C := RX5) (T := TX5) (N := 8) Z 5 inlX5 rfl 0 rfl 6 (by decide) fl_RX5_43 rfl dX5_redsAt_14 ?_
  refine y_aload_n Z dX5_redsAt_17 0 rfl rfl ?_
  refine y_get (C := RX5) (T := TX5) (N := 8) Z 5 inlX5 rfl 0 rfl 4 (by decide) fl_RX5_32 rfl dX5_redsAt_18 ?_
  refine y_getN (host := RX5) (C := RX3) (T := TX3) (N := 2) Z 3 inlX3 rfl 15 rfl 0 (by decide) nl_RX5_120 rfl dX5_redsAt_21 ?_
  refine y_VV Z (k_X2_paint l D ht0 (fun k => aJ (22 + k)) (J 6) (fun k => aJ (16 + k)) (gt_goTo (J 3) t (-1) (J 4))) (y_cwV 1 Z ml_RX5_89 im_X2_paint se_X2_paint in_X2 co_X2_paint rfl rfl hd_X2_paint ⟨Nat.le_of_ble_eq_true rfl, Nat.le_of_ble_eq_true rfl⟩) [22, 23, 16, 17, 18, 19] rfl (by decide) 2 22 rfl rfl rfl rfl (Nat.le_of_ble_eq_true rfl) dX5_redsAt_24 ⟨Nat.le_of_ble_eq_true rfl, Nat.le_of_ble_eq_true rfl⟩ [(aJ 22), (aJ 23), (aJ 16), (aJ 17), (aJ 18), (aJ 19)] rfl rfl (wVMR cI aJ (J 0) (J 1) (J 2) (J 3) (gt_goTo (J 3) t (-1) (J 4)) (J 5) (gt_paint (gt_goTo (J 3) t (-1) (J 4)) (J 6)) (J 7)) rfl ?_
  refine y_aload_n Z dX5_redsAt_27 0 rfl rfl ?_
  refine y_get (C := RX5) (T := TX5) (N := 8) Z 5 inlX5 rfl 0 rfl 6 (by decide) fl_RX5_43 rfl dX5_redsAt_28 ?_
  refine y_VI Z (k_X2_reds l D ht0 (fun k => aJ (22 + k)) (gt_paint (gt_goTo (J 3) t (-1) (J 4)) (J 6))) (y_cwV 0 Z ml_RX5_164 im_X2_reds se_X2_reds in_X2 co_X2_reds rfl rfl hd_X2_reds ⟨Nat.le_of_ble_eq_true rfl, Nat.le_of_ble_eq_true rfl⟩) [22, 23] rfl (by decide) 2 22 rfl rfl rfl rfl (Nat.le_of_ble_eq_true rfl) dX5_redsAt_31 ⟨Nat.le_of_ble_eq_true rfl, Nat.le_of_ble_eq_true rfl⟩ [(aJ 22), (aJ 23)] rfl rfl (wVMR cI aJ (J 0) (J 1) (J 2) (J 3) (gt_goTo (J 3) t (-1) (J 4)) (J 5) (gt_paint (gt_goTo (J 3) t (-1) (J 4)) (J 6)) (J 7)) rfl ?_
  exact y_retI Z hr hlk dX5_redsAt_34 (by first | (simp only [vm_ra, vm_pO, if_true, if_false, not_false_eq_true, not_true_eq_false, ↓reduceIte]; done) | (simp only [vm_ra, vm_pO, if_true, if_false, not_false_eq_true, not_true_eq_false, ↓reduceIte, wMix, wLog, wPic, wRep, wScr, wVM, wMd, sR_eq, sR_ne, sF_eq, sF_ne, upd_eq, upd_ne, gs_eq, gs_ne, gm_4, gm_ne, Nat.reduceBEq]; done) | (with_reducible rfl) | contradiction | (simp only [vm_ra, vm_pO, if_true, if_false, not_false_eq_true, not_true_eq_false, ↓reduceIte]; rfl) | rfl) (by first | (simp only [vm_ra, vm_pO, if_true, if_false, not_false_eq_true, not_true_eq_false, ↓reduceIte]; done) | (simp only [vm_ra, vm_pO, if_true, if_false, not_false_eq_true, not_true_eq_false, ↓reduceIte, wMix, wLog, wPic, wRep, wScr, wVM, wMd, sR_eq, sR_ne, sF_eq, sF_ne, upd_eq, upd_ne, gs_eq, gs_ne, gm_4, gm_ne, Nat.reduceBEq]; done) | (with_reducible rfl) | contradiction | (simp only [vm_ra, vm_pO, if_true, if_false, not_false_eq_true, not_true_eq_false, ↓reduceIte]; rfl) | rfl)
set_option maxHeartbeats 4000000 in
set_option maxRecDepth 100000 in
theorem k_X5_runs (l : Launch) (D : va_G) {cI : ClassId} {tys : List (ClassId × FieldType)} (ht0 : tys[0]? = some (cI, .int)) (aJ : Nat → Nat) (J : Nat → Nat → Nat → Int32) (h_n : J 3 0 0 ≤ 100) (sz : Nat) : kI l yX5_runs cX5_runs 1 (some .int) { frames := 7, cells := 0, slots := 0, locals := 156 } D tys [.ref (aJ 0)] (wVM cI aJ J) (wVM cI aJ (vm_replay J (J 0 0 7) (-1))) (vm_replay J (J 0 0 7) (-1) 4 0 8) 0 0 sz := by
  refine y_enterI (cc := cX5_runs) (maxL := 1) (ret := (some .int)) (own := RX5) (by decide) rfl (lv0 := [(0, .ref (aJ 0))]) rfl (Nat.le_of_ble_eq_true rfl) ?_
  intro p e s m args below meth c A Z hr hlk _
  refine y_aload_n Z dX5_runs_0 0 rfl rfl ?_
  refine y_aload_n Z dX5_runs_1 0 rfl rfl ?_
  refine y_get (C := RX5) (T := TX5) (N := 8) Z 5 inlX5 rfl 0 rfl 0 (by decide) fl_RX5_10 rfl dX5_runs_2 ?_
  refine y_getN (host := RX5) (C := RX1) (T := TX1) (N := 14) Z 1 inlX1 rfl 1 rfl 7 (by decide) nl_RX5_71 rfl dX5_runs_5 ?_
  refine y_iconst (v := -1) Z dX5_runs_8 (by decide) ?_
  refine y_VVw Z (k_X5_replayTo l D ht0 aJ J ((J 0) 0 7) (-1) h_n) (y_cwV 2 Z ml_RX5_116 im_X5_replayTo se_X5_replayTo in_X5 co_X5_replayTo rfl rfl hd_X5_replayTo ⟨Nat.le_of_ble_eq_true rfl, Nat.le_of_ble_eq_true rfl⟩) List.nil List.nil (by simp only [List.nil_append, List.append_nil, wMix, wLog, wPic, wRep, wScr, wVM, wMd, sR_eq, sR_ne, sF_eq, sF_ne, upd_eq, upd_ne, gs_eq, gs_ne, gm_4, gm_ne, Nat.reduceBEq]) 5 0 rfl rfl rfl rfl (Nat.le_of_ble_eq_true rfl) dX5_runs_9 ⟨Nat.le_of_ble_eq_true rfl, Nat.le_of_ble_eq_true rfl⟩ (wVMR cI aJ (J 0) (J 1) (J 2) (J 3) (gt_goTo (J 3) ((J 0) 0 7) (-1) (gt_begin (J 4))) (J 5) (J 6) (J 7)) (by simp only [List.nil_append, List.append_nil, vm_replay, wMix, wLog, wPic, wRep, wScr, wVM, wMd, sR_eq, sR_ne, sF_eq, sF_ne, upd_eq, upd_ne, gs_eq, gs_ne, gm_4, gm_ne, Nat.reduceBEq]) ?_
  refine y_aload_n Z dX5_runs_12 0 rfl rfl ?_
  refine y_get (C := RX5) (T := TX5) (N := 8) Z 5 inlX5 rfl 0 rfl 4 (by decide) fl_RX5_32 rfl dX5_runs_13 ?_
  refine y_getN (host := RX5) (C := RX3) (T := TX3) (N := 2) Z 3 inlX3 rfl 15 rfl 0 (by decide) nl_RX5_120 rfl dX5_runs_16 ?_
  refine y_getN (host := RX5) (C := RX1) (T := TX1) (N := 14) Z 1 inlX1 rfl 16 rfl 8 (by decide) nl_RX5_145 rfl dX5_runs_19 ?_
  exact y_retI Z hr hlk dX5_runs_22 (by first | (with_reducible rfl) | (simp only [wMix, wLog, wPic, wRep, wScr, wVM, wMd, sR_eq, sR_ne, sF_eq, sF_ne, upd_eq, upd_ne, gs_eq, gs_ne, gm_4, gm_ne, Nat.reduceBEq]; done) | rfl) (by first | (with_reducible rfl) | (simp only [wMix, wLog, wPic, wRep, wScr, wVM, wMd, sR_eq, sR_ne, sF_eq, sF_ne, upd_eq, upd_ne, gs_eq, gs_ne, gm_4, gm_ne, Nat.reduceBEq]; done) | rfl)
set_option maxHeartbeats 4000000 in
set_option maxRecDepth 100000 in
theorem k_X5_replayPresent (l : Launch) (D : va_G) {cI : ClassId} {tys : List (ClassId × FieldType)} (ht0 : tys[0]? = some (cI, .int)) (aJ : Nat → Nat) (J : Nat → Nat → Nat → Int32) (h_n : J 3 0 0 ≤ 100) (sz : Nat) : kV l yX5_replayPresent cX5_replayPresent 1 none { frames := 6, cells := 0, slots := 0, locals := 134 } D tys [.ref (aJ 0)] (wVM cI aJ J) (wVM cI aJ (vm_pr J)) 0 0 sz := by
  refine y_enterV (cc := cX5_replayPresent) (maxL := 1) (ret := none) (own := RX5) (by decide) rfl (lv0 := [(0, .ref (aJ 0))]) rfl (Nat.le_of_ble_eq_true rfl) ?_
  intro p e s m args below meth c A Z hr hlk _
  refine y_aload_n Z dX5_replayPresent_0 0 rfl rfl ?_
  refine y_get (C := RX5) (T := TX5) (N := 8) Z 5 inlX5 rfl 0 rfl 4 (by decide) fl_RX5_32 rfl dX5_replayPresent_1 ?_
  refine y_VV Z (k_X3_begin l D ht0 (fun k => aJ (15 + k)) (J 4)) (y_cwV 0 Z ml_RX5_126 im_X3_begin se_X3_begin in_X3 co_X3_begin rfl rfl hd_X3_begin ⟨Nat.le_of_ble_eq_true rfl, Nat.le_of_ble_eq_true rfl⟩) [15, 16, 17, 18, 19] rfl (by decide) 3 15 rfl rfl rfl rfl (Nat.le_of_ble_eq_true rfl) dX5_replayPresent_4 ⟨Nat.le_of_ble_eq_true rfl, Nat.le_of_ble_eq_true rfl⟩ [(aJ 15), (aJ 16), (aJ 17), (aJ 18), (aJ 19)] rfl rfl (wVMR cI aJ (J 0) (J 1) (J 2) (J 3) (gt_begin (J 4)) (J 5) (J 6) (J 7)) rfl ?_
  refine y_aload_n Z dX5_replayPresent_7 0 rfl rfl ?_
  refine y_get (C := RX5) (T := TX5) (N := 8) Z 5 inlX5 rfl 0 rfl 4 (by decide) fl_RX5_32 rfl dX5_replayPresent_8 ?_
  refine y_aload_n Z dX5_replayPresent_11 0 rfl rfl ?_
  refine y_get (C := RX5) (T := TX5) (N := 8) Z 5 inlX5 rfl 0 rfl 3 (by decide) fl_RX5_25 rfl dX5_replayPresent_12 ?_
  refine y_aload_n Z dX5_replayPresent_15 0 rfl rfl ?_
  refine y_get (C := RX5) (T := TX5) (N := 8) Z 5 inlX5 rfl 0 rfl 0 (by decide) fl_RX5_10 rfl dX5_replayPresent_16 ?_
  refine y_getN (host := RX5) (C := RX1) (T := TX1) (N := 14) Z 1 inlX1 rfl 1 rfl 7 (by decide) nl_RX5_71 rfl dX5_replayPresent_19 ?_
  refine y_iconst (v := -1) Z dX5_replayPresent_22 (by decide) ?_
  refine y_VV Z (k_X3_goTo l D ht0 (fun k => aJ (15 + k)) (gt_begin (J 4)) (fun k => aJ (13 + k)) (J 3) ((J 0) 0 7) (-1) (go_stop _ _ h_n (bg_nn _))) (y_cwV 3 Z ml_RX5_239 im_X3_goTo se_X3_goTo in_X3 co_X3_goTo rfl rfl hd_X3_goTo ⟨Nat.le_of_ble_eq_true rfl, Nat.le_of_ble_eq_true rfl⟩) [15, 16, 17, 18, 19, 13, 14] rfl (by decide) 3 15 rfl rfl rfl rfl (Nat.le_of_ble_eq_true rfl) dX5_replayPresent_23 ⟨Nat.le_of_ble_eq_true rfl, Nat.le_of_ble_eq_true rfl⟩ [(aJ 15), (aJ 16), (aJ 17), (aJ 18), (aJ 19), (aJ 13), (aJ 14)] rfl rfl (wVMR cI aJ (J 0) (J 1) (J 2) (J 3) (gt_goTo (J 3) ((J 0) 0 7) (-1) (gt_begin (J 4))) (J 5) (J 6) (J 7)) rfl ?_
  refine y_aload_n Z dX5_replayPresent_26 0 rfl rfl ?_
  refine y_get (C := RX5) (T := TX5) (N := 8) Z 5 inlX5 rfl 0 rfl 0 (by decide) fl_RX5_10 rfl dX5_replayPresent_27 ?_
  refine y_aload_n Z dX5_replayPresent_30 0 rfl rfl ?_
  refine y_get (C := RX5) (T := TX5) (N := 8) Z 5 inlX5 rfl 0 rfl 4 (by decide) fl_RX5_32 rfl dX5_replayPresent_31 ?_
  refine y_getN (host := RX5) (C := RX3) (T := TX3) (N := 2) Z 3 inlX3 rfl 15 rfl 0 (by decide) nl_RX5_120 rfl dX5_replayPresent_34 ?_
  refine y_VV Z (k_X1_copy l D ht0 (fun k => aJ (1 + k)) (J 0) (fun k => aJ (16 + k)) (gt_goTo (J 3) ((J 0) 0 7) (-1) (gt_begin (J 4)))) (y_cwV 1 Z ml_RX5_184 im_X1_copy se_X1_copy in_X1 co_X1_copy rfl rfl hd_X1_copy ⟨Nat.le_of_ble_eq_true rfl, Nat.le_of_ble_eq_true rfl⟩) [1, 2, 3, 4, 16, 17, 18, 19] rfl (by decide) 1 1 rfl rfl rfl rfl (Nat.le_of_ble_eq_true rfl) dX5_replayPresent_37 ⟨Nat.le_of_ble_eq_true rfl, Nat.le_of_ble_eq_true rfl⟩ [(aJ 1), (aJ 2), (aJ 3), (aJ 4), (aJ 16), (aJ 17), (aJ 18), (aJ 19)] rfl rfl (wVMR cI aJ (gt_copy (J 0) (gt_goTo (J 3) ((J 0) 0 7) (-1) (gt_begin (J 4)))) (J 1) (J 2) (J 3) (gt_goTo (J 3) ((J 0) 0 7) (-1) (gt_begin (J 4))) (J 5) (J 6) (J 7)) rfl ?_
  exact y_retV Z hr hlk dX5_replayPresent_40 (by first | (simp only [vm_pr, vm_cn, vm_replay, if_true, if_false, not_false_eq_true, not_true_eq_false, ↓reduceIte]; done) | (simp only [vm_pr, vm_cn, vm_replay, if_true, if_false, not_false_eq_true, not_true_eq_false, ↓reduceIte, wMix, wLog, wPic, wRep, wScr, wVM, wMd, sR_eq, sR_ne, sF_eq, sF_ne, upd_eq, upd_ne, gs_eq, gs_ne, gm_4, gm_ne, Nat.reduceBEq]; done) | (with_reducible rfl) | contradiction | (simp only [vm_pr, vm_cn, vm_replay, if_true, if_false, not_false_eq_true, not_true_eq_false, ↓reduceIte]; rfl) | rfl)
set_option maxHeartbeats 4000000 in
set_option maxRecDepth 100000 in
theorem k_X5_takeOut (l : Launch) (D : va_G) {cI : ClassId} {tys : List (ClassId × FieldType)} (ht0 : tys[0]? = some (cI, .int)) (aJ : Nat → Nat) (J : Nat → Nat → Nat → Int32) (a : Int32) (h_n2 : gt_lrem (J 3) a 0 0 ≤ 100) (h_rs : rmStop (J 3) a) (h_a : okA J a) (sz : Nat) : kI l yX5_takeOut cX5_takeOut 2 (some .int) { frames := 7, cells := 0, slots := 0, locals := 154 } D tys [.ref (aJ 0), .int a] (wVM cI aJ J) (wVM cI aJ (vm_tk J a)) (vm_tk J a 3 0 0) 0 0 sz := by
  refine y_enterI (cc := cX5_takeOut) (maxL := 2) (ret := (some .int)) (own := RX5) (by decide) rfl (lv0 := [(0, .ref (aJ 0)), (1, .int a)]) rfl (Nat.le_of_ble_eq_true rfl) ?_
  intro p e s m args below meth c A Z hr hlk _
  refine y_aload_n Z dX5_takeOut_0 0 rfl rfl ?_
  refine y_iload_n Z dX5_takeOut_1 1 rfl rfl ?_
  refine y_VVw Z (k_X5_checkAct l D ht0 aJ J a h_a) (y_cwV 1 Z ml_RX5_148 im_X5_checkAct se_X5_checkAct in_X5 co_X5_checkAct rfl rfl hd_X5_checkAct ⟨Nat.le_of_ble_eq_true rfl, Nat.le_of_ble_eq_true rfl⟩) List.nil List.nil (by simp only [List.nil_append, List.append_nil, wMix, wLog, wPic, wRep, wScr, wVM, wMd, sR_eq, sR_ne, sF_eq, sF_ne, upd_eq, upd_ne, gs_eq, gs_ne, gm_4, gm_ne, Nat.reduceBEq]) 5 0 rfl rfl rfl rfl (Nat.le_of_ble_eq_true rfl) dX5_takeOut_2 ⟨Nat.le_of_ble_eq_true rfl, Nat.le_of_ble_eq_true rfl⟩ (wVM cI aJ J) (by simp only [List.nil_append, List.append_nil, wMix, wLog, wPic, wRep, wScr, wVM, wMd, sR_eq, sR_ne, sF_eq, sF_ne, upd_eq, upd_ne, gs_eq, gs_ne, gm_4, gm_ne, Nat.reduceBEq]) ?_
  refine y_aload_n Z dX5_takeOut_5 0 rfl rfl ?_
  refine y_get (C := RX5) (T := TX5) (N := 8) Z 5 inlX5 rfl 0 rfl 3 (by decide) fl_RX5_25 rfl dX5_takeOut_6 ?_
  refine y_iload_n Z dX5_takeOut_9 1 rfl rfl ?_
  refine y_VV Z (k_X0_remove l D ht0 (fun k => aJ (13 + k)) (J 3) a h_rs) (y_cwV 1 Z ml_RX5_154 im_X0_remove se_X0_remove in_X0 co_X0_remove rfl rfl hd_X0_remove ⟨Nat.le_of_ble_eq_true rfl, Nat.le_of_ble_eq_true rfl⟩) [13, 14] rfl (by decide) 0 13 rfl rfl rfl rfl (Nat.le_of_ble_eq_true rfl) dX5_takeOut_10 ⟨Nat.le_of_ble_eq_true rfl, Nat.le_of_ble_eq_true rfl⟩ [(aJ 13), (aJ 14)] rfl rfl (wVMR cI aJ (J 0) (J 1) (J 2) (gt_lrem (J 3) a) (J 4) (J 5) (J 6) (J 7)) rfl ?_
  refine y_aload_n Z dX5_takeOut_13 0 rfl rfl ?_
  refine y_VVw Z (k_X5_replayPresent l D ht0 aJ (gs J 3 (gt_lrem (J 3) a)) (by rw [gs_eq]; exact h_n2)) (y_cwV 0 Z ml_RX5_157 im_X5_replayPresent se_X5_replayPresent in_X5 co_X5_replayPresent rfl rfl hd_X5_replayPresent ⟨Nat.le_of_ble_eq_true rfl, Nat.le_of_ble_eq_true rfl⟩) List.nil List.nil (by simp only [List.nil_append, List.append_nil, wMix, wLog, wPic, wRep, wScr, wVM, wMd, sR_eq, sR_ne, sF_eq, sF_ne, upd_eq, upd_ne, gs_eq, gs_ne, gm_4, gm_ne, Nat.reduceBEq]) 5 0 rfl rfl rfl rfl (Nat.le_of_ble_eq_true rfl) dX5_takeOut_14 ⟨Nat.le_of_ble_eq_true rfl, Nat.le_of_ble_eq_true rfl⟩ (wVMR cI aJ (gt_copy (J 0) (gt_goTo (gt_lrem (J 3) a) ((J 0) 0 7) (-1) (gt_begin (J 4)))) (J 1) (J 2) (gt_lrem (J 3) a) (gt_goTo (gt_lrem (J 3) a) ((J 0) 0 7) (-1) (gt_begin (J 4))) (J 5) (J 6) (J 7)) (by simp only [List.nil_append, List.append_nil, vm_pr, vm_cn, vm_replay, wMix, wLog, wPic, wRep, wScr, wVM, wMd, sR_eq, sR_ne, sF_eq, sF_ne, upd_eq, upd_ne, gs_eq, gs_ne, gm_4, gm_ne, Nat.reduceBEq]) ?_
  refine y_aload_n Z dX5_takeOut_17 0 rfl rfl ?_
  refine y_get (C := RX5) (T := TX5) (N := 8) Z 5 inlX5 rfl 0 rfl 3 (by decide) fl_RX5_25 rfl dX5_takeOut_18 ?_
  refine y_VI Z (k_X0_size l D ht0 (fun k => aJ (13 + k)) (gt_lrem (J 3) a)) (y_cwV 0 Z ml_RX5_160 im_X0_size se_X0_size in_X0 co_X0_size rfl rfl hd_X0_size ⟨Nat.le_of_ble_eq_true rfl, Nat.le_of_ble_eq_true rfl⟩) [13, 14] rfl (by decide) 0 13 rfl rfl rfl rfl (Nat.le_of_ble_eq_true rfl) dX5_takeOut_21 ⟨Nat.le_of_ble_eq_true rfl, Nat.le_of_ble_eq_true rfl⟩ [(aJ 13), (aJ 14)] rfl rfl (wVMR cI aJ (gt_copy (J 0) (gt_goTo (gt_lrem (J 3) a) ((J 0) 0 7) (-1) (gt_begin (J 4)))) (J 1) (J 2) (gt_lrem (J 3) a) (gt_goTo (gt_lrem (J 3) a) ((J 0) 0 7) (-1) (gt_begin (J 4))) (J 5) (J 6) (J 7)) rfl ?_
  exact y_retI Z hr hlk dX5_takeOut_24 (by first | (simp only [vm_tk, vm_cn, vm_rm, vm_replay, if_true, if_false, not_false_eq_true, not_true_eq_false, ↓reduceIte]; done) | (simp only [vm_tk, vm_cn, vm_rm, vm_replay, if_true, if_false, not_false_eq_true, not_true_eq_false, ↓reduceIte, wMix, wLog, wPic, wRep, wScr, wVM, wMd, sR_eq, sR_ne, sF_eq, sF_ne, upd_eq, upd_ne, gs_eq, gs_ne, gm_4, gm_ne, Nat.reduceBEq]; done) | (with_reducible rfl) | contradiction | (simp only [vm_tk, vm_cn, vm_rm, vm_replay, if_true, if_false, not_false_eq_true, not_true_eq_false, ↓reduceIte]; rfl) | rfl) (by first | (simp only [vm_tk, vm_cn, vm_rm, vm_replay, if_true, if_false, not_false_eq_true, not_true_eq_false, ↓reduceIte]; done) | (simp only [vm_tk, vm_cn, vm_rm, vm_replay, if_true, if_false, not_false_eq_true, not_true_eq_false, ↓reduceIte, wMix, wLog, wPic, wRep, wScr, wVM, wMd, sR_eq, sR_ne, sF_eq, sF_ne, upd_eq, upd_ne, gs_eq, gs_ne, gm_4, gm_ne, Nat.reduceBEq]; done) | (with_reducible rfl) | contradiction | (simp only [vm_tk, vm_cn, vm_rm, vm_replay, if_true, if_false, not_false_eq_true, not_true_eq_false, ↓reduceIte]; rfl) | rfl)
set_option maxHeartbeats 4000000 in
set_option maxRecDepth 100000 in
theorem k_X5_takeOut_b0 (l : Launch) (htr : l.stackTraces = false) (D : va_G) {cI : ClassId} {tys : List (ClassId × FieldType)} (ht0 : tys[0]? = some (cI, .int)) (aJ : Nat → Nat) (J : Nat → Nat → Nat → Int32) (a : Int32) (h_bad : ¬ (okA J a)) (sz : Nat) : kB l yX5_takeOut cX5_takeOut 2 (some .int) { frames := 7, cells := 1, slots := 6, locals := 154 } D tys [.ref (aJ 0), .int a] (wVM cI aJ J) "java/lang/IndexOutOfBoundsException" sz := by
  refine y_enterB (cc := cX5_takeOut) (maxL := 2) (ret := (some .int)) (own := RX5) htr (by decide) rfl (lv0 := [(0, .ref (aJ 0)), (1, .int a)]) rfl (Nat.le_of_ble_eq_true rfl) ?_
  intro p e s m args below meth c A Z X hr hlk
  refine y_aload_n Z dX5_takeOut_0 0 rfl rfl ?_
  refine y_iload_n Z dX5_takeOut_1 1 rfl rfl ?_
  exact y_VBw Z X.2.2 (k_X5_checkAct_b0 l htr D ht0 aJ J a h_bad) (y_cwV 1 Z ml_RX5_148 im_X5_checkAct se_X5_checkAct in_X5 co_X5_checkAct rfl rfl hd_X5_checkAct ⟨Nat.le_of_ble_eq_true rfl, Nat.le_of_ble_eq_true rfl⟩) List.nil List.nil (by simp only [List.nil_append, List.append_nil, wMix, wLog, wPic, wRep, wScr, wVM, wMd, sR_eq, sR_ne, sF_eq, sF_ne, upd_eq, upd_ne, gs_eq, gs_ne, gm_4, gm_ne, Nat.reduceBEq]) 5 0 rfl rfl rfl rfl (Nat.le_of_ble_eq_true rfl) dX5_takeOut_2 ⟨Nat.le_of_ble_eq_true rfl, Nat.le_of_ble_eq_true rfl⟩ (y_outB Z X hlk (Nat.le_of_ble_eq_true rfl) (Nat.le_of_ble_eq_true rfl))
set_option maxHeartbeats 4000000 in
set_option maxRecDepth 100000 in
theorem k_X5_undo (l : Launch) (D : va_G) {cI : ClassId} {tys : List (ClassId × FieldType)} (ht0 : tys[0]? = some (cI, .int)) (aJ : Nat → Nat) (J : Nat → Nat → Nat → Int32) (h_n2 : gt_lrem (J 3) (J 3 0 0 - 1) 0 0 ≤ 100) (h_rs : rmStop (J 3) (J 3 0 0 - 1)) (h_u : okU J) (sz : Nat) : kI l yX5_undo cX5_undo 1 (some .int) { frames := 7, cells := 0, slots := 0, locals := 154 } D tys [.ref (aJ 0)] (wVM cI aJ J) (wVM cI aJ (vm_tk J (J 3 0 0 - 1))) (vm_tk J (J 3 0 0 - 1) 3 0 0) 0 0 sz := by
  refine y_enterI (cc := cX5_undo) (maxL := 1) (ret := (some .int)) (own := RX5) (by decide) rfl (lv0 := [(0, .ref (aJ 0))]) rfl (Nat.le_of_ble_eq_true rfl) ?_
  intro p e s m args below meth c A Z hr hlk _
  refine y_aload_n Z dX5_undo_0 0 rfl rfl ?_
  refine y_get (C := RX5) (T := TX5) (N := 8) Z 5 inlX5 rfl 0 rfl 3 (by decide) fl_RX5_25 rfl dX5_undo_1 ?_
  refine y_VI Z (k_X0_size l D ht0 (fun k => aJ (13 + k)) (J 3)) (y_cwV 0 Z ml_RX5_160 im_X0_size se_X0_size in_X0 co_X0_size rfl rfl hd_X0_size ⟨Nat.le_of_ble_eq_true rfl, Nat.le_of_ble_eq_true rfl⟩) [13, 14] rfl (by decide) 0 13 rfl rfl rfl rfl (Nat.le_of_ble_eq_true rfl) dX5_undo_4 ⟨Nat.le_of_ble_eq_true rfl, Nat.le_of_ble_eq_true rfl⟩ [(aJ 13), (aJ 14)] rfl rfl (wVM cI aJ J) rfl ?_
  refine y_if_ne (tgt := 18) Z dX5_undo_7 (by decide) (fun h1 => ?_) (fun h2 => ?_)
  · refine y_aload_n Z dX5_undo_18 0 rfl rfl ?_
    refine y_get (C := RX5) (T := TX5) (N := 8) Z 5 inlX5 rfl 0 rfl 3 (by decide) fl_RX5_25 rfl dX5_undo_19 ?_
    refine y_aload_n Z dX5_undo_22 0 rfl rfl ?_
    refine y_get (C := RX5) (T := TX5) (N := 8) Z 5 inlX5 rfl 0 rfl 3 (by decide) fl_RX5_25 rfl dX5_undo_23 ?_
    refine y_VI Z (k_X0_size l D ht0 (fun k => aJ (13 + k)) (J 3)) (y_cwV 0 Z ml_RX5_160 im_X0_size se_X0_size in_X0 co_X0_size rfl rfl hd_X0_size ⟨Nat.le_of_ble_eq_true rfl, Nat.le_of_ble_eq_true rfl⟩) [13, 14] rfl (by decide) 0 13 rfl rfl rfl rfl (Nat.le_of_ble_eq_true rfl) dX5_undo_26 ⟨Nat.le_of_ble_eq_true rfl, Nat.le_of_ble_eq_true rfl⟩ [(aJ 13), (aJ 14)] rfl rfl (wVM cI aJ J) rfl ?_
    refine y_iconst (v := 1) Z dX5_undo_29 (by decide) ?_
    refine y_isub Z dX5_undo_30 ?_
    refine y_VV Z (k_X0_remove l D ht0 (fun k => aJ (13 + k)) (J 3) ((J 3) 0 0 - 1) h_rs) (y_cwV 1 Z ml_RX5_154 im_X0_remove se_X0_remove in_X0 co_X0_remove rfl rfl hd_X0_remove ⟨Nat.le_of_ble_eq_true rfl, Nat.le_of_ble_eq_true rfl⟩) [13, 14] rfl (by decide) 0 13 rfl rfl rfl rfl (Nat.le_of_ble_eq_true rfl) dX5_undo_31 ⟨Nat.le_of_ble_eq_true rfl, Nat.le_of_ble_eq_true rfl⟩ [(aJ 13), (aJ 14)] rfl rfl (wVMR cI aJ (J 0) (J 1) (J 2) (gt_lrem (J 3) ((J 3) 0 0 - 1)) (J 4) (J 5) (J 6) (J 7)) rfl ?_
    refine y_aload_n Z dX5_undo_34 0 rfl rfl ?_
    refine y_VVw Z (k_X5_replayPresent l D ht0 aJ (gs J 3 (gt_lrem (J 3) ((J 3) 0 0 - 1))) (by rw [gs_eq]; exact h_n2)) (y_cwV 0 Z ml_RX5_157 im_X5_replayPresent se_X5_replayPresent in_X5 co_X5_replayPresent rfl rfl hd_X5_replayPresent ⟨Nat.le_of_ble_eq_true rfl, Nat.le_of_ble_eq_true rfl⟩) List.nil List.nil (by simp only [List.nil_append, List.append_nil, wMix, wLog, wPic, wRep, wScr, wVM, wMd, sR_eq, sR_ne, sF_eq, sF_ne, upd_eq, upd_ne, gs_eq, gs_ne, gm_4, gm_ne, Nat.reduceBEq]) 5 0 rfl rfl rfl rfl (Nat.le_of_ble_eq_true rfl) dX5_undo_35 ⟨Nat.le_of_ble_eq_true rfl, Nat.le_of_ble_eq_true rfl⟩ (wVMR cI aJ (gt_copy (J 0) (gt_goTo (gt_lrem (J 3) ((J 3) 0 0 - 1)) ((J 0) 0 7) (-1) (gt_begin (J 4)))) (J 1) (J 2) (gt_lrem (J 3) ((J 3) 0 0 - 1)) (gt_goTo (gt_lrem (J 3) ((J 3) 0 0 - 1)) ((J 0) 0 7) (-1) (gt_begin (J 4))) (J 5) (J 6) (J 7)) (by simp only [List.nil_append, List.append_nil, vm_pr, vm_cn, vm_replay, wMix, wLog, wPic, wRep, wScr, wVM, wMd, sR_eq, sR_ne, sF_eq, sF_ne, upd_eq, upd_ne, gs_eq, gs_ne, gm_4, gm_ne, Nat.reduceBEq]) ?_
    refine y_aload_n Z dX5_undo_38 0 rfl rfl ?_
    refine y_get (C := RX5) (T := TX5) (N := 8) Z 5 inlX5 rfl 0 rfl 3 (by decide) fl_RX5_25 rfl dX5_undo_39 ?_
    refine y_VI Z (k_X0_size l D ht0 (fun k => aJ (13 + k)) (gt_lrem (J 3) ((J 3) 0 0 - 1))) (y_cwV 0 Z ml_RX5_160 im_X0_size se_X0_size in_X0 co_X0_size rfl rfl hd_X0_size ⟨Nat.le_of_ble_eq_true rfl, Nat.le_of_ble_eq_true rfl⟩) [13, 14] rfl (by decide) 0 13 rfl rfl rfl rfl (Nat.le_of_ble_eq_true rfl) dX5_undo_42 ⟨Nat.le_of_ble_eq_true rfl, Nat.le_of_ble_eq_true rfl⟩ [(aJ 13), (aJ 14)] rfl rfl (wVMR cI aJ (gt_copy (J 0) (gt_goTo (gt_lrem (J 3) ((J 3) 0 0 - 1)) ((J 0) 0 7) (-1) (gt_begin (J 4)))) (J 1) (J 2) (gt_lrem (J 3) ((J 3) 0 0 - 1)) (gt_goTo (gt_lrem (J 3) ((J 3) 0 0 - 1)) ((J 0) 0 7) (-1) (gt_begin (J 4))) (J 5) (J 6) (J 7)) rfl ?_
    exact y_retI Z hr hlk dX5_undo_45 (by first | (simp only [vm_tk, vm_cn, vm_rm, vm_replay, h1, if_true, if_false, not_false_eq_true, not_true_eq_false, ↓reduceIte]; done) | (simp only [vm_tk, vm_cn, vm_rm, vm_replay, h1, if_true, if_false, not_false_eq_true, not_true_eq_false, ↓reduceIte, wMix, wLog, wPic, wRep, wScr, wVM, wMd, sR_eq, sR_ne, sF_eq, sF_ne, upd_eq, upd_ne, gs_eq, gs_ne, gm_4, gm_ne, Nat.reduceBEq]; done) | (with_reducible rfl) | contradiction | (simp only [vm_tk, vm_cn, vm_rm, vm_replay, h1, if_true, if_false, not_false_eq_true, not_true_eq_false, ↓reduceIte]; rfl) | rfl) (by first | (simp only [vm_tk, vm_cn, vm_rm, vm_replay, h1, if_true, if_false, not_false_eq_true, not_true_eq_false, ↓reduceIte]; done) | (simp only [vm_tk, vm_cn, vm_rm, vm_replay, h1, if_true, if_false, not_false_eq_true, not_true_eq_false, ↓reduceIte, wMix, wLog, wPic, wRep, wScr, wVM, wMd, sR_eq, sR_ne, sF_eq, sF_ne, upd_eq, upd_ne, gs_eq, gs_ne, gm_4, gm_ne, Nat.reduceBEq]; done) | (with_reducible rfl) | contradiction | (simp only [vm_tk, vm_cn, vm_rm, vm_replay, h1, if_true, if_false, not_false_eq_true, not_true_eq_false, ↓reduceIte]; rfl) | rfl)
  · exact absurd h_u (by simp only [okS, okK, okR, okM, okT, okA, okP, okU, okB, okW, eq_true h2, if_true, if_false, not_false_eq_true, not_true_eq_false, ↓reduceIte, and_true, true_and, and_false, false_and])
set_option maxHeartbeats 4000000 in
set_option maxRecDepth 100000 in
theorem k_X5_undo_b0 (l : Launch) (htr : l.stackTraces = false) (D : va_G) {cI : ClassId} {tys : List (ClassId × FieldType)} (ht0 : tys[0]? = some (cI, .int)) (aJ : Nat → Nat) (J : Nat → Nat → Nat → Int32) (h_bad : ¬ (okU J)) (sz : Nat) : kB l yX5_undo cX5_undo 1 (some .int) { frames := 7, cells := 1, slots := 6, locals := 154 } D tys [.ref (aJ 0)] (wVM cI aJ J) "java/lang/IllegalStateException" sz := by
  refine y_enterB (cc := cX5_undo) (maxL := 1) (ret := (some .int)) (own := RX5) htr (by decide) rfl (lv0 := [(0, .ref (aJ 0))]) rfl (Nat.le_of_ble_eq_true rfl) ?_
  intro p e s m args below meth c A Z X hr hlk
  refine y_aload_n Z dX5_undo_0 0 rfl rfl ?_
  refine y_get (C := RX5) (T := TX5) (N := 8) Z 5 inlX5 rfl 0 rfl 3 (by decide) fl_RX5_25 rfl dX5_undo_1 ?_
  refine y_VI Z (k_X0_size l D ht0 (fun k => aJ (13 + k)) (J 3)) (y_cwV 0 Z ml_RX5_160 im_X0_size se_X0_size in_X0 co_X0_size rfl rfl hd_X0_size ⟨Nat.le_of_ble_eq_true rfl, Nat.le_of_ble_eq_true rfl⟩) [13, 14] rfl (by decide) 0 13 rfl rfl rfl rfl (Nat.le_of_ble_eq_true rfl) dX5_undo_4 ⟨Nat.le_of_ble_eq_true rfl, Nat.le_of_ble_eq_true rfl⟩ [(aJ 13), (aJ 14)] rfl rfl (wVM cI aJ J) rfl ?_
  refine y_if_ne (tgt := 18) Z dX5_undo_7 (by decide) (fun h1 => ?_) (fun h2 => ?_)
  · exact absurd (show okU J by simp only [okS, okK, okR, okM, okT, okA, okP, okU, okB, okW, h1, if_true, if_false, not_false_eq_true, not_true_eq_false, ↓reduceIte, and_true, true_and, and_false, false_and]) h_bad
  · exact y_throw Z X hlk yEx yx_f75 yx_names cl_RX5_75 in_IllegalStateException yx_a75 yx_b75 yx_g75 dX5_undo_10 dX5_undo_13 dX5_undo_14 dX5_undo_17 (Nat.le_of_ble_eq_true rfl) (Nat.le_of_ble_eq_true rfl) (Nat.le_of_ble_eq_true rfl) (Nat.le_of_ble_eq_true rfl) (Nat.le_of_ble_eq_true rfl) (Nat.le_of_ble_eq_true rfl)
set_option maxHeartbeats 4000000 in
set_option maxRecDepth 100000 in
theorem k_X5_timesRed (l : Launch) (D : va_G) {cI : ClassId} {tys : List (ClassId × FieldType)} (ht0 : tys[0]? = some (cI, .int)) (aJ : Nat → Nat) (J : Nat → Nat → Nat → Int32) (q : Int32) (h_n : J 3 0 0 ≤ 100) (h_stop : trC J (trX J q) = false) (h_q : okS q) (sz : Nat) : kI l yX5_timesRed cX5_timesRed 6 (some .int) { frames := 7, cells := 0, slots := 0, locals := 155 } D tys [.ref (aJ 0), .int q] (wVM cI aJ J) (wVM cI aJ (vm_46 J (trX J q).1 (trX J q).2.1)) ((trX J q).2.2.1) 0 0 sz := by
  refine y_enterI (cc := cX5_timesRed) (maxL := 6) (ret := (some .int)) (own := RX5) (by decide) rfl (lv0 := [(0, .ref (aJ 0)), (1, .int q)]) rfl (Nat.le_of_ble_eq_true rfl) ?_
  intro p e s m args below meth c A Z hr hlk _
  have L18 : ∀ (n : Nat) (x : (Nat → Nat → Int32) × (Nat → Nat → Int32) × Int32 × Int32 × Int32), 0 ≤ x.1 4 0 → (trC J) (lw (trC J) (trB J q) n x) = false → lw (trC J) (trB J q) n x = (lw (trC J) (trB J q) 5002 (gt_begin (J 4), J 6, 0, 1, 0)) → Yy p l e { frames := 7, cells := 0, slots := 0, locals := 155 } s m args below meth c (QI D tys A (wVM cI aJ (vm_46 J (trX J q).1 (trX J q).2.1)) ((trX J q).2.2.1) below args s 0 0) D A 6 0 0 (wVMR cI aJ (J 0) (J 1) (J 2) (J 3) x.1 (J 5) x.2.1 (J 7)) [(0, .ref (aJ 0)), (1, .int q), (2, .int x.2.2.1), (3, .int x.2.2.2.1), (4, .int x.2.2.2.2)] [] 18 := by
    intro n; induction n with
    | zero =>
      intro x hI hc hx
      refine y_iload Z dX5_timesRed_18 4 rfl ?_
      refine y_aload_n Z dX5_timesRed_20 0 rfl rfl ?_
      refine y_get (C := RX5) (T := TX5) (N := 8) Z 5 inlX5 rfl 0 rfl 0 (by decide) fl_RX5_10 rfl dX5_timesRed_21 ?_
      refine y_getN (host := RX5) (C := RX1) (T := TX1) (N := 14) Z 1 inlX1 rfl 1 rfl 7 (by decide) nl_RX5_71 rfl dX5_timesRed_24 ?_
      refine y_icmp_gt (tgt := 83) Z dX5_timesRed_27 (by decide) (fun h1 => ?_) (fun h2 => ?_)
      · have hb : (trC J) x = false := by simp only [trC, h1, ↓reduceIte]
        have ex : x = (lw (trC J) (trB J q) 5002 (gt_begin (J 4), J 6, 0, 1, 0)) := by rw [← hx, lw_f hb]
        refine y_iload_n Z dX5_timesRed_83 2 rfl rfl ?_
        exact y_retI Z hr hlk dX5_timesRed_84 (by subst ex; first | (simp only [vm_46, trX, h1, if_true, if_false, not_false_eq_true, not_true_eq_false, ↓reduceIte]; done) | (simp only [vm_46, trX, h1, if_true, if_false, not_false_eq_true, not_true_eq_false, ↓reduceIte, wMix, wLog, wPic, wRep, wScr, wVM, wMd, sR_eq, sR_ne, sF_eq, sF_ne, upd_eq, upd_ne, gs_eq, gs_ne, gm_4, gm_ne, Nat.reduceBEq]; done) | (with_reducible rfl) | contradiction | (simp only [vm_46, trX, h1, if_true, if_false, not_false_eq_true, not_true_eq_false, ↓reduceIte]; rfl) | rfl) (by subst ex; first | (simp only [vm_46, trX, h1, if_true, if_false, not_false_eq_true, not_true_eq_false, ↓reduceIte]; done) | (simp only [vm_46, trX, h1, if_true, if_false, not_false_eq_true, not_true_eq_false, ↓reduceIte, wMix, wLog, wPic, wRep, wScr, wVM, wMd, sR_eq, sR_ne, sF_eq, sF_ne, upd_eq, upd_ne, gs_eq, gs_ne, gm_4, gm_ne, Nat.reduceBEq]; done) | (with_reducible rfl) | contradiction | (simp only [vm_46, trX, h1, if_true, if_false, not_false_eq_true, not_true_eq_false, ↓reduceIte]; rfl) | rfl)
      · exact absurd (show (trC J) x = true by simp only [trC, h2, ↓reduceIte]) (by rw [show (trC J) x = false from hc]; decide)
    | succ n ih =>
      intro x hI hc hx
      refine y_iload Z dX5_timesRed_18 4 rfl ?_
      refine y_aload_n Z dX5_timesRed_20 0 rfl rfl ?_
      refine y_get (C := RX5) (T := TX5) (N := 8) Z 5 inlX5 rfl 0 rfl 0 (by decide) fl_RX5_10 rfl dX5_timesRed_21 ?_
      refine y_getN (host := RX5) (C := RX1) (T := TX1) (N := 14) Z 1 inlX1 rfl 1 rfl 7 (by decide) nl_RX5_71 rfl dX5_timesRed_24 ?_
      refine y_icmp_gt (tgt := 83) Z dX5_timesRed_27 (by decide) (fun h3 => ?_) (fun h4 => ?_)
      · have hb : (trC J) x = false := by simp only [trC, h3, ↓reduceIte]
        have ex : x = (lw (trC J) (trB J q) 5002 (gt_begin (J 4), J 6, 0, 1, 0)) := by rw [← hx, lw_f hb]
        refine y_iload_n Z dX5_timesRed_83 2 rfl rfl ?_
        exact y_retI Z hr hlk dX5_timesRed_84 (by subst ex; first | (simp only [vm_46, trX, h3, if_true, if_false, not_false_eq_true, not_true_eq_false, ↓reduceIte]; done) | (simp only [vm_46, trX, h3, if_true, if_false, not_false_eq_true, not_true_eq_false, ↓reduceIte, wMix, wLog, wPic, wRep, wScr, wVM, wMd, sR_eq, sR_ne, sF_eq, sF_ne, upd_eq, upd_ne, gs_eq, gs_ne, gm_4, gm_ne, Nat.reduceBEq]; done) | (with_reducible rfl) | contradiction | (simp only [vm_46, trX, h3, if_true, if_false, not_false_eq_true, not_true_eq_false, ↓reduceIte]; rfl) | rfl) (by subst ex; first | (simp only [vm_46, trX, h3, if_true, if_false, not_false_eq_true, not_true_eq_false, ↓reduceIte]; done) | (simp only [vm_46, trX, h3, if_true, if_false, not_false_eq_true, not_true_eq_false, ↓reduceIte, wMix, wLog, wPic, wRep, wScr, wVM, wMd, sR_eq, sR_ne, sF_eq, sF_ne, upd_eq, upd_ne, gs_eq, gs_ne, gm_4, gm_ne, Nat.reduceBEq]; done) | (with_reducible rfl) | contradiction | (simp only [vm_46, trX, h3, if_true, if_false, not_false_eq_true, not_true_eq_false, ↓reduceIte]; rfl) | rfl)
      · have hb : (trC J) x = true := by simp only [trC, h4, ↓reduceIte]
        refine y_aload_n Z dX5_timesRed_30 0 rfl rfl ?_
        refine y_iload Z dX5_timesRed_31 4 rfl ?_
        refine y_VIw Z (k_X5_redsAt l D ht0 aJ (gs (gs J 4 x.1) 6 x.2.1) x.2.2.2.2 (by simp only [gs_eq, gs_ne, Nat.reduceBEq]; exact h_n) (by simp only [gs_eq, gs_ne, Nat.reduceBEq]; exact hI)) (y_cwV 1 Z ml_RX5_129 im_X5_redsAt se_X5_redsAt in_X5 co_X5_redsAt rfl rfl hd_X5_redsAt ⟨Nat.le_of_ble_eq_true rfl, Nat.le_of_ble_eq_true rfl⟩) List.nil List.nil (by simp only [List.nil_append, List.append_nil, wMix, wLog, wPic, wRep, wScr, wVM, wMd, sR_eq, sR_ne, sF_eq, sF_ne, upd_eq, upd_ne, gs_eq, gs_ne, gm_4, gm_ne, Nat.reduceBEq]) 5 0 rfl rfl rfl rfl (Nat.le_of_ble_eq_true rfl) dX5_timesRed_33 ⟨Nat.le_of_ble_eq_true rfl, Nat.le_of_ble_eq_true rfl⟩ (wVMR cI aJ (J 0) (J 1) (J 2) (J 3) (gt_goTo (J 3) x.2.2.2.2 (-1) x.1) (J 5) (gt_paint (gt_goTo (J 3) x.2.2.2.2 (-1) x.1) x.2.1) (J 7)) (by simp only [List.nil_append, List.append_nil, vm_ra, vm_pO, wMix, wLog, wPic, wRep, wScr, wVM, wMd, sR_eq, sR_ne, sF_eq, sF_ne, upd_eq, upd_ne, gs_eq, gs_ne, gm_4, gm_ne, Nat.reduceBEq]) ?_
        refine y_eq rfl rfl (st' := [.int (rdF (gt_paint (gt_goTo (J 3) x.2.2.2.2 (-1) x.1) x.2.1))]) (by simp only [vm_ra, vm_pO, wMix, wLog, wPic, wRep, wScr, wVM, wMd, sR_eq, sR_ne, sF_eq, sF_ne, upd_eq, upd_ne, gs_eq, gs_ne, gm_4, gm_ne, Nat.reduceBEq]) ?_
        refine y_iload_n Z dX5_timesRed_36 1 rfl rfl ?_
        refine y_SI Z (k_X5_hasSource l D ht0 (rdF (gt_paint (gt_goTo (J 3) x.2.2.2.2 (-1) x.1) x.2.1)) q) (y_cwS 2 Z ml_RX5_132 st_X5_hasSource in_X5 co_X5_hasSource rfl rfl hs_X5_hasSource ⟨Nat.le_of_ble_eq_true rfl, Nat.le_of_ble_eq_true rfl⟩) [] rfl (by decide) rfl rfl (Nat.le_of_ble_eq_true rfl) dX5_timesRed_37 ⟨Nat.le_of_ble_eq_true rfl, Nat.le_of_ble_eq_true rfl⟩ [] rfl rfl (wVMR cI aJ (J 0) (J 1) (J 2) (J 3) (gt_goTo (J 3) x.2.2.2.2 (-1) x.1) (J 5) (gt_paint (gt_goTo (J 3) x.2.2.2.2 (-1) x.1) x.2.1) (J 7)) rfl ?_
        refine y_istore Z [(5, .int (bitF (rdF (gt_paint (gt_goTo (J 3) x.2.2.2.2 (-1) x.1) x.2.1)) q)), (0, .ref (aJ 0)), (1, .int q), (2, .int x.2.2.1), (3, .int x.2.2.2.1), (4, .int x.2.2.2.2)] dX5_timesRed_40 (by decide) rfl ?_
        refine y_iconst (v := 1) Z dX5_timesRed_42 (by decide) ?_
        refine y_aload_n Z dX5_timesRed_43 1 rfl rfl ?_
        refine y_get (C := RX5) (T := TX5) (N := 8) Z 5 inlX5 rfl 0 rfl 4 (by decide) fl_RX5_32 rfl dX5_timesRed_44 ?_
        refine y_aload_n Z dX5_timesRed_47 1 rfl rfl ?_
        refine y_get (C := RX5) (T := TX5) (N := 8) Z 5 inlX5 rfl 0 rfl 3 (by decide) fl_RX5_25 rfl dX5_timesRed_48 ?_
        refine y_aload_n Z dX5_timesRed_51 1 rfl rfl ?_
        refine y_get (C := RX5) (T := TX5) (N := 8) Z 5 inlX5 rfl 0 rfl 0 (by decide) fl_RX5_10 rfl dX5_timesRed_52 ?_
        refine y_getN (host := RX5) (C := RX1) (T := TX1) (N := 14) Z 1 inlX1 rfl 1 rfl 7 (by decide) nl_RX5_71 rfl dX5_timesRed_55 ?_
        refine y_VI Z (k_X3_sameTimes l D ht0 (fun k => aJ (15 + k)) (gt_goTo (J 3) x.2.2.2.2 (-1) x.1) (fun k => aJ (13 + k)) (J 3) ((J 0) 0 7)) (y_cwV 2 Z ml_RX5_136 im_X3_sameTimes se_X3_sameTimes in_X3 co_X3_sameTimes rfl rfl hd_X3_sameTimes ⟨Nat.le_of_ble_eq_true rfl, Nat.le_of_ble_eq_true rfl⟩) [15, 16, 17, 18, 19, 13, 14] rfl (by decide) 3 15 rfl rfl rfl rfl (Nat.le_of_ble_eq_true rfl) dX5_timesRed_58 ⟨Nat.le_of_ble_eq_true rfl, Nat.le_of_ble_eq_true rfl⟩ [(aJ 15), (aJ 16), (aJ 17), (aJ 18), (aJ 19), (aJ 13), (aJ 14)] rfl rfl (wVMR cI aJ (J 0) (J 1) (J 2) (J 3) (gt_goTo (J 3) x.2.2.2.2 (-1) x.1) (J 5) (gt_paint (gt_goTo (J 3) x.2.2.2.2 (-1) x.1) x.2.1) (J 7)) rfl ?_
        refine y_mmax Z ml_RX5_140 st_mmax in_Math co_mmax (Nat.le_of_ble_eq_true rfl) (Nat.le_of_ble_eq_true rfl) (Nat.le_of_ble_eq_true rfl) (Nat.le_of_ble_eq_true rfl) dX5_timesRed_61 ?_
        refine y_istore_n Z [(3, .int (if 1 < stF (J 3) (gt_goTo (J 3) x.2.2.2.2 (-1) x.1) ((J 0) 0 7) then stF (J 3) (gt_goTo (J 3) x.2.2.2.2 (-1) x.1) ((J 0) 0 7) else 1)), (5, .int (bitF (rdF (gt_paint (gt_goTo (J 3) x.2.2.2.2 (-1) x.1) x.2.1)) q)), (0, .ref (aJ 0)), (1, .int q), (2, .int x.2.2.1), (4, .int x.2.2.2.2)] dX5_timesRed_64 rfl (by decide) rfl ?_
        refine y_iload Z dX5_timesRed_65 1 rfl ?_
        refine y_if_eq (tgt := 74) Z dX5_timesRed_67 (by decide) (fun h5 => ?_) (fun h6 => ?_)
        · refine y_iload Z dX5_timesRed_74 5 rfl ?_
          refine y_iload_n Z dX5_timesRed_76 0 rfl rfl ?_
          refine y_iadd Z dX5_timesRed_77 ?_
          refine y_istore Z [(4, .int (x.2.2.2.2 + (if 1 < stF (J 3) (gt_goTo (J 3) x.2.2.2.2 (-1) x.1) ((J 0) 0 7) then stF (J 3) (gt_goTo (J 3) x.2.2.2.2 (-1) x.1) ((J 0) 0 7) else 1))), (3, .int (if 1 < stF (J 3) (gt_goTo (J 3) x.2.2.2.2 (-1) x.1) ((J 0) 0 7) then stF (J 3) (gt_goTo (J 3) x.2.2.2.2 (-1) x.1) ((J 0) 0 7) else 1)), (5, .int (bitF (rdF (gt_paint (gt_goTo (J 3) x.2.2.2.2 (-1) x.1) x.2.1)) q)), (0, .ref (aJ 0)), (1, .int q), (2, .int x.2.2.1)] dX5_timesRed_78 (by decide) rfl ?_
          refine y_goto (tgt := 18) Z dX5_timesRed_80 (by decide) ?_
          refine y_lv [3, 4, 5, 1, 0] (lv' := [(0, .ref (aJ 0)), (1, .int q), (2, .int x.2.2.1), (3, .int (if 1 < stF (J 3) (gt_goTo (J 3) x.2.2.2.2 (-1) x.1) ((J 0) 0 7) then stF (J 3) (gt_goTo (J 3) x.2.2.2.2 (-1) x.1) ((J 0) 0 7) else 1)), (4, .int (x.2.2.2.2 + (if 1 < stF (J 3) (gt_goTo (J 3) x.2.2.2.2 (-1) x.1) ((J 0) 0 7) then stF (J 3) (gt_goTo (J 3) x.2.2.2.2 (-1) x.1) ((J 0) 0 7) else 1)))]) rfl ?_
          refine y_eq (ws' := (wVMR cI aJ (J 0) (J 1) (J 2) (J 3) (((trB J q) x).1) (J 5) (((trB J q) x).2.1) (J 7))) (lv' := [(0, .ref (aJ 0)), (1, .int q), (2, .int (((trB J q) x).2.2.1)), (3, .int (((trB J q) x).2.2.2.1)), (4, .int (((trB J q) x).2.2.2.2))]) (st' := []) (by first | (simp only [trB, vm_ra, vm_pO, lpR, lpO, lpS, mx1, h4, eq_true h5, if_true, if_false, not_false_eq_true, not_true_eq_false, ↓reduceIte]; done) | (simp only [trB, vm_ra, vm_pO, lpR, lpO, lpS, mx1, h4, eq_true h5, if_true, if_false, not_false_eq_true, not_true_eq_false, ↓reduceIte, wMix, wLog, wPic, wRep, wScr, wVM, wMd, sR_eq, sR_ne, sF_eq, sF_ne, upd_eq, upd_ne, gs_eq, gs_ne, gm_4, gm_ne, Nat.reduceBEq]; done) | (with_reducible rfl) | contradiction | (simp only [trB, vm_ra, vm_pO, lpR, lpO, lpS, mx1, h4, eq_true h5, if_true, if_false, not_false_eq_true, not_true_eq_false, ↓reduceIte]; rfl) | rfl) (by first | (simp only [trB, vm_ra, vm_pO, lpR, lpO, lpS, mx1, h4, eq_true h5, if_true, if_false, not_false_eq_true, not_true_eq_false, ↓reduceIte]; done) | (simp only [trB, vm_ra, vm_pO, lpR, lpO, lpS, mx1, h4, eq_true h5, if_true, if_false, not_false_eq_true, not_true_eq_false, ↓reduceIte, wMix, wLog, wPic, wRep, wScr, wVM, wMd, sR_eq, sR_ne, sF_eq, sF_ne, upd_eq, upd_ne, gs_eq, gs_ne, gm_4, gm_ne, Nat.reduceBEq]; done) | (with_reducible rfl) | contradiction | (simp only [trB, vm_ra, vm_pO, lpR, lpO, lpS, mx1, h4, eq_true h5, if_true, if_false, not_false_eq_true, not_true_eq_false, ↓reduceIte]; rfl) | rfl) rfl ?_
          exact ih _ (go_nn h_n hI) (by rw [lw_t hb] at hc; exact hc) (by rw [lw_t hb] at hx; exact hx)
        · refine y_iload_n Z dX5_timesRed_70 4 rfl rfl ?_
          refine y_iload_n Z dX5_timesRed_71 0 rfl rfl ?_
          refine y_iadd Z dX5_timesRed_72 ?_
          refine y_istore_n Z [(2, .int (x.2.2.1 + (if 1 < stF (J 3) (gt_goTo (J 3) x.2.2.2.2 (-1) x.1) ((J 0) 0 7) then stF (J 3) (gt_goTo (J 3) x.2.2.2.2 (-1) x.1) ((J 0) 0 7) else 1))), (3, .int (if 1 < stF (J 3) (gt_goTo (J 3) x.2.2.2.2 (-1) x.1) ((J 0) 0 7) then stF (J 3) (gt_goTo (J 3) x.2.2.2.2 (-1) x.1) ((J 0) 0 7) else 1)), (5, .int (bitF (rdF (gt_paint (gt_goTo (J 3) x.2.2.2.2 (-1) x.1) x.2.1)) q)), (0, .ref (aJ 0)), (1, .int q), (4, .int x.2.2.2.2)] dX5_timesRed_73 rfl (by decide) rfl ?_
          refine y_iload Z dX5_timesRed_74 5 rfl ?_
          refine y_iload_n Z dX5_timesRed_76 1 rfl rfl ?_
          refine y_iadd Z dX5_timesRed_77 ?_
          refine y_istore Z [(4, .int (x.2.2.2.2 + (if 1 < stF (J 3) (gt_goTo (J 3) x.2.2.2.2 (-1) x.1) ((J 0) 0 7) then stF (J 3) (gt_goTo (J 3) x.2.2.2.2 (-1) x.1) ((J 0) 0 7) else 1))), (2, .int (x.2.2.1 + (if 1 < stF (J 3) (gt_goTo (J 3) x.2.2.2.2 (-1) x.1) ((J 0) 0 7) then stF (J 3) (gt_goTo (J 3) x.2.2.2.2 (-1) x.1) ((J 0) 0 7) else 1))), (3, .int (if 1 < stF (J 3) (gt_goTo (J 3) x.2.2.2.2 (-1) x.1) ((J 0) 0 7) then stF (J 3) (gt_goTo (J 3) x.2.2.2.2 (-1) x.1) ((J 0) 0 7) else 1)), (5, .int (bitF (rdF (gt_paint (gt_goTo (J 3) x.2.2.2.2 (-1) x.1) x.2.1)) q)), (0, .ref (aJ 0)), (1, .int q)] dX5_timesRed_78 (by decide) rfl ?_
          refine y_goto (tgt := 18) Z dX5_timesRed_80 (by decide) ?_
          refine y_lv [4, 5, 1, 2, 0] (lv' := [(0, .ref (aJ 0)), (1, .int q), (2, .int (x.2.2.1 + (if 1 < stF (J 3) (gt_goTo (J 3) x.2.2.2.2 (-1) x.1) ((J 0) 0 7) then stF (J 3) (gt_goTo (J 3) x.2.2.2.2 (-1) x.1) ((J 0) 0 7) else 1))), (3, .int (if 1 < stF (J 3) (gt_goTo (J 3) x.2.2.2.2 (-1) x.1) ((J 0) 0 7) then stF (J 3) (gt_goTo (J 3) x.2.2.2.2 (-1) x.1) ((J 0) 0 7) else 1)), (4, .int (x.2.2.2.2 + (if 1 < stF (J 3) (gt_goTo (J 3) x.2.2.2.2 (-1) x.1) ((J 0) 0 7) then stF (J 3) (gt_goTo (J 3) x.2.2.2.2 (-1) x.1) ((J 0) 0 7) else 1)))]) rfl ?_
          refine y_eq (ws' := (wVMR cI aJ (J 0) (J 1) (J 2) (J 3) (((trB J q) x).1) (J 5) (((trB J q) x).2.1) (J 7))) (lv' := [(0, .ref (aJ 0)), (1, .int q), (2, .int (((trB J q) x).2.2.1)), (3, .int (((trB J q) x).2.2.2.1)), (4, .int (((trB J q) x).2.2.2.2))]) (st' := []) (by first | (simp only [trB, vm_ra, vm_pO, lpR, lpO, lpS, mx1, h4, h6, if_true, if_false, not_false_eq_true, not_true_eq_false, ↓reduceIte]; done) | (simp only [trB, vm_ra, vm_pO, lpR, lpO, lpS, mx1, h4, h6, if_true, if_false, not_false_eq_true, not_true_eq_false, ↓reduceIte, wMix, wLog, wPic, wRep, wScr, wVM, wMd, sR_eq, sR_ne, sF_eq, sF_ne, upd_eq, upd_ne, gs_eq, gs_ne, gm_4, gm_ne, Nat.reduceBEq]; done) | (with_reducible rfl) | contradiction | (simp only [trB, vm_ra, vm_pO, lpR, lpO, lpS, mx1, h4, h6, if_true, if_false, not_false_eq_true, not_true_eq_false, ↓reduceIte]; rfl) | rfl) (by first | (simp only [trB, vm_ra, vm_pO, lpR, lpO, lpS, mx1, h4, h6, if_true, if_false, not_false_eq_true, not_true_eq_false, ↓reduceIte]; done) | (simp only [trB, vm_ra, vm_pO, lpR, lpO, lpS, mx1, h4, h6, if_true, if_false, not_false_eq_true, not_true_eq_false, ↓reduceIte, wMix, wLog, wPic, wRep, wScr, wVM, wMd, sR_eq, sR_ne, sF_eq, sF_ne, upd_eq, upd_ne, gs_eq, gs_ne, gm_4, gm_ne, Nat.reduceBEq]; done) | (with_reducible rfl) | contradiction | (simp only [trB, vm_ra, vm_pO, lpR, lpO, lpS, mx1, h4, h6, if_true, if_false, not_false_eq_true, not_true_eq_false, ↓reduceIte]; rfl) | rfl) rfl ?_
          exact ih _ (go_nn h_n hI) (by rw [lw_t hb] at hc; exact hc) (by rw [lw_t hb] at hx; exact hx)
  refine y_iload_n Z dX5_timesRed_0 1 rfl rfl ?_
  refine y_SV Z (k_X5_checkSource l D ht0 q h_q) (y_cwS 1 Z ml_RX5_53 st_X5_checkSource in_X5 co_X5_checkSource rfl rfl hs_X5_checkSource ⟨Nat.le_of_ble_eq_true rfl, Nat.le_of_ble_eq_true rfl⟩) [] rfl (by decide) rfl rfl (Nat.le_of_ble_eq_true rfl) dX5_timesRed_1 ⟨Nat.le_of_ble_eq_true rfl, Nat.le_of_ble_eq_true rfl⟩ [] rfl rfl (wVM cI aJ J) rfl ?_
  refine y_iconst (v := 0) Z dX5_timesRed_4 (by decide) ?_
  refine y_istore_n Z [(2, .int 0), (0, .ref (aJ 0)), (1, .int q)] dX5_timesRed_5 rfl (by decide) rfl ?_
  refine y_iconst (v := 1) Z dX5_timesRed_6 (by decide) ?_
  refine y_istore_n Z [(3, .int 1), (2, .int 0), (0, .ref (aJ 0)), (1, .int q)] dX5_timesRed_7 rfl (by decide) rfl ?_
  refine y_aload_n Z dX5_timesRed_8 2 rfl rfl ?_
  refine y_get (C := RX5) (T := TX5) (N := 8) Z 5 inlX5 rfl 0 rfl 4 (by decide) fl_RX5_32 rfl dX5_timesRed_9 ?_
  refine y_VV Z (k_X3_begin l D ht0 (fun k => aJ (15 + k)) (J 4)) (y_cwV 0 Z ml_RX5_126 im_X3_begin se_X3_begin in_X3 co_X3_begin rfl rfl hd_X3_begin ⟨Nat.le_of_ble_eq_true rfl, Nat.le_of_ble_eq_true rfl⟩) [15, 16, 17, 18, 19] rfl (by decide) 3 15 rfl rfl rfl rfl (Nat.le_of_ble_eq_true rfl) dX5_timesRed_12 ⟨Nat.le_of_ble_eq_true rfl, Nat.le_of_ble_eq_true rfl⟩ [(aJ 15), (aJ 16), (aJ 17), (aJ 18), (aJ 19)] rfl rfl (wVMR cI aJ (J 0) (J 1) (J 2) (J 3) (gt_begin (J 4)) (J 5) (J 6) (J 7)) rfl ?_
  refine y_iconst (v := 0) Z dX5_timesRed_15 (by decide) ?_
  refine y_istore Z [(4, .int 0), (3, .int 1), (2, .int 0), (0, .ref (aJ 0)), (1, .int q)] dX5_timesRed_16 (by decide) rfl ?_
  refine y_lv [3, 4, 2, 1, 0] (lv' := [(0, .ref (aJ 0)), (1, .int q), (2, .int 0), (3, .int 1), (4, .int 0)]) rfl ?_
  exact L18 5002 (gt_begin (J 4), J 6, 0, 1, 0) (bg_nn (J 4)) h_stop rfl
set_option maxHeartbeats 4000000 in
set_option maxRecDepth 100000 in
theorem k_X5_timesRed_b0 (l : Launch) (htr : l.stackTraces = false) (D : va_G) {cI : ClassId} {tys : List (ClassId × FieldType)} (ht0 : tys[0]? = some (cI, .int)) (aJ : Nat → Nat) (J : Nat → Nat → Nat → Int32) (q : Int32) (h_bad : ¬ (okS q)) (sz : Nat) : kB l yX5_timesRed cX5_timesRed 6 (some .int) { frames := 7, cells := 1, slots := 6, locals := 155 } D tys [.ref (aJ 0), .int q] (wVM cI aJ J) "java/lang/IndexOutOfBoundsException" sz := by
  refine y_enterB (cc := cX5_timesRed) (maxL := 6) (ret := (some .int)) (own := RX5) htr (by decide) rfl (lv0 := [(0, .ref (aJ 0)), (1, .int q)]) rfl (Nat.le_of_ble_eq_true rfl) ?_
  intro p e s m args below meth c A Z X hr hlk
  refine y_iload_n Z dX5_timesRed_0 1 rfl rfl ?_
  exact y_SB Z X.2.2 (k_X5_checkSource_b0 l htr D ht0 q h_bad) (y_cwS 1 Z ml_RX5_53 st_X5_checkSource in_X5 co_X5_checkSource rfl rfl hs_X5_checkSource ⟨Nat.le_of_ble_eq_true rfl, Nat.le_of_ble_eq_true rfl⟩) [] rfl (by decide) rfl rfl (Nat.le_of_ble_eq_true rfl) dX5_timesRed_1 ⟨Nat.le_of_ble_eq_true rfl, Nat.le_of_ble_eq_true rfl⟩ rfl (y_outB Z X hlk (Nat.le_of_ble_eq_true rfl) (Nat.le_of_ble_eq_true rfl))
set_option maxHeartbeats 4000000 in
set_option maxRecDepth 100000 in
theorem k_X2_sameParts (l : Launch) (D : va_G) {cI : ClassId} {tys : List (ClassId × FieldType)} (ht0 : tys[0]? = some (cI, .int)) (aP : Nat → Nat) (P : Nat → Nat → Int32) (aN : Nat → Nat) (N : Nat → Nat → Int32) (sz : Nat) : kI l yX2_sameParts cX2_sameParts 3 (some .boolean) { frames := 2, cells := 0, slots := 0, locals := 42 } D tys [.ref (aP 0), .ref (aN 0)] (wPic cI aP P ++ (wPic cI aN N)) (wPic cI aP P ++ (wPic cI aN N)) (smF P N) 0 0 sz := by
  refine y_enterI (cc := cX2_sameParts) (maxL := 3) (ret := (some .boolean)) (own := RX2) (by decide) rfl (lv0 := [(0, .ref (aP 0)), (1, .ref (aN 0))]) rfl (Nat.le_of_ble_eq_true rfl) ?_
  intro p e s m args below meth c A Z hr hlk _
  have L2 : ∀ (n i : Nat), it (smS P N) i 1 = 1 → i + n = 10 → Yy p l e { frames := 2, cells := 0, slots := 0, locals := 42 } s m args below meth c (QI D tys A (wPic cI aP P ++ (wPic cI aN N)) (smF P N) below args s 0 0) D A 3 0 0 (wPic cI aP P ++ (wPic cI aN N)) [(0, .ref (aP 0)), (1, .ref (aN 0)), (2, .int (nI i))] [] 2 := by
    intro n; induction n with
    | zero =>
      intro i hI hi
      have hi : i = 10 := by omega
      subst hi
      refine y_iload_n Z dX2_sameParts_2 2 rfl rfl ?_
      refine y_bipush (v := 10) Z dX2_sameParts_3 (by decide) ?_
      refine y_icmp_ge (tgt := 29) Z dX2_sameParts_5 (by decide) (fun h1 => ?_) (fun h2 => ?_)
      · refine y_iconst (v := 1) Z dX2_sameParts_29 (by decide) ?_
        exact y_retZ Z hr hlk (by decide) dX2_sameParts_30 (by exact hI.symm) (by rfl)
      · exact absurd (nI_le (a := 10) (b := 10) (by omega) (by decide)) h2
    | succ n ih =>
      intro i hI hi
      refine y_iload_n Z dX2_sameParts_2 2 rfl rfl ?_
      refine y_bipush (v := 10) Z dX2_sameParts_3 (by decide) ?_
      refine y_icmp_ge (tgt := 29) Z dX2_sameParts_5 (by decide) (fun h3 => ?_) (fun h4 => ?_)
      · exact absurd h3 (nI_ge (a := i) (b := 10) (by omega) (by decide))
      · refine y_aload_n Z dX2_sameParts_8 0 rfl rfl ?_
        refine y_iload_n Z dX2_sameParts_9 2 rfl rfl ?_
        refine y_VI Z (k_X2_partOf l D ht0 aP P (nI i)) (y_cwV 1 Z ml_RX2_64 im_X2_partOf se_X2_partOf in_X2 co_X2_partOf rfl rfl hd_X2_partOf ⟨Nat.le_of_ble_eq_true rfl, Nat.le_of_ble_eq_true rfl⟩) [0, 1] rfl (by decide) 2 0 rfl rfl rfl rfl (Nat.le_of_ble_eq_true rfl) dX2_sameParts_10 ⟨Nat.le_of_ble_eq_true rfl, Nat.le_of_ble_eq_true rfl⟩ [(aP 0), (aP 1)] rfl rfl (wPic cI aP P ++ (wPic cI aN N)) rfl ?_
        refine y_aload_n Z dX2_sameParts_13 1 rfl rfl ?_
        refine y_iload_n Z dX2_sameParts_14 2 rfl rfl ?_
        refine y_VI Z (k_X2_partOf l D ht0 aN N (nI i)) (y_cwV 1 Z ml_RX2_64 im_X2_partOf se_X2_partOf in_X2 co_X2_partOf rfl rfl hd_X2_partOf ⟨Nat.le_of_ble_eq_true rfl, Nat.le_of_ble_eq_true rfl⟩) [2, 3] rfl (by decide) 2 2 rfl rfl rfl rfl (Nat.le_of_ble_eq_true rfl) dX2_sameParts_15 ⟨Nat.le_of_ble_eq_true rfl, Nat.le_of_ble_eq_true rfl⟩ [(aN 0), (aN 1)] rfl rfl (wPic cI aP P ++ (wPic cI aN N)) rfl ?_
        refine y_icmp_eq (tgt := 23) Z dX2_sameParts_18 (by decide) (fun h5 => ?_) (fun h6 => ?_)
        · refine y_iinc Z [(2, .int (nI (i + 1))), (0, .ref (aP 0)), (1, .ref (aN 0))] dX2_sameParts_23 2 rfl (nI_1 _) (by decide) rfl ?_
          refine y_goto (tgt := 2) Z dX2_sameParts_26 (by decide) ?_
          refine y_lv [1, 2, 0] (lv' := [(0, .ref (aP 0)), (1, .ref (aN 0)), (2, .int (nI (i + 1)))]) rfl ?_
          refine y_eq (ws' := (wPic cI aP P ++ (wPic cI aN N))) (lv' := [(0, .ref (aP 0)), (1, .ref (aN 0)), (2, .int (nI (i + 1)))]) (st' := []) (by first | (simp only [it_s, h4, eq_true h5, if_true, if_false, not_false_eq_true, not_true_eq_false, ↓reduceIte]; done) | (simp only [it_s, h4, eq_true h5, if_true, if_false, not_false_eq_true, not_true_eq_false, ↓reduceIte, wMix, wLog, wPic, wRep, wScr, wVM, wMd, sR_eq, sR_ne, sF_eq, sF_ne, upd_eq, upd_ne, gs_eq, gs_ne, gm_4, gm_ne, Nat.reduceBEq]; done) | (with_reducible rfl) | contradiction | (simp only [it_s, h4, eq_true h5, if_true, if_false, not_false_eq_true, not_true_eq_false, ↓reduceIte]; rfl) | rfl) (by first | (simp only [it_s, h4, eq_true h5, if_true, if_false, not_false_eq_true, not_true_eq_false, ↓reduceIte]; done) | (simp only [it_s, h4, eq_true h5, if_true, if_false, not_false_eq_true, not_true_eq_false, ↓reduceIte, wMix, wLog, wPic, wRep, wScr, wVM, wMd, sR_eq, sR_ne, sF_eq, sF_ne, upd_eq, upd_ne, gs_eq, gs_ne, gm_4, gm_ne, Nat.reduceBEq]; done) | (with_reducible rfl) | contradiction | (simp only [it_s, h4, eq_true h5, if_true, if_false, not_false_eq_true, not_true_eq_false, ↓reduceIte]; rfl) | rfl) rfl ?_
          exact ih (i + 1) (sm_st hI (by assumption)) (by omega)
        · refine y_iconst (v := 0) Z dX2_sameParts_21 (by decide) ?_
          exact y_retZ Z hr hlk (by decide) dX2_sameParts_22 (by exact (sm_ne P N i (by assumption) (by omega)).symm) (by rfl)
  refine y_iconst (v := 0) Z dX2_sameParts_0 (by decide) ?_
  refine y_istore_n Z [(2, .int 0), (0, .ref (aP 0)), (1, .ref (aN 0))] dX2_sameParts_1 rfl (by decide) rfl ?_
  refine y_lv [1, 2, 0] (lv' := [(0, .ref (aP 0)), (1, .ref (aN 0)), (2, .int 0)]) rfl ?_
  exact L2 10 0 rfl (by omega)
set_option maxHeartbeats 4000000 in
set_option maxRecDepth 100000 in
theorem k_X5_firstRed (l : Launch) (D : va_G) {cI : ClassId} {tys : List (ClassId × FieldType)} (ht0 : tys[0]? = some (cI, .int)) (aJ : Nat → Nat) (J : Nat → Nat → Nat → Int32) (q : Int32) (h_n : J 3 0 0 ≤ 100) (h_stop : frC J q (frX J q) = false) (h_q : okS q) (sz : Nat) : kI l yX5_firstRed cX5_firstRed 4 (some .int) { frames := 7, cells := 0, slots := 0, locals := 155 } D tys [.ref (aJ 0), .int q] (wVM cI aJ J) (wVM cI aJ (vm_fr J q)) (frR J q) 0 0 sz := by
  refine y_enterI (cc := cX5_firstRed) (maxL := 4) (ret := (some .int)) (own := RX5) (by decide) rfl (lv0 := [(0, .ref (aJ 0)), (1, .int q)]) rfl (Nat.le_of_ble_eq_true rfl) ?_
  intro p e s m args below meth c A Z hr hlk _
  have L15 : ∀ (n : Nat) (x : (Nat → Nat → Int32) × (Nat → Nat → Int32) × Int32 × Int32), 0 ≤ x.1 4 0 → (frC J q) (lw (frC J q) (frB J) n x) = false → lw (frC J q) (frB J) n x = (lw (frC J q) (frB J) 5002 (gt_begin (J 4), J 6, 1, 0)) → Yy p l e { frames := 7, cells := 0, slots := 0, locals := 155 } s m args below meth c (QI D tys A (wVM cI aJ (vm_fr J q)) (frR J q) below args s 0 0) D A 4 0 0 (wVMR cI aJ (J 0) (J 1) (J 2) (J 3) x.1 (J 5) x.2.1 (J 7)) [(0, .ref (aJ 0)), (1, .int q), (2, .int x.2.2.1), (3, .int x.2.2.2)] [] 15 := by
    intro n; induction n with
    | zero =>
      intro x hI hc hx
      refine y_iload_n Z dX5_firstRed_15 3 rfl rfl ?_
      refine y_aload_n Z dX5_firstRed_16 0 rfl rfl ?_
      refine y_get (C := RX5) (T := TX5) (N := 8) Z 5 inlX5 rfl 0 rfl 0 (by decide) fl_RX5_10 rfl dX5_firstRed_17 ?_
      refine y_getN (host := RX5) (C := RX1) (T := TX1) (N := 14) Z 1 inlX1 rfl 1 rfl 7 (by decide) nl_RX5_71 rfl dX5_firstRed_20 ?_
      refine y_icmp_gt (tgt := 70) Z dX5_firstRed_23 (by decide) (fun h1 => ?_) (fun h2 => ?_)
      · have hb : (frC J q) x = false := by simp only [frC, lpO, lpR, h1, ↓reduceIte]
        have ex : x = (lw (frC J q) (frB J) 5002 (gt_begin (J 4), J 6, 1, 0)) := by rw [← hx, lw_f hb]
        refine y_iconst (v := -1) Z dX5_firstRed_70 (by decide) ?_
        exact y_retI Z hr hlk dX5_firstRed_71 (by subst ex; first | (simp only [frR, vm_fr, vm_46, frX, lpR, lpO, h1, if_true, if_false, not_false_eq_true, not_true_eq_false, ↓reduceIte]; done) | (simp only [frR, vm_fr, vm_46, frX, lpR, lpO, h1, if_true, if_false, not_false_eq_true, not_true_eq_false, ↓reduceIte, wMix, wLog, wPic, wRep, wScr, wVM, wMd, sR_eq, sR_ne, sF_eq, sF_ne, upd_eq, upd_ne, gs_eq, gs_ne, gm_4, gm_ne, Nat.reduceBEq]; done) | (with_reducible rfl) | contradiction | (simp only [frR, vm_fr, vm_46, frX, lpR, lpO, h1, if_true, if_false, not_false_eq_true, not_true_eq_false, ↓reduceIte]; rfl) | rfl) (by subst ex; first | (simp only [frR, vm_fr, vm_46, frX, lpR, lpO, h1, if_true, if_false, not_false_eq_true, not_true_eq_false, ↓reduceIte]; done) | (simp only [frR, vm_fr, vm_46, frX, lpR, lpO, h1, if_true, if_false, not_false_eq_true, not_true_eq_false, ↓reduceIte, wMix, wLog, wPic, wRep, wScr, wVM, wMd, sR_eq, sR_ne, sF_eq, sF_ne, upd_eq, upd_ne, gs_eq, gs_ne, gm_4, gm_ne, Nat.reduceBEq]; done) | (with_reducible rfl) | contradiction | (simp only [frR, vm_fr, vm_46, frX, lpR, lpO, h1, if_true, if_false, not_false_eq_true, not_true_eq_false, ↓reduceIte]; rfl) | rfl)
      · refine y_aload_n Z dX5_firstRed_26 0 rfl rfl ?_
        refine y_iload_n Z dX5_firstRed_27 3 rfl rfl ?_
        refine y_VIw Z (k_X5_redsAt l D ht0 aJ (gs (gs J 4 x.1) 6 x.2.1) x.2.2.2 (by simp only [gs_eq, gs_ne, Nat.reduceBEq]; exact h_n) (by simp only [gs_eq, gs_ne, Nat.reduceBEq]; exact hI)) (y_cwV 1 Z ml_RX5_129 im_X5_redsAt se_X5_redsAt in_X5 co_X5_redsAt rfl rfl hd_X5_redsAt ⟨Nat.le_of_ble_eq_true rfl, Nat.le_of_ble_eq_true rfl⟩) List.nil List.nil (by simp only [List.nil_append, List.append_nil, wMix, wLog, wPic, wRep, wScr, wVM, wMd, sR_eq, sR_ne, sF_eq, sF_ne, upd_eq, upd_ne, gs_eq, gs_ne, gm_4, gm_ne, Nat.reduceBEq]) 5 0 rfl rfl rfl rfl (Nat.le_of_ble_eq_true rfl) dX5_firstRed_28 ⟨Nat.le_of_ble_eq_true rfl, Nat.le_of_ble_eq_true rfl⟩ (wVMR cI aJ (J 0) (J 1) (J 2) (J 3) (gt_goTo (J 3) x.2.2.2 (-1) x.1) (J 5) (gt_paint (gt_goTo (J 3) x.2.2.2 (-1) x.1) x.2.1) (J 7)) (by simp only [List.nil_append, List.append_nil, vm_ra, vm_pO, wMix, wLog, wPic, wRep, wScr, wVM, wMd, sR_eq, sR_ne, sF_eq, sF_ne, upd_eq, upd_ne, gs_eq, gs_ne, gm_4, gm_ne, Nat.reduceBEq]) ?_
        refine y_eq rfl rfl (st' := [.int (rdF (gt_paint (gt_goTo (J 3) x.2.2.2 (-1) x.1) x.2.1))]) (by simp only [vm_ra, vm_pO, wMix, wLog, wPic, wRep, wScr, wVM, wMd, sR_eq, sR_ne, sF_eq, sF_ne, upd_eq, upd_ne, gs_eq, gs_ne, gm_4, gm_ne, Nat.reduceBEq]) ?_
        refine y_iload_n Z dX5_firstRed_31 1 rfl rfl ?_
        refine y_SI Z (k_X5_hasSource l D ht0 (rdF (gt_paint (gt_goTo (J 3) x.2.2.2 (-1) x.1) x.2.1)) q) (y_cwS 2 Z ml_RX5_132 st_X5_hasSource in_X5 co_X5_hasSource rfl rfl hs_X5_hasSource ⟨Nat.le_of_ble_eq_true rfl, Nat.le_of_ble_eq_true rfl⟩) [] rfl (by decide) rfl rfl (Nat.le_of_ble_eq_true rfl) dX5_firstRed_32 ⟨Nat.le_of_ble_eq_true rfl, Nat.le_of_ble_eq_true rfl⟩ [] rfl rfl (wVMR cI aJ (J 0) (J 1) (J 2) (J 3) (gt_goTo (J 3) x.2.2.2 (-1) x.1) (J 5) (gt_paint (gt_goTo (J 3) x.2.2.2 (-1) x.1) x.2.1) (J 7)) rfl ?_
        refine y_if_eq (tgt := 40) Z dX5_firstRed_35 (by decide) (fun h3 => ?_) (fun h4 => ?_)
        · exact absurd (show (frC J q) x = true by simp only [frC, lpO, lpR, h2, eq_true h3, ↓reduceIte]) (by rw [show (frC J q) x = false from hc]; decide)
        · have hb : (frC J q) x = false := by simp only [frC, lpO, lpR, h2, h4, ↓reduceIte]
          have ex : x = (lw (frC J q) (frB J) 5002 (gt_begin (J 4), J 6, 1, 0)) := by rw [← hx, lw_f hb]
          refine y_iload_n Z dX5_firstRed_38 3 rfl rfl ?_
          exact y_retI Z hr hlk dX5_firstRed_39 (by subst ex; first | (simp only [frR, vm_fr, vm_46, frX, lpR, lpO, h2, h4, if_true, if_false, not_false_eq_true, not_true_eq_false, ↓reduceIte]; done) | (simp only [frR, vm_fr, vm_46, frX, lpR, lpO, h2, h4, if_true, if_false, not_false_eq_true, not_true_eq_false, ↓reduceIte, wMix, wLog, wPic, wRep, wScr, wVM, wMd, sR_eq, sR_ne, sF_eq, sF_ne, upd_eq, upd_ne, gs_eq, gs_ne, gm_4, gm_ne, Nat.reduceBEq]; done) | (with_reducible rfl) | contradiction | (simp only [frR, vm_fr, vm_46, frX, lpR, lpO, h2, h4, if_true, if_false, not_false_eq_true, not_true_eq_false, ↓reduceIte]; rfl) | rfl) (by subst ex; first | (simp only [frR, vm_fr, vm_46, frX, lpR, lpO, h2, h4, if_true, if_false, not_false_eq_true, not_true_eq_false, ↓reduceIte]; done) | (simp only [frR, vm_fr, vm_46, frX, lpR, lpO, h2, h4, if_true, if_false, not_false_eq_true, not_true_eq_false, ↓reduceIte, wMix, wLog, wPic, wRep, wScr, wVM, wMd, sR_eq, sR_ne, sF_eq, sF_ne, upd_eq, upd_ne, gs_eq, gs_ne, gm_4, gm_ne, Nat.reduceBEq]; done) | (with_reducible rfl) | contradiction | (simp only [frR, vm_fr, vm_46, frX, lpR, lpO, h2, h4, if_true, if_false, not_false_eq_true, not_true_eq_false, ↓reduceIte]; rfl) | rfl)
    | succ n ih =>
      intro x hI hc hx
      refine y_iload_n Z dX5_firstRed_15 3 rfl rfl ?_
      refine y_aload_n Z dX5_firstRed_16 0 rfl rfl ?_
      refine y_get (C := RX5) (T := TX5) (N := 8) Z 5 inlX5 rfl 0 rfl 0 (by decide) fl_RX5_10 rfl dX5_firstRed_17 ?_
      refine y_getN (host := RX5) (C := RX1) (T := TX1) (N := 14) Z 1 inlX1 rfl 1 rfl 7 (by decide) nl_RX5_71 rfl dX5_firstRed_20 ?_
      refine y_icmp_gt (tgt := 70) Z dX5_firstRed_23 (by decide) (fun h5 => ?_) (fun h6 => ?_)
      · have hb : (frC J q) x = false := by simp only [frC, lpO, lpR, h5, ↓reduceIte]
        have ex : x = (lw (frC J q) (frB J) 5002 (gt_begin (J 4), J 6, 1, 0)) := by rw [← hx, lw_f hb]
        refine y_iconst (v := -1) Z dX5_firstRed_70 (by decide) ?_
        exact y_retI Z hr hlk dX5_firstRed_71 (by subst ex; first | (simp only [frR, vm_fr, vm_46, frX, lpR, lpO, h5, if_true, if_false, not_false_eq_true, not_true_eq_false, ↓reduceIte]; done) | (simp only [frR, vm_fr, vm_46, frX, lpR, lpO, h5, if_true, if_false, not_false_eq_true, not_true_eq_false, ↓reduceIte, wMix, wLog, wPic, wRep, wScr, wVM, wMd, sR_eq, sR_ne, sF_eq, sF_ne, upd_eq, upd_ne, gs_eq, gs_ne, gm_4, gm_ne, Nat.reduceBEq]; done) | (with_reducible rfl) | contradiction | (simp only [frR, vm_fr, vm_46, frX, lpR, lpO, h5, if_true, if_false, not_false_eq_true, not_true_eq_false, ↓reduceIte]; rfl) | rfl) (by subst ex; first | (simp only [frR, vm_fr, vm_46, frX, lpR, lpO, h5, if_true, if_false, not_false_eq_true, not_true_eq_false, ↓reduceIte]; done) | (simp only [frR, vm_fr, vm_46, frX, lpR, lpO, h5, if_true, if_false, not_false_eq_true, not_true_eq_false, ↓reduceIte, wMix, wLog, wPic, wRep, wScr, wVM, wMd, sR_eq, sR_ne, sF_eq, sF_ne, upd_eq, upd_ne, gs_eq, gs_ne, gm_4, gm_ne, Nat.reduceBEq]; done) | (with_reducible rfl) | contradiction | (simp only [frR, vm_fr, vm_46, frX, lpR, lpO, h5, if_true, if_false, not_false_eq_true, not_true_eq_false, ↓reduceIte]; rfl) | rfl)
      · refine y_aload_n Z dX5_firstRed_26 0 rfl rfl ?_
        refine y_iload_n Z dX5_firstRed_27 3 rfl rfl ?_
        refine y_VIw Z (k_X5_redsAt l D ht0 aJ (gs (gs J 4 x.1) 6 x.2.1) x.2.2.2 (by simp only [gs_eq, gs_ne, Nat.reduceBEq]; exact h_n) (by simp only [gs_eq, gs_ne, Nat.reduceBEq]; exact hI)) (y_cwV 1 Z ml_RX5_129 im_X5_redsAt se_X5_redsAt in_X5 co_X5_redsAt rfl rfl hd_X5_redsAt ⟨Nat.le_of_ble_eq_true rfl, Nat.le_of_ble_eq_true rfl⟩) List.nil List.nil (by simp only [List.nil_append, List.append_nil, wMix, wLog, wPic, wRep, wScr, wVM, wMd, sR_eq, sR_ne, sF_eq, sF_ne, upd_eq, upd_ne, gs_eq, gs_ne, gm_4, gm_ne, Nat.reduceBEq]) 5 0 rfl rfl rfl rfl (Nat.le_of_ble_eq_true rfl) dX5_firstRed_28 ⟨Nat.le_of_ble_eq_true rfl, Nat.le_of_ble_eq_true rfl⟩ (wVMR cI aJ (J 0) (J 1) (J 2) (J 3) (gt_goTo (J 3) x.2.2.2 (-1) x.1) (J 5) (gt_paint (gt_goTo (J 3) x.2.2.2 (-1) x.1) x.2.1) (J 7)) (by simp only [List.nil_append, List.append_nil, vm_ra, vm_pO, wMix, wLog, wPic, wRep, wScr, wVM, wMd, sR_eq, sR_ne, sF_eq, sF_ne, upd_eq, upd_ne, gs_eq, gs_ne, gm_4, gm_ne, Nat.reduceBEq]) ?_
        refine y_eq rfl rfl (st' := [.int (rdF (gt_paint (gt_goTo (J 3) x.2.2.2 (-1) x.1) x.2.1))]) (by simp only [vm_ra, vm_pO, wMix, wLog, wPic, wRep, wScr, wVM, wMd, sR_eq, sR_ne, sF_eq, sF_ne, upd_eq, upd_ne, gs_eq, gs_ne, gm_4, gm_ne, Nat.reduceBEq]) ?_
        refine y_iload_n Z dX5_firstRed_31 1 rfl rfl ?_
        refine y_SI Z (k_X5_hasSource l D ht0 (rdF (gt_paint (gt_goTo (J 3) x.2.2.2 (-1) x.1) x.2.1)) q) (y_cwS 2 Z ml_RX5_132 st_X5_hasSource in_X5 co_X5_hasSource rfl rfl hs_X5_hasSource ⟨Nat.le_of_ble_eq_true rfl, Nat.le_of_ble_eq_true rfl⟩) [] rfl (by decide) rfl rfl (Nat.le_of_ble_eq_true rfl) dX5_firstRed_32 ⟨Nat.le_of_ble_eq_true rfl, Nat.le_of_ble_eq_true rfl⟩ [] rfl rfl (wVMR cI aJ (J 0) (J 1) (J 2) (J 3) (gt_goTo (J 3) x.2.2.2 (-1) x.1) (J 5) (gt_paint (gt_goTo (J 3) x.2.2.2 (-1) x.1) x.2.1) (J 7)) rfl ?_
        refine y_if_eq (tgt := 40) Z dX5_firstRed_35 (by decide) (fun h7 => ?_) (fun h8 => ?_)
        · have hb : (frC J q) x = true := by simp only [frC, lpO, lpR, h6, eq_true h7, ↓reduceIte]
          refine y_iconst (v := 1) Z dX5_firstRed_40 (by decide) ?_
          refine y_aload_n Z dX5_firstRed_41 0 rfl rfl ?_
          refine y_get (C := RX5) (T := TX5) (N := 8) Z 5 inlX5 rfl 0 rfl 4 (by decide) fl_RX5_32 rfl dX5_firstRed_42 ?_
          refine y_aload_n Z dX5_firstRed_45 0 rfl rfl ?_
          refine y_get (C := RX5) (T := TX5) (N := 8) Z 5 inlX5 rfl 0 rfl 3 (by decide) fl_RX5_25 rfl dX5_firstRed_46 ?_
          refine y_aload_n Z dX5_firstRed_49 0 rfl rfl ?_
          refine y_get (C := RX5) (T := TX5) (N := 8) Z 5 inlX5 rfl 0 rfl 0 (by decide) fl_RX5_10 rfl dX5_firstRed_50 ?_
          refine y_getN (host := RX5) (C := RX1) (T := TX1) (N := 14) Z 1 inlX1 rfl 1 rfl 7 (by decide) nl_RX5_71 rfl dX5_firstRed_53 ?_
          refine y_VI Z (k_X3_sameTimes l D ht0 (fun k => aJ (15 + k)) (gt_goTo (J 3) x.2.2.2 (-1) x.1) (fun k => aJ (13 + k)) (J 3) ((J 0) 0 7)) (y_cwV 2 Z ml_RX5_136 im_X3_sameTimes se_X3_sameTimes in_X3 co_X3_sameTimes rfl rfl hd_X3_sameTimes ⟨Nat.le_of_ble_eq_true rfl, Nat.le_of_ble_eq_true rfl⟩) [15, 16, 17, 18, 19, 13, 14] rfl (by decide) 3 15 rfl rfl rfl rfl (Nat.le_of_ble_eq_true rfl) dX5_firstRed_56 ⟨Nat.le_of_ble_eq_true rfl, Nat.le_of_ble_eq_true rfl⟩ [(aJ 15), (aJ 16), (aJ 17), (aJ 18), (aJ 19), (aJ 13), (aJ 14)] rfl rfl (wVMR cI aJ (J 0) (J 1) (J 2) (J 3) (gt_goTo (J 3) x.2.2.2 (-1) x.1) (J 5) (gt_paint (gt_goTo (J 3) x.2.2.2 (-1) x.1) x.2.1) (J 7)) rfl ?_
          refine y_mmax Z ml_RX5_140 st_mmax in_Math co_mmax (Nat.le_of_ble_eq_true rfl) (Nat.le_of_ble_eq_true rfl) (Nat.le_of_ble_eq_true rfl) (Nat.le_of_ble_eq_true rfl) dX5_firstRed_59 ?_
          refine y_istore_n Z [(2, .int (if 1 < stF (J 3) (gt_goTo (J 3) x.2.2.2 (-1) x.1) ((J 0) 0 7) then stF (J 3) (gt_goTo (J 3) x.2.2.2 (-1) x.1) ((J 0) 0 7) else 1)), (0, .ref (aJ 0)), (1, .int q), (3, .int x.2.2.2)] dX5_firstRed_62 rfl (by decide) rfl ?_
          refine y_iload_n Z dX5_firstRed_63 3 rfl rfl ?_
          refine y_iload_n Z dX5_firstRed_64 0 rfl rfl ?_
          refine y_iadd Z dX5_firstRed_65 ?_
          refine y_istore_n Z [(3, .int (x.2.2.2 + (if 1 < stF (J 3) (gt_goTo (J 3) x.2.2.2 (-1) x.1) ((J 0) 0 7) then stF (J 3) (gt_goTo (J 3) x.2.2.2 (-1) x.1) ((J 0) 0 7) else 1))), (2, .int (if 1 < stF (J 3) (gt_goTo (J 3) x.2.2.2 (-1) x.1) ((J 0) 0 7) then stF (J 3) (gt_goTo (J 3) x.2.2.2 (-1) x.1) ((J 0) 0 7) else 1)), (0, .ref (aJ 0)), (1, .int q)] dX5_firstRed_66 rfl (by decide) rfl ?_
          refine y_goto (tgt := 15) Z dX5_firstRed_67 (by decide) ?_
          refine y_lv [2, 3, 1, 0] (lv' := [(0, .ref (aJ 0)), (1, .int q), (2, .int (if 1 < stF (J 3) (gt_goTo (J 3) x.2.2.2 (-1) x.1) ((J 0) 0 7) then stF (J 3) (gt_goTo (J 3) x.2.2.2 (-1) x.1) ((J 0) 0 7) else 1)), (3, .int (x.2.2.2 + (if 1 < stF (J 3) (gt_goTo (J 3) x.2.2.2 (-1) x.1) ((J 0) 0 7) then stF (J 3) (gt_goTo (J 3) x.2.2.2 (-1) x.1) ((J 0) 0 7) else 1)))]) rfl ?_
          refine y_eq (ws' := (wVMR cI aJ (J 0) (J 1) (J 2) (J 3) (((frB J) x).1) (J 5) (((frB J) x).2.1) (J 7))) (lv' := [(0, .ref (aJ 0)), (1, .int q), (2, .int (((frB J) x).2.2.1)), (3, .int (((frB J) x).2.2.2))]) (st' := []) (by first | (simp only [frB, vm_ra, vm_pO, lpR, lpO, lpS, mx1, h6, eq_true h7, if_true, if_false, not_false_eq_true, not_true_eq_false, ↓reduceIte]; done) | (simp only [frB, vm_ra, vm_pO, lpR, lpO, lpS, mx1, h6, eq_true h7, if_true, if_false, not_false_eq_true, not_true_eq_false, ↓reduceIte, wMix, wLog, wPic, wRep, wScr, wVM, wMd, sR_eq, sR_ne, sF_eq, sF_ne, upd_eq, upd_ne, gs_eq, gs_ne, gm_4, gm_ne, Nat.reduceBEq]; done) | (with_reducible rfl) | contradiction | (simp only [frB, vm_ra, vm_pO, lpR, lpO, lpS, mx1, h6, eq_true h7, if_true, if_false, not_false_eq_true, not_true_eq_false, ↓reduceIte]; rfl) | rfl) (by first | (simp only [frB, vm_ra, vm_pO, lpR, lpO, lpS, mx1, h6, eq_true h7, if_true, if_false, not_false_eq_true, not_true_eq_false, ↓reduceIte]; done) | (simp only [frB, vm_ra, vm_pO, lpR, lpO, lpS, mx1, h6, eq_true h7, if_true, if_false, not_false_eq_true, not_true_eq_false, ↓reduceIte, wMix, wLog, wPic, wRep, wScr, wVM, wMd, sR_eq, sR_ne, sF_eq, sF_ne, upd_eq, upd_ne, gs_eq, gs_ne, gm_4, gm_ne, Nat.reduceBEq]; done) | (with_reducible rfl) | contradiction | (simp only [frB, vm_ra, vm_pO, lpR, lpO, lpS, mx1, h6, eq_true h7, if_true, if_false, not_false_eq_true, not_true_eq_false, ↓reduceIte]; rfl) | rfl) rfl ?_
          exact ih _ (go_nn h_n hI) (by rw [lw_t hb] at hc; exact hc) (by rw [lw_t hb] at hx; exact hx)
        · have hb : (frC J q) x = false := by simp only [frC, lpO, lpR, h6, h8, ↓reduceIte]
          have ex : x = (lw (frC J q) (frB J) 5002 (gt_begin (J 4), J 6, 1, 0)) := by rw [← hx, lw_f hb]
          refine y_iload_n Z dX5_firstRed_38 3 rfl rfl ?_
          exact y_retI Z hr hlk dX5_firstRed_39 (by subst ex; first | (simp only [frR, vm_fr, vm_46, frX, lpR, lpO, h6, h8, if_true, if_false, not_false_eq_true, not_true_eq_false, ↓reduceIte]; done) | (simp only [frR, vm_fr, vm_46, frX, lpR, lpO, h6, h8, if_true, if_false, not_false_eq_true, not_true_eq_false, ↓reduceIte, wMix, wLog, wPic, wRep, wScr, wVM, wMd, sR_eq, sR_ne, sF_eq, sF_ne, upd_eq, upd_ne, gs_eq, gs_ne, gm_4, gm_ne, Nat.reduceBEq]; done) | (with_reducible rfl) | contradiction | (simp only [frR, vm_fr, vm_46, frX, lpR, lpO, h6, h8, if_true, if_false, not_false_eq_true, not_true_eq_false, ↓reduceIte]; rfl) | rfl) (by subst ex; first | (simp only [frR, vm_fr, vm_46, frX, lpR, lpO, h6, h8, if_true, if_false, not_false_eq_true, not_true_eq_false, ↓reduceIte]; done) | (simp only [frR, vm_fr, vm_46, frX, lpR, lpO, h6, h8, if_true, if_false, not_false_eq_true, not_true_eq_false, ↓reduceIte, wMix, wLog, wPic, wRep, wScr, wVM, wMd, sR_eq, sR_ne, sF_eq, sF_ne, upd_eq, upd_ne, gs_eq, gs_ne, gm_4, gm_ne, Nat.reduceBEq]; done) | (with_reducible rfl) | contradiction | (simp only [frR, vm_fr, vm_46, frX, lpR, lpO, h6, h8, if_true, if_false, not_false_eq_true, not_true_eq_false, ↓reduceIte]; rfl) | rfl)
  refine y_iload_n Z dX5_firstRed_0 1 rfl rfl ?_
  refine y_SV Z (k_X5_checkSource l D ht0 q h_q) (y_cwS 1 Z ml_RX5_53 st_X5_checkSource in_X5 co_X5_checkSource rfl rfl hs_X5_checkSource ⟨Nat.le_of_ble_eq_true rfl, Nat.le_of_ble_eq_true rfl⟩) [] rfl (by decide) rfl rfl (Nat.le_of_ble_eq_true rfl) dX5_firstRed_1 ⟨Nat.le_of_ble_eq_true rfl, Nat.le_of_ble_eq_true rfl⟩ [] rfl rfl (wVM cI aJ J) rfl ?_
  refine y_iconst (v := 1) Z dX5_firstRed_4 (by decide) ?_
  refine y_istore_n Z [(2, .int 1), (0, .ref (aJ 0)), (1, .int q)] dX5_firstRed_5 rfl (by decide) rfl ?_
  refine y_aload_n Z dX5_firstRed_6 1 rfl rfl ?_
  refine y_get (C := RX5) (T := TX5) (N := 8) Z 5 inlX5 rfl 0 rfl 4 (by decide) fl_RX5_32 rfl dX5_firstRed_7 ?_
  refine y_VV Z (k_X3_begin l D ht0 (fun k => aJ (15 + k)) (J 4)) (y_cwV 0 Z ml_RX5_126 im_X3_begin se_X3_begin in_X3 co_X3_begin rfl rfl hd_X3_begin ⟨Nat.le_of_ble_eq_true rfl, Nat.le_of_ble_eq_true rfl⟩) [15, 16, 17, 18, 19] rfl (by decide) 3 15 rfl rfl rfl rfl (Nat.le_of_ble_eq_true rfl) dX5_firstRed_10 ⟨Nat.le_of_ble_eq_true rfl, Nat.le_of_ble_eq_true rfl⟩ [(aJ 15), (aJ 16), (aJ 17), (aJ 18), (aJ 19)] rfl rfl (wVMR cI aJ (J 0) (J 1) (J 2) (J 3) (gt_begin (J 4)) (J 5) (J 6) (J 7)) rfl ?_
  refine y_iconst (v := 0) Z dX5_firstRed_13 (by decide) ?_
  refine y_istore_n Z [(3, .int 0), (2, .int 1), (0, .ref (aJ 0)), (1, .int q)] dX5_firstRed_14 rfl (by decide) rfl ?_
  refine y_lv [2, 3, 1, 0] (lv' := [(0, .ref (aJ 0)), (1, .int q), (2, .int 1), (3, .int 0)]) rfl ?_
  exact L15 5002 (gt_begin (J 4), J 6, 1, 0) (bg_nn (J 4)) h_stop rfl
set_option maxHeartbeats 4000000 in
set_option maxRecDepth 100000 in
theorem k_X5_firstRed_b0 (l : Launch) (htr : l.stackTraces = false) (D : va_G) {cI : ClassId} {tys : List (ClassId × FieldType)} (ht0 : tys[0]? = some (cI, .int)) (aJ : Nat → Nat) (J : Nat → Nat → Nat → Int32) (q : Int32) (h_bad : ¬ (okS q)) (sz : Nat) : kB l yX5_firstRed cX5_firstRed 4 (some .int) { frames := 7, cells := 1, slots := 6, locals := 155 } D tys [.ref (aJ 0), .int q] (wVM cI aJ J) "java/lang/IndexOutOfBoundsException" sz := by
  refine y_enterB (cc := cX5_firstRed) (maxL := 4) (ret := (some .int)) (own := RX5) htr (by decide) rfl (lv0 := [(0, .ref (aJ 0)), (1, .int q)]) rfl (Nat.le_of_ble_eq_true rfl) ?_
  intro p e s m args below meth c A Z X hr hlk
  refine y_iload_n Z dX5_firstRed_0 1 rfl rfl ?_
  exact y_SB Z X.2.2 (k_X5_checkSource_b0 l htr D ht0 q h_bad) (y_cwS 1 Z ml_RX5_53 st_X5_checkSource in_X5 co_X5_checkSource rfl rfl hs_X5_checkSource ⟨Nat.le_of_ble_eq_true rfl, Nat.le_of_ble_eq_true rfl⟩) [] rfl (by decide) rfl rfl (Nat.le_of_ble_eq_true rfl) dX5_firstRed_1 ⟨Nat.le_of_ble_eq_true rfl, Nat.le_of_ble_eq_true rfl⟩ rfl (y_outB Z X hlk (Nat.le_of_ble_eq_true rfl) (Nat.le_of_ble_eq_true rfl))
set_option maxHeartbeats 4000000 in
set_option maxRecDepth 100000 in
theorem k_X5_longestShot (l : Launch) (D : va_G) {cI : ClassId} {tys : List (ClassId × FieldType)} (ht0 : tys[0]? = some (cI, .int)) (aJ : Nat → Nat) (J : Nat → Nat → Nat → Int32) (h_n : J 3 0 0 ≤ 100) (h_stop : lsC J (lsX J) = false) (sz : Nat) : kI l yX5_longestShot cX5_longestShot 7 (some .int) { frames := 7, cells := 0, slots := 0, locals := 155 } D tys [.ref (aJ 0)] (wVM cI aJ J) (wVM cI aJ (vm_46 J (lsX J).1 (lsX J).2.1)) ((lsX J).2.2.1) 0 0 sz := by
  refine y_enterI (cc := cX5_longestShot) (maxL := 7) (ret := (some .int)) (own := RX5) (by decide) rfl (lv0 := [(0, .ref (aJ 0))]) rfl (Nat.le_of_ble_eq_true rfl) ?_
  intro p e s m args below meth c A Z hr hlk _
  have L19 : ∀ (n : Nat) (x : (Nat → Nat → Int32) × (Nat → Nat → Int32) × Int32 × Int32 × Int32 × Int32 × Int32), 0 ≤ x.1 4 0 → (lsC J) (lw (lsC J) (lsB J) n x) = false → lw (lsC J) (lsB J) n x = (lw (lsC J) (lsB J) 5002 (gt_begin (J 4), J 6, 0, 0, -1, 1, 0)) → Yy p l e { frames := 7, cells := 0, slots := 0, locals := 155 } s m args below meth c (QI D tys A (wVM cI aJ (vm_46 J (lsX J).1 (lsX J).2.1)) ((lsX J).2.2.1) below args s 0 0) D A 7 0 0 (wVMR cI aJ (J 0) (J 1) (J 2) (J 3) x.1 (J 5) x.2.1 (J 7)) [(0, .ref (aJ 0)), (1, .int x.2.2.1), (2, .int x.2.2.2.1), (3, .int x.2.2.2.2.1), (4, .int x.2.2.2.2.2.1), (5, .int x.2.2.2.2.2.2)] [] 19 := by
    intro n; induction n with
    | zero =>
      intro x hI hc hx
      refine y_iload Z dX5_longestShot_19 5 rfl ?_
      refine y_aload_n Z dX5_longestShot_21 0 rfl rfl ?_
      refine y_get (C := RX5) (T := TX5) (N := 8) Z 5 inlX5 rfl 0 rfl 0 (by decide) fl_RX5_10 rfl dX5_longestShot_22 ?_
      refine y_getN (host := RX5) (C := RX1) (T := TX1) (N := 14) Z 1 inlX1 rfl 1 rfl 7 (by decide) nl_RX5_71 rfl dX5_longestShot_25 ?_
      refine y_icmp_gt (tgt := 98) Z dX5_longestShot_28 (by decide) (fun h1 => ?_) (fun h2 => ?_)
      · have hb : (lsC J) x = false := by simp only [lsC, h1, ↓reduceIte]
        have ex : x = (lw (lsC J) (lsB J) 5002 (gt_begin (J 4), J 6, 0, 0, -1, 1, 0)) := by rw [← hx, lw_f hb]
        refine y_iload_n Z dX5_longestShot_98 1 rfl rfl ?_
        exact y_retI Z hr hlk dX5_longestShot_99 (by subst ex; first | (simp only [vm_46, lsX, h1, if_true, if_false, not_false_eq_true, not_true_eq_false, ↓reduceIte]; done) | (simp only [vm_46, lsX, h1, if_true, if_false, not_false_eq_true, not_true_eq_false, ↓reduceIte, wMix, wLog, wPic, wRep, wScr, wVM, wMd, sR_eq, sR_ne, sF_eq, sF_ne, upd_eq, upd_ne, gs_eq, gs_ne, gm_4, gm_ne, Nat.reduceBEq]; done) | (with_reducible rfl) | contradiction | (simp only [vm_46, lsX, h1, if_true, if_false, not_false_eq_true, not_true_eq_false, ↓reduceIte]; rfl) | rfl) (by subst ex; first | (simp only [vm_46, lsX, h1, if_true, if_false, not_false_eq_true, not_true_eq_false, ↓reduceIte]; done) | (simp only [vm_46, lsX, h1, if_true, if_false, not_false_eq_true, not_true_eq_false, ↓reduceIte, wMix, wLog, wPic, wRep, wScr, wVM, wMd, sR_eq, sR_ne, sF_eq, sF_ne, upd_eq, upd_ne, gs_eq, gs_ne, gm_4, gm_ne, Nat.reduceBEq]; done) | (with_reducible rfl) | contradiction | (simp only [vm_46, lsX, h1, if_true, if_false, not_false_eq_true, not_true_eq_false, ↓reduceIte]; rfl) | rfl)
      · exact absurd (show (lsC J) x = true by simp only [lsC, h2, ↓reduceIte]) (by rw [show (lsC J) x = false from hc]; decide)
    | succ n ih =>
      intro x hI hc hx
      refine y_iload Z dX5_longestShot_19 5 rfl ?_
      refine y_aload_n Z dX5_longestShot_21 0 rfl rfl ?_
      refine y_get (C := RX5) (T := TX5) (N := 8) Z 5 inlX5 rfl 0 rfl 0 (by decide) fl_RX5_10 rfl dX5_longestShot_22 ?_
      refine y_getN (host := RX5) (C := RX1) (T := TX1) (N := 14) Z 1 inlX1 rfl 1 rfl 7 (by decide) nl_RX5_71 rfl dX5_longestShot_25 ?_
      refine y_icmp_gt (tgt := 98) Z dX5_longestShot_28 (by decide) (fun h3 => ?_) (fun h4 => ?_)
      · have hb : (lsC J) x = false := by simp only [lsC, h3, ↓reduceIte]
        have ex : x = (lw (lsC J) (lsB J) 5002 (gt_begin (J 4), J 6, 0, 0, -1, 1, 0)) := by rw [← hx, lw_f hb]
        refine y_iload_n Z dX5_longestShot_98 1 rfl rfl ?_
        exact y_retI Z hr hlk dX5_longestShot_99 (by subst ex; first | (simp only [vm_46, lsX, h3, if_true, if_false, not_false_eq_true, not_true_eq_false, ↓reduceIte]; done) | (simp only [vm_46, lsX, h3, if_true, if_false, not_false_eq_true, not_true_eq_false, ↓reduceIte, wMix, wLog, wPic, wRep, wScr, wVM, wMd, sR_eq, sR_ne, sF_eq, sF_ne, upd_eq, upd_ne, gs_eq, gs_ne, gm_4, gm_ne, Nat.reduceBEq]; done) | (with_reducible rfl) | contradiction | (simp only [vm_46, lsX, h3, if_true, if_false, not_false_eq_true, not_true_eq_false, ↓reduceIte]; rfl) | rfl) (by subst ex; first | (simp only [vm_46, lsX, h3, if_true, if_false, not_false_eq_true, not_true_eq_false, ↓reduceIte]; done) | (simp only [vm_46, lsX, h3, if_true, if_false, not_false_eq_true, not_true_eq_false, ↓reduceIte, wMix, wLog, wPic, wRep, wScr, wVM, wMd, sR_eq, sR_ne, sF_eq, sF_ne, upd_eq, upd_ne, gs_eq, gs_ne, gm_4, gm_ne, Nat.reduceBEq]; done) | (with_reducible rfl) | contradiction | (simp only [vm_46, lsX, h3, if_true, if_false, not_false_eq_true, not_true_eq_false, ↓reduceIte]; rfl) | rfl)
      · have hb : (lsC J) x = true := by simp only [lsC, h4, ↓reduceIte]
        refine y_aload_n Z dX5_longestShot_31 0 rfl rfl ?_
        refine y_iload Z dX5_longestShot_32 5 rfl ?_
        refine y_VIw Z (k_X5_redsAt l D ht0 aJ (gs (gs J 4 x.1) 6 x.2.1) x.2.2.2.2.2.2 (by simp only [gs_eq, gs_ne, Nat.reduceBEq]; exact h_n) (by simp only [gs_eq, gs_ne, Nat.reduceBEq]; exact hI)) (y_cwV 1 Z ml_RX5_129 im_X5_redsAt se_X5_redsAt in_X5 co_X5_redsAt rfl rfl hd_X5_redsAt ⟨Nat.le_of_ble_eq_true rfl, Nat.le_of_ble_eq_true rfl⟩) List.nil List.nil (by simp only [List.nil_append, List.append_nil, wMix, wLog, wPic, wRep, wScr, wVM, wMd, sR_eq, sR_ne, sF_eq, sF_ne, upd_eq, upd_ne, gs_eq, gs_ne, gm_4, gm_ne, Nat.reduceBEq]) 5 0 rfl rfl rfl rfl (Nat.le_of_ble_eq_true rfl) dX5_longestShot_34 ⟨Nat.le_of_ble_eq_true rfl, Nat.le_of_ble_eq_true rfl⟩ (wVMR cI aJ (J 0) (J 1) (J 2) (J 3) (gt_goTo (J 3) x.2.2.2.2.2.2 (-1) x.1) (J 5) (gt_paint (gt_goTo (J 3) x.2.2.2.2.2.2 (-1) x.1) x.2.1) (J 7)) (by simp only [List.nil_append, List.append_nil, vm_ra, vm_pO, wMix, wLog, wPic, wRep, wScr, wVM, wMd, sR_eq, sR_ne, sF_eq, sF_ne, upd_eq, upd_ne, gs_eq, gs_ne, gm_4, gm_ne, Nat.reduceBEq]) ?_
        refine y_eq rfl rfl (st' := [.int (rdF (gt_paint (gt_goTo (J 3) x.2.2.2.2.2.2 (-1) x.1) x.2.1))]) (by simp only [vm_ra, vm_pO, wMix, wLog, wPic, wRep, wScr, wVM, wMd, sR_eq, sR_ne, sF_eq, sF_ne, upd_eq, upd_ne, gs_eq, gs_ne, gm_4, gm_ne, Nat.reduceBEq]) ?_
        refine y_istore Z [(6, .int (rdF (gt_paint (gt_goTo (J 3) x.2.2.2.2.2.2 (-1) x.1) x.2.1))), (0, .ref (aJ 0)), (1, .int x.2.2.1), (2, .int x.2.2.2.1), (3, .int x.2.2.2.2.1), (4, .int x.2.2.2.2.2.1), (5, .int x.2.2.2.2.2.2)] dX5_longestShot_37 (by decide) rfl ?_
        refine y_iconst (v := 1) Z dX5_longestShot_39 (by decide) ?_
        refine y_aload_n Z dX5_longestShot_40 1 rfl rfl ?_
        refine y_get (C := RX5) (T := TX5) (N := 8) Z 5 inlX5 rfl 0 rfl 4 (by decide) fl_RX5_32 rfl dX5_longestShot_41 ?_
        refine y_aload_n Z dX5_longestShot_44 1 rfl rfl ?_
        refine y_get (C := RX5) (T := TX5) (N := 8) Z 5 inlX5 rfl 0 rfl 3 (by decide) fl_RX5_25 rfl dX5_longestShot_45 ?_
        refine y_aload_n Z dX5_longestShot_48 1 rfl rfl ?_
        refine y_get (C := RX5) (T := TX5) (N := 8) Z 5 inlX5 rfl 0 rfl 0 (by decide) fl_RX5_10 rfl dX5_longestShot_49 ?_
        refine y_getN (host := RX5) (C := RX1) (T := TX1) (N := 14) Z 1 inlX1 rfl 1 rfl 7 (by decide) nl_RX5_71 rfl dX5_longestShot_52 ?_
        refine y_VI Z (k_X3_sameTimes l D ht0 (fun k => aJ (15 + k)) (gt_goTo (J 3) x.2.2.2.2.2.2 (-1) x.1) (fun k => aJ (13 + k)) (J 3) ((J 0) 0 7)) (y_cwV 2 Z ml_RX5_136 im_X3_sameTimes se_X3_sameTimes in_X3 co_X3_sameTimes rfl rfl hd_X3_sameTimes ⟨Nat.le_of_ble_eq_true rfl, Nat.le_of_ble_eq_true rfl⟩) [15, 16, 17, 18, 19, 13, 14] rfl (by decide) 3 15 rfl rfl rfl rfl (Nat.le_of_ble_eq_true rfl) dX5_longestShot_55 ⟨Nat.le_of_ble_eq_true rfl, Nat.le_of_ble_eq_true rfl⟩ [(aJ 15), (aJ 16), (aJ 17), (aJ 18), (aJ 19), (aJ 13), (aJ 14)] rfl rfl (wVMR cI aJ (J 0) (J 1) (J 2) (J 3) (gt_goTo (J 3) x.2.2.2.2.2.2 (-1) x.1) (J 5) (gt_paint (gt_goTo (J 3) x.2.2.2.2.2.2 (-1) x.1) x.2.1) (J 7)) rfl ?_
        refine y_mmax Z ml_RX5_140 st_mmax in_Math co_mmax (Nat.le_of_ble_eq_true rfl) (Nat.le_of_ble_eq_true rfl) (Nat.le_of_ble_eq_true rfl) (Nat.le_of_ble_eq_true rfl) dX5_longestShot_58 ?_
        refine y_istore Z [(4, .int (if 1 < stF (J 3) (gt_goTo (J 3) x.2.2.2.2.2.2 (-1) x.1) ((J 0) 0 7) then stF (J 3) (gt_goTo (J 3) x.2.2.2.2.2.2 (-1) x.1) ((J 0) 0 7) else 1)), (6, .int (rdF (gt_paint (gt_goTo (J 3) x.2.2.2.2.2.2 (-1) x.1) x.2.1))), (0, .ref (aJ 0)), (1, .int x.2.2.1), (2, .int x.2.2.2.1), (3, .int x.2.2.2.2.1), (5, .int x.2.2.2.2.2.2)] dX5_longestShot_61 (by decide) rfl ?_
        refine y_iload Z dX5_longestShot_63 1 rfl ?_
        refine y_iload_n Z dX5_longestShot_65 5 rfl rfl ?_
        refine y_icmp_ne (tgt := 76) Z dX5_longestShot_66 (by decide) (fun h5 => ?_) (fun h6 => ?_)
        · refine y_iload Z dX5_longestShot_76 0 rfl ?_
          refine y_istore_n Z [(2, .int (if 1 < stF (J 3) (gt_goTo (J 3) x.2.2.2.2.2.2 (-1) x.1) ((J 0) 0 7) then stF (J 3) (gt_goTo (J 3) x.2.2.2.2.2.2 (-1) x.1) ((J 0) 0 7) else 1)), (4, .int (if 1 < stF (J 3) (gt_goTo (J 3) x.2.2.2.2.2.2 (-1) x.1) ((J 0) 0 7) then stF (J 3) (gt_goTo (J 3) x.2.2.2.2.2.2 (-1) x.1) ((J 0) 0 7) else 1)), (6, .int (rdF (gt_paint (gt_goTo (J 3) x.2.2.2.2.2.2 (-1) x.1) x.2.1))), (0, .ref (aJ 0)), (1, .int x.2.2.1), (3, .int x.2.2.2.2.1), (5, .int x.2.2.2.2.2.2)] dX5_longestShot_78 rfl (by decide) rfl ?_
          refine y_iload_n Z dX5_longestShot_79 4 rfl rfl ?_
          refine y_iload_n Z dX5_longestShot_80 0 rfl rfl ?_
          refine y_mmax Z ml_RX5_140 st_mmax in_Math co_mmax (Nat.le_of_ble_eq_true rfl) (Nat.le_of_ble_eq_true rfl) (Nat.le_of_ble_eq_true rfl) (Nat.le_of_ble_eq_true rfl) dX5_longestShot_81 ?_
          refine y_istore_n Z [(1, .int (if x.2.2.1 < (if 1 < stF (J 3) (gt_goTo (J 3) x.2.2.2.2.2.2 (-1) x.1) ((J 0) 0 7) then stF (J 3) (gt_goTo (J 3) x.2.2.2.2.2.2 (-1) x.1) ((J 0) 0 7) else 1) then (if 1 < stF (J 3) (gt_goTo (J 3) x.2.2.2.2.2.2 (-1) x.1) ((J 0) 0 7) then stF (J 3) (gt_goTo (J 3) x.2.2.2.2.2.2 (-1) x.1) ((J 0) 0 7) else 1) else x.2.2.1)), (2, .int (if 1 < stF (J 3) (gt_goTo (J 3) x.2.2.2.2.2.2 (-1) x.1) ((J 0) 0 7) then stF (J 3) (gt_goTo (J 3) x.2.2.2.2.2.2 (-1) x.1) ((J 0) 0 7) else 1)), (4, .int (if 1 < stF (J 3) (gt_goTo (J 3) x.2.2.2.2.2.2 (-1) x.1) ((J 0) 0 7) then stF (J 3) (gt_goTo (J 3) x.2.2.2.2.2.2 (-1) x.1) ((J 0) 0 7) else 1)), (6, .int (rdF (gt_paint (gt_goTo (J 3) x.2.2.2.2.2.2 (-1) x.1) x.2.1))), (0, .ref (aJ 0)), (3, .int x.2.2.2.2.1), (5, .int x.2.2.2.2.2.2)] dX5_longestShot_84 rfl (by decide) rfl ?_
          refine y_iload Z dX5_longestShot_85 3 rfl ?_
          refine y_istore_n Z [(3, .int (rdF (gt_paint (gt_goTo (J 3) x.2.2.2.2.2.2 (-1) x.1) x.2.1))), (1, .int (if x.2.2.1 < (if 1 < stF (J 3) (gt_goTo (J 3) x.2.2.2.2.2.2 (-1) x.1) ((J 0) 0 7) then stF (J 3) (gt_goTo (J 3) x.2.2.2.2.2.2 (-1) x.1) ((J 0) 0 7) else 1) then (if 1 < stF (J 3) (gt_goTo (J 3) x.2.2.2.2.2.2 (-1) x.1) ((J 0) 0 7) then stF (J 3) (gt_goTo (J 3) x.2.2.2.2.2.2 (-1) x.1) ((J 0) 0 7) else 1) else x.2.2.1)), (2, .int (if 1 < stF (J 3) (gt_goTo (J 3) x.2.2.2.2.2.2 (-1) x.1) ((J 0) 0 7) then stF (J 3) (gt_goTo (J 3) x.2.2.2.2.2.2 (-1) x.1) ((J 0) 0 7) else 1)), (4, .int (if 1 < stF (J 3) (gt_goTo (J 3) x.2.2.2.2.2.2 (-1) x.1) ((J 0) 0 7) then stF (J 3) (gt_goTo (J 3) x.2.2.2.2.2.2 (-1) x.1) ((J 0) 0 7) else 1)), (6, .int (rdF (gt_paint (gt_goTo (J 3) x.2.2.2.2.2.2 (-1) x.1) x.2.1))), (0, .ref (aJ 0)), (5, .int x.2.2.2.2.2.2)] dX5_longestShot_87 rfl (by decide) rfl ?_
          refine y_iload Z dX5_longestShot_88 6 rfl ?_
          refine y_iload Z dX5_longestShot_90 3 rfl ?_
          refine y_iadd Z dX5_longestShot_92 ?_
          refine y_istore Z [(5, .int (x.2.2.2.2.2.2 + (if 1 < stF (J 3) (gt_goTo (J 3) x.2.2.2.2.2.2 (-1) x.1) ((J 0) 0 7) then stF (J 3) (gt_goTo (J 3) x.2.2.2.2.2.2 (-1) x.1) ((J 0) 0 7) else 1))), (3, .int (rdF (gt_paint (gt_goTo (J 3) x.2.2.2.2.2.2 (-1) x.1) x.2.1))), (1, .int (if x.2.2.1 < (if 1 < stF (J 3) (gt_goTo (J 3) x.2.2.2.2.2.2 (-1) x.1) ((J 0) 0 7) then stF (J 3) (gt_goTo (J 3) x.2.2.2.2.2.2 (-1) x.1) ((J 0) 0 7) else 1) then (if 1 < stF (J 3) (gt_goTo (J 3) x.2.2.2.2.2.2 (-1) x.1) ((J 0) 0 7) then stF (J 3) (gt_goTo (J 3) x.2.2.2.2.2.2 (-1) x.1) ((J 0) 0 7) else 1) else x.2.2.1)), (2, .int (if 1 < stF (J 3) (gt_goTo (J 3) x.2.2.2.2.2.2 (-1) x.1) ((J 0) 0 7) then stF (J 3) (gt_goTo (J 3) x.2.2.2.2.2.2 (-1) x.1) ((J 0) 0 7) else 1)), (4, .int (if 1 < stF (J 3) (gt_goTo (J 3) x.2.2.2.2.2.2 (-1) x.1) ((J 0) 0 7) then stF (J 3) (gt_goTo (J 3) x.2.2.2.2.2.2 (-1) x.1) ((J 0) 0 7) else 1)), (6, .int (rdF (gt_paint (gt_goTo (J 3) x.2.2.2.2.2.2 (-1) x.1) x.2.1))), (0, .ref (aJ 0))] dX5_longestShot_93 (by decide) rfl ?_
          refine y_goto (tgt := 19) Z dX5_longestShot_95 (by decide) ?_
          refine y_lv [6, 2, 3, 1, 4, 0] (lv' := [(0, .ref (aJ 0)), (1, .int (if x.2.2.1 < (if 1 < stF (J 3) (gt_goTo (J 3) x.2.2.2.2.2.2 (-1) x.1) ((J 0) 0 7) then stF (J 3) (gt_goTo (J 3) x.2.2.2.2.2.2 (-1) x.1) ((J 0) 0 7) else 1) then (if 1 < stF (J 3) (gt_goTo (J 3) x.2.2.2.2.2.2 (-1) x.1) ((J 0) 0 7) then stF (J 3) (gt_goTo (J 3) x.2.2.2.2.2.2 (-1) x.1) ((J 0) 0 7) else 1) else x.2.2.1)), (2, .int (if 1 < stF (J 3) (gt_goTo (J 3) x.2.2.2.2.2.2 (-1) x.1) ((J 0) 0 7) then stF (J 3) (gt_goTo (J 3) x.2.2.2.2.2.2 (-1) x.1) ((J 0) 0 7) else 1)), (3, .int (rdF (gt_paint (gt_goTo (J 3) x.2.2.2.2.2.2 (-1) x.1) x.2.1))), (4, .int (if 1 < stF (J 3) (gt_goTo (J 3) x.2.2.2.2.2.2 (-1) x.1) ((J 0) 0 7) then stF (J 3) (gt_goTo (J 3) x.2.2.2.2.2.2 (-1) x.1) ((J 0) 0 7) else 1)), (5, .int (x.2.2.2.2.2.2 + (if 1 < stF (J 3) (gt_goTo (J 3) x.2.2.2.2.2.2 (-1) x.1) ((J 0) 0 7) then stF (J 3) (gt_goTo (J 3) x.2.2.2.2.2.2 (-1) x.1) ((J 0) 0 7) else 1)))]) rfl ?_
          refine y_eq (ws' := (wVMR cI aJ (J 0) (J 1) (J 2) (J 3) (((lsB J) x).1) (J 5) (((lsB J) x).2.1) (J 7))) (lv' := [(0, .ref (aJ 0)), (1, .int (((lsB J) x).2.2.1)), (2, .int (((lsB J) x).2.2.2.1)), (3, .int (((lsB J) x).2.2.2.2.1)), (4, .int (((lsB J) x).2.2.2.2.2.1)), (5, .int (((lsB J) x).2.2.2.2.2.2))]) (st' := []) (by first | (simp only [lsB, lsH, vm_ra, vm_pO, lpR, lpO, lpS, mx1, h4, h5, if_true, if_false, not_false_eq_true, not_true_eq_false, ↓reduceIte]; done) | (simp only [lsB, lsH, vm_ra, vm_pO, lpR, lpO, lpS, mx1, h4, h5, if_true, if_false, not_false_eq_true, not_true_eq_false, ↓reduceIte, wMix, wLog, wPic, wRep, wScr, wVM, wMd, sR_eq, sR_ne, sF_eq, sF_ne, upd_eq, upd_ne, gs_eq, gs_ne, gm_4, gm_ne, Nat.reduceBEq]; done) | (with_reducible rfl) | contradiction | (simp only [lsB, lsH, vm_ra, vm_pO, lpR, lpO, lpS, mx1, h4, h5, if_true, if_false, not_false_eq_true, not_true_eq_false, ↓reduceIte]; rfl) | rfl) (by first | (simp only [lsB, lsH, vm_ra, vm_pO, lpR, lpO, lpS, mx1, h4, h5, if_true, if_false, not_false_eq_true, not_true_eq_false, ↓reduceIte]; done) | (simp only [lsB, lsH, vm_ra, vm_pO, lpR, lpO, lpS, mx1, h4, h5, if_true, if_false, not_false_eq_true, not_true_eq_false, ↓reduceIte, wMix, wLog, wPic, wRep, wScr, wVM, wMd, sR_eq, sR_ne, sF_eq, sF_ne, upd_eq, upd_ne, gs_eq, gs_ne, gm_4, gm_ne, Nat.reduceBEq]; done) | (with_reducible rfl) | contradiction | (simp only [lsB, lsH, vm_ra, vm_pO, lpR, lpO, lpS, mx1, h4, h5, if_true, if_false, not_false_eq_true, not_true_eq_false, ↓reduceIte]; rfl) | rfl) rfl ?_
          exact ih _ (go_nn h_n hI) (by rw [lw_t hb] at hc; exact hc) (by rw [lw_t hb] at hx; exact hx)
        · refine y_iload_n Z dX5_longestShot_69 4 rfl rfl ?_
          refine y_iload Z dX5_longestShot_70 0 rfl ?_
          refine y_iadd Z dX5_longestShot_72 ?_
          refine y_goto (tgt := 78) Z dX5_longestShot_73 (by decide) ?_
          refine y_istore_n Z [(2, .int (x.2.2.2.1 + (if 1 < stF (J 3) (gt_goTo (J 3) x.2.2.2.2.2.2 (-1) x.1) ((J 0) 0 7) then stF (J 3) (gt_goTo (J 3) x.2.2.2.2.2.2 (-1) x.1) ((J 0) 0 7) else 1))), (4, .int (if 1 < stF (J 3) (gt_goTo (J 3) x.2.2.2.2.2.2 (-1) x.1) ((J 0) 0 7) then stF (J 3) (gt_goTo (J 3) x.2.2.2.2.2.2 (-1) x.1) ((J 0) 0 7) else 1)), (6, .int (rdF (gt_paint (gt_goTo (J 3) x.2.2.2.2.2.2 (-1) x.1) x.2.1))), (0, .ref (aJ 0)), (1, .int x.2.2.1), (3, .int x.2.2.2.2.1), (5, .int x.2.2.2.2.2.2)] dX5_longestShot_78 rfl (by decide) rfl ?_
          refine y_iload_n Z dX5_longestShot_79 4 rfl rfl ?_
          refine y_iload_n Z dX5_longestShot_80 0 rfl rfl ?_
          refine y_mmax Z ml_RX5_140 st_mmax in_Math co_mmax (Nat.le_of_ble_eq_true rfl) (Nat.le_of_ble_eq_true rfl) (Nat.le_of_ble_eq_true rfl) (Nat.le_of_ble_eq_true rfl) dX5_longestShot_81 ?_
          refine y_istore_n Z [(1, .int (if x.2.2.1 < (x.2.2.2.1 + (if 1 < stF (J 3) (gt_goTo (J 3) x.2.2.2.2.2.2 (-1) x.1) ((J 0) 0 7) then stF (J 3) (gt_goTo (J 3) x.2.2.2.2.2.2 (-1) x.1) ((J 0) 0 7) else 1)) then (x.2.2.2.1 + (if 1 < stF (J 3) (gt_goTo (J 3) x.2.2.2.2.2.2 (-1) x.1) ((J 0) 0 7) then stF (J 3) (gt_goTo (J 3) x.2.2.2.2.2.2 (-1) x.1) ((J 0) 0 7) else 1)) else x.2.2.1)), (2, .int (x.2.2.2.1 + (if 1 < stF (J 3) (gt_goTo (J 3) x.2.2.2.2.2.2 (-1) x.1) ((J 0) 0 7) then stF (J 3) (gt_goTo (J 3) x.2.2.2.2.2.2 (-1) x.1) ((J 0) 0 7) else 1))), (4, .int (if 1 < stF (J 3) (gt_goTo (J 3) x.2.2.2.2.2.2 (-1) x.1) ((J 0) 0 7) then stF (J 3) (gt_goTo (J 3) x.2.2.2.2.2.2 (-1) x.1) ((J 0) 0 7) else 1)), (6, .int (rdF (gt_paint (gt_goTo (J 3) x.2.2.2.2.2.2 (-1) x.1) x.2.1))), (0, .ref (aJ 0)), (3, .int x.2.2.2.2.1), (5, .int x.2.2.2.2.2.2)] dX5_longestShot_84 rfl (by decide) rfl ?_
          refine y_iload Z dX5_longestShot_85 3 rfl ?_
          refine y_istore_n Z [(3, .int (rdF (gt_paint (gt_goTo (J 3) x.2.2.2.2.2.2 (-1) x.1) x.2.1))), (1, .int (if x.2.2.1 < (x.2.2.2.1 + (if 1 < stF (J 3) (gt_goTo (J 3) x.2.2.2.2.2.2 (-1) x.1) ((J 0) 0 7) then stF (J 3) (gt_goTo (J 3) x.2.2.2.2.2.2 (-1) x.1) ((J 0) 0 7) else 1)) then (x.2.2.2.1 + (if 1 < stF (J 3) (gt_goTo (J 3) x.2.2.2.2.2.2 (-1) x.1) ((J 0) 0 7) then stF (J 3) (gt_goTo (J 3) x.2.2.2.2.2.2 (-1) x.1) ((J 0) 0 7) else 1)) else x.2.2.1)), (2, .int (x.2.2.2.1 + (if 1 < stF (J 3) (gt_goTo (J 3) x.2.2.2.2.2.2 (-1) x.1) ((J 0) 0 7) then stF (J 3) (gt_goTo (J 3) x.2.2.2.2.2.2 (-1) x.1) ((J 0) 0 7) else 1))), (4, .int (if 1 < stF (J 3) (gt_goTo (J 3) x.2.2.2.2.2.2 (-1) x.1) ((J 0) 0 7) then stF (J 3) (gt_goTo (J 3) x.2.2.2.2.2.2 (-1) x.1) ((J 0) 0 7) else 1)), (6, .int (rdF (gt_paint (gt_goTo (J 3) x.2.2.2.2.2.2 (-1) x.1) x.2.1))), (0, .ref (aJ 0)), (5, .int x.2.2.2.2.2.2)] dX5_longestShot_87 rfl (by decide) rfl ?_
          refine y_iload Z dX5_longestShot_88 6 rfl ?_
          refine y_iload Z dX5_longestShot_90 3 rfl ?_
          refine y_iadd Z dX5_longestShot_92 ?_
          refine y_istore Z [(5, .int (x.2.2.2.2.2.2 + (if 1 < stF (J 3) (gt_goTo (J 3) x.2.2.2.2.2.2 (-1) x.1) ((J 0) 0 7) then stF (J 3) (gt_goTo (J 3) x.2.2.2.2.2.2 (-1) x.1) ((J 0) 0 7) else 1))), (3, .int (rdF (gt_paint (gt_goTo (J 3) x.2.2.2.2.2.2 (-1) x.1) x.2.1))), (1, .int (if x.2.2.1 < (x.2.2.2.1 + (if 1 < stF (J 3) (gt_goTo (J 3) x.2.2.2.2.2.2 (-1) x.1) ((J 0) 0 7) then stF (J 3) (gt_goTo (J 3) x.2.2.2.2.2.2 (-1) x.1) ((J 0) 0 7) else 1)) then (x.2.2.2.1 + (if 1 < stF (J 3) (gt_goTo (J 3) x.2.2.2.2.2.2 (-1) x.1) ((J 0) 0 7) then stF (J 3) (gt_goTo (J 3) x.2.2.2.2.2.2 (-1) x.1) ((J 0) 0 7) else 1)) else x.2.2.1)), (2, .int (x.2.2.2.1 + (if 1 < stF (J 3) (gt_goTo (J 3) x.2.2.2.2.2.2 (-1) x.1) ((J 0) 0 7) then stF (J 3) (gt_goTo (J 3) x.2.2.2.2.2.2 (-1) x.1) ((J 0) 0 7) else 1))), (4, .int (if 1 < stF (J 3) (gt_goTo (J 3) x.2.2.2.2.2.2 (-1) x.1) ((J 0) 0 7) then stF (J 3) (gt_goTo (J 3) x.2.2.2.2.2.2 (-1) x.1) ((J 0) 0 7) else 1)), (6, .int (rdF (gt_paint (gt_goTo (J 3) x.2.2.2.2.2.2 (-1) x.1) x.2.1))), (0, .ref (aJ 0))] dX5_longestShot_93 (by decide) rfl ?_
          refine y_goto (tgt := 19) Z dX5_longestShot_95 (by decide) ?_
          refine y_lv [6, 2, 3, 1, 4, 0] (lv' := [(0, .ref (aJ 0)), (1, .int (if x.2.2.1 < (x.2.2.2.1 + (if 1 < stF (J 3) (gt_goTo (J 3) x.2.2.2.2.2.2 (-1) x.1) ((J 0) 0 7) then stF (J 3) (gt_goTo (J 3) x.2.2.2.2.2.2 (-1) x.1) ((J 0) 0 7) else 1)) then (x.2.2.2.1 + (if 1 < stF (J 3) (gt_goTo (J 3) x.2.2.2.2.2.2 (-1) x.1) ((J 0) 0 7) then stF (J 3) (gt_goTo (J 3) x.2.2.2.2.2.2 (-1) x.1) ((J 0) 0 7) else 1)) else x.2.2.1)), (2, .int (x.2.2.2.1 + (if 1 < stF (J 3) (gt_goTo (J 3) x.2.2.2.2.2.2 (-1) x.1) ((J 0) 0 7) then stF (J 3) (gt_goTo (J 3) x.2.2.2.2.2.2 (-1) x.1) ((J 0) 0 7) else 1))), (3, .int (rdF (gt_paint (gt_goTo (J 3) x.2.2.2.2.2.2 (-1) x.1) x.2.1))), (4, .int (if 1 < stF (J 3) (gt_goTo (J 3) x.2.2.2.2.2.2 (-1) x.1) ((J 0) 0 7) then stF (J 3) (gt_goTo (J 3) x.2.2.2.2.2.2 (-1) x.1) ((J 0) 0 7) else 1)), (5, .int (x.2.2.2.2.2.2 + (if 1 < stF (J 3) (gt_goTo (J 3) x.2.2.2.2.2.2 (-1) x.1) ((J 0) 0 7) then stF (J 3) (gt_goTo (J 3) x.2.2.2.2.2.2 (-1) x.1) ((J 0) 0 7) else 1)))]) rfl ?_
          refine y_eq (ws' := (wVMR cI aJ (J 0) (J 1) (J 2) (J 3) (((lsB J) x).1) (J 5) (((lsB J) x).2.1) (J 7))) (lv' := [(0, .ref (aJ 0)), (1, .int (((lsB J) x).2.2.1)), (2, .int (((lsB J) x).2.2.2.1)), (3, .int (((lsB J) x).2.2.2.2.1)), (4, .int (((lsB J) x).2.2.2.2.2.1)), (5, .int (((lsB J) x).2.2.2.2.2.2))]) (st' := []) (by first | (simp only [lsB, lsH, vm_ra, vm_pO, lpR, lpO, lpS, mx1, h4, eq_true h6, if_true, if_false, not_false_eq_true, not_true_eq_false, ↓reduceIte]; done) | (simp only [lsB, lsH, vm_ra, vm_pO, lpR, lpO, lpS, mx1, h4, eq_true h6, if_true, if_false, not_false_eq_true, not_true_eq_false, ↓reduceIte, wMix, wLog, wPic, wRep, wScr, wVM, wMd, sR_eq, sR_ne, sF_eq, sF_ne, upd_eq, upd_ne, gs_eq, gs_ne, gm_4, gm_ne, Nat.reduceBEq]; done) | (with_reducible rfl) | contradiction | (simp only [lsB, lsH, vm_ra, vm_pO, lpR, lpO, lpS, mx1, h4, eq_true h6, if_true, if_false, not_false_eq_true, not_true_eq_false, ↓reduceIte]; rfl) | rfl) (by first | (simp only [lsB, lsH, vm_ra, vm_pO, lpR, lpO, lpS, mx1, h4, eq_true h6, if_true, if_false, not_false_eq_true, not_true_eq_false, ↓reduceIte]; done) | (simp only [lsB, lsH, vm_ra, vm_pO, lpR, lpO, lpS, mx1, h4, eq_true h6, if_true, if_false, not_false_eq_true, not_true_eq_false, ↓reduceIte, wMix, wLog, wPic, wRep, wScr, wVM, wMd, sR_eq, sR_ne, sF_eq, sF_ne, upd_eq, upd_ne, gs_eq, gs_ne, gm_4, gm_ne, Nat.reduceBEq]; done) | (with_reducible rfl) | contradiction | (simp only [lsB, lsH, vm_ra, vm_pO, lpR, lpO, lpS, mx1, h4, eq_true h6, if_true, if_false, not_false_eq_true, not_true_eq_false, ↓reduceIte]; rfl) | rfl) rfl ?_
          exact ih _ (go_nn h_n hI) (by rw [lw_t hb] at hc; exact hc) (by rw [lw_t hb] at hx; exact hx)
  refine y_iconst (v := 0) Z dX5_longestShot_0 (by decide) ?_
  refine y_istore_n Z [(1, .int 0), (0, .ref (aJ 0))] dX5_longestShot_1 rfl (by decide) rfl ?_
  refine y_iconst (v := 0) Z dX5_longestShot_2 (by decide) ?_
  refine y_istore_n Z [(2, .int 0), (1, .int 0), (0, .ref (aJ 0))] dX5_longestShot_3 rfl (by decide) rfl ?_
  refine y_iconst (v := -1) Z dX5_longestShot_4 (by decide) ?_
  refine y_istore_n Z [(3, .int (-1)), (2, .int 0), (1, .int 0), (0, .ref (aJ 0))] dX5_longestShot_5 rfl (by decide) rfl ?_
  refine y_iconst (v := 1) Z dX5_longestShot_6 (by decide) ?_
  refine y_istore Z [(4, .int 1), (3, .int (-1)), (2, .int 0), (1, .int 0), (0, .ref (aJ 0))] dX5_longestShot_7 (by decide) rfl ?_
  refine y_aload_n Z dX5_longestShot_9 4 rfl rfl ?_
  refine y_get (C := RX5) (T := TX5) (N := 8) Z 5 inlX5 rfl 0 rfl 4 (by decide) fl_RX5_32 rfl dX5_longestShot_10 ?_
  refine y_VV Z (k_X3_begin l D ht0 (fun k => aJ (15 + k)) (J 4)) (y_cwV 0 Z ml_RX5_126 im_X3_begin se_X3_begin in_X3 co_X3_begin rfl rfl hd_X3_begin ⟨Nat.le_of_ble_eq_true rfl, Nat.le_of_ble_eq_true rfl⟩) [15, 16, 17, 18, 19] rfl (by decide) 3 15 rfl rfl rfl rfl (Nat.le_of_ble_eq_true rfl) dX5_longestShot_13 ⟨Nat.le_of_ble_eq_true rfl, Nat.le_of_ble_eq_true rfl⟩ [(aJ 15), (aJ 16), (aJ 17), (aJ 18), (aJ 19)] rfl rfl (wVMR cI aJ (J 0) (J 1) (J 2) (J 3) (gt_begin (J 4)) (J 5) (J 6) (J 7)) rfl ?_
  refine y_iconst (v := 0) Z dX5_longestShot_16 (by decide) ?_
  refine y_istore Z [(5, .int 0), (4, .int 1), (3, .int (-1)), (2, .int 0), (1, .int 0), (0, .ref (aJ 0))] dX5_longestShot_17 (by decide) rfl ?_
  refine y_lv [5, 4, 3, 2, 1, 0] (lv' := [(0, .ref (aJ 0)), (1, .int 0), (2, .int 0), (3, .int (-1)), (4, .int 1), (5, .int 0)]) rfl ?_
  exact L19 5002 (gt_begin (J 4), J 6, 0, 0, -1, 1, 0) (bg_nn (J 4)) h_stop rfl
set_option maxHeartbeats 4000000 in
set_option maxRecDepth 100000 in
theorem k_X5_idle (l : Launch) (D : va_G) {cI : ClassId} {tys : List (ClassId × FieldType)} (ht0 : tys[0]? = some (cI, .int)) (aJ : Nat → Nat) (J : Nat → Nat → Nat → Int32) (h_n : J 3 0 0 ≤ 100) (h_stop : idC J (idX J) = false) (sz : Nat) : kI l yX5_idle cX5_idle 3 (some .int) { frames := 7, cells := 0, slots := 0, locals := 156 } D tys [.ref (aJ 0)] (wVM cI aJ J) (wVM cI aJ (vm_id J)) ((idX J).2.2.1) 0 0 sz := by
  refine y_enterI (cc := cX5_idle) (maxL := 3) (ret := (some .int)) (own := RX5) (by decide) rfl (lv0 := [(0, .ref (aJ 0))]) rfl (Nat.le_of_ble_eq_true rfl) ?_
  intro p e s m args below meth c A Z hr hlk _
  have L15 : ∀ (n : Nat) (x : (Nat → Nat → Int32) × (Nat → Nat → Int32) × Int32 × Int32), (idC J) (lw (idC J) (idB J) n x) = false → lw (idC J) (idB J) n x = (lw (idC J) (idB J) 101 (J 4, J 6, 0, 0)) → Yy p l e { frames := 7, cells := 0, slots := 0, locals := 156 } s m args below meth c (QI D tys A (wVM cI aJ (vm_id J)) ((idX J).2.2.1) below args s 0 0) D A 3 0 0 (wVMR cI aJ (J 0) (J 1) (J 2) (J 3) x.1 (gt_paint (J 0) (J 5)) x.2.1 (J 7)) [(0, .ref (aJ 0)), (1, .int x.2.2.1), (2, .int x.2.2.2)] [] 15 := by
    intro n; induction n with
    | zero =>
      intro x hc hx
      refine y_iload_n Z dX5_idle_15 2 rfl rfl ?_
      refine y_aload_n Z dX5_idle_16 0 rfl rfl ?_
      refine y_get (C := RX5) (T := TX5) (N := 8) Z 5 inlX5 rfl 0 rfl 3 (by decide) fl_RX5_25 rfl dX5_idle_17 ?_
      refine y_VI Z (k_X0_size l D ht0 (fun k => aJ (13 + k)) (J 3)) (y_cwV 0 Z ml_RX5_160 im_X0_size se_X0_size in_X0 co_X0_size rfl rfl hd_X0_size ⟨Nat.le_of_ble_eq_true rfl, Nat.le_of_ble_eq_true rfl⟩) [13, 14] rfl (by decide) 0 13 rfl rfl rfl rfl (Nat.le_of_ble_eq_true rfl) dX5_idle_20 ⟨Nat.le_of_ble_eq_true rfl, Nat.le_of_ble_eq_true rfl⟩ [(aJ 13), (aJ 14)] rfl rfl (wVMR cI aJ (J 0) (J 1) (J 2) (J 3) x.1 (gt_paint (J 0) (J 5)) x.2.1 (J 7)) rfl ?_
      refine y_icmp_ge (tgt := 75) Z dX5_idle_23 (by decide) (fun h1 => ?_) (fun h2 => ?_)
      · have hb : (idC J) x = false := by simp only [idC, h1, ↓reduceIte]
        have ex : x = (lw (idC J) (idB J) 101 (J 4, J 6, 0, 0)) := by rw [← hx, lw_f hb]
        refine y_iload_n Z dX5_idle_75 1 rfl rfl ?_
        exact y_retI Z hr hlk dX5_idle_76 (by subst ex; first | (simp only [vm_id, idX, h1, if_true, if_false, not_false_eq_true, not_true_eq_false, ↓reduceIte]; done) | (simp only [vm_id, idX, h1, if_true, if_false, not_false_eq_true, not_true_eq_false, ↓reduceIte, wMix, wLog, wPic, wRep, wScr, wVM, wMd, sR_eq, sR_ne, sF_eq, sF_ne, upd_eq, upd_ne, gs_eq, gs_ne, gm_4, gm_ne, Nat.reduceBEq]; done) | (with_reducible rfl) | contradiction | (simp only [vm_id, idX, h1, if_true, if_false, not_false_eq_true, not_true_eq_false, ↓reduceIte]; rfl) | rfl) (by subst ex; first | (simp only [vm_id, idX, h1, if_true, if_false, not_false_eq_true, not_true_eq_false, ↓reduceIte]; done) | (simp only [vm_id, idX, h1, if_true, if_false, not_false_eq_true, not_true_eq_false, ↓reduceIte, wMix, wLog, wPic, wRep, wScr, wVM, wMd, sR_eq, sR_ne, sF_eq, sF_ne, upd_eq, upd_ne, gs_eq, gs_ne, gm_4, gm_ne, Nat.reduceBEq]; done) | (with_reducible rfl) | contradiction | (simp only [vm_id, idX, h1, if_true, if_false, not_false_eq_true, not_true_eq_false, ↓reduceIte]; rfl) | rfl)
      · exact absurd (show (idC J) x = true by simp only [idC, h2, ↓reduceIte]) (by rw [show (idC J) x = false from hc]; decide)
    | succ n ih =>
      intro x hc hx
      refine y_iload_n Z dX5_idle_15 2 rfl rfl ?_
      refine y_aload_n Z dX5_idle_16 0 rfl rfl ?_
      refine y_get (C := RX5) (T := TX5) (N := 8) Z 5 inlX5 rfl 0 rfl 3 (by decide) fl_RX5_25 rfl dX5_idle_17 ?_
      refine y_VI Z (k_X0_size l D ht0 (fun k => aJ (13 + k)) (J 3)) (y_cwV 0 Z ml_RX5_160 im_X0_size se_X0_size in_X0 co_X0_size rfl rfl hd_X0_size ⟨Nat.le_of_ble_eq_true rfl, Nat.le_of_ble_eq_true rfl⟩) [13, 14] rfl (by decide) 0 13 rfl rfl rfl rfl (Nat.le_of_ble_eq_true rfl) dX5_idle_20 ⟨Nat.le_of_ble_eq_true rfl, Nat.le_of_ble_eq_true rfl⟩ [(aJ 13), (aJ 14)] rfl rfl (wVMR cI aJ (J 0) (J 1) (J 2) (J 3) x.1 (gt_paint (J 0) (J 5)) x.2.1 (J 7)) rfl ?_
      refine y_icmp_ge (tgt := 75) Z dX5_idle_23 (by decide) (fun h3 => ?_) (fun h4 => ?_)
      · have hb : (idC J) x = false := by simp only [idC, h3, ↓reduceIte]
        have ex : x = (lw (idC J) (idB J) 101 (J 4, J 6, 0, 0)) := by rw [← hx, lw_f hb]
        refine y_iload_n Z dX5_idle_75 1 rfl rfl ?_
        exact y_retI Z hr hlk dX5_idle_76 (by subst ex; first | (simp only [vm_id, idX, h3, if_true, if_false, not_false_eq_true, not_true_eq_false, ↓reduceIte]; done) | (simp only [vm_id, idX, h3, if_true, if_false, not_false_eq_true, not_true_eq_false, ↓reduceIte, wMix, wLog, wPic, wRep, wScr, wVM, wMd, sR_eq, sR_ne, sF_eq, sF_ne, upd_eq, upd_ne, gs_eq, gs_ne, gm_4, gm_ne, Nat.reduceBEq]; done) | (with_reducible rfl) | contradiction | (simp only [vm_id, idX, h3, if_true, if_false, not_false_eq_true, not_true_eq_false, ↓reduceIte]; rfl) | rfl) (by subst ex; first | (simp only [vm_id, idX, h3, if_true, if_false, not_false_eq_true, not_true_eq_false, ↓reduceIte]; done) | (simp only [vm_id, idX, h3, if_true, if_false, not_false_eq_true, not_true_eq_false, ↓reduceIte, wMix, wLog, wPic, wRep, wScr, wVM, wMd, sR_eq, sR_ne, sF_eq, sF_ne, upd_eq, upd_ne, gs_eq, gs_ne, gm_4, gm_ne, Nat.reduceBEq]; done) | (with_reducible rfl) | contradiction | (simp only [vm_id, idX, h3, if_true, if_false, not_false_eq_true, not_true_eq_false, ↓reduceIte]; rfl) | rfl)
      · have hb : (idC J) x = true := by simp only [idC, h4, ↓reduceIte]
        refine y_aload_n Z dX5_idle_26 0 rfl rfl ?_
        refine y_aload_n Z dX5_idle_27 0 rfl rfl ?_
        refine y_get (C := RX5) (T := TX5) (N := 8) Z 5 inlX5 rfl 0 rfl 0 (by decide) fl_RX5_10 rfl dX5_idle_28 ?_
        refine y_getN (host := RX5) (C := RX1) (T := TX1) (N := 14) Z 1 inlX1 rfl 1 rfl 7 (by decide) nl_RX5_71 rfl dX5_idle_31 ?_
        refine y_iload_n Z dX5_idle_34 2 rfl rfl ?_
        refine y_VVw Z (k_X5_replayTo l D ht0 aJ (gs (gs (gs J 4 x.1) 5 (gt_paint (J 0) (J 5))) 6 x.2.1) ((J 0) 0 7) x.2.2.2 (by simp only [gs_eq, gs_ne, Nat.reduceBEq]; exact h_n)) (y_cwV 2 Z ml_RX5_116 im_X5_replayTo se_X5_replayTo in_X5 co_X5_replayTo rfl rfl hd_X5_replayTo ⟨Nat.le_of_ble_eq_true rfl, Nat.le_of_ble_eq_true rfl⟩) List.nil List.nil (by simp only [List.nil_append, List.append_nil, wMix, wLog, wPic, wRep, wScr, wVM, wMd, sR_eq, sR_ne, sF_eq, sF_ne, upd_eq, upd_ne, gs_eq, gs_ne, gm_4, gm_ne, Nat.reduceBEq]) 5 0 rfl rfl rfl rfl (Nat.le_of_ble_eq_true rfl) dX5_idle_35 ⟨Nat.le_of_ble_eq_true rfl, Nat.le_of_ble_eq_true rfl⟩ (wVMR cI aJ (J 0) (J 1) (J 2) (J 3) (gt_goTo (J 3) ((J 0) 0 7) x.2.2.2 (gt_begin x.1)) (gt_paint (J 0) (J 5)) x.2.1 (J 7)) (by simp only [List.nil_append, List.append_nil, vm_replay, wMix, wLog, wPic, wRep, wScr, wVM, wMd, sR_eq, sR_ne, sF_eq, sF_ne, upd_eq, upd_ne, gs_eq, gs_ne, gm_4, gm_ne, Nat.reduceBEq]) ?_
        refine y_aload_n Z dX5_idle_38 0 rfl rfl ?_
        refine y_get (C := RX5) (T := TX5) (N := 8) Z 5 inlX5 rfl 0 rfl 6 (by decide) fl_RX5_43 rfl dX5_idle_39 ?_
        refine y_aload_n Z dX5_idle_42 0 rfl rfl ?_
        refine y_get (C := RX5) (T := TX5) (N := 8) Z 5 inlX5 rfl 0 rfl 4 (by decide) fl_RX5_32 rfl dX5_idle_43 ?_
        refine y_getN (host := RX5) (C := RX3) (T := TX3) (N := 2) Z 3 inlX3 rfl 15 rfl 0 (by decide) nl_RX5_120 rfl dX5_idle_46 ?_
        refine y_VV Z (k_X2_paint l D ht0 (fun k => aJ (22 + k)) x.2.1 (fun k => aJ (16 + k)) (gt_goTo (J 3) ((J 0) 0 7) x.2.2.2 (gt_begin x.1))) (y_cwV 1 Z ml_RX5_89 im_X2_paint se_X2_paint in_X2 co_X2_paint rfl rfl hd_X2_paint ⟨Nat.le_of_ble_eq_true rfl, Nat.le_of_ble_eq_true rfl⟩) [22, 23, 16, 17, 18, 19] rfl (by decide) 2 22 rfl rfl rfl rfl (Nat.le_of_ble_eq_true rfl) dX5_idle_49 ⟨Nat.le_of_ble_eq_true rfl, Nat.le_of_ble_eq_true rfl⟩ [(aJ 22), (aJ 23), (aJ 16), (aJ 17), (aJ 18), (aJ 19)] rfl rfl (wVMR cI aJ (J 0) (J 1) (J 2) (J 3) (gt_goTo (J 3) ((J 0) 0 7) x.2.2.2 (gt_begin x.1)) (gt_paint (J 0) (J 5)) (gt_paint (gt_goTo (J 3) ((J 0) 0 7) x.2.2.2 (gt_begin x.1)) x.2.1) (J 7)) rfl ?_
        refine y_aload_n Z dX5_idle_52 0 rfl rfl ?_
        refine y_get (C := RX5) (T := TX5) (N := 8) Z 5 inlX5 rfl 0 rfl 6 (by decide) fl_RX5_43 rfl dX5_idle_53 ?_
        refine y_aload_n Z dX5_idle_56 0 rfl rfl ?_
        refine y_get (C := RX5) (T := TX5) (N := 8) Z 5 inlX5 rfl 0 rfl 5 (by decide) fl_RX5_39 rfl dX5_idle_57 ?_
        refine y_VI Z (k_X2_sameParts l D ht0 (fun k => aJ (22 + k)) (gt_paint (gt_goTo (J 3) ((J 0) 0 7) x.2.2.2 (gt_begin x.1)) x.2.1) (fun k => aJ (20 + k)) (gt_paint (J 0) (J 5))) (y_cwV 1 Z ml_RX5_167 im_X2_sameParts se_X2_sameParts in_X2 co_X2_sameParts rfl rfl hd_X2_sameParts ⟨Nat.le_of_ble_eq_true rfl, Nat.le_of_ble_eq_true rfl⟩) [22, 23, 20, 21] rfl (by decide) 2 22 rfl rfl rfl rfl (Nat.le_of_ble_eq_true rfl) dX5_idle_60 ⟨Nat.le_of_ble_eq_true rfl, Nat.le_of_ble_eq_true rfl⟩ [(aJ 22), (aJ 23), (aJ 20), (aJ 21)] rfl rfl (wVMR cI aJ (J 0) (J 1) (J 2) (J 3) (gt_goTo (J 3) ((J 0) 0 7) x.2.2.2 (gt_begin x.1)) (gt_paint (J 0) (J 5)) (gt_paint (gt_goTo (J 3) ((J 0) 0 7) x.2.2.2 (gt_begin x.1)) x.2.1) (J 7)) rfl ?_
        refine y_if_eq (tgt := 69) Z dX5_idle_63 (by decide) (fun h5 => ?_) (fun h6 => ?_)
        · refine y_iinc Z [(2, .int (x.2.2.2 + 1)), (0, .ref (aJ 0)), (1, .int x.2.2.1)] dX5_idle_69 2 rfl rfl (by decide) rfl ?_
          refine y_goto (tgt := 15) Z dX5_idle_72 (by decide) ?_
          refine y_lv [1, 2, 0] (lv' := [(0, .ref (aJ 0)), (1, .int x.2.2.1), (2, .int (x.2.2.2 + 1))]) rfl ?_
          refine y_eq (ws' := (wVMR cI aJ (J 0) (J 1) (J 2) (J 3) (((idB J) x).1) (gt_paint (J 0) (J 5)) (((idB J) x).2.1) (J 7))) (lv' := [(0, .ref (aJ 0)), (1, .int (((idB J) x).2.2.1)), (2, .int (((idB J) x).2.2.2))]) (st' := []) (by first | (simp only [idB, idR, h4, eq_true h5, if_true, if_false, not_false_eq_true, not_true_eq_false, ↓reduceIte]; done) | (simp only [idB, idR, h4, eq_true h5, if_true, if_false, not_false_eq_true, not_true_eq_false, ↓reduceIte, wMix, wLog, wPic, wRep, wScr, wVM, wMd, sR_eq, sR_ne, sF_eq, sF_ne, upd_eq, upd_ne, gs_eq, gs_ne, gm_4, gm_ne, Nat.reduceBEq]; done) | (with_reducible rfl) | contradiction | (simp only [idB, idR, h4, eq_true h5, if_true, if_false, not_false_eq_true, not_true_eq_false, ↓reduceIte]; rfl) | rfl) (by first | (simp only [idB, idR, h4, eq_true h5, if_true, if_false, not_false_eq_true, not_true_eq_false, ↓reduceIte]; done) | (simp only [idB, idR, h4, eq_true h5, if_true, if_false, not_false_eq_true, not_true_eq_false, ↓reduceIte, wMix, wLog, wPic, wRep, wScr, wVM, wMd, sR_eq, sR_ne, sF_eq, sF_ne, upd_eq, upd_ne, gs_eq, gs_ne, gm_4, gm_ne, Nat.reduceBEq]; done) | (with_reducible rfl) | contradiction | (simp only [idB, idR, h4, eq_true h5, if_true, if_false, not_false_eq_true, not_true_eq_false, ↓reduceIte]; rfl) | rfl) rfl ?_
          exact ih _  (by rw [lw_t hb] at hc; exact hc) (by rw [lw_t hb] at hx; exact hx)
        · refine y_iinc Z [(1, .int (x.2.2.1 + 1)), (0, .ref (aJ 0)), (2, .int x.2.2.2)] dX5_idle_66 1 rfl rfl (by decide) rfl ?_
          refine y_iinc Z [(2, .int (x.2.2.2 + 1)), (1, .int (x.2.2.1 + 1)), (0, .ref (aJ 0))] dX5_idle_69 2 rfl rfl (by decide) rfl ?_
          refine y_goto (tgt := 15) Z dX5_idle_72 (by decide) ?_
          refine y_lv [2, 1, 0] (lv' := [(0, .ref (aJ 0)), (1, .int (x.2.2.1 + 1)), (2, .int (x.2.2.2 + 1))]) rfl ?_
          refine y_eq (ws' := (wVMR cI aJ (J 0) (J 1) (J 2) (J 3) (((idB J) x).1) (gt_paint (J 0) (J 5)) (((idB J) x).2.1) (J 7))) (lv' := [(0, .ref (aJ 0)), (1, .int (((idB J) x).2.2.1)), (2, .int (((idB J) x).2.2.2))]) (st' := []) (by first | (simp only [idB, idR, h4, h6, if_true, if_false, not_false_eq_true, not_true_eq_false, ↓reduceIte]; done) | (simp only [idB, idR, h4, h6, if_true, if_false, not_false_eq_true, not_true_eq_false, ↓reduceIte, wMix, wLog, wPic, wRep, wScr, wVM, wMd, sR_eq, sR_ne, sF_eq, sF_ne, upd_eq, upd_ne, gs_eq, gs_ne, gm_4, gm_ne, Nat.reduceBEq]; done) | (with_reducible rfl) | contradiction | (simp only [idB, idR, h4, h6, if_true, if_false, not_false_eq_true, not_true_eq_false, ↓reduceIte]; rfl) | rfl) (by first | (simp only [idB, idR, h4, h6, if_true, if_false, not_false_eq_true, not_true_eq_false, ↓reduceIte]; done) | (simp only [idB, idR, h4, h6, if_true, if_false, not_false_eq_true, not_true_eq_false, ↓reduceIte, wMix, wLog, wPic, wRep, wScr, wVM, wMd, sR_eq, sR_ne, sF_eq, sF_ne, upd_eq, upd_ne, gs_eq, gs_ne, gm_4, gm_ne, Nat.reduceBEq]; done) | (with_reducible rfl) | contradiction | (simp only [idB, idR, h4, h6, if_true, if_false, not_false_eq_true, not_true_eq_false, ↓reduceIte]; rfl) | rfl) rfl ?_
          exact ih _  (by rw [lw_t hb] at hc; exact hc) (by rw [lw_t hb] at hx; exact hx)
  refine y_iconst (v := 0) Z dX5_idle_0 (by decide) ?_
  refine y_istore_n Z [(1, .int 0), (0, .ref (aJ 0))] dX5_idle_1 rfl (by decide) rfl ?_
  refine y_aload_n Z dX5_idle_2 1 rfl rfl ?_
  refine y_get (C := RX5) (T := TX5) (N := 8) Z 5 inlX5 rfl 0 rfl 5 (by decide) fl_RX5_39 rfl dX5_idle_3 ?_
  refine y_aload_n Z dX5_idle_6 1 rfl rfl ?_
  refine y_get (C := RX5) (T := TX5) (N := 8) Z 5 inlX5 rfl 0 rfl 0 (by decide) fl_RX5_10 rfl dX5_idle_7 ?_
  refine y_VV Z (k_X2_paint l D ht0 (fun k => aJ (20 + k)) (J 5) (fun k => aJ (1 + k)) (J 0)) (y_cwV 1 Z ml_RX5_89 im_X2_paint se_X2_paint in_X2 co_X2_paint rfl rfl hd_X2_paint ⟨Nat.le_of_ble_eq_true rfl, Nat.le_of_ble_eq_true rfl⟩) [20, 21, 1, 2, 3, 4] rfl (by decide) 2 20 rfl rfl rfl rfl (Nat.le_of_ble_eq_true rfl) dX5_idle_10 ⟨Nat.le_of_ble_eq_true rfl, Nat.le_of_ble_eq_true rfl⟩ [(aJ 20), (aJ 21), (aJ 1), (aJ 2), (aJ 3), (aJ 4)] rfl rfl (wVMR cI aJ (J 0) (J 1) (J 2) (J 3) (J 4) (gt_paint (J 0) (J 5)) (J 6) (J 7)) rfl ?_
  refine y_iconst (v := 0) Z dX5_idle_13 (by decide) ?_
  refine y_istore_n Z [(2, .int 0), (1, .int 0), (0, .ref (aJ 0))] dX5_idle_14 rfl (by decide) rfl ?_
  refine y_lv [2, 1, 0] (lv' := [(0, .ref (aJ 0)), (1, .int 0), (2, .int 0)]) rfl ?_
  exact L15 101 (J 4, J 6, 0, 0)  h_stop rfl
