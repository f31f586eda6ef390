def gt_begin (R : Nat → Nat → Int32) : Nat → Nat → Int32 := sF (gm (gt_reset R) R) 4 0 0
def goC (L : Nat → Nat → Int32) (t : Int32) (R : Nat → Nat → Int32) : Bool := if L 0 0 ≤ R 4 0 then false else if t < lgT L (R 4 0) 0 then false else true
def gt_st1 (L R : Nat → Nat → Int32) : Nat → Nat → Int32 := gm (gt_letPass (lgT L (R 4 0) 0 - R 0 7) R) R
def gt_st2 (L R : Nat → Nat → Int32) : Nat → Nat → Int32 := gm (gt_redo L (R 4 0) R) R
def gt_up (R : Nat → Nat → Int32) : Nat → Nat → Int32 := sF R 4 0 (R 4 0 + 1)
def goB (L : Nat → Nat → Int32) (wo : Int32) (R : Nat → Nat → Int32) : Nat → Nat → Int32 := if R 4 0 = wo then gt_up R else gt_up (gt_st2 L (gt_st1 L R))
def gt_goE (t : Int32) (R : Nat → Nat → Int32) : Nat → Nat → Int32 := gm (gt_letPass (t - R 0 7) R) R
def gt_goTo (L : Nat → Nat → Int32) (t wo : Int32) (R : Nat → Nat → Int32) : Nat → Nat → Int32 := gt_goE t (lw (goC L t) (goB L wo) 101 R)
def goStop (L : Nat → Nat → Int32) (t wo : Int32) (R : Nat → Nat → Int32) : Prop := goC L t (lw (goC L t) (goB L wo) 101 R) = false
def stF (L R : Nat → Nat → Int32) (la : Int32) : Int32 := if R 0 6 = -1 then (if L 0 0 ≤ R 4 0 then la + 1 - R 0 7 else (if lgT L (R 4 0) 0 < la + 1 then lgT L (R 4 0) 0 else la + 1) - R 0 7) else 1
def gt_sa1 (v : Int32) (C : Nat → Nat → Int32) : Nat → Nat → Int32 := sR C 1 (putF (C 1) 120 (C 0 0) v)
def gt_sa2 (C : Nat → Nat → Int32) : Nat → Nat → Int32 := sF C 0 0 (C 0 0 + 1)
def gt_sadd (C : Nat → Nat → Int32) (v : Int32) : Nat → Nat → Int32 := gt_sa2 (gt_sa1 v C)
def sgF (C : Nat → Nat → Int32) (q : Int32) : Int32 := if C 0 0 ≤ q then -1 else cellF (C 1) 120 q
def dgF (C : Nat → Nat → Int32) (q : Int32) : Int32 := if sgF C q < 48 then -1 else if 57 < sgF C q then -1 else sgF C q - 48
def gt_miss (C : Nat → Nat → Int32) (q : Int32) : Nat → Nat → Int32 := if C 0 3 = -1 then sF C 0 3 q else C
def gt_at (C : Nat → Nat → Int32) : Nat → Nat → Int32 := sF C 0 2 (C 0 2 + 1)
def gt_semi (C : Nat → Nat → Int32) : Nat → Nat → Int32 := if sgF C (C 0 2) = 59 then gt_at C else gt_at (gt_miss C (C 0 2))
def gt_rdig (C : Nat → Nat → Int32) (hi : Int32) : Nat → Nat → Int32 := if dgF C (C 0 2) = -1 then gt_at (gt_miss C (C 0 2)) else if dgF C (C 0 2) ≤ hi then gt_at C else gt_at (gt_miss C (C 0 2))
def rnC (mo : Int32) (x : (Nat → Nat → Int32) × Int32 × Int32) : Bool := if mo ≤ x.2.2 then false else if dgF x.1 (x.1 0 2) = -1 then false else true
def rnB (x : (Nat → Nat → Int32) × Int32 × Int32) : (Nat → Nat → Int32) × Int32 × Int32 := (gt_at x.1, 10 * x.2.1 + dgF x.1 (x.1 0 2), x.2.2 + 1)
def rnX (C : Nat → Nat → Int32) (mo : Int32) : (Nat → Nat → Int32) × Int32 × Int32 := lw (rnC mo) rnB 5 (C, 0, 0)
def gt_rnE (C : Nat → Nat → Int32) (lo hi : Int32) (x : (Nat → Nat → Int32) × Int32 × Int32) : Nat → Nat → Int32 := if x.1 0 2 = C 0 2 then gt_miss x.1 (x.1 0 2) else if dgF x.1 (x.1 0 2) = -1 then (if x.2.1 < lo then gt_miss x.1 (C 0 2) else if x.2.1 ≤ hi then x.1 else gt_miss x.1 (C 0 2)) else gt_miss x.1 (x.1 0 2)
def gt_rnum (C : Nat → Nat → Int32) (mo lo hi : Int32) : Nat → Nat → Int32 := gt_rnE C lo hi (lw (rnC mo) rnB 5 (C, 0, 0))
def gt_cput (i v : Int32) (C : Nat → Nat → Int32) : Nat → Nat → Int32 := sR C 2 (putF (C 2) 180 i v)
def gt_cinc (C : Nat → Nat → Int32) : Nat → Nat → Int32 := sF C 0 1 (C 0 1 + 1)
def gt_kp1 (w : Int32) (C : Nat → Nat → Int32) : Nat → Nat → Int32 := gt_cput (C 0 1 * 3) w C
def gt_kp2 (a : Int32) (C : Nat → Nat → Int32) : Nat → Nat → Int32 := gt_cput (C 0 1 * 3 + 1) a C
def gt_kp3 (b : Int32) (C : Nat → Nat → Int32) : Nat → Nat → Int32 := gt_cput (C 0 1 * 3 + 2) b C
def gt_keep (C : Nat → Nat → Int32) (w a b : Int32) : Nat → Nat → Int32 := gt_cinc (gt_kp3 b (gt_kp2 a (gt_kp1 w C)))
def ordF (g : Int32) : Int32 := if g = 97 then 7 else if g = 98 then 8 else if g = 99 then 6 else if g = 107 then 2 else if g = 110 then 3 else if g = 112 then 0 else if g = 118 then 1 else if g = 119 then 10 else -1
def gt_fin (w a b : Int32) (C : Nat → Nat → Int32) : Nat → Nat → Int32 := gt_keep (gt_semi C) w a b
def gt_ro2 (w : Int32) (C : Nat → Nat → Int32) : Nat → Nat → Int32 := if w = 0 then gt_fin w (dgF C (C 0 2)) (-1) (gt_rdig C 9) else if w = 1 then gt_fin w (dgF C (C 0 2)) (-1) (gt_rdig C 9) else if w = 2 then gt_fin w (dgF C (C 0 2)) (rnX (gt_rdig C 2) 3).2.1 (gt_rnum (gt_rdig C 2) 3 1 100) else if w = 3 then gt_fin w (dgF C (C 0 2)) (-1) (gt_rdig C 7) else if w = 8 then gt_fin w (rnX C 4).2.1 (-1) (gt_rnum C 4 0 1000) else if w = 10 then gt_fin w (rnX C 3).2.1 (-1) (gt_rnum C 3 0 999) else gt_fin w (-1) (-1) C
def gt_ro (C : Nat → Nat → Int32) : Nat → Nat → Int32 := if ordF (sgF C (C 0 2)) = -1 then gt_miss C (C 0 2) else gt_ro2 (ordF (sgF C (C 0 2))) (gt_at C)
def reC (x : (Nat → Nat → Int32) × Int32) : Bool := if 120 ≤ x.2 then false else if x.1 0 0 ≤ x.1 0 2 then false else if x.1 0 3 = -1 then true else false
def reB (x : (Nat → Nat → Int32) × Int32) : (Nat → Nat → Int32) × Int32 := (gt_ro x.1, x.2 + 1)
def gt_re0 (C : Nat → Nat → Int32) : Nat → Nat → Int32 := sF (sF (sF C 0 2 0) 0 1 0) 0 3 (-1)
def gt_read (C : Nat → Nat → Int32) : Nat → Nat → Int32 := (lw reC reB 121 (gt_re0 C, 0)).1
theorem lw_stop {α : Type} {c : α → Bool} {b : α → α} (I : α → Prop) (μ : α → Nat) (hI : ∀ x, I x → c x = true → I (b x)) (hd : ∀ x, I x → c x = true → μ (b x) < μ x) : ∀ (n : Nat) (x : α), I x → μ x < n → c (lw c b n x) = false
  | 0, x, _, h => by omega
  | n + 1, x, hi, h => by
    cases hc : c x with
    | false => rw [lw_f hc]; exact hc
    | true => rw [lw_t hc]; exact lw_stop I μ hI hd n (b x) (hI x hi hc) (by have := hd x hi hc; omega)
theorem rn_stop (C : Nat → Nat → Int32) (mo : Int32) (hm : mo ≤ 4) : rnC mo (lw (rnC mo) rnB 5 (C, 0, 0)) = false := by
  refine lw_stop (fun x => ∃ k : Nat, k ≤ 4 ∧ x.2.2 = nI k) (fun x => 4 - x.2.2.toNatClampNeg) ?_ ?_ 5 _ ⟨0, by omega, rfl⟩ (by show 4 - _ < 5; omega)
  · intro x ⟨k, hk, e⟩ hc
    have h4 : k < 4 := by
      rcases Nat.lt_or_ge k 4 with h | h
      · exact h
      · exfalso
        have : k = 4 := by omega
        subst this
        simp only [rnC, e] at hc
        rw [if_pos (show mo ≤ nI 4 from hm)] at hc
        cases hc
    exact ⟨k + 1, by omega, by show x.2.2 + 1 = _; rw [e, nI_1]⟩
  · intro x ⟨k, hk, e⟩ hc
    have h4 : k < 4 := by
      rcases Nat.lt_or_ge k 4 with h | h
      · exact h
      · exfalso
        have : k = 4 := by omega
        subst this
        simp only [rnC, e] at hc
        rw [if_pos (show mo ≤ nI 4 from hm)] at hc
        cases hc
    show 4 - (x.2.2 + 1).toNatClampNeg < 4 - x.2.2.toNatClampNeg
    rw [e, nI_1, nI_clamp (by omega), nI_clamp (by omega)]
    omega
theorem re_stop (C : Nat → Nat → Int32) : reC (lw reC reB 121 (C, 0)) = false := by
  have key : ∀ x : (Nat → Nat → Int32) × Int32, (∃ k : Nat, k ≤ 120 ∧ x.2 = nI k) → reC x = true → ∃ k : Nat, k < 120 ∧ x.2 = nI k := by
    intro x ⟨k, hk, e⟩ hc
    rcases Nat.lt_or_ge k 120 with h | h
    · exact ⟨k, h, e⟩
    · exfalso
      have : k = 120 := by omega
      subst this
      simp only [reC, e] at hc
      rw [if_pos (show (120 : Int32) ≤ nI 120 by decide)] at hc
      cases hc
  refine lw_stop (fun x => ∃ k : Nat, k ≤ 120 ∧ x.2 = nI k) (fun x => 120 - x.2.toNatClampNeg) ?_ ?_ 121 _ ⟨0, by omega, rfl⟩ (by show 120 - _ < 121; omega)
  · intro x hx hc
    obtain ⟨k, hk, e⟩ := key x hx hc
    exact ⟨k + 1, by omega, by show x.2 + 1 = _; rw [e, nI_1]⟩
  · intro x hx hc
    obtain ⟨k, hk, e⟩ := key x hx hc
    show 120 - (x.2 + 1).toNatClampNeg < 120 - x.2.toNatClampNeg
    rw [e, nI_1, nI_clamp (by omega), nI_clamp (by omega)]
    omega
set_option maxHeartbeats 4000000 in
set_option maxRecDepth 100000 in
theorem k_X3_begin (l : Launch) (D : va_G) {cI : ClassId} {tys : List (ClassId × FieldType)} (ht0 : tys[0]? = some (cI, .int)) (aR : Nat → Nat) (R : Nat → Nat → Int32) (sz : Nat) : kV l yX3_begin cX3_begin 1 none { frames := 2, cells := 0, slots := 0, locals := 43 } D tys [.ref (aR 0)] (wRep cI aR R) (wRep cI aR (gt_begin R)) 0 0 sz := by
  refine y_enterV (cc := cX3_begin) (maxL := 1) (ret := none) (own := RX3) (by decide) rfl (lv0 := [(0, .ref (aR 0))]) rfl (Nat.le_of_ble_eq_true rfl) ?_
  intro p e s m args below meth c A Z hr hlk _
  refine y_aload_n Z dX3_begin_0 0 rfl rfl ?_
  refine y_get (C := RX3) (T := TX3) (N := 2) Z 3 inlX3 rfl 0 rfl 0 (by decide) fl_RX3_12 rfl dX3_begin_1 ?_
  refine y_VV Z (k_X1_reset l D ht0 (fun k => aR (1 + k)) R) (y_cwV 0 Z ml_RX3_18 im_X1_reset se_X1_reset in_X1 co_X1_reset rfl rfl hd_X1_reset ⟨Nat.le_of_ble_eq_true rfl, Nat.le_of_ble_eq_true rfl⟩) [1, 2, 3, 4] rfl (by decide) 1 1 rfl rfl rfl rfl (Nat.le_of_ble_eq_true rfl) dX3_begin_4 ⟨Nat.le_of_ble_eq_true rfl, Nat.le_of_ble_eq_true rfl⟩ [(aR 1), (aR 2), (aR 3), (aR 4)] rfl rfl (wRep cI aR (gm (gt_reset R) R)) rfl ?_
  refine y_aload_n Z dX3_begin_7 0 rfl rfl ?_
  refine y_iconst (v := 0) Z dX3_begin_8 (by decide) ?_
  refine y_put (C := RX3) (T := TX3) (N := 2) Z 3 inlX3 rfl tyX3 tyX3_ok nmX3 0 rfl 1 (by decide) fl_RX3_21 rfl rfl rfl (Nat.le_of_ble_eq_true rfl) (wRepR cI aR 0 ((gm (gt_reset R) R) 0 0) ((gm (gt_reset R) R) 0 1) ((gm (gt_reset R) R) 0 2) ((gm (gt_reset R) R) 0 3) ((gm (gt_reset R) R) 0 4) ((gm (gt_reset R) R) 0 5) ((gm (gt_reset R) R) 0 6) ((gm (gt_reset R) R) 0 7) ((gm (gt_reset R) R) 0 8) ((gm (gt_reset R) R) 0 9) ((gm (gt_reset R) R) 0 10) ((gm (gt_reset R) R) 1) ((gm (gt_reset R) R) 2) ((gm (gt_reset R) R) 3)) rfl dX3_begin_9 ?_
  exact y_retV Z hr hlk dX3_begin_12 (by first | (with_reducible rfl) | (simp only [wMix, wLog, wPic, wRep, wScr, wVM, wMd, sR_eq, sR_ne, sF_eq, sF_ne, upd_eq, upd_ne, gs_eq, gs_ne, gm_4, gm_ne, Nat.reduceBEq]; done) | rfl)
set_option maxHeartbeats 4000000 in
set_option maxRecDepth 100000 in
theorem k_X3_goTo (l : Launch) (D : va_G) {cI : ClassId} {tys : List (ClassId × FieldType)} (ht0 : tys[0]? = some (cI, .int)) (aR : Nat → Nat) (R : Nat → Nat → Int32) (aL : Nat → Nat) (L : Nat → Nat → Int32) (t : Int32) (wo : Int32) (h_stop : goStop L t wo R) (sz : Nat) : kV l yX3_goTo cX3_goTo 4 none { frames := 5, cells := 0, slots := 0, locals := 111 } D tys [.ref (aR 0), .ref (aL 0), .int t, .int wo] (wRep cI aR R ++ (wLog cI aL L)) (wRep cI aR (gt_goTo L t wo R) ++ (wLog cI aL L)) 0 0 sz := by
  refine y_enterV (cc := cX3_goTo) (maxL := 4) (ret := none) (own := RX3) (by decide) rfl (lv0 := [(0, .ref (aR 0)), (1, .ref (aL 0)), (2, .int t), (3, .int wo)]) rfl (Nat.le_of_ble_eq_true rfl) ?_
  intro p e s m args below meth c A Z hr hlk _
  have L0 : ∀ (n : Nat) (x : Nat → Nat → Int32), (goC L t) (lw (goC L t) (goB L wo) n x) = false → lw (goC L t) (goB L wo) n x = (lw (goC L t) (goB L wo) 101 R) → Yy p l e { frames := 5, cells := 0, slots := 0, locals := 111 } s m args below meth c (QV D tys A (wRep cI aR (gt_goTo L t wo R) ++ (wLog cI aL L)) below args s 0 0) D A 4 0 0 (wRep cI aR x ++ (wLog cI aL L)) [(0, .ref (aR 0)), (1, .ref (aL 0)), (2, .int t), (3, .int wo)] [] 0 := by
    intro n; induction n with
    | zero =>
      intro x hc hx
      refine y_aload_n Z dX3_goTo_0 0 rfl rfl ?_
      refine y_get (C := RX3) (T := TX3) (N := 2) Z 3 inlX3 rfl 0 rfl 1 (by decide) fl_RX3_21 rfl dX3_goTo_1 ?_
      refine y_aload_n Z dX3_goTo_4 1 rfl rfl ?_
      refine y_VI Z (k_X0_size l D ht0 aL L) (y_cwV 0 Z ml_RX3_25 im_X0_size se_X0_size in_X0 co_X0_size rfl rfl hd_X0_size ⟨Nat.le_of_ble_eq_true rfl, Nat.le_of_ble_eq_true rfl⟩) [5, 6] rfl (by decide) 0 5 rfl rfl rfl rfl (Nat.le_of_ble_eq_true rfl) dX3_goTo_5 ⟨Nat.le_of_ble_eq_true rfl, Nat.le_of_ble_eq_true rfl⟩ [(aL 0), (aL 1)] rfl rfl (wRep cI aR x ++ (wLog cI aL L)) rfl ?_
      refine y_icmp_ge (tgt := 79) Z dX3_goTo_8 (by decide) (fun h1 => ?_) (fun h2 => ?_)
      · have hb : (goC L t) x = false := by simp only [goC, h1, ↓reduceIte]
        have ex : x = (lw (goC L t) (goB L wo) 101 R) := by rw [← hx, lw_f hb]
        refine y_aload_n Z dX3_goTo_79 0 rfl rfl ?_
        refine y_get (C := RX3) (T := TX3) (N := 2) Z 3 inlX3 rfl 0 rfl 0 (by decide) fl_RX3_12 rfl dX3_goTo_80 ?_
        refine y_iload_n Z dX3_goTo_83 2 rfl rfl ?_
        refine y_aload_n Z dX3_goTo_84 0 rfl rfl ?_
        refine y_get (C := RX3) (T := TX3) (N := 2) Z 3 inlX3 rfl 0 rfl 0 (by decide) fl_RX3_12 rfl dX3_goTo_85 ?_
        refine y_getN (host := RX5) (C := RX1) (T := TX1) (N := 14) Z 1 inlX1 rfl 1 rfl 7 (by decide) nl_RX3_35 rfl dX3_goTo_88 ?_
        refine y_isub Z dX3_goTo_91 ?_
        refine y_VV Z (k_X1_letPass l D ht0 (fun k => aR (1 + k)) x (t - (x 0 7))) (y_cwV 1 Z ml_RX3_38 im_X1_letPass se_X1_letPass in_X1 co_X1_letPass rfl rfl hd_X1_letPass ⟨Nat.le_of_ble_eq_true rfl, Nat.le_of_ble_eq_true rfl⟩) [1, 2, 3, 4] rfl (by decide) 1 1 rfl rfl rfl rfl (Nat.le_of_ble_eq_true rfl) dX3_goTo_92 ⟨Nat.le_of_ble_eq_true rfl, Nat.le_of_ble_eq_true rfl⟩ [(aR 1), (aR 2), (aR 3), (aR 4)] rfl rfl (wRep cI aR (gm (gt_letPass (t - (x 0 7)) x) x) ++ (wLog cI aL L)) rfl ?_
        exact y_retV Z hr hlk dX3_goTo_95 (by subst ex; first | (simp only [gt_goTo, gt_goE, h1, if_true, if_false, not_false_eq_true, not_true_eq_false, ↓reduceIte]; done) | (simp only [gt_goTo, gt_goE, h1, if_true, if_false, not_false_eq_true, not_true_eq_false, ↓reduceIte, wMix, wLog, wPic, wRep, wScr, wVM, wMd, sR_eq, sR_ne, sF_eq, sF_ne, upd_eq, upd_ne, gs_eq, gs_ne, gm_4, gm_ne, Nat.reduceBEq]; done) | (with_reducible rfl) | contradiction | (simp only [gt_goTo, gt_goE, h1, if_true, if_false, not_false_eq_true, not_true_eq_false, ↓reduceIte]; rfl) | rfl)
      · refine y_aload_n Z dX3_goTo_11 1 rfl rfl ?_
        refine y_aload_n Z dX3_goTo_12 0 rfl rfl ?_
        refine y_get (C := RX3) (T := TX3) (N := 2) Z 3 inlX3 rfl 0 rfl 1 (by decide) fl_RX3_21 rfl dX3_goTo_13 ?_
        refine y_VI Z (k_X0_timeOf l D ht0 aL L (x 4 0)) (y_cwV 1 Z ml_RX3_31 im_X0_timeOf se_X0_timeOf in_X0 co_X0_timeOf rfl rfl hd_X0_timeOf ⟨Nat.le_of_ble_eq_true rfl, Nat.le_of_ble_eq_true rfl⟩) [5, 6] rfl (by decide) 0 5 rfl rfl rfl rfl (Nat.le_of_ble_eq_true rfl) dX3_goTo_16 ⟨Nat.le_of_ble_eq_true rfl, Nat.le_of_ble_eq_true rfl⟩ [(aL 0), (aL 1)] rfl rfl (wRep cI aR x ++ (wLog cI aL L)) rfl ?_
        refine y_iload_n Z dX3_goTo_19 2 rfl rfl ?_
        refine y_icmp_gt (tgt := 79) Z dX3_goTo_20 (by decide) (fun h3 => ?_) (fun h4 => ?_)
        · have hb : (goC L t) x = false := by simp only [goC, h2, h3, ↓reduceIte]
          have ex : x = (lw (goC L t) (goB L wo) 101 R) := by rw [← hx, lw_f hb]
          refine y_aload_n Z dX3_goTo_79 0 rfl rfl ?_
          refine y_get (C := RX3) (T := TX3) (N := 2) Z 3 inlX3 rfl 0 rfl 0 (by decide) fl_RX3_12 rfl dX3_goTo_80 ?_
          refine y_iload_n Z dX3_goTo_83 2 rfl rfl ?_
          refine y_aload_n Z dX3_goTo_84 0 rfl rfl ?_
          refine y_get (C := RX3) (T := TX3) (N := 2) Z 3 inlX3 rfl 0 rfl 0 (by decide) fl_RX3_12 rfl dX3_goTo_85 ?_
          refine y_getN (host := RX5) (C := RX1) (T := TX1) (N := 14) Z 1 inlX1 rfl 1 rfl 7 (by decide) nl_RX3_35 rfl dX3_goTo_88 ?_
          refine y_isub Z dX3_goTo_91 ?_
          refine y_VV Z (k_X1_letPass l D ht0 (fun k => aR (1 + k)) x (t - (x 0 7))) (y_cwV 1 Z ml_RX3_38 im_X1_letPass se_X1_letPass in_X1 co_X1_letPass rfl rfl hd_X1_letPass ⟨Nat.le_of_ble_eq_true rfl, Nat.le_of_ble_eq_true rfl⟩) [1, 2, 3, 4] rfl (by decide) 1 1 rfl rfl rfl rfl (Nat.le_of_ble_eq_true rfl) dX3_goTo_92 ⟨Nat.le_of_ble_eq_true rfl, Nat.le_of_ble_eq_true rfl⟩ [(aR 1), (aR 2), (aR 3), (aR 4)] rfl rfl (wRep cI aR (gm (gt_letPass (t - (x 0 7)) x) x) ++ (wLog cI aL L)) rfl ?_
          exact y_retV Z hr hlk dX3_goTo_95 (by subst ex; first | (simp only [gt_goTo, gt_goE, h2, h3, if_true, if_false, not_false_eq_true, not_true_eq_false, ↓reduceIte]; done) | (simp only [gt_goTo, gt_goE, h2, h3, if_true, if_false, not_false_eq_true, not_true_eq_false, ↓reduceIte, wMix, wLog, wPic, wRep, wScr, wVM, wMd, sR_eq, sR_ne, sF_eq, sF_ne, upd_eq, upd_ne, gs_eq, gs_ne, gm_4, gm_ne, Nat.reduceBEq]; done) | (with_reducible rfl) | contradiction | (simp only [gt_goTo, gt_goE, h2, h3, if_true, if_false, not_false_eq_true, not_true_eq_false, ↓reduceIte]; rfl) | rfl)
        · exact absurd (show (goC L t) x = true by simp only [goC, h2, h4, ↓reduceIte]) (by rw [show (goC L t) x = false from hc]; decide)
    | succ n ih =>
      intro x hc hx
      refine y_aload_n Z dX3_goTo_0 0 rfl rfl ?_
      refine y_get (C := RX3) (T := TX3) (N := 2) Z 3 inlX3 rfl 0 rfl 1 (by decide) fl_RX3_21 rfl dX3_goTo_1 ?_
      refine y_aload_n Z dX3_goTo_4 1 rfl rfl ?_
      refine y_VI Z (k_X0_size l D ht0 aL L) (y_cwV 0 Z ml_RX3_25 im_X0_size se_X0_size in_X0 co_X0_size rfl rfl hd_X0_size ⟨Nat.le_of_ble_eq_true rfl, Nat.le_of_ble_eq_true rfl⟩) [5, 6] rfl (by decide) 0 5 rfl rfl rfl rfl (Nat.le_of_ble_eq_true rfl) dX3_goTo_5 ⟨Nat.le_of_ble_eq_true rfl, Nat.le_of_ble_eq_true rfl⟩ [(aL 0), (aL 1)] rfl rfl (wRep cI aR x ++ (wLog cI aL L)) rfl ?_
      refine y_icmp_ge (tgt := 79) Z dX3_goTo_8 (by decide) (fun h5 => ?_) (fun h6 => ?_)
      · have hb : (goC L t) x = false := by simp only [goC, h5, ↓reduceIte]
        have ex : x = (lw (goC L t) (goB L wo) 101 R) := by rw [← hx, lw_f hb]
        refine y_aload_n Z dX3_goTo_79 0 rfl rfl ?_
        refine y_get (C := RX3) (T := TX3) (N := 2) Z 3 inlX3 rfl 0 rfl 0 (by decide) fl_RX3_12 rfl dX3_goTo_80 ?_
        refine y_iload_n Z dX3_goTo_83 2 rfl rfl ?_
        refine y_aload_n Z dX3_goTo_84 0 rfl rfl ?_
        refine y_get (C := RX3) (T := TX3) (N := 2) Z 3 inlX3 rfl 0 rfl 0 (by decide) fl_RX3_12 rfl dX3_goTo_85 ?_
        refine y_getN (host := RX5) (C := RX1) (T := TX1) (N := 14) Z 1 inlX1 rfl 1 rfl 7 (by decide) nl_RX3_35 rfl dX3_goTo_88 ?_
        refine y_isub Z dX3_goTo_91 ?_
        refine y_VV Z (k_X1_letPass l D ht0 (fun k => aR (1 + k)) x (t - (x 0 7))) (y_cwV 1 Z ml_RX3_38 im_X1_letPass se_X1_letPass in_X1 co_X1_letPass rfl rfl hd_X1_letPass ⟨Nat.le_of_ble_eq_true rfl, Nat.le_of_ble_eq_true rfl⟩) [1, 2, 3, 4] rfl (by decide) 1 1 rfl rfl rfl rfl (Nat.le_of_ble_eq_true rfl) dX3_goTo_92 ⟨Nat.le_of_ble_eq_true rfl, Nat.le_of_ble_eq_true rfl⟩ [(aR 1), (aR 2), (aR 3), (aR 4)] rfl rfl (wRep cI aR (gm (gt_letPass (t - (x 0 7)) x) x) ++ (wLog cI aL L)) rfl ?_
        exact y_retV Z hr hlk dX3_goTo_95 (by subst ex; first | (simp only [gt_goTo, gt_goE, h5, if_true, if_false, not_false_eq_true, not_true_eq_false, ↓reduceIte]; done) | (simp only [gt_goTo, gt_goE, h5, if_true, if_false, not_false_eq_true, not_true_eq_false, ↓reduceIte, wMix, wLog, wPic, wRep, wScr, wVM, wMd, sR_eq, sR_ne, sF_eq, sF_ne, upd_eq, upd_ne, gs_eq, gs_ne, gm_4, gm_ne, Nat.reduceBEq]; done) | (with_reducible rfl) | contradiction | (simp only [gt_goTo, gt_goE, h5, if_true, if_false, not_false_eq_true, not_true_eq_false, ↓reduceIte]; rfl) | rfl)
      · refine y_aload_n Z dX3_goTo_11 1 rfl rfl ?_
        refine y_aload_n Z dX3_goTo_12 0 rfl rfl ?_
        refine y_get (C := RX3) (T := TX3) (N := 2) Z 3 inlX3 rfl 0 rfl 1 (by decide) fl_RX3_21 rfl dX3_goTo_13 ?_
        refine y_VI Z (k_X0_timeOf l D ht0 aL L (x 4 0)) (y_cwV 1 Z ml_RX3_31 im_X0_timeOf se_X0_timeOf in_X0 co_X0_timeOf rfl rfl hd_X0_timeOf ⟨Nat.le_of_ble_eq_true rfl, Nat.le_of_ble_eq_true rfl⟩) [5, 6] rfl (by decide) 0 5 rfl rfl rfl rfl (Nat.le_of_ble_eq_true rfl) dX3_goTo_16 ⟨Nat.le_of_ble_eq_true rfl, Nat.le_of_ble_eq_true rfl⟩ [(aL 0), (aL 1)] rfl rfl (wRep cI aR x ++ (wLog cI aL L)) rfl ?_
        refine y_iload_n Z dX3_goTo_19 2 rfl rfl ?_
        refine y_icmp_gt (tgt := 79) Z dX3_goTo_20 (by decide) (fun h7 => ?_) (fun h8 => ?_)
        · have hb : (goC L t) x = false := by simp only [goC, h6, h7, ↓reduceIte]
          have ex : x = (lw (goC L t) (goB L wo) 101 R) := by rw [← hx, lw_f hb]
          refine y_aload_n Z dX3_goTo_79 0 rfl rfl ?_
          refine y_get (C := RX3) (T := TX3) (N := 2) Z 3 inlX3 rfl 0 rfl 0 (by decide) fl_RX3_12 rfl dX3_goTo_80 ?_
          refine y_iload_n Z dX3_goTo_83 2 rfl rfl ?_
          refine y_aload_n Z dX3_goTo_84 0 rfl rfl ?_
          refine y_get (C := RX3) (T := TX3) (N := 2) Z 3 inlX3 rfl 0 rfl 0 (by decide) fl_RX3_12 rfl dX3_goTo_85 ?_
          refine y_getN (host := RX5) (C := RX1) (T := TX1) (N := 14) Z 1 inlX1 rfl 1 rfl 7 (by decide) nl_RX3_35 rfl dX3_goTo_88 ?_
          refine y_isub Z dX3_goTo_91 ?_
          refine y_VV Z (k_X1_letPass l D ht0 (fun k => aR (1 + k)) x (t - (x 0 7))) (y_cwV 1 Z ml_RX3_38 im_X1_letPass se_X1_letPass in_X1 co_X1_letPass rfl rfl hd_X1_letPass ⟨Nat.le_of_ble_eq_true rfl, Nat.le_of_ble_eq_true rfl⟩) [1, 2, 3, 4] rfl (by decide) 1 1 rfl rfl rfl rfl (Nat.le_of_ble_eq_true rfl) dX3_goTo_92 ⟨Nat.le_of_ble_eq_true rfl, Nat.le_of_ble_eq_true rfl⟩ [(aR 1), (aR 2), (aR 3), (aR 4)] rfl rfl (wRep cI aR (gm (gt_letPass (t - (x 0 7)) x) x) ++ (wLog cI aL L)) rfl ?_
          exact y_retV Z hr hlk dX3_goTo_95 (by subst ex; first | (simp only [gt_goTo, gt_goE, h6, h7, if_true, if_false, not_false_eq_true, not_true_eq_false, ↓reduceIte]; done) | (simp only [gt_goTo, gt_goE, h6, h7, if_true, if_false, not_false_eq_true, not_true_eq_false, ↓reduceIte, wMix, wLog, wPic, wRep, wScr, wVM, wMd, sR_eq, sR_ne, sF_eq, sF_ne, upd_eq, upd_ne, gs_eq, gs_ne, gm_4, gm_ne, Nat.reduceBEq]; done) | (with_reducible rfl) | contradiction | (simp only [gt_goTo, gt_goE, h6, h7, if_true, if_false, not_false_eq_true, not_true_eq_false, ↓reduceIte]; rfl) | rfl)
        · have hb : (goC L t) x = true := by simp only [goC, h6, h8, ↓reduceIte]
          refine y_aload_n Z dX3_goTo_23 0 rfl rfl ?_
          refine y_get (C := RX3) (T := TX3) (N := 2) Z 3 inlX3 rfl 0 rfl 1 (by decide) fl_RX3_21 rfl dX3_goTo_24 ?_
          refine y_iload_n Z dX3_goTo_27 3 rfl rfl ?_
          refine y_icmp_eq (tgt := 66) Z dX3_goTo_28 (by decide) (fun h9 => ?_) (fun h10 => ?_)
          · refine y_aload_n Z dX3_goTo_66 0 rfl rfl ?_
            refine y_dup Z dX3_goTo_67 rfl ?_
            refine y_get (C := RX3) (T := TX3) (N := 2) Z 3 inlX3 rfl 0 rfl 1 (by decide) fl_RX3_21 rfl dX3_goTo_68 ?_
            refine y_iconst (v := 1) Z dX3_goTo_71 (by decide) ?_
            refine y_iadd Z dX3_goTo_72 ?_
            refine y_put (C := RX3) (T := TX3) (N := 2) Z 3 inlX3 rfl tyX3 tyX3_ok nmX3 0 rfl 1 (by decide) fl_RX3_21 rfl rfl rfl (Nat.le_of_ble_eq_true rfl) (wRepR cI aR ((x 4 0) + 1) (x 0 0) (x 0 1) (x 0 2) (x 0 3) (x 0 4) (x 0 5) (x 0 6) (x 0 7) (x 0 8) (x 0 9) (x 0 10) (x 1) (x 2) (x 3) ++ (wLog cI aL L)) rfl dX3_goTo_73 ?_
            refine y_goto (tgt := 0) Z dX3_goTo_76 (by decide) ?_
            refine y_eq (ws' := (wRep cI aR ((goB L wo) x) ++ (wLog cI aL L))) (lv' := [(0, .ref (aR 0)), (1, .ref (aL 0)), (2, .int t), (3, .int wo)]) (st' := []) (by first | (simp only [goB, gt_up, gt_st1, gt_st2, h6, h8, eq_true h9, if_true, if_false, not_false_eq_true, not_true_eq_false, ↓reduceIte]; done) | (simp only [goB, gt_up, gt_st1, gt_st2, h6, h8, eq_true h9, if_true, if_false, not_false_eq_true, not_true_eq_false, ↓reduceIte, wMix, wLog, wPic, wRep, wScr, wVM, wMd, sR_eq, sR_ne, sF_eq, sF_ne, upd_eq, upd_ne, gs_eq, gs_ne, gm_4, gm_ne, Nat.reduceBEq]; done) | (with_reducible rfl) | contradiction | (simp only [goB, gt_up, gt_st1, gt_st2, h6, h8, eq_true h9, if_true, if_false, not_false_eq_true, not_true_eq_false, ↓reduceIte]; rfl) | rfl) (by first | (simp only [goB, gt_up, gt_st1, gt_st2, h6, h8, eq_true h9, if_true, if_false, not_false_eq_true, not_true_eq_false, ↓reduceIte]; done) | (simp only [goB, gt_up, gt_st1, gt_st2, h6, h8, eq_true h9, if_true, if_false, not_false_eq_true, not_true_eq_false, ↓reduceIte, wMix, wLog, wPic, wRep, wScr, wVM, wMd, sR_eq, sR_ne, sF_eq, sF_ne, upd_eq, upd_ne, gs_eq, gs_ne, gm_4, gm_ne, Nat.reduceBEq]; done) | (with_reducible rfl) | contradiction | (simp only [goB, gt_up, gt_st1, gt_st2, h6, h8, eq_true h9, if_true, if_false, not_false_eq_true, not_true_eq_false, ↓reduceIte]; rfl) | rfl) rfl ?_
            exact ih _ (by rw [lw_t hb] at hc; exact hc) (by rw [lw_t hb] at hx; exact hx)
          · refine y_aload_n Z dX3_goTo_31 0 rfl rfl ?_
            refine y_get (C := RX3) (T := TX3) (N := 2) Z 3 inlX3 rfl 0 rfl 0 (by decide) fl_RX3_12 rfl dX3_goTo_32 ?_
            refine y_aload_n Z dX3_goTo_35 1 rfl rfl ?_
            refine y_aload_n Z dX3_goTo_36 0 rfl rfl ?_
            refine y_get (C := RX3) (T := TX3) (N := 2) Z 3 inlX3 rfl 0 rfl 1 (by decide) fl_RX3_21 rfl dX3_goTo_37 ?_
            refine y_VI Z (k_X0_timeOf l D ht0 aL L (x 4 0)) (y_cwV 1 Z ml_RX3_31 im_X0_timeOf se_X0_timeOf in_X0 co_X0_timeOf rfl rfl hd_X0_timeOf ⟨Nat.le_of_ble_eq_true rfl, Nat.le_of_ble_eq_true rfl⟩) [5, 6] rfl (by decide) 0 5 rfl rfl rfl rfl (Nat.le_of_ble_eq_true rfl) dX3_goTo_40 ⟨Nat.le_of_ble_eq_true rfl, Nat.le_of_ble_eq_true rfl⟩ [(aL 0), (aL 1)] rfl rfl (wRep cI aR x ++ (wLog cI aL L)) rfl ?_
            refine y_aload_n Z dX3_goTo_43 0 rfl rfl ?_
            refine y_get (C := RX3) (T := TX3) (N := 2) Z 3 inlX3 rfl 0 rfl 0 (by decide) fl_RX3_12 rfl dX3_goTo_44 ?_
            refine y_getN (host := RX5) (C := RX1) (T := TX1) (N := 14) Z 1 inlX1 rfl 1 rfl 7 (by decide) nl_RX3_35 rfl dX3_goTo_47 ?_
            refine y_isub Z dX3_goTo_50 ?_
            refine y_VV Z (k_X1_letPass l D ht0 (fun k => aR (1 + k)) x (lgT L (x 4 0) 0 - (x 0 7))) (y_cwV 1 Z ml_RX3_38 im_X1_letPass se_X1_letPass in_X1 co_X1_letPass rfl rfl hd_X1_letPass ⟨Nat.le_of_ble_eq_true rfl, Nat.le_of_ble_eq_true rfl⟩) [1, 2, 3, 4] rfl (by decide) 1 1 rfl rfl rfl rfl (Nat.le_of_ble_eq_true rfl) dX3_goTo_51 ⟨Nat.le_of_ble_eq_true rfl, Nat.le_of_ble_eq_true rfl⟩ [(aR 1), (aR 2), (aR 3), (aR 4)] rfl rfl (wRep cI aR (gm (gt_letPass (lgT L (x 4 0) 0 - (x 0 7)) x) x) ++ (wLog cI aL L)) rfl ?_
            refine y_aload_n Z dX3_goTo_54 1 rfl rfl ?_
            refine y_aload_n Z dX3_goTo_55 0 rfl rfl ?_
            refine y_get (C := RX3) (T := TX3) (N := 2) Z 3 inlX3 rfl 0 rfl 1 (by decide) fl_RX3_21 rfl dX3_goTo_56 ?_
            refine y_aload_n Z dX3_goTo_59 0 rfl rfl ?_
            refine y_get (C := RX3) (T := TX3) (N := 2) Z 3 inlX3 rfl 0 rfl 0 (by decide) fl_RX3_12 rfl dX3_goTo_60 ?_
            refine y_VV Z (k_X0_redo l D ht0 aL L (fun k => aR (1 + k)) (gm (gt_letPass (lgT L (x 4 0) 0 - (x 0 7)) x) x) ((gm (gt_letPass (lgT L (x 4 0) 0 - (x 0 7)) x) x) 4 0)) (y_cwV 2 Z ml_RX3_42 im_X0_redo se_X0_redo in_X0 co_X0_redo rfl rfl hd_X0_redo ⟨Nat.le_of_ble_eq_true rfl, Nat.le_of_ble_eq_true rfl⟩) [5, 6, 1, 2, 3, 4] rfl (by decide) 0 5 rfl rfl rfl rfl (Nat.le_of_ble_eq_true rfl) dX3_goTo_63 ⟨Nat.le_of_ble_eq_true rfl, Nat.le_of_ble_eq_true rfl⟩ [(aL 0), (aL 1), (aR 1), (aR 2), (aR 3), (aR 4)] rfl rfl (wRep cI aR (gm (gt_redo L ((gm (gt_letPass (lgT L (x 4 0) 0 - (x 0 7)) x) x) 4 0) (gm (gt_letPass (lgT L (x 4 0) 0 - (x 0 7)) x) x)) (gm (gt_letPass (lgT L (x 4 0) 0 - (x 0 7)) x) x)) ++ (wLog cI aL L)) rfl ?_
            refine y_aload_n Z dX3_goTo_66 0 rfl rfl ?_
            refine y_dup Z dX3_goTo_67 rfl ?_
            refine y_get (C := RX3) (T := TX3) (N := 2) Z 3 inlX3 rfl 0 rfl 1 (by decide) fl_RX3_21 rfl dX3_goTo_68 ?_
            refine y_iconst (v := 1) Z dX3_goTo_71 (by decide) ?_
            refine y_iadd Z dX3_goTo_72 ?_
            refine y_put (C := RX3) (T := TX3) (N := 2) Z 3 inlX3 rfl tyX3 tyX3_ok nmX3 0 rfl 1 (by decide) fl_RX3_21 rfl rfl rfl (Nat.le_of_ble_eq_true rfl) (wRepR cI aR (((gm (gt_redo L ((gm (gt_letPass (lgT L (x 4 0) 0 - (x 0 7)) x) x) 4 0) (gm (gt_letPass (lgT L (x 4 0) 0 - (x 0 7)) x) x)) (gm (gt_letPass (lgT L (x 4 0) 0 - (x 0 7)) x) x)) 4 0) + 1) ((gm (gt_redo L ((gm (gt_letPass (lgT L (x 4 0) 0 - (x 0 7)) x) x) 4 0) (gm (gt_letPass (lgT L (x 4 0) 0 - (x 0 7)) x) x)) (gm (gt_letPass (lgT L (x 4 0) 0 - (x 0 7)) x) x)) 0 0) ((gm (gt_redo L ((gm (gt_letPass (lgT L (x 4 0) 0 - (x 0 7)) x) x) 4 0) (gm (gt_letPass (lgT L (x 4 0) 0 - (x 0 7)) x) x)) (gm (gt_letPass (lgT L (x 4 0) 0 - (x 0 7)) x) x)) 0 1) ((gm (gt_redo L ((gm (gt_letPass (lgT L (x 4 0) 0 - (x 0 7)) x) x) 4 0) (gm (gt_letPass (lgT L (x 4 0) 0 - (x 0 7)) x) x)) (gm (gt_letPass (lgT L (x 4 0) 0 - (x 0 7)) x) x)) 0 2) ((gm (gt_redo L ((gm (gt_letPass (lgT L (x 4 0) 0 - (x 0 7)) x) x) 4 0) (gm (gt_letPass (lgT L (x 4 0) 0 - (x 0 7)) x) x)) (gm (gt_letPass (lgT L (x 4 0) 0 - (x 0 7)) x) x)) 0 3) ((gm (gt_redo L ((gm (gt_letPass (lgT L (x 4 0) 0 - (x 0 7)) x) x) 4 0) (gm (gt_letPass (lgT L (x 4 0) 0 - (x 0 7)) x) x)) (gm (gt_letPass (lgT L (x 4 0) 0 - (x 0 7)) x) x)) 0 4) ((gm (gt_redo L ((gm (gt_letPass (lgT L (x 4 0) 0 - (x 0 7)) x) x) 4 0) (gm (gt_letPass (lgT L (x 4 0) 0 - (x 0 7)) x) x)) (gm (gt_letPass (lgT L (x 4 0) 0 - (x 0 7)) x) x)) 0 5) ((gm (gt_redo L ((gm (gt_letPass (lgT L (x 4 0) 0 - (x 0 7)) x) x) 4 0) (gm (gt_letPass (lgT L (x 4 0) 0 - (x 0 7)) x) x)) (gm (gt_letPass (lgT L (x 4 0) 0 - (x 0 7)) x) x)) 0 6) ((gm (gt_redo L ((gm (gt_letPass (lgT L (x 4 0) 0 - (x 0 7)) x) x) 4 0) (gm (gt_letPass (lgT L (x 4 0) 0 - (x 0 7)) x) x)) (gm (gt_letPass (lgT L (x 4 0) 0 - (x 0 7)) x) x)) 0 7) ((gm (gt_redo L ((gm (gt_letPass (lgT L (x 4 0) 0 - (x 0 7)) x) x) 4 0) (gm (gt_letPass (lgT L (x 4 0) 0 - (x 0 7)) x) x)) (gm (gt_letPass (lgT L (x 4 0) 0 - (x 0 7)) x) x)) 0 8) ((gm (gt_redo L ((gm (gt_letPass (lgT L (x 4 0) 0 - (x 0 7)) x) x) 4 0) (gm (gt_letPass (lgT L (x 4 0) 0 - (x 0 7)) x) x)) (gm (gt_letPass (lgT L (x 4 0) 0 - (x 0 7)) x) x)) 0 9) ((gm (gt_redo L ((gm (gt_letPass (lgT L (x 4 0) 0 - (x 0 7)) x) x) 4 0) (gm (gt_letPass (lgT L (x 4 0) 0 - (x 0 7)) x) x)) (gm (gt_letPass (lgT L (x 4 0) 0 - (x 0 7)) x) x)) 0 10) ((gm (gt_redo L ((gm (gt_letPass (lgT L (x 4 0) 0 - (x 0 7)) x) x) 4 0) (gm (gt_letPass (lgT L (x 4 0) 0 - (x 0 7)) x) x)) (gm (gt_letPass (lgT L (x 4 0) 0 - (x 0 7)) x) x)) 1) ((gm (gt_redo L ((gm (gt_letPass (lgT L (x 4 0) 0 - (x 0 7)) x) x) 4 0) (gm (gt_letPass (lgT L (x 4 0) 0 - (x 0 7)) x) x)) (gm (gt_letPass (lgT L (x 4 0) 0 - (x 0 7)) x) x)) 2) ((gm (gt_redo L ((gm (gt_letPass (lgT L (x 4 0) 0 - (x 0 7)) x) x) 4 0) (gm (gt_letPass (lgT L (x 4 0) 0 - (x 0 7)) x) x)) (gm (gt_letPass (lgT L (x 4 0) 0 - (x 0 7)) x) x)) 3) ++ (wLog cI aL L)) rfl dX3_goTo_73 ?_
            refine y_goto (tgt := 0) Z dX3_goTo_76 (by decide) ?_
            refine y_eq (ws' := (wRep cI aR ((goB L wo) x) ++ (wLog cI aL L))) (lv' := [(0, .ref (aR 0)), (1, .ref (aL 0)), (2, .int t), (3, .int wo)]) (st' := []) (by first | (simp only [goB, gt_up, gt_st1, gt_st2, h6, h8, h10, if_true, if_false, not_false_eq_true, not_true_eq_false, ↓reduceIte]; done) | (simp only [goB, gt_up, gt_st1, gt_st2, h6, h8, h10, if_true, if_false, not_false_eq_true, not_true_eq_false, ↓reduceIte, wMix, wLog, wPic, wRep, wScr, wVM, wMd, sR_eq, sR_ne, sF_eq, sF_ne, upd_eq, upd_ne, gs_eq, gs_ne, gm_4, gm_ne, Nat.reduceBEq]; done) | (with_reducible rfl) | contradiction | (simp only [goB, gt_up, gt_st1, gt_st2, h6, h8, h10, if_true, if_false, not_false_eq_true, not_true_eq_false, ↓reduceIte]; rfl) | rfl) (by first | (simp only [goB, gt_up, gt_st1, gt_st2, h6, h8, h10, if_true, if_false, not_false_eq_true, not_true_eq_false, ↓reduceIte]; done) | (simp only [goB, gt_up, gt_st1, gt_st2, h6, h8, h10, if_true, if_false, not_false_eq_true, not_true_eq_false, ↓reduceIte, wMix, wLog, wPic, wRep, wScr, wVM, wMd, sR_eq, sR_ne, sF_eq, sF_ne, upd_eq, upd_ne, gs_eq, gs_ne, gm_4, gm_ne, Nat.reduceBEq]; done) | (with_reducible rfl) | contradiction | (simp only [goB, gt_up, gt_st1, gt_st2, h6, h8, h10, if_true, if_false, not_false_eq_true, not_true_eq_false, ↓reduceIte]; rfl) | rfl) rfl ?_
            exact ih _ (by rw [lw_t hb] at hc; exact hc) (by rw [lw_t hb] at hx; exact hx)
  exact L0 101 R h_stop rfl
set_option maxHeartbeats 4000000 in
set_option maxRecDepth 100000 in
theorem k_X3_sameTimes (l : Launch) (D : va_G) {cI : ClassId} {tys : List (ClassId × FieldType)} (ht0 : tys[0]? = some (cI, .int)) (aR : Nat → Nat) (R : Nat → Nat → Int32) (aL : Nat → Nat) (L : Nat → Nat → Int32) (la : Int32) (sz : Nat) : kI l yX3_sameTimes cX3_sameTimes 4 (some .int) { frames := 3, cells := 0, slots := 0, locals := 64 } D tys [.ref (aR 0), .ref (aL 0), .int la] (wRep cI aR R ++ (wLog cI aL L)) (wRep cI aR R ++ (wLog cI aL L)) (stF L R la) 0 0 sz := by
  refine y_enterI (cc := cX3_sameTimes) (maxL := 4) (ret := (some .int)) (own := RX3) (by decide) rfl (lv0 := [(0, .ref (aR 0)), (1, .ref (aL 0)), (2, .int la)]) rfl (Nat.le_of_ble_eq_true rfl) ?_
  intro p e s m args below meth c A Z hr hlk _
  refine y_aload_n Z dX3_sameTimes_0 0 rfl rfl ?_
  refine y_get (C := RX3) (T := TX3) (N := 2) Z 3 inlX3 rfl 0 rfl 0 (by decide) fl_RX3_12 rfl dX3_sameTimes_1 ?_
  refine y_getN (host := RX5) (C := RX1) (T := TX1) (N := 14) Z 1 inlX1 rfl 1 rfl 6 (by decide) nl_RX3_46 rfl dX3_sameTimes_4 ?_
  refine y_iconst (v := -1) Z dX3_sameTimes_7 (by decide) ?_
  refine y_icmp_eq (tgt := 13) Z dX3_sameTimes_8 (by decide) (fun h1 => ?_) (fun h2 => ?_)
  · refine y_iload_n Z dX3_sameTimes_13 2 rfl rfl ?_
    refine y_iconst (v := 1) Z dX3_sameTimes_14 (by decide) ?_
    refine y_iadd Z dX3_sameTimes_15 ?_
    refine y_istore_n Z [(3, .int (la + 1)), (0, .ref (aR 0)), (1, .ref (aL 0)), (2, .int la)] dX3_sameTimes_16 rfl (by decide) rfl ?_
    refine y_aload_n Z dX3_sameTimes_17 1 rfl rfl ?_
    refine y_get (C := RX3) (T := TX3) (N := 2) Z 3 inlX3 rfl 0 rfl 1 (by decide) fl_RX3_21 rfl dX3_sameTimes_18 ?_
    refine y_aload_n Z dX3_sameTimes_21 2 rfl rfl ?_
    refine y_VI Z (k_X0_size l D ht0 aL L) (y_cwV 0 Z ml_RX3_25 im_X0_size se_X0_size in_X0 co_X0_size rfl rfl hd_X0_size ⟨Nat.le_of_ble_eq_true rfl, Nat.le_of_ble_eq_true rfl⟩) [5, 6] rfl (by decide) 0 5 rfl rfl rfl rfl (Nat.le_of_ble_eq_true rfl) dX3_sameTimes_22 ⟨Nat.le_of_ble_eq_true rfl, Nat.le_of_ble_eq_true rfl⟩ [(aL 0), (aL 1)] rfl rfl (wRep cI aR R ++ (wLog cI aL L)) rfl ?_
    refine y_icmp_ge (tgt := 41) Z dX3_sameTimes_25 (by decide) (fun h3 => ?_) (fun h4 => ?_)
    · refine y_iload_n Z dX3_sameTimes_41 0 rfl rfl ?_
      refine y_aload_n Z dX3_sameTimes_42 1 rfl rfl ?_
      refine y_get (C := RX3) (T := TX3) (N := 2) Z 3 inlX3 rfl 0 rfl 0 (by decide) fl_RX3_12 rfl dX3_sameTimes_43 ?_
      refine y_getN (host := RX5) (C := RX1) (T := TX1) (N := 14) Z 1 inlX1 rfl 1 rfl 7 (by decide) nl_RX3_35 rfl dX3_sameTimes_46 ?_
      refine y_isub Z dX3_sameTimes_49 ?_
      exact y_retI Z hr hlk dX3_sameTimes_50 (by first | (simp only [stF, eq_true h1, h3, if_true, if_false, not_false_eq_true, not_true_eq_false, ↓reduceIte]; done) | (simp only [stF, eq_true h1, h3, if_true, if_false, not_false_eq_true, not_true_eq_false, ↓reduceIte, wMix, wLog, wPic, wRep, wScr, wVM, wMd, sR_eq, sR_ne, sF_eq, sF_ne, upd_eq, upd_ne, gs_eq, gs_ne, gm_4, gm_ne, Nat.reduceBEq]; done) | (with_reducible rfl) | contradiction | (simp only [stF, eq_true h1, h3, if_true, if_false, not_false_eq_true, not_true_eq_false, ↓reduceIte]; rfl) | rfl) (by first | (simp only [stF, eq_true h1, h3, if_true, if_false, not_false_eq_true, not_true_eq_false, ↓reduceIte]; done) | (simp only [stF, eq_true h1, h3, if_true, if_false, not_false_eq_true, not_true_eq_false, ↓reduceIte, wMix, wLog, wPic, wRep, wScr, wVM, wMd, sR_eq, sR_ne, sF_eq, sF_ne, upd_eq, upd_ne, gs_eq, gs_ne, gm_4, gm_ne, Nat.reduceBEq]; done) | (with_reducible rfl) | contradiction | (simp only [stF, eq_true h1, h3, if_true, if_false, not_false_eq_true, not_true_eq_false, ↓reduceIte]; rfl) | rfl)
    · refine y_iload_n Z dX3_sameTimes_28 0 rfl rfl ?_
      refine y_aload_n Z dX3_sameTimes_29 2 rfl rfl ?_
      refine y_aload_n Z dX3_sameTimes_30 1 rfl rfl ?_
      refine y_get (C := RX3) (T := TX3) (N := 2) Z 3 inlX3 rfl 0 rfl 1 (by decide) fl_RX3_21 rfl dX3_sameTimes_31 ?_
      refine y_VI Z (k_X0_timeOf l D ht0 aL L (R 4 0)) (y_cwV 1 Z ml_RX3_31 im_X0_timeOf se_X0_timeOf in_X0 co_X0_timeOf rfl rfl hd_X0_timeOf ⟨Nat.le_of_ble_eq_true rfl, Nat.le_of_ble_eq_true rfl⟩) [5, 6] rfl (by decide) 0 5 rfl rfl rfl rfl (Nat.le_of_ble_eq_true rfl) dX3_sameTimes_34 ⟨Nat.le_of_ble_eq_true rfl, Nat.le_of_ble_eq_true rfl⟩ [(aL 0), (aL 1)] rfl rfl (wRep cI aR R ++ (wLog cI aL L)) rfl ?_
      refine y_mmin Z ml_RX3_49 st_mmin in_Math co_mmin (Nat.le_of_ble_eq_true rfl) (Nat.le_of_ble_eq_true rfl) (Nat.le_of_ble_eq_true rfl) (Nat.le_of_ble_eq_true rfl) dX3_sameTimes_37 ?_
      refine y_istore_n Z [(3, .int (if lgT L (R 4 0) 0 < (la + 1) then lgT L (R 4 0) 0 else (la + 1))), (0, .ref (aR 0)), (1, .ref (aL 0)), (2, .int la)] dX3_sameTimes_40 rfl (by decide) rfl ?_
      refine y_iload_n Z dX3_sameTimes_41 0 rfl rfl ?_
      refine y_aload_n Z dX3_sameTimes_42 1 rfl rfl ?_
      refine y_get (C := RX3) (T := TX3) (N := 2) Z 3 inlX3 rfl 0 rfl 0 (by decide) fl_RX3_12 rfl dX3_sameTimes_43 ?_
      refine y_getN (host := RX5) (C := RX1) (T := TX1) (N := 14) Z 1 inlX1 rfl 1 rfl 7 (by decide) nl_RX3_35 rfl dX3_sameTimes_46 ?_
      refine y_isub Z dX3_sameTimes_49 ?_
      exact y_retI Z hr hlk dX3_sameTimes_50 (by first | (simp only [stF, eq_true h1, h4, if_true, if_false, not_false_eq_true, not_true_eq_false, ↓reduceIte]; done) | (simp only [stF, eq_true h1, h4, if_true, if_false, not_false_eq_true, not_true_eq_false, ↓reduceIte, wMix, wLog, wPic, wRep, wScr, wVM, wMd, sR_eq, sR_ne, sF_eq, sF_ne, upd_eq, upd_ne, gs_eq, gs_ne, gm_4, gm_ne, Nat.reduceBEq]; done) | (with_reducible rfl) | contradiction | (simp only [stF, eq_true h1, h4, if_true, if_false, not_false_eq_true, not_true_eq_false, ↓reduceIte]; rfl) | rfl) (by first | (simp only [stF, eq_true h1, h4, if_true, if_false, not_false_eq_true, not_true_eq_false, ↓reduceIte]; done) | (simp only [stF, eq_true h1, h4, if_true, if_false, not_false_eq_true, not_true_eq_false, ↓reduceIte, wMix, wLog, wPic, wRep, wScr, wVM, wMd, sR_eq, sR_ne, sF_eq, sF_ne, upd_eq, upd_ne, gs_eq, gs_ne, gm_4, gm_ne, Nat.reduceBEq]; done) | (with_reducible rfl) | contradiction | (simp only [stF, eq_true h1, h4, if_true, if_false, not_false_eq_true, not_true_eq_false, ↓reduceIte]; rfl) | rfl)
  · refine y_iconst (v := 1) Z dX3_sameTimes_11 (by decide) ?_
    exact y_retI Z hr hlk dX3_sameTimes_12 (by first | (simp only [stF, h2, if_true, if_false, not_false_eq_true, not_true_eq_false, ↓reduceIte]; done) | (simp only [stF, h2, if_true, if_false, not_false_eq_true, not_true_eq_false, ↓reduceIte, wMix, wLog, wPic, wRep, wScr, wVM, wMd, sR_eq, sR_ne, sF_eq, sF_ne, upd_eq, upd_ne, gs_eq, gs_ne, gm_4, gm_ne, Nat.reduceBEq]; done) | (with_reducible rfl) | contradiction | (simp only [stF, h2, if_true, if_false, not_false_eq_true, not_true_eq_false, ↓reduceIte]; rfl) | rfl) (by first | (simp only [stF, h2, if_true, if_false, not_false_eq_true, not_true_eq_false, ↓reduceIte]; done) | (simp only [stF, h2, if_true, if_false, not_false_eq_true, not_true_eq_false, ↓reduceIte, wMix, wLog, wPic, wRep, wScr, wVM, wMd, sR_eq, sR_ne, sF_eq, sF_ne, upd_eq, upd_ne, gs_eq, gs_ne, gm_4, gm_ne, Nat.reduceBEq]; done) | (with_reducible rfl) | contradiction | (simp only [stF, h2, if_true, if_false, not_false_eq_true, not_true_eq_false, ↓reduceIte]; rfl) | rfl)
set_option maxHeartbeats 4000000 in
set_option maxRecDepth 100000 in
theorem k_X4_size (l : Launch) (D : va_G) {cI : ClassId} {tys : List (ClassId × FieldType)} (ht0 : tys[0]? = some (cI, .int)) (aC : Nat → Nat) (C : Nat → Nat → Int32) (sz : Nat) : kI l yX4_size cX4_size 1 (some .int) { frames := 0, cells := 0, slots := 0, locals := 0 } D tys [.ref (aC 0)] (wScr cI aC C) (wScr cI aC C) (C 0 0) 0 0 sz := by
  refine y_enterI (cc := cX4_size) (maxL := 1) (ret := (some .int)) (own := RX4) (by decide) rfl (lv0 := [(0, .ref (aC 0))]) rfl (Nat.le_of_ble_eq_true rfl) ?_
  intro p e s m args below meth c A Z hr hlk _
  refine y_aload_n Z dX4_size_0 0 rfl rfl ?_
  refine y_get (C := RX4) (T := TX4) (N := 6) Z 4 inlX4 rfl 0 rfl 2 (by decide) fl_RX4_18 rfl dX4_size_1 ?_
  exact y_retI Z hr hlk dX4_size_4 (by first | (with_reducible rfl) | (simp only [wMix, wLog, wPic, wRep, wScr, wVM, wMd, sR_eq, sR_ne, sF_eq, sF_ne, upd_eq, upd_ne, gs_eq, gs_ne, gm_4, gm_ne, Nat.reduceBEq]; done) | rfl) (by first | (with_reducible rfl) | (simp only [wMix, wLog, wPic, wRep, wScr, wVM, wMd, sR_eq, sR_ne, sF_eq, sF_ne, upd_eq, upd_ne, gs_eq, gs_ne, gm_4, gm_ne, Nat.reduceBEq]; done) | rfl)
