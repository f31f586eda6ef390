def gt_begin (R : Nat → Nat → Int32) : Nat → Nat → Int32 := sF (gm (gt_reset R) R) 4 0 0
def goC (L : Nat → Nat → Int32) (t : Int32) (R : Nat → Nat → Int32) : Bool := if L 0 0 ≤ R 4 0 then false else if t < lgT L (R 4 0) 0 then false else true
def gt_st1 (L R : Nat → Nat → Int32) : Nat → Nat → Int32 := gm (gt_letPass (lgT L (R 4 0) 0 - R 0 7) R) R
def gt_st2 (L R : Nat → Nat → Int32) : Nat → Nat → Int32 := gm (gt_redo L (R 4 0) R) R
def gt_up (R : Nat → Nat → Int32) : Nat → Nat → Int32 := sF R 4 0 (R 4 0 + 1)
def goB (L : Nat → Nat → Int32) (wo : Int32) (R : Nat → Nat → Int32) : Nat → Nat → Int32 := if R 4 0 = wo then gt_up R else gt_up (gt_st2 L (gt_st1 L R))
def gt_goE (t : Int32) (R : Nat → Nat → Int32) : Nat → Nat → Int32 := gm (gt_letPass (t - R 0 7) R) R
def gt_goTo (L : Nat → Nat → Int32) (t wo : Int32) (R : Nat → Nat → Int32) : Nat → Nat → Int32 := gt_goE t (lw (goC L t) (goB L wo) 101 R)
def goStop (L : Nat → Nat → Int32) (t wo : Int32) (R : Nat → Nat → Int32) : Prop := goC L t (lw (goC L t) (goB L wo) 101 R) = false
def stF (L R : Nat → Nat → Int32) (la : Int32) : Int32 := if R 0 6 = -1 then (if L 0 0 ≤ R 4 0 then la + 1 - R 0 7 else (if lgT L (R 4 0) 0 < la + 1 then lgT L (R 4 0) 0 else la + 1) - R 0 7) else 1
def gt_sa1 (v : Int32) (C : Nat → Nat → Int32) : Nat → Nat → Int32 := sR C 1 (putF (C 1) 120 (C 0 0) v)
def gt_sa2 (C : Nat → Nat → Int32) : Nat → Nat → Int32 := sF C 0 0 (C 0 0 + 1)
def gt_sadd (C : Nat → Nat → Int32) (v : Int32) : Nat → Nat → Int32 := gt_sa2 (gt_sa1 v C)
def sgF (C : Nat → Nat → Int32) (q : Int32) : Int32 := if C 0 0 ≤ q then -1 else cellF (C 1) 120 q
def dgF (C : Nat → Nat → Int32) (q : Int32) : Int32 := if sgF C q < 48 then -1 else if 57 < sgF C q then -1 else sgF C q - 48
def gt_miss (C : Nat → Nat → Int32) (q : Int32) : Nat → Nat → Int32 := if C 0 3 = -1 then sF C 0 3 q else C
def gt_at (C : Nat → Nat → Int32) : Nat → Nat → Int32 := sF C 0 2 (C 0 2 + 1)
def gt_semi (C : Nat → Nat → Int32) : Nat → Nat → Int32 := if sgF C (C 0 2) = 59 then gt_at C else gt_at (gt_miss C (C 0 2))
def gt_rdig (C : Nat → Nat → Int32) (hi : Int32) : Nat → Nat → Int32 := if dgF C (C 0 2) = -1 then gt_at (gt_miss C (C 0 2)) else if dgF C (C 0 2) ≤ hi then gt_at C else gt_at (gt_miss C (C 0 2))
def rnC (mo : Int32) (x : (Nat → Nat → Int32) × Int32 × Int32) : Bool := if mo ≤ x.2.2 then false else if dgF x.1 (x.1 0 2) = -1 then false else true
def rnB (x : (Nat → Nat → Int32) × Int32 × Int32) : (Nat → Nat → Int32) × Int32 × Int32 := (gt_at x.1, 10 * x.2.1 + dgF x.1 (x.1 0 2), x.2.2 + 1)
def rnX (C : Nat → Nat → Int32) (mo : Int32) : (Nat → Nat → Int32) × Int32 × Int32 := lw (rnC mo) rnB 5 (C, 0, 0)
def gt_rnE (C : Nat → Nat → Int32) (lo hi : Int32) (x : (Nat → Nat → Int32) × Int32 × Int32) : Nat → Nat → Int32 := if x.1 0 2 = C 0 2 then gt_miss x.1 (x.1 0 2) else if dgF x.1 (x.1 0 2) = -1 then (if x.2.1 < lo then gt_miss x.1 (C 0 2) else if x.2.1 ≤ hi then x.1 else gt_miss x.1 (C 0 2)) else gt_miss x.1 (x.1 0 2)
def gt_rnum (C : Nat → Nat → Int32) (mo lo hi : Int32) : Nat → Nat → Int32 := gt_rnE C lo hi (lw (rnC mo) rnB 5 (C, 0, 0))
def gt_cput (i v : Int32) (C : Nat → Nat → Int32) : Nat → Nat → Int32 := sR C 2 (putF (C 2) 180 i v)
def gt_cinc (C : Nat → Nat → Int32) : Nat → Nat → Int32 := sF C 0 1 (C 0 1 + 1)
def gt_kp1 (w : Int32) (C : Nat → Nat → Int32) : Nat → Nat → Int32 := gt_cput (C 0 1 * 3) w C
def gt_kp2 (a : Int32) (C : Nat → Nat → Int32) : Nat → Nat → Int32 := gt_cput (C 0 1 * 3 + 1) a C
def gt_kp3 (b : Int32) (C : Nat → Nat → Int32) : Nat → Nat → Int32 := gt_cput (C 0 1 * 3 + 2) b C
def gt_keep (C : Nat → Nat → Int32) (w a b : Int32) : Nat → Nat → Int32 := gt_cinc (gt_kp3 b (gt_kp2 a (gt_kp1 w C)))
def ordF (g : Int32) : Int32 := if g = 97 then 7 else if g = 98 then 8 else if g = 99 then 6 else if g = 107 then 2 else if g = 110 then 3 else if g = 112 then 0 else if g = 118 then 1 else if g = 119 then 10 else -1
def gt_fin (w a b : Int32) (C : Nat → Nat → Int32) : Nat → Nat → Int32 := gt_keep (gt_semi C) w a b
def gt_ro2 (w : Int32) (C : Nat → Nat → Int32) : Nat → Nat → Int32 := if w = 0 then gt_fin w (dgF C (C 0 2)) (-1) (gt_rdig C 9) else if w = 1 then gt_fin w (dgF C (C 0 2)) (-1) (gt_rdig C 9) else if w = 2 then gt_fin w (dgF C (C 0 2)) (rnX (gt_rdig C 2) 3).2.1 (gt_rnum (gt_rdig C 2) 3 1 100) else if w = 3 then gt_fin w (dgF C (C 0 2)) (-1) (gt_rdig C 7) else if w = 8 then gt_fin w (rnX C 4).2.1 (-1) (gt_rnum C 4 0 1000) else if w = 10 then gt_fin w (rnX C 3).2.1 (-1) (gt_rnum C 3 0 999) else gt_fin w (-1) (-1) C
def gt_ro (C : Nat → Nat → Int32) : Nat → Nat → Int32 := if ordF (sgF C (C 0 2)) = -1 then gt_miss C (C 0 2) else gt_ro2 (ordF (sgF C (C 0 2))) (gt_at C)
def reC (x : (Nat → Nat → Int32) × Int32) : Bool := if 120 ≤ x.2 then false else if x.1 0 0 ≤ x.1 0 2 then false else if x.1 0 3 = -1 then true else false
def reB (x : (Nat → Nat → Int32) × Int32) : (Nat → Nat → Int32) × Int32 := (gt_ro x.1, x.2 + 1)
def gt_re0 (C : Nat → Nat → Int32) : Nat → Nat → Int32 := sF (sF (sF C 0 2 0) 0 1 0) 0 3 (-1)
def gt_read (C : Nat → Nat → Int32) : Nat → Nat → Int32 := (lw reC reB 121 (gt_re0 C, 0)).1
theorem lw_stop {α : Type} {c : α → Bool} {b : α → α} (I : α → Prop) (μ : α → Nat) (hI : ∀ x, I x → c x = true → I (b x)) (hd : ∀ x, I x → c x = true → μ (b x) < μ x) : ∀ (n : Nat) (x : α), I x → μ x < n → c (lw c b n x) = false
  | 0, x, _, h => by omega
  | n + 1, x, hi, h => by
    cases hc : c x with
    | false => rw [lw_f hc]; exact hc
    | true => rw [lw_t hc]; exact lw_stop I μ hI hd n (b x) (hI x hi hc) (by have := hd x hi hc; omega)
theorem rn_stop (C : Nat → Nat → Int32) (mo : Int32) (hm : mo ≤ 4) : rnC mo (lw (rnC mo) rnB 5 (C, 0, 0)) = false := by
  refine lw_stop (fun x => ∃ k : Nat, k ≤ 4 ∧ x.2.2 = nI k) (fun x => 4 - x.2.2.toNatClampNeg) ?_ ?_ 5 _ ⟨0, by omega, rfl⟩ (by show 4 - _ < 5; omega)
  · intro x ⟨k, hk, e⟩ hc
    have h4 : k < 4 := by
      rcases Nat.lt_or_ge k 4 with h | h
      · exact h
      · exfalso
        have : k = 4 := by omega
        subst this
        simp only [rnC, e] at hc
        rw [if_pos (show mo ≤ nI 4 from hm)] at hc
        cases hc
    exact ⟨k + 1, by omega, by show x.2.2 + 1 = _; rw [e, nI_1]⟩
  · intro x ⟨k, hk, e⟩ hc
    have h4 : k < 4 := by
      rcases Nat.lt_or_ge k 4 with h | h
      · exact h
      · exfalso
        have : k = 4 := by omega
        subst this
        simp only [rnC, e] at hc
        rw [if_pos (show mo ≤ nI 4 from hm)] at hc
        cases hc
    show 4 - (x.2.2 + 1).toNatClampNeg < 4 - x.2.2.toNatClampNeg
    rw [e, nI_1, nI_clamp (by omega), nI_clamp (by omega)]
    omega
theorem re_stop (C : Nat → Nat → Int32) : reC (lw reC reB 121 (C, 0)) = false := by
  have key : ∀ x : (Nat → Nat → Int32) × Int32, (∃ k : Nat, k ≤ 120 ∧ x.2 = nI k) → reC x = true → ∃ k : Nat, k < 120 ∧ x.2 = nI k := by
    intro x ⟨k, hk, e⟩ hc
    rcases Nat.lt_or_ge k 120 with h | h
    · exact ⟨k, h, e⟩
    · exfalso
      have : k = 120 := by omega
      subst this
      simp only [reC, e] at hc
      rw [if_pos (show (120 : Int32) ≤ nI 120 by decide)] at hc
      cases hc
  refine lw_stop (fun x => ∃ k : Nat, k ≤ 120 ∧ x.2 = nI k) (fun x => 120 - x.2.toNatClampNeg) ?_ ?_ 121 _ ⟨0, by omega, rfl⟩ (by show 120 - _ < 121; omega)
  · intro x hx hc
    obtain ⟨k, hk, e⟩ := key x hx hc
    exact ⟨k + 1, by omega, by show x.2 + 1 = _; rw [e, nI_1]⟩
  · intro x hx hc
    obtain ⟨k, hk, e⟩ := key x hx hc
    show 120 - (x.2 + 1).toNatClampNeg < 120 - x.2.toNatClampNeg
    rw [e, nI_1, nI_clamp (by omega), nI_clamp (by omega)]
    omega
set_option maxHeartbeats 4000000 in
set_option maxRecDepth 100000 in
theorem k_X3_begin (l : Launch) (D : va_G) {cI : ClassId} {tys : List (ClassId × FieldType)} (ht0 : tys[0]? = some (cI, .int)) (aR : Nat → Nat) (R : Nat → Nat → Int32) (sz : Nat) : kV l yX3_begin cX3_begin 1 none { frames := 2, cells := 0, slots := 0, locals := 43 } D tys [.ref (aR 0)] (wRep cI aR R) (wRep cI aR (gt_begin R)) 0 0 sz := by
  refine y_enterV (cc := cX3_begin) (maxL := 1) (ret := none) (own := RX3) (by decide) rfl (lv0 := [(0, .ref (aR 0))]) rfl (Nat.le_of_ble_eq_true rfl) ?_
  intro p e s m args below meth c A Z hr hlk _
  refine y_aload_n Z dX3_begin_0 0 rfl rfl ?_
  refine y_get (C := RX3) (T := TX3) (N := 2) Z 3 inlX3 rfl 0 rfl 0 (by decide) fl_RX3_12 rfl dX3_begin_1 ?_
  refine y_VV Z (k_X1_reset l D ht0 (fun k => aR (1 + k)) R) (y_cwV 0 Z ml_RX3_18 im_X1_reset se_X1_reset in_X1 co_X1_reset rfl rfl hd_X1_reset ⟨Nat.le_of_ble_eq_true rfl, Nat.le_of_ble_eq_true rfl⟩) [1, 2, 3, 4] rfl (by decide) 1 1 rfl rfl rfl rfl (Nat.le_of_ble_eq_true rfl) dX3_begin_4 ⟨Nat.le_of_ble_eq_true rfl, Nat.le_of_ble_eq_true rfl⟩ [(aR 1), (aR 2), (aR 3), (aR 4)] rfl rfl (wRep cI aR (gm (gt_reset R) R)) rfl ?_
  refine y_aload_n Z dX3_begin_7 0 rfl rfl ?_
  refine y_iconst (v := 0) Z dX3_begin_8 (by decide) ?_
  refine y_put (C := RX3) (T := TX3) (N := 2) Z 3 inlX3 rfl tyX3 tyX3_ok nmX3 0 rfl 1 (by decide) fl_RX3_21 rfl rfl rfl (Nat.le_of_ble_eq_true rfl) (wRepR cI aR 0 ((gm (gt_reset R) R) 0 0) ((gm (gt_reset R) R) 0 1) ((gm (gt_reset R) R) 0 2) ((gm (gt_reset R) R) 0 3) ((gm (gt_reset R) R) 0 4) ((gm (gt_reset R) R) 0 5) ((gm (gt_reset R) R) 0 6) ((gm (gt_reset R) R) 0 7) ((gm (gt_reset R) R) 0 8) ((gm (gt_reset R) R) 0 9) ((gm (gt_reset R) R) 0 10) ((gm (gt_reset R) R) 1) ((gm (gt_reset R) R) 2) ((gm (gt_reset R) R) 3)) rfl dX3_begin_9 ?_
  exact y_retV Z hr hlk dX3_begin_12 (by first | (with_reducible rfl) | (simp only [wMix, wLog, wPic, wRep, wScr, wVM, wMd, sR_eq, sR_ne, sF_eq, sF_ne, upd_eq, upd_ne, gs_eq, gs_ne, gm_4, gm_ne, Nat.reduceBEq]; done) | rfl)
set_option maxHeartbeats 4000000 in
set_option maxRecDepth 100000 in
theorem k_X3_goTo (l : Launch) (D : va_G) {cI : ClassId} {tys : List (ClassId × FieldType)} (ht0 : tys[0]? = some (cI, .int)) (aR : Nat → Nat) (R : Nat → Nat → Int32) (aL : Nat → Nat) (L : Nat → Nat → Int32) (t : Int32) (wo : Int32) (h_stop : goStop L t wo R) (sz : Nat) : kV l yX3_goTo cX3_goTo 4 none { frames := 5, cells := 0, slots := 0, locals := 111 } D tys [.ref (aR 0), .ref (aL 0), .int t, .int wo] (wRep cI aR R ++ (wLog cI aL L)) (wRep cI aR (gt_goTo L t wo R) ++ (wLog cI aL L)) 0 0 sz := by
  refine y_enterV (cc := cX3_goTo) (maxL := 4) (ret := none) (own := RX3) (by decide) rfl (lv0 := [(0, .ref (aR 0)), (1, .ref (aL 0)), (2, .int t), (3, .int wo)]) rfl (Nat.le_of_ble_eq_true rfl) ?_
  intro p e s m args below meth c A Z hr hlk _
  have L0 : ∀ (n : Nat) (x : Nat → Nat → Int32), (goC L t) (lw (goC L t) (goB L wo) n x) = false → lw (goC L t) (goB L wo) n x = (lw (goC L t) (goB L wo) 101 R) → Yy p l e { frames := 5, cells := 0, slots := 0, locals := 111 } s m args below meth c (QV D tys A (wRep cI aR (gt_goTo L t wo R) ++ (wLog cI aL L)) below args s 0 0) D A 4 0 0 (wRep cI aR x ++ (wLog cI aL L)) [(0, .ref (aR 0)), (1, .ref (aL 0)), (2, .int t), (3, .int wo)] [] 0 := by
    intro n; induction n with
    | zero =>
      intro x hc hx
      refine y_aload_n Z dX3_goTo_0 0 rfl rfl ?_
      refine y_get (C := RX3) (T := TX3) (N := 2) Z 3 inlX3 rfl 0 rfl 1 (by decide) fl_RX3_21 rfl dX3_goTo_1 ?_
      refine y_aload_n Z dX3_goTo_4 1 rfl rfl ?_
      refine y_VI Z (k_X0_size l D ht0 aL L) (y_cwV 0 Z ml_RX3_25 im_X0_size se_X0_size in_X0 co_X0_size rfl rfl hd_X0_size ⟨Nat.le_of_ble_eq_true rfl, Nat.le_of_ble_eq_true rfl⟩) [5, 6] rfl (by decide) 0 5 rfl rfl rfl rfl (Nat.le_of_ble_eq_true rfl) dX3_goTo_5 ⟨Nat.le_of_ble_eq_true rfl, Nat.le_of_ble_eq_true rfl⟩ [(aL 0), (aL 1)] rfl rfl (wRep cI aR x ++ (wLog cI aL L)) rfl ?_
      refine y_icmp_ge (tgt := 79) Z dX3_goTo_8 (by decide) (fun h1 => ?_) (fun h2 => ?_)
      · have hb : (goC L t) x = false := by simp only [goC, h1, ↓reduceIte]
        have ex : x = (lw (goC L t) (goB L wo) 101 R) := by rw [← hx, lw_f hb]
        refine y_aload_n Z dX3_goTo_79 0 rfl rfl ?_
        refine y_get (C := RX3) (T := TX3) (N := 2) Z 3 inlX3 rfl 0 rfl 0 (by decide) fl_RX3_12 rfl dX3_goTo_80 ?_
        refine y_iload_n Z dX3_goTo_83 2 rfl rfl ?_
        refine y_aload_n Z dX3_goTo_84 0 rfl rfl ?_
        refine y_get (C := RX3) (T := TX3) (N := 2) Z 3 inlX3 rfl 0 rfl 0 (by decide) fl_RX3_12 rfl dX3_goTo_85 ?_
        refine y_getN (host := RX5) (C := RX1) (T := TX1) (N := 14) Z 1 inlX1 rfl 1 rfl 7 (by decide) nl_RX3_35 rfl dX3_goTo_88 ?_
        refine y_isub Z dX3_goTo_91 ?_
        refine y_VV Z (k_X1_letPass l D ht0 (fun k => aR (1 + k)) x (t - (x 0 7))) (y_cwV 1 Z ml_RX3_38 im_X1_letPass se_X1_letPass in_X1 co_X1_letPass rfl rfl hd_X1_letPass ⟨Nat.le_of_ble_eq_true rfl, Nat.le_of_ble_eq_true rfl⟩) [1, 2, 3, 4] rfl (by decide) 1 1 rfl rfl rfl rfl (Nat.le_of_ble_eq_true rfl) dX3_goTo_92 ⟨Nat.le_of_ble_eq_true rfl, Nat.le_of_ble_eq_true rfl⟩ [(aR 1), (aR 2), (aR 3), (aR 4)] rfl rfl (wRep cI aR (gm (gt_letPass (t - (x 0 7)) x) x) ++ (wLog cI aL L)) rfl ?_
        exact y_retV Z hr hlk dX3_goTo_95 (by subst ex; first | (simp only [gt_goTo, gt_goE, h1, if_true, if_false, not_false_eq_true, not_true_eq_false, ↓reduceIte]; done) | (simp only [gt_goTo, gt_goE, h1, if_true, if_false, not_false_eq_true, not_true_eq_false, ↓reduceIte, wMix, wLog, wPic, wRep, wScr, wVM, wMd, sR_eq, sR_ne, sF_eq, sF_ne, upd_eq, upd_ne, gs_eq, gs_ne, gm_4, gm_ne, Nat.reduceBEq]; done) | (with_reducible rfl) | contradiction | (simp only [gt_goTo, gt_goE, h1, if_true, if_false, not_false_eq_true, not_true_eq_false, ↓reduceIte]; rfl) | rfl)
      · refine y_aload_n Z dX3_goTo_11 1 rfl rfl ?_
        refine y_aload_n Z dX3_goTo_12 0 rfl rfl ?_
        refine y_get (C := RX3) (T := TX3) (N := 2) Z 3 inlX3 rfl 0 rfl 1 (by decide) fl_RX3_21 rfl dX3_goTo_13 ?_
        refine y_VI Z (k_X0_timeOf l D ht0 aL L (x 4 0)) (y_cwV 1 Z ml_RX3_31 im_X0_timeOf se_X0_timeOf in_X0 co_X0_timeOf rfl rfl hd_X0_timeOf ⟨Nat.le_of_ble_eq_true rfl, Nat.le_of_ble_eq_true rfl⟩) [5, 6] rfl (by decide) 0 5 rfl rfl rfl rfl (Nat.le_of_ble_eq_true rfl) dX3_goTo_16 ⟨Nat.le_of_ble_eq_true rfl, Nat.le_of_ble_eq_true rfl⟩ [(aL 0), (aL 1)] rfl rfl (wRep cI aR x ++ (wLog cI aL L)) rfl ?_
        refine y_iload_n Z dX3_goTo_19 2 rfl rfl ?_
        refine y_icmp_gt (tgt := 79) Z dX3_goTo_20 (by decide) (fun h3 => ?_) (fun h4 => ?_)
        · have hb : (goC L t) x = false := by simp only [goC, h2, h3, ↓reduceIte]
          have ex : x = (lw (goC L t) (goB L wo) 101 R) := by rw [← hx, lw_f hb]
          refine y_aload_n Z dX3_goTo_79 0 rfl rfl ?_
          refine y_get (C := RX3) (T := TX3) (N := 2) Z 3 inlX3 rfl 0 rfl 0 (by decide) fl_RX3_12 rfl dX3_goTo_80 ?_
          refine y_iload_n Z dX3_goTo_83 2 rfl rfl ?_
          refine y_aload_n Z dX3_goTo_84 0 rfl rfl ?_
          refine y_get (C := RX3) (T := TX3) (N := 2) Z 3 inlX3 rfl 0 rfl 0 (by decide) fl_RX3_12 rfl dX3_goTo_85 ?_
          refine y_getN (host := RX5) (C := RX1) (T := TX1) (N := 14) Z 1 inlX1 rfl 1 rfl 7 (by decide) nl_RX3_35 rfl dX3_goTo_88 ?_
          refine y_isub Z dX3_goTo_91 ?_
          refine y_VV Z (k_X1_letPass l D ht0 (fun k => aR (1 + k)) x (t - (x 0 7))) (y_cwV 1 Z ml_RX3_38 im_X1_letPass se_X1_letPass in_X1 co_X1_letPass rfl rfl hd_X1_letPass ⟨Nat.le_of_ble_eq_true rfl, Nat.le_of_ble_eq_true rfl⟩) [1, 2, 3, 4] rfl (by decide) 1 1 rfl rfl rfl rfl (Nat.le_of_ble_eq_true rfl) dX3_goTo_92 ⟨Nat.le_of_ble_eq_true rfl, Nat.le_of_ble_eq_true rfl⟩ [(aR 1), (aR 2), (aR 3), (aR 4)] rfl rfl (wRep cI aR (gm (gt_letPass (t - (x 0 7)) x) x) ++ (wLog cI aL L)) rfl ?_
          exact y_retV Z hr hlk dX3_goTo_95 (by subst ex; first | (simp only [gt_goTo, gt_goE, h2, h3, if_true, if_false, not_false_eq_true, not_true_eq_false, ↓reduceIte]; done) | (simp only [gt_goTo, gt_goE, h2, h3, if_true, if_false, not_false_eq_true, not_true_eq_false, ↓reduceIte, wMix, wLog, wPic, wRep, wScr, wVM, wMd, sR_eq, sR_ne, sF_eq, sF_ne, upd_eq, upd_ne, gs_eq, gs_ne, gm_4, gm_ne, Nat.reduceBEq]; done) | (with_reducible rfl) | contradiction | (simp only [gt_goTo, gt_goE, h2, h3, if_true, if_false, not_false_eq_true, not_true_eq_false, ↓reduceIte]; rfl) | rfl)
        · exact absurd (show (goC L t) x = true by simp only [goC, h2, h4, ↓reduceIte]) (by rw [show (goC L t) x = false from hc]; decide)
    | succ n ih =>
      intro x hc hx
      refine y_aload_n Z dX3_goTo_0 0 rfl rfl ?_
      refine y_get (C := RX3) (T := TX3) (N := 2) Z 3 inlX3 rfl 0 rfl 1 (by decide) fl_RX3_21 rfl dX3_goTo_1 ?_
      refine y_aload_n Z dX3_goTo_4 1 rfl rfl ?_
      refine y_VI Z (k_X0_size l D ht0 aL L) (y_cwV 0 Z ml_RX3_25 im_X0_size se_X0_size in_X0 co_X0_size rfl rfl hd_X0_size ⟨Nat.le_of_ble_eq_true rfl, Nat.le_of_ble_eq_true rfl⟩) [5, 6] rfl (by decide) 0 5 rfl rfl rfl rfl (Nat.le_of_ble_eq_true rfl) dX3_goTo_5 ⟨Nat.le_of_ble_eq_true rfl, Nat.le_of_ble_eq_true rfl⟩ [(aL 0), (aL 1)] rfl rfl (wRep cI aR x ++ (wLog cI aL L)) rfl ?_
      refine y_icmp_ge (tgt := 79) Z dX3_goTo_8 (by decide) (fun h5 => ?_) (fun h6 => ?_)
      · have hb : (goC L t) x = false := by simp only [goC, h5, ↓reduceIte]
        have ex : x = (lw (goC L t) (goB L wo) 101 R) := by rw [← hx, lw_f hb]
        refine y_aload_n Z dX3_goTo_79 0 rfl rfl ?_
        refine y_get (C := RX3) (T := TX3) (N := 2) Z 3 inlX3 rfl 0 rfl 0 (by decide) fl_RX3_12 rfl dX3_goTo_80 ?_
        refine y_iload_n Z dX3_goTo_83 2 rfl rfl ?_
        refine y_aload_n Z dX3_goTo_84 0 rfl rfl ?_
        refine y_get (C := RX3) (T := TX3) (N := 2) Z 3 inlX3 rfl 0 rfl 0 (by decide) fl_RX3_12 rfl dX3_goTo_85 ?_
        refine y_getN (host := RX5) (C := RX1) (T := TX1) (N := 14) Z 1 inlX1 rfl 1 rfl 7 (by decide) nl_RX3_35 rfl dX3_goTo_88 ?_
        refine y_isub Z dX3_goTo_91 ?_
        refine y_VV Z (k_X1_letPass l D ht0 (fun k => aR (1 + k)) x (t - (x 0 7))) (y_cwV 1 Z ml_RX3_38 im_X1_letPass se_X1_letPass in_X1 co_X1_letPass rfl rfl hd_X1_letPass ⟨Nat.le_of_ble_eq_true rfl, Nat.le_of_ble_eq_true rfl⟩) [1, 2, 3, 4] rfl (by decide) 1 1 rfl rfl rfl rfl (Nat.le_of_ble_eq_true rfl) dX3_goTo_92 ⟨Nat.le_of_ble_eq_true rfl, Nat.le_of_ble_eq_true rfl⟩ [(aR 1), (aR 2), (aR 3), (aR 4)] rfl rfl (wRep cI aR (gm (gt_letPass (t - (x 0 7)) x) x) ++ (wLog cI aL L)) rfl ?_
        exact y_retV Z hr hlk dX3_goTo_95 (by subst ex; first | (simp only [gt_goTo, gt_goE, h5, if_true, if_false, not_false_eq_true, not_true_eq_false, ↓reduceIte]; done) | (simp only [gt_goTo, gt_goE, h5, if_true, if_false, not_false_eq_true, not_true_eq_false, ↓reduceIte, wMix, wLog, wPic, wRep, wScr, wVM, wMd, sR_eq, sR_ne, sF_eq, sF_ne, upd_eq, upd_ne, gs_eq, gs_ne, gm_4, gm_ne, Nat.reduceBEq]; done) | (with_reducible rfl) | contradiction | (simp only [gt_goTo, gt_goE, h5, if_true, if_false, not_false_eq_true, not_true_eq_false, ↓reduceIte]; rfl) | rfl)
      · refine y_aload_n Z dX3_goTo_11 1 rfl rfl ?_
        refine y_aload_n Z dX3_goTo_12 0 rfl rfl ?_
        refine y_get (C := RX3) (T := TX3) (N := 2) Z 3 inlX3 rfl 0 rfl 1 (by decide) fl_RX3_21 rfl dX3_goTo_13 ?_
        refine y_VI Z (k_X0_timeOf l D ht0 aL L (x 4 0)) (y_cwV 1 Z ml_RX3_31 im_X0_timeOf se_X0_timeOf in_X0 co_X0_timeOf rfl rfl hd_X0_timeOf ⟨Nat.le_of_ble_eq_true rfl, Nat.le_of_ble_eq_true rfl⟩) [5, 6] rfl (by decide) 0 5 rfl rfl rfl rfl (Nat.le_of_ble_eq_true rfl) dX3_goTo_16 ⟨Nat.le_of_ble_eq_true rfl, Nat.le_of_ble_eq_true rfl⟩ [(aL 0), (aL 1)] rfl rfl (wRep cI aR x ++ (wLog cI aL L)) rfl ?_
        refine y_iload_n Z dX3_goTo_19 2 rfl rfl ?_
        refine y_icmp_gt (tgt := 79) Z dX3_goTo_20 (by decide) (fun h7 => ?_) (fun h8 => ?_)
        · have hb : (goC L t) x = false := by simp only [goC, h6, h7, ↓reduceIte]
          have ex : x = (lw (goC L t) (goB L wo) 101 R) := by rw [← hx, lw_f hb]
          refine y_aload_n Z dX3_goTo_79 0 rfl rfl ?_
          refine y_get (C := RX3) (T := TX3) (N := 2) Z 3 inlX3 rfl 0 rfl 0 (by decide) fl_RX3_12 rfl dX3_goTo_80 ?_
          refine y_iload_n Z dX3_goTo_83 2 rfl rfl ?_
          refine y_aload_n Z dX3_goTo_84 0 rfl rfl ?_
          refine y_get (C := RX3) (T := TX3) (N := 2) Z 3 inlX3 rfl 0 rfl 0 (by decide) fl_RX3_12 rfl dX3_goTo_85 ?_
          refine y_getN (host := RX5) (C := RX1) (T := TX1) (N := 14) Z 1 inlX1 rfl 1 rfl 7 (by decide) nl_RX3_35 rfl dX3_goTo_88 ?_
          refine y_isub Z dX3_goTo_91 ?_
          refine y_VV Z (k_X1_letPass l D ht0 (fun k => aR (1 + k)) x (t - (x 0 7))) (y_cwV 1 Z ml_RX3_38 im_X1_letPass se_X1_letPass in_X1 co_X1_letPass rfl rfl hd_X1_letPass ⟨Nat.le_of_ble_eq_true rfl, Nat.le_of_ble_eq_true rfl⟩) [1, 2, 3, 4] rfl (by decide) 1 1 rfl rfl rfl rfl (Nat.le_of_ble_eq_true rfl) dX3_goTo_92 ⟨Nat.le_of_ble_eq_true rfl, Nat.le_of_ble_eq_true rfl⟩ [(aR 1), (aR 2), (aR 3), (aR 4)] rfl rfl (wRep cI aR (gm (gt_letPass (t - (x 0 7)) x) x) ++ (wLog cI aL L)) rfl ?_
          exact y_retV Z hr hlk dX3_goTo_95 (by subst ex; first | (simp only [gt_goTo, gt_goE, h6, h7, if_true, if_false, not_false_eq_true, not_true_eq_false, ↓reduceIte]; done) | (simp only [gt_goTo, gt_goE, h6, h7, if_true, if_false, not_false_eq_true, not_true_eq_false, ↓reduceIte, wMix, wLog, wPic, wRep, wScr, wVM, wMd, sR_eq, sR_ne, sF_eq, sF_ne, upd_eq, upd_ne, gs_eq, gs_ne, gm_4, gm_ne, Nat.reduceBEq]; done) | (with_reducible rfl) | contradiction | (simp only [gt_goTo, gt_goE, h6, h7, if_true, if_false, not_false_eq_true, not_true_eq_false, ↓reduceIte]; rfl) | rfl)
        · have hb : (goC L t) x = true := by simp only [goC, h6, h8, ↓reduceIte]
          refine y_aload_n Z dX3_goTo_23 0 rfl rfl ?_
          refine y_get (C := RX3) (T := TX3) (N := 2) Z 3 inlX3 rfl 0 rfl 1 (by decide) fl_RX3_21 rfl dX3_goTo_24 ?_
          refine y_iload_n Z dX3_goTo_27 3 rfl rfl ?_
          refine y_icmp_eq (tgt := 66) Z dX3_goTo_28 (by decide) (fun h9 => ?_) (fun h10 => ?_)
          · refine y_aload_n Z dX3_goTo_66 0 rfl rfl ?_
            refine y_dup Z dX3_goTo_67 rfl ?_
            refine y_get (C := RX3) (T := TX3) (N := 2) Z 3 inlX3 rfl 0 rfl 1 (by decide) fl_RX3_21 rfl dX3_goTo_68 ?_
            refine y_iconst (v := 1) Z dX3_goTo_71 (by decide) ?_
            refine y_iadd Z dX3_goTo_72 ?_
            refine y_put (C := RX3) (T := TX3) (N := 2) Z 3 inlX3 rfl tyX3 tyX3_ok nmX3 0 rfl 1 (by decide) fl_RX3_21 rfl rfl rfl (Nat.le_of_ble_eq_true rfl) (wRepR cI aR ((x 4 0) + 1) (x 0 0) (x 0 1) (x 0 2) (x 0 3) (x 0 4) (x 0 5) (x 0 6) (x 0 7) (x 0 8) (x 0 9) (x 0 10) (x 1) (x 2) (x 3) ++ (wLog cI aL L)) rfl dX3_goTo_73 ?_
            refine y_goto (tgt := 0) Z dX3_goTo_76 (by decide) ?_
            refine y_eq (ws' := (wRep cI aR ((goB L wo) x) ++ (wLog cI aL L))) (lv' := [(0, .ref (aR 0)), (1, .ref (aL 0)), (2, .int t), (3, .int wo)]) (st' := []) (by first | (simp only [goB, gt_up, gt_st1, gt_st2, h6, h8, eq_true h9, if_true, if_false, not_false_eq_true, not_true_eq_false, ↓reduceIte]; done) | (simp only [goB, gt_up, gt_st1, gt_st2, h6, h8, eq_true h9, if_true, if_false, not_false_eq_true, not_true_eq_false, ↓reduceIte, wMix, wLog, wPic, wRep, wScr, wVM, wMd, sR_eq, sR_ne, sF_eq, sF_ne, upd_eq, upd_ne, gs_eq, gs_ne, gm_4, gm_ne, Nat.reduceBEq]; done) | (with_reducible rfl) | contradiction | (simp only [goB, gt_up, gt_st1, gt_st2, h6, h8, eq_true h9, if_true, if_false, not_false_eq_true, not_true_eq_false, ↓reduceIte]; rfl) | rfl) (by first | (simp only [goB, gt_up, gt_st1, gt_st2, h6, h8, eq_true h9, if_true, if_false, not_false_eq_true, not_true_eq_false, ↓reduceIte]; done) | (simp only [goB, gt_up, gt_st1, gt_st2, h6, h8, eq_true h9, if_true, if_false, not_false_eq_true, not_true_eq_false, ↓reduceIte, wMix, wLog, wPic, wRep, wScr, wVM, wMd, sR_eq, sR_ne, sF_eq, sF_ne, upd_eq, upd_ne, gs_eq, gs_ne, gm_4, gm_ne, Nat.reduceBEq]; done) | (with_reducible rfl) | contradiction | (simp only [goB, gt_up, gt_st1, gt_st2, h6, h8, eq_true h9, if_true, if_false, not_false_eq_true, not_true_eq_false, ↓reduceIte]; rfl) | rfl) rfl ?_
            exact ih _ (by rw [lw_t hb] at hc; exact hc) (by rw [lw_t hb] at hx; exact hx)
          · refine y_aload_n Z dX3_goTo_31 0 rfl rfl ?_
            refine y_get (C := RX3) (T := TX3) (N := 2) Z 3 inlX3 rfl 0 rfl 0 (by decide) fl_RX3_12 rfl dX3_goTo_32 ?_
            refine y_aload_n Z dX3_goTo_35 1 rfl rfl ?_
            refine y_aload_n Z dX3_goTo_36 0 rfl rfl ?_
            refine y_get (C := RX3) (T := TX3) (N := 2) Z 3 inlX3 rfl 0 rfl 1 (by decide) fl_RX3_21 rfl dX3_goTo_37 ?_
            refine y_VI Z (k_X0_timeOf l D ht0 aL L (x 4 0)) (y_cwV 1 Z ml_RX3_31 im_X0_timeOf se_X0_timeOf in_X0 co_X0_timeOf rfl rfl hd_X0_timeOf ⟨Nat.le_of_ble_eq_true rfl, Nat.le_of_ble_eq_true rfl⟩) [5, 6] rfl (by decide) 0 5 rfl rfl rfl rfl (Nat.le_of_ble_eq_true rfl) dX3_goTo_40 ⟨Nat.le_of_ble_eq_true rfl, Nat.le_of_ble_eq_true rfl⟩ [(aL 0), (aL 1)] rfl rfl (wRep cI aR x ++ (wLog cI aL L)) rfl ?_
            refine y_aload_n Z dX3_goTo_43 0 rfl rfl ?_
            refine y_get (C := RX3) (T := TX3) (N := 2) Z 3 inlX3 rfl 0 rfl 0 (by decide) fl_RX3_12 rfl dX3_goTo_44 ?_
            refine y_getN (host := RX5) (C := RX1) (T := TX1) (N := 14) Z 1 inlX1 rfl 1 rfl 7 (by decide) nl_RX3_35 rfl dX3_goTo_47 ?_
            refine y_isub Z dX3_goTo_50 ?_
            refine y_VV Z (k_X1_letPass l D ht0 (fun k => aR (1 + k)) x (lgT L (x 4 0) 0 - (x 0 7))) (y_cwV 1 Z ml_RX3_38 im_X1_letPass se_X1_letPass in_X1 co_X1_letPass rfl rfl hd_X1_letPass ⟨Nat.le_of_ble_eq_true rfl, Nat.le_of_ble_eq_true rfl⟩) [1, 2, 3, 4] rfl (by decide) 1 1 rfl rfl rfl rfl (Nat.le_of_ble_eq_true rfl) dX3_goTo_51 ⟨Nat.le_of_ble_eq_true rfl, Nat.le_of_ble_eq_true rfl⟩ [(aR 1), (aR 2), (aR 3), (aR 4)] rfl rfl (wRep cI aR (gm (gt_letPass (lgT L (x 4 0) 0 - (x 0 7)) x) x) ++ (wLog cI aL L)) rfl ?_
            refine y_aload_n Z dX3_goTo_54 1 rfl rfl ?_
            refine y_aload_n Z dX3_goTo_55 0 rfl rfl ?_
            refine y_get (C := RX3) (T := TX3) (N := 2) Z 3 inlX3 rfl 0 rfl 1 (by decide) fl_RX3_21 rfl dX3_goTo_56 ?_
            refine y_aload_n Z dX3_goTo_59 0 rfl rfl ?_
            refine y_get (C := RX3) (T := TX3) (N := 2) Z 3 inlX3 rfl 0 rfl 0 (by decide) fl_RX3_12 rfl dX3_goTo_60 ?_
            refine y_VV Z (k_X0_redo l D ht0 aL L (fun k => aR (1 + k)) (gm (gt_letPass (lgT L (x 4 0) 0 - (x 0 7)) x) x) ((gm (gt_letPass (lgT L (x 4 0) 0 - (x 0 7)) x) x) 4 0)) (y_cwV 2 Z ml_RX3_42 im_X0_redo se_X0_redo in_X0 co_X0_redo rfl rfl hd_X0_redo ⟨Nat.le_of_ble_eq_true rfl, Nat.le_of_ble_eq_true rfl⟩) [5, 6, 1, 2, 3, 4] rfl (by decide) 0 5 rfl rfl rfl rfl (Nat.le_of_ble_eq_true rfl) dX3_goTo_63 ⟨Nat.le_of_ble_eq_true rfl, Nat.le_of_ble_eq_true rfl⟩ [(aL 0), (aL 1), (aR 1), (aR 2), (aR 3), (aR 4)] rfl rfl (wRep cI aR (gm (gt_redo L ((gm (gt_letPass (lgT L (x 4 0) 0 - (x 0 7)) x) x) 4 0) (gm (gt_letPass (lgT L (x 4 0) 0 - (x 0 7)) x) x)) (gm (gt_letPass (lgT L (x 4 0) 0 - (x 0 7)) x) x)) ++ (wLog cI aL L)) rfl ?_
            refine y_aload_n Z dX3_goTo_66 0 rfl rfl ?_
            refine y_dup Z dX3_goTo_67 rfl ?_
            refine y_get (C := RX3) (T := TX3) (N := 2) Z 3 inlX3 rfl 0 rfl 1 (by decide) fl_RX3_21 rfl dX3_goTo_68 ?_
            refine y_iconst (v := 1) Z dX3_goTo_71 (by decide) ?_
            refine y_iadd Z dX3_goTo_72 ?_
            refine y_put (C := RX3) (T := TX3) (N := 2) Z 3 inlX3 rfl tyX3 tyX3_ok nmX3 0 rfl 1 (by decide) fl_RX3_21 rfl rfl rfl (Nat.le_of_ble_eq_true rfl) (wRepR cI aR (((gm (gt_redo L ((gm (gt_letPass (lgT L (x 4 0) 0 - (x 0 7)) x) x) 4 0) (gm (gt_letPass (lgT L (x 4 0) 0 - (x 0 7)) x) x)) (gm (gt_letPass (lgT L (x 4 0) 0 - (x 0 7)) x) x)) 4 0) + 1) ((gm (gt_redo L ((gm (gt_letPass (lgT L (x 4 0) 0 - (x 0 7)) x) x) 4 0) (gm (gt_letPass (lgT L (x 4 0) 0 - (x 0 7)) x) x)) (gm (gt_letPass (lgT L (x 4 0) 0 - (x 0 7)) x) x)) 0 0) ((gm (gt_redo L ((gm (gt_letPass (lgT L (x 4 0) 0 - (x 0 7)) x) x) 4 0) (gm (gt_letPass (lgT L (x 4 0) 0 - (x 0 7)) x) x)) (gm (gt_letPass (lgT L (x 4 0) 0 - (x 0 7)) x) x)) 0 1) ((gm (gt_redo L ((gm (gt_letPass (lgT L (x 4 0) 0 - (x 0 7)) x) x) 4 0) (gm (gt_letPass (lgT L (x 4 0) 0 - (x 0 7)) x) x)) (gm (gt_letPass (lgT L (x 4 0) 0 - (x 0 7)) x) x)) 0 2) ((gm (gt_redo L ((gm (gt_letPass (lgT L (x 4 0) 0 - (x 0 7)) x) x) 4 0) (gm (gt_letPass (lgT L (x 4 0) 0 - (x 0 7)) x) x)) (gm (gt_letPass (lgT L (x 4 0) 0 - (x 0 7)) x) x)) 0 3) ((gm (gt_redo L ((gm (gt_letPass (lgT L (x 4 0) 0 - (x 0 7)) x) x) 4 0) (gm (gt_letPass (lgT L (x 4 0) 0 - (x 0 7)) x) x)) (gm (gt_letPass (lgT L (x 4 0) 0 - (x 0 7)) x) x)) 0 4) ((gm (gt_redo L ((gm (gt_letPass (lgT L (x 4 0) 0 - (x 0 7)) x) x) 4 0) (gm (gt_letPass (lgT L (x 4 0) 0 - (x 0 7)) x) x)) (gm (gt_letPass (lgT L (x 4 0) 0 - (x 0 7)) x) x)) 0 5) ((gm (gt_redo L ((gm (gt_letPass (lgT L (x 4 0) 0 - (x 0 7)) x) x) 4 0) (gm (gt_letPass (lgT L (x 4 0) 0 - (x 0 7)) x) x)) (gm (gt_letPass (lgT L (x 4 0) 0 - (x 0 7)) x) x)) 0 6) ((gm (gt_redo L ((gm (gt_letPass (lgT L (x 4 0) 0 - (x 0 7)) x) x) 4 0) (gm (gt_letPass (lgT L (x 4 0) 0 - (x 0 7)) x) x)) (gm (gt_letPass (lgT L (x 4 0) 0 - (x 0 7)) x) x)) 0 7) ((gm (gt_redo L ((gm (gt_letPass (lgT L (x 4 0) 0 - (x 0 7)) x) x) 4 0) (gm (gt_letPass (lgT L (x 4 0) 0 - (x 0 7)) x) x)) (gm (gt_letPass (lgT L (x 4 0) 0 - (x 0 7)) x) x)) 0 8) ((gm (gt_redo L ((gm (gt_letPass (lgT L (x 4 0) 0 - (x 0 7)) x) x) 4 0) (gm (gt_letPass (lgT L (x 4 0) 0 - (x 0 7)) x) x)) (gm (gt_letPass (lgT L (x 4 0) 0 - (x 0 7)) x) x)) 0 9) ((gm (gt_redo L ((gm (gt_letPass (lgT L (x 4 0) 0 - (x 0 7)) x) x) 4 0) (gm (gt_letPass (lgT L (x 4 0) 0 - (x 0 7)) x) x)) (gm (gt_letPass (lgT L (x 4 0) 0 - (x 0 7)) x) x)) 0 10) ((gm (gt_redo L ((gm (gt_letPass (lgT L (x 4 0) 0 - (x 0 7)) x) x) 4 0) (gm (gt_letPass (lgT L (x 4 0) 0 - (x 0 7)) x) x)) (gm (gt_letPass (lgT L (x 4 0) 0 - (x 0 7)) x) x)) 1) ((gm (gt_redo L ((gm (gt_letPass (lgT L (x 4 0) 0 - (x 0 7)) x) x) 4 0) (gm (gt_letPass (lgT L (x 4 0) 0 - (x 0 7)) x) x)) (gm (gt_letPass (lgT L (x 4 0) 0 - (x 0 7)) x) x)) 2) ((gm (gt_redo L ((gm (gt_letPass (lgT L (x 4 0) 0 - (x 0 7)) x) x) 4 0) (gm (gt_letPass (lgT L (x 4 0) 0 - (x 0 7)) x) x)) (gm (gt_letPass (lgT L (x 4 0) 0 - (x 0 7)) x) x)) 3) ++ (wLog cI aL L)) rfl dX3_goTo_73 ?_
            refine y_goto (tgt := 0) Z dX3_goTo_76 (by decide) ?_
            refine y_eq (ws' := (wRep cI aR ((goB L wo) x) ++ (wLog cI aL L))) (lv' := [(0, .ref (aR 0)), (1, .ref (aL 0)), (2, .int t), (3, .int wo)]) (st' := []) (by first | (simp only [goB, gt_up, gt_st1, gt_st2, h6, h8, h10, if_true, if_false, not_false_eq_true, not_true_eq_false, ↓reduceIte]; done) | (simp only [goB, gt_up, gt_st1, gt_st2, h6, h8, h10, if_true, if_false, not_false_eq_true, not_true_eq_false, ↓reduceIte, wMix, wLog, wPic, wRep, wScr, wVM, wMd, sR_eq, sR_ne, sF_eq, sF_ne, upd_eq, upd_ne, gs_eq, gs_ne, gm_4, gm_ne, Nat.reduceBEq]; done) | (with_reducible rfl) | contradiction | (simp only [goB, gt_up, gt_st1, gt_st2, h6, h8, h10, if_true, if_false, not_false_eq_true, not_true_eq_false, ↓reduceIte]; rfl) | rfl) (by first | (simp only [goB, gt_up, gt_st1, gt_st2, h6, h8, h10, if_true, if_false, not_false_eq_true, not_true_eq_false, ↓reduceIte]; done) | (simp only [goB, gt_up, gt_st1, gt_st2, h6, h8, h10, if_true, if_false, not_false_eq_true, not_true_eq_false, ↓reduceIte, wMix, wLog, wPic, wRep, wScr, wVM, wMd, sR_eq, sR_ne, sF_eq, sF_ne, upd_eq, upd_ne, gs_eq, gs_ne, gm_4, gm_ne, Nat.reduceBEq]; done) | (with_reducible rfl) | contradiction | (simp only [goB, gt_up, gt_st1, gt_st2, h6, h8, h10, if_true, if_false, not_false_eq_true, not_true_eq_false, ↓reduceIte]; rfl) | rfl) rfl ?_
            exact ih _ (by rw [lw_t hb] at hc; exact hc) (by rw [lw_t hb] at hx; exact hx)
  exact L0 101 R h_stop rfl
set_option maxHeartbeats 4000000 in
set_option maxRecDepth 100000 in
theorem k_X3_sameTimes (l : Launch) (D : va_G) {cI : ClassId} {tys : List (ClassId × FieldType)} (ht0 : tys[0]? = some (cI, .int)) (aR : Nat → Nat) (R : Nat → Nat → Int32) (aL : Nat → Nat) (L : Nat → Nat → Int32) (la : Int32) (sz : Nat) : kI l yX3_sameTimes cX3_sameTimes 4 (some .int) { frames := 3, cells := 0, slots := 0, locals := 64 } D tys [.ref (aR 0), .ref (aL 0), .int la] (wRep cI aR R ++ (wLog cI aL L)) (wRep cI aR R ++ (wLog cI aL L)) (stF L R la) 0 0 sz := by
  refine y_enterI (cc := cX3_sameTimes) (maxL := 4) (ret := (some .int)) (own := RX3) (by decide) rfl (lv0 := [(0, .ref (aR 0)), (1, .ref (aL 0)), (2, .int la)]) rfl (Nat.le_of_ble_eq_true rfl) ?_
  intro p e s m args below meth c A Z hr hlk _
  refine y_aload_n Z dX3_sameTimes_0 0 rfl rfl ?_
  refine y_get (C := RX3) (T := TX3) (N := 2) Z 3 inlX3 rfl 0 rfl 0 (by decide) fl_RX3_12 rfl dX3_sameTimes_1 ?_
  refine y_getN (host := RX5) (C := RX1) (T := TX1) (N := 14) Z 1 inlX1 rfl 1 rfl 6 (by decide) nl_RX3_46 rfl dX3_sameTimes_4 ?_
  refine y_iconst (v := -1) Z dX3_sameTimes_7 (by decide) ?_
  refine y_icmp_eq (tgt := 13) Z dX3_sameTimes_8 (by decide) (fun h1 => ?_) (fun h2 => ?_)
  · refine y_iload_n Z dX3_sameTimes_13 2 rfl rfl ?_
    refine y_iconst (v := 1) Z dX3_sameTimes_14 (by decide) ?_
    refine y_iadd Z dX3_sameTimes_15 ?_
    refine y_istore_n Z [(3, .int (la + 1)), (0, .ref (aR 0)), (1, .ref (aL 0)), (2, .int la)] dX3_sameTimes_16 rfl (by decide) rfl ?_
    refine y_aload_n Z dX3_sameTimes_17 1 rfl rfl ?_
    refine y_get (C := RX3) (T := TX3) (N := 2) Z 3 inlX3 rfl 0 rfl 1 (by decide) fl_RX3_21 rfl dX3_sameTimes_18 ?_
    refine y_aload_n Z dX3_sameTimes_21 2 rfl rfl ?_
    refine y_VI Z (k_X0_size l D ht0 aL L) (y_cwV 0 Z ml_RX3_25 im_X0_size se_X0_size in_X0 co_X0_size rfl rfl hd_X0_size ⟨Nat.le_of_ble_eq_true rfl, Nat.le_of_ble_eq_true rfl⟩) [5, 6] rfl (by decide) 0 5 rfl rfl rfl rfl (Nat.le_of_ble_eq_true rfl) dX3_sameTimes_22 ⟨Nat.le_of_ble_eq_true rfl, Nat.le_of_ble_eq_true rfl⟩ [(aL 0), (aL 1)] rfl rfl (wRep cI aR R ++ (wLog cI aL L)) rfl ?_
    refine y_icmp_ge (tgt := 41) Z dX3_sameTimes_25 (by decide) (fun h3 => ?_) (fun h4 => ?_)
    · refine y_iload_n Z dX3_sameTimes_41 0 rfl rfl ?_
      refine y_aload_n Z dX3_sameTimes_42 1 rfl rfl ?_
      refine y_get (C := RX3) (T := TX3) (N := 2) Z 3 inlX3 rfl 0 rfl 0 (by decide) fl_RX3_12 rfl dX3_sameTimes_43 ?_
      refine y_getN (host := RX5) (C := RX1) (T := TX1) (N := 14) Z 1 inlX1 rfl 1 rfl 7 (by decide) nl_RX3_35 rfl dX3_sameTimes_46 ?_
      refine y_isub Z dX3_sameTimes_49 ?_
      exact y_retI Z hr hlk dX3_sameTimes_50 (by first | (simp only [stF, eq_true h1, h3, if_true, if_false, not_false_eq_true, not_true_eq_false, ↓reduceIte]; done) | (simp only [stF, eq_true h1, h3, if_true, if_false, not_false_eq_true, not_true_eq_false, ↓reduceIte, wMix, wLog, wPic, wRep, wScr, wVM, wMd, sR_eq, sR_ne, sF_eq, sF_ne, upd_eq, upd_ne, gs_eq, gs_ne, gm_4, gm_ne, Nat.reduceBEq]; done) | (with_reducible rfl) | contradiction | (simp only [stF, eq_true h1, h3, if_true, if_false, not_false_eq_true, not_true_eq_false, ↓reduceIte]; rfl) | rfl) (by first | (simp only [stF, eq_true h1, h3, if_true, if_false, not_false_eq_true, not_true_eq_false, ↓reduceIte]; done) | (simp only [stF, eq_true h1, h3, if_true, if_false, not_false_eq_true, not_true_eq_false, ↓reduceIte, wMix, wLog, wPic, wRep, wScr, wVM, wMd, sR_eq, sR_ne, sF_eq, sF_ne, upd_eq, upd_ne, gs_eq, gs_ne, gm_4, gm_ne, Nat.reduceBEq]; done) | (with_reducible rfl) | contradiction | (simp only [stF, eq_true h1, h3, if_true, if_false, not_false_eq_true, not_true_eq_false, ↓reduceIte]; rfl) | rfl)
    · refine y_iload_n Z dX3_sameTimes_28 0 rfl rfl ?_
      refine y_aload_n Z dX3_sameTimes_29 2 rfl rfl ?_
      refine y_aload_n Z dX3_sameTimes_30 1 rfl rfl ?_
      refine y_get (C := RX3) (T := TX3) (N := 2) Z 3 inlX3 rfl 0 rfl 1 (by decide) fl_RX3_21 rfl dX3_sameTimes_31 ?_
      refine y_VI Z (k_X0_timeOf l D ht0 aL L (R 4 0)) (y_cwV 1 Z ml_RX3_31 im_X0_timeOf se_X0_timeOf in_X0 co_X0_timeOf rfl rfl hd_X0_timeOf ⟨Nat.le_of_ble_eq_true rfl, Nat.le_of_ble_eq_true rfl⟩) [5, 6] rfl (by decide) 0 5 rfl rfl rfl rfl (Nat.le_of_ble_eq_true rfl) dX3_sameTimes_34 ⟨Nat.le_of_ble_eq_true rfl, Nat.le_of_ble_eq_true rfl⟩ [(aL 0), (aL 1)] rfl rfl (wRep cI aR R ++ (wLog cI aL L)) rfl ?_
      refine y_mmin Z ml_RX3_49 st_mmin in_Math co_mmin (Nat.le_of_ble_eq_true rfl) (Nat.le_of_ble_eq_true rfl) (Nat.le_of_ble_eq_true rfl) (Nat.le_of_ble_eq_true rfl) dX3_sameTimes_37 ?_
      refine y_istore_n Z [(3, .int (if lgT L (R 4 0) 0 < (la + 1) then lgT L (R 4 0) 0 else (la + 1))), (0, .ref (aR 0)), (1, .ref (aL 0)), (2, .int la)] dX3_sameTimes_40 rfl (by decide) rfl ?_
      refine y_iload_n Z dX3_sameTimes_41 0 rfl rfl ?_
      refine y_aload_n Z dX3_sameTimes_42 1 rfl rfl ?_
      refine y_get (C := RX3) (T := TX3) (N := 2) Z 3 inlX3 rfl 0 rfl 0 (by decide) fl_RX3_12 rfl dX3_sameTimes_43 ?_
      refine y_getN (host := RX5) (C := RX1) (T := TX1) (N := 14) Z 1 inlX1 rfl 1 rfl 7 (by decide) nl_RX3_35 rfl dX3_sameTimes_46 ?_
      refine y_isub Z dX3_sameTimes_49 ?_
      exact y_retI Z hr hlk dX3_sameTimes_50 (by first | (simp only [stF, eq_true h1, h4, if_true, if_false, not_false_eq_true, not_true_eq_false, ↓reduceIte]; done) | (simp only [stF, eq_true h1, h4, if_true, if_false, not_false_eq_true, not_true_eq_false, ↓reduceIte, wMix, wLog, wPic, wRep, wScr, wVM, wMd, sR_eq, sR_ne, sF_eq, sF_ne, upd_eq, upd_ne, gs_eq, gs_ne, gm_4, gm_ne, Nat.reduceBEq]; done) | (with_reducible rfl) | contradiction | (simp only [stF, eq_true h1, h4, if_true, if_false, not_false_eq_true, not_true_eq_false, ↓reduceIte]; rfl) | rfl) (by first | (simp only [stF, eq_true h1, h4, if_true, if_false, not_false_eq_true, not_true_eq_false, ↓reduceIte]; done) | (simp only [stF, eq_true h1, h4, if_true, if_false, not_false_eq_true, not_true_eq_false, ↓reduceIte, wMix, wLog, wPic, wRep, wScr, wVM, wMd, sR_eq, sR_ne, sF_eq, sF_ne, upd_eq, upd_ne, gs_eq, gs_ne, gm_4, gm_ne, Nat.reduceBEq]; done) | (with_reducible rfl) | contradiction | (simp only [stF, eq_true h1, h4, if_true, if_false, not_false_eq_true, not_true_eq_false, ↓reduceIte]; rfl) | rfl)
  · refine y_iconst (v := 1) Z dX3_sameTimes_11 (by decide) ?_
    exact y_retI Z hr hlk dX3_sameTimes_12 (by first | (simp only [stF, h2, if_true, if_false, not_false_eq_true, not_true_eq_false, ↓reduceIte]; done) | (simp only [stF, h2, if_true, if_false, not_false_eq_true, not_true_eq_false, ↓reduceIte, wMix, wLog, wPic, wRep, wScr, wVM, wMd, sR_eq, sR_ne, sF_eq, sF_ne, upd_eq, upd_ne, gs_eq, gs_ne, gm_4, gm_ne, Nat.reduceBEq]; done) | (with_reducible rfl) | contradiction | (simp only [stF, h2, if_true, if_false, not_false_eq_true, not_true_eq_false, ↓reduceIte]; rfl) | rfl) (by first | (simp only [stF, h2, if_true, if_false, not_false_eq_true, not_true_eq_false, ↓reduceIte]; done) | (simp only [stF, h2, if_true, if_false, not_false_eq_true, not_true_eq_false, ↓reduceIte, wMix, wLog, wPic, wRep, wScr, wVM, wMd, sR_eq, sR_ne, sF_eq, sF_ne, upd_eq, upd_ne, gs_eq, gs_ne, gm_4, gm_ne, Nat.reduceBEq]; done) | (with_reducible rfl) | contradiction | (simp only [stF, h2, if_true, if_false, not_false_eq_true, not_true_eq_false, ↓reduceIte]; rfl) | rfl)
set_option maxHeartbeats 4000000 in
set_option maxRecDepth 100000 in
theorem k_X4_isFull (l : Launch) (D : va_G) {cI : ClassId} {tys : List (ClassId × FieldType)} (ht0 : tys[0]? = some (cI, .int)) (aC : Nat → Nat) (C : Nat → Nat → Int32) (sz : Nat) : kI l yX4_isFull cX4_isFull 1 (some .boolean) { frames := 0, cells := 0, slots := 0, locals := 0 } D tys [.ref (aC 0)] (wScr cI aC C) (wScr cI aC C) (if C 0 0 < 120 then 0 else 1) 0 0 sz := by
  refine y_enterI (cc := cX4_isFull) (maxL := 1) (ret := (some .boolean)) (own := RX4) (by decide) rfl (lv0 := [(0, .ref (aC 0))]) rfl (Nat.le_of_ble_eq_true rfl) ?_
  intro p e s m args below meth c A Z hr hlk _
  refine y_aload_n Z dX4_isFull_0 0 rfl rfl ?_
  refine y_get (C := RX4) (T := TX4) (N := 6) Z 4 inlX4 rfl 0 rfl 2 (by decide) fl_RX4_18 rfl dX4_isFull_1 ?_
  refine y_bipush (v := 120) Z dX4_isFull_4 (by decide) ?_
  refine y_icmp_lt (tgt := 13) Z dX4_isFull_6 (by decide) (fun h1 => ?_) (fun h2 => ?_)
  · refine y_iconst (v := 0) Z dX4_isFull_13 (by decide) ?_
    exact y_retZ Z hr hlk (by decide) dX4_isFull_14 (by first | (simp only [h1, if_true, if_false, not_false_eq_true, not_true_eq_false, ↓reduceIte]; done) | (simp only [h1, if_true, if_false, not_false_eq_true, not_true_eq_false, ↓reduceIte, wMix, wLog, wPic, wRep, wScr, wVM, wMd, sR_eq, sR_ne, sF_eq, sF_ne, upd_eq, upd_ne, gs_eq, gs_ne, gm_4, gm_ne, Nat.reduceBEq]; done) | (with_reducible rfl) | contradiction | (simp only [h1, if_true, if_false, not_false_eq_true, not_true_eq_false, ↓reduceIte]; rfl) | rfl) (by first | (simp only [h1, if_true, if_false, not_false_eq_true, not_true_eq_false, ↓reduceIte]; done) | (simp only [h1, if_true, if_false, not_false_eq_true, not_true_eq_false, ↓reduceIte, wMix, wLog, wPic, wRep, wScr, wVM, wMd, sR_eq, sR_ne, sF_eq, sF_ne, upd_eq, upd_ne, gs_eq, gs_ne, gm_4, gm_ne, Nat.reduceBEq]; done) | (with_reducible rfl) | contradiction | (simp only [h1, if_true, if_false, not_false_eq_true, not_true_eq_false, ↓reduceIte]; rfl) | rfl)
  · refine y_iconst (v := 1) Z dX4_isFull_9 (by decide) ?_
    refine y_goto (tgt := 14) Z dX4_isFull_10 (by decide) ?_
    exact y_retZ Z hr hlk (by decide) dX4_isFull_14 (by first | (simp only [h2, if_true, if_false, not_false_eq_true, not_true_eq_false, ↓reduceIte]; done) | (simp only [h2, if_true, if_false, not_false_eq_true, not_true_eq_false, ↓reduceIte, wMix, wLog, wPic, wRep, wScr, wVM, wMd, sR_eq, sR_ne, sF_eq, sF_ne, upd_eq, upd_ne, gs_eq, gs_ne, gm_4, gm_ne, Nat.reduceBEq]; done) | (with_reducible rfl) | contradiction | (simp only [h2, if_true, if_false, not_false_eq_true, not_true_eq_false, ↓reduceIte]; rfl) | rfl) (by first | (simp only [h2, if_true, if_false, not_false_eq_true, not_true_eq_false, ↓reduceIte]; done) | (simp only [h2, if_true, if_false, not_false_eq_true, not_true_eq_false, ↓reduceIte, wMix, wLog, wPic, wRep, wScr, wVM, wMd, sR_eq, sR_ne, sF_eq, sF_ne, upd_eq, upd_ne, gs_eq, gs_ne, gm_4, gm_ne, Nat.reduceBEq]; done) | (with_reducible rfl) | contradiction | (simp only [h2, if_true, if_false, not_false_eq_true, not_true_eq_false, ↓reduceIte]; rfl) | rfl)
set_option maxHeartbeats 4000000 in
set_option maxRecDepth 100000 in
theorem k_X4_size (l : Launch) (D : va_G) {cI : ClassId} {tys : List (ClassId × FieldType)} (ht0 : tys[0]? = some (cI, .int)) (aC : Nat → Nat) (C : Nat → Nat → Int32) (sz : Nat) : kI l yX4_size cX4_size 1 (some .int) { frames := 0, cells := 0, slots := 0, locals := 0 } D tys [.ref (aC 0)] (wScr cI aC C) (wScr cI aC C) (C 0 0) 0 0 sz := by
  refine y_enterI (cc := cX4_size) (maxL := 1) (ret := (some .int)) (own := RX4) (by decide) rfl (lv0 := [(0, .ref (aC 0))]) rfl (Nat.le_of_ble_eq_true rfl) ?_
  intro p e s m args below meth c A Z hr hlk _
  refine y_aload_n Z dX4_size_0 0 rfl rfl ?_
  refine y_get (C := RX4) (T := TX4) (N := 6) Z 4 inlX4 rfl 0 rfl 2 (by decide) fl_RX4_18 rfl dX4_size_1 ?_
  exact y_retI Z hr hlk dX4_size_4 (by first | (with_reducible rfl) | (simp only [wMix, wLog, wPic, wRep, wScr, wVM, wMd, sR_eq, sR_ne, sF_eq, sF_ne, upd_eq, upd_ne, gs_eq, gs_ne, gm_4, gm_ne, Nat.reduceBEq]; done) | rfl) (by first | (with_reducible rfl) | (simp only [wMix, wLog, wPic, wRep, wScr, wVM, wMd, sR_eq, sR_ne, sF_eq, sF_ne, upd_eq, upd_ne, gs_eq, gs_ne, gm_4, gm_ne, Nat.reduceBEq]; done) | rfl)
set_option maxHeartbeats 4000000 in
set_option maxRecDepth 100000 in
theorem k_X4_add (l : Launch) (D : va_G) {cI : ClassId} {tys : List (ClassId × FieldType)} (ht0 : tys[0]? = some (cI, .int)) (aC : Nat → Nat) (C : Nat → Nat → Int32) (v : Int32) (sz : Nat) : kI l yX4_add cX4_add 2 (some .int) { frames := 1, cells := 0, slots := 0, locals := 22 } D tys [.ref (aC 0), .int v] (wScr cI aC C) (wScr cI aC (gt_sadd C v)) (gt_sadd C v 0 0) 0 0 sz := by
  refine y_enterI (cc := cX4_add) (maxL := 2) (ret := (some .int)) (own := RX4) (by decide) rfl (lv0 := [(0, .ref (aC 0)), (1, .int v)]) rfl (Nat.le_of_ble_eq_true rfl) ?_
  intro p e s m args below meth c A Z hr hlk _
  refine y_aload_n Z dX4_add_0 0 rfl rfl ?_
  refine y_get (C := RX4) (T := TX4) (N := 6) Z 4 inlX4 rfl 0 rfl 0 (by decide) fl_RX4_11 rfl dX4_add_1 ?_
  refine y_aload_n Z dX4_add_4 0 rfl rfl ?_
  refine y_get (C := RX4) (T := TX4) (N := 6) Z 4 inlX4 rfl 0 rfl 2 (by decide) fl_RX4_18 rfl dX4_add_5 ?_
  refine y_iload_n Z dX4_add_8 1 rfl rfl ?_
  refine y_NV Z (k_X5_put l D ht0 (aC 1) 120 (C 1) (C 0 0) v (by decide)) (y_cn (n := 3) (host := RX5) Z co_X5_put rfl rfl nm_RX4_22 in_X5 st_X5_put hs_X5_put ⟨Nat.le_of_ble_eq_true rfl, Nat.le_of_ble_eq_true rfl⟩) [1] rfl (by decide) rfl rfl (Nat.le_of_ble_eq_true rfl) dX4_add_9 ⟨Nat.le_of_ble_eq_true rfl, Nat.le_of_ble_eq_true rfl⟩ [(aC 1)] rfl rfl (wScrR cI aC (C 0 0) (C 0 1) (C 0 2) (C 0 3) (putF (C 1) 120 (C 0 0) v) (C 2)) rfl ?_
  refine y_aload_n Z dX4_add_12 0 rfl rfl ?_
  refine y_dup Z dX4_add_13 rfl ?_
  refine y_get (C := RX4) (T := TX4) (N := 6) Z 4 inlX4 rfl 0 rfl 2 (by decide) fl_RX4_18 rfl dX4_add_14 ?_
  refine y_iconst (v := 1) Z dX4_add_17 (by decide) ?_
  refine y_iadd Z dX4_add_18 ?_
  refine y_put (C := RX4) (T := TX4) (N := 6) Z 4 inlX4 rfl tyX4 tyX4_ok nmX4 0 rfl 2 (by decide) fl_RX4_18 rfl rfl rfl (Nat.le_of_ble_eq_true rfl) (wScrR cI aC ((C 0 0) + 1) (C 0 1) (C 0 2) (C 0 3) (putF (C 1) 120 (C 0 0) v) (C 2)) rfl dX4_add_19 ?_
  refine y_aload_n Z dX4_add_22 0 rfl rfl ?_
  refine y_get (C := RX4) (T := TX4) (N := 6) Z 4 inlX4 rfl 0 rfl 2 (by decide) fl_RX4_18 rfl dX4_add_23 ?_
  exact y_retI Z hr hlk dX4_add_26 (by first | (simp only [gt_sadd, gt_sa1, gt_sa2, if_true, if_false, not_false_eq_true, not_true_eq_false, ↓reduceIte]; done) | (simp only [gt_sadd, gt_sa1, gt_sa2, if_true, if_false, not_false_eq_true, not_true_eq_false, ↓reduceIte, wMix, wLog, wPic, wRep, wScr, wVM, wMd, sR_eq, sR_ne, sF_eq, sF_ne, upd_eq, upd_ne, gs_eq, gs_ne, gm_4, gm_ne, Nat.reduceBEq]; done) | (with_reducible rfl) | contradiction | (simp only [gt_sadd, gt_sa1, gt_sa2, if_true, if_false, not_false_eq_true, not_true_eq_false, ↓reduceIte]; rfl) | rfl) (by first | (simp only [gt_sadd, gt_sa1, gt_sa2, if_true, if_false, not_false_eq_true, not_true_eq_false, ↓reduceIte]; done) | (simp only [gt_sadd, gt_sa1, gt_sa2, if_true, if_false, not_false_eq_true, not_true_eq_false, ↓reduceIte, wMix, wLog, wPic, wRep, wScr, wVM, wMd, sR_eq, sR_ne, sF_eq, sF_ne, upd_eq, upd_ne, gs_eq, gs_ne, gm_4, gm_ne, Nat.reduceBEq]; done) | (with_reducible rfl) | contradiction | (simp only [gt_sadd, gt_sa1, gt_sa2, if_true, if_false, not_false_eq_true, not_true_eq_false, ↓reduceIte]; rfl) | rfl)
set_option maxHeartbeats 4000000 in
set_option maxRecDepth 100000 in
theorem k_X4_empty (l : Launch) (D : va_G) {cI : ClassId} {tys : List (ClassId × FieldType)} (ht0 : tys[0]? = some (cI, .int)) (aC : Nat → Nat) (C : Nat → Nat → Int32) (sz : Nat) : kI l yX4_empty cX4_empty 2 (some .int) { frames := 0, cells := 0, slots := 0, locals := 0 } D tys [.ref (aC 0)] (wScr cI aC C) (wScr cI aC (sF C 0 0 0)) (C 0 0) 0 0 sz := by
  refine y_enterI (cc := cX4_empty) (maxL := 2) (ret := (some .int)) (own := RX4) (by decide) rfl (lv0 := [(0, .ref (aC 0))]) rfl (Nat.le_of_ble_eq_true rfl) ?_
  intro p e s m args below meth c A Z hr hlk _
  refine y_aload_n Z dX4_empty_0 0 rfl rfl ?_
  refine y_get (C := RX4) (T := TX4) (N := 6) Z 4 inlX4 rfl 0 rfl 2 (by decide) fl_RX4_18 rfl dX4_empty_1 ?_
  refine y_istore_n Z [(1, .int (C 0 0)), (0, .ref (aC 0))] dX4_empty_4 rfl (by decide) rfl ?_
  refine y_aload_n Z dX4_empty_5 1 rfl rfl ?_
  refine y_iconst (v := 0) Z dX4_empty_6 (by decide) ?_
  refine y_put (C := RX4) (T := TX4) (N := 6) Z 4 inlX4 rfl tyX4 tyX4_ok nmX4 0 rfl 2 (by decide) fl_RX4_18 rfl rfl rfl (Nat.le_of_ble_eq_true rfl) (wScrR cI aC 0 (C 0 1) (C 0 2) (C 0 3) (C 1) (C 2)) rfl dX4_empty_7 ?_
  refine y_iload_n Z dX4_empty_10 0 rfl rfl ?_
  exact y_retI Z hr hlk dX4_empty_11 (by first | (with_reducible rfl) | (simp only [wMix, wLog, wPic, wRep, wScr, wVM, wMd, sR_eq, sR_ne, sF_eq, sF_ne, upd_eq, upd_ne, gs_eq, gs_ne, gm_4, gm_ne, Nat.reduceBEq]; done) | rfl) (by first | (with_reducible rfl) | (simp only [wMix, wLog, wPic, wRep, wScr, wVM, wMd, sR_eq, sR_ne, sF_eq, sF_ne, upd_eq, upd_ne, gs_eq, gs_ne, gm_4, gm_ne, Nat.reduceBEq]; done) | rfl)
set_option maxHeartbeats 4000000 in
set_option maxRecDepth 100000 in
theorem k_X4_orders (l : Launch) (D : va_G) {cI : ClassId} {tys : List (ClassId × FieldType)} (ht0 : tys[0]? = some (cI, .int)) (aC : Nat → Nat) (C : Nat → Nat → Int32) (sz : Nat) : kI l yX4_orders cX4_orders 1 (some .int) { frames := 0, cells := 0, slots := 0, locals := 0 } D tys [.ref (aC 0)] (wScr cI aC C) (wScr cI aC C) (C 0 1) 0 0 sz := by
  refine y_enterI (cc := cX4_orders) (maxL := 1) (ret := (some .int)) (own := RX4) (by decide) rfl (lv0 := [(0, .ref (aC 0))]) rfl (Nat.le_of_ble_eq_true rfl) ?_
  intro p e s m args below meth c A Z hr hlk _
  refine y_aload_n Z dX4_orders_0 0 rfl rfl ?_
  refine y_get (C := RX4) (T := TX4) (N := 6) Z 4 inlX4 rfl 0 rfl 3 (by decide) fl_RX4_26 rfl dX4_orders_1 ?_
  exact y_retI Z hr hlk dX4_orders_4 (by first | (with_reducible rfl) | (simp only [wMix, wLog, wPic, wRep, wScr, wVM, wMd, sR_eq, sR_ne, sF_eq, sF_ne, upd_eq, upd_ne, gs_eq, gs_ne, gm_4, gm_ne, Nat.reduceBEq]; done) | rfl) (by first | (with_reducible rfl) | (simp only [wMix, wLog, wPic, wRep, wScr, wVM, wMd, sR_eq, sR_ne, sF_eq, sF_ne, upd_eq, upd_ne, gs_eq, gs_ne, gm_4, gm_ne, Nat.reduceBEq]; done) | rfl)
set_option maxHeartbeats 4000000 in
set_option maxRecDepth 100000 in
theorem k_X4_whatOf (l : Launch) (D : va_G) {cI : ClassId} {tys : List (ClassId × FieldType)} (ht0 : tys[0]? = some (cI, .int)) (aC : Nat → Nat) (C : Nat → Nat → Int32) (q : Int32) (sz : Nat) : kI l yX4_whatOf cX4_whatOf 2 (some .int) { frames := 1, cells := 0, slots := 0, locals := 21 } D tys [.ref (aC 0), .int q] (wScr cI aC C) (wScr cI aC C) (cellF (C 2) 180 (q * 3)) 0 0 sz := by
  refine y_enterI (cc := cX4_whatOf) (maxL := 2) (ret := (some .int)) (own := RX4) (by decide) rfl (lv0 := [(0, .ref (aC 0)), (1, .int q)]) rfl (Nat.le_of_ble_eq_true rfl) ?_
  intro p e s m args below meth c A Z hr hlk _
  refine y_aload_n Z dX4_whatOf_0 0 rfl rfl ?_
  refine y_get (C := RX4) (T := TX4) (N := 6) Z 4 inlX4 rfl 0 rfl 1 (by decide) fl_RX4_15 rfl dX4_whatOf_1 ?_
  refine y_iload_n Z dX4_whatOf_4 1 rfl rfl ?_
  refine y_iconst (v := 3) Z dX4_whatOf_5 (by decide) ?_
  refine y_imul Z dX4_whatOf_6 ?_
  refine y_NI Z (k_X5_cell l D ht0 (aC 2) 180 (C 2) (q * 3) (by decide)) (y_cn (n := 2) (host := RX5) Z co_X5_cell rfl rfl nm_RX4_29 in_X5 st_X5_cell hs_X5_cell ⟨Nat.le_of_ble_eq_true rfl, Nat.le_of_ble_eq_true rfl⟩) [2] rfl (by decide) rfl rfl (Nat.le_of_ble_eq_true rfl) dX4_whatOf_7 ⟨Nat.le_of_ble_eq_true rfl, Nat.le_of_ble_eq_true rfl⟩ [(aC 2)] rfl rfl (wScr cI aC C) rfl ?_
  exact y_retI Z hr hlk dX4_whatOf_10 (by first | (with_reducible rfl) | (simp only [wMix, wLog, wPic, wRep, wScr, wVM, wMd, sR_eq, sR_ne, sF_eq, sF_ne, upd_eq, upd_ne, gs_eq, gs_ne, gm_4, gm_ne, Nat.reduceBEq]; done) | rfl) (by first | (with_reducible rfl) | (simp only [wMix, wLog, wPic, wRep, wScr, wVM, wMd, sR_eq, sR_ne, sF_eq, sF_ne, upd_eq, upd_ne, gs_eq, gs_ne, gm_4, gm_ne, Nat.reduceBEq]; done) | rfl)
set_option maxHeartbeats 4000000 in
set_option maxRecDepth 100000 in
theorem k_X4_firstOf (l : Launch) (D : va_G) {cI : ClassId} {tys : List (ClassId × FieldType)} (ht0 : tys[0]? = some (cI, .int)) (aC : Nat → Nat) (C : Nat → Nat → Int32) (q : Int32) (sz : Nat) : kI l yX4_firstOf cX4_firstOf 2 (some .int) { frames := 1, cells := 0, slots := 0, locals := 21 } D tys [.ref (aC 0), .int q] (wScr cI aC C) (wScr cI aC C) (cellF (C 2) 180 (q * 3 + 1)) 0 0 sz := by
  refine y_enterI (cc := cX4_firstOf) (maxL := 2) (ret := (some .int)) (own := RX4) (by decide) rfl (lv0 := [(0, .ref (aC 0)), (1, .int q)]) rfl (Nat.le_of_ble_eq_true rfl) ?_
  intro p e s m args below meth c A Z hr hlk _
  refine y_aload_n Z dX4_firstOf_0 0 rfl rfl ?_
  refine y_get (C := RX4) (T := TX4) (N := 6) Z 4 inlX4 rfl 0 rfl 1 (by decide) fl_RX4_15 rfl dX4_firstOf_1 ?_
  refine y_iload_n Z dX4_firstOf_4 1 rfl rfl ?_
  refine y_iconst (v := 3) Z dX4_firstOf_5 (by decide) ?_
  refine y_imul Z dX4_firstOf_6 ?_
  refine y_iconst (v := 1) Z dX4_firstOf_7 (by decide) ?_
  refine y_iadd Z dX4_firstOf_8 ?_
  refine y_NI Z (k_X5_cell l D ht0 (aC 2) 180 (C 2) ((q * 3) + 1) (by decide)) (y_cn (n := 2) (host := RX5) Z co_X5_cell rfl rfl nm_RX4_29 in_X5 st_X5_cell hs_X5_cell ⟨Nat.le_of_ble_eq_true rfl, Nat.le_of_ble_eq_true rfl⟩) [2] rfl (by decide) rfl rfl (Nat.le_of_ble_eq_true rfl) dX4_firstOf_9 ⟨Nat.le_of_ble_eq_true rfl, Nat.le_of_ble_eq_true rfl⟩ [(aC 2)] rfl rfl (wScr cI aC C) rfl ?_
  exact y_retI Z hr hlk dX4_firstOf_12 (by first | (with_reducible rfl) | (simp only [wMix, wLog, wPic, wRep, wScr, wVM, wMd, sR_eq, sR_ne, sF_eq, sF_ne, upd_eq, upd_ne, gs_eq, gs_ne, gm_4, gm_ne, Nat.reduceBEq]; done) | rfl) (by first | (with_reducible rfl) | (simp only [wMix, wLog, wPic, wRep, wScr, wVM, wMd, sR_eq, sR_ne, sF_eq, sF_ne, upd_eq, upd_ne, gs_eq, gs_ne, gm_4, gm_ne, Nat.reduceBEq]; done) | rfl)
set_option maxHeartbeats 4000000 in
set_option maxRecDepth 100000 in
theorem k_X4_secondOf (l : Launch) (D : va_G) {cI : ClassId} {tys : List (ClassId × FieldType)} (ht0 : tys[0]? = some (cI, .int)) (aC : Nat → Nat) (C : Nat → Nat → Int32) (q : Int32) (sz : Nat) : kI l yX4_secondOf cX4_secondOf 2 (some .int) { frames := 1, cells := 0, slots := 0, locals := 21 } D tys [.ref (aC 0), .int q] (wScr cI aC C) (wScr cI aC C) (cellF (C 2) 180 (q * 3 + 2)) 0 0 sz := by
  refine y_enterI (cc := cX4_secondOf) (maxL := 2) (ret := (some .int)) (own := RX4) (by decide) rfl (lv0 := [(0, .ref (aC 0)), (1, .int q)]) rfl (Nat.le_of_ble_eq_true rfl) ?_
  intro p e s m args below meth c A Z hr hlk _
  refine y_aload_n Z dX4_secondOf_0 0 rfl rfl ?_
  refine y_get (C := RX4) (T := TX4) (N := 6) Z 4 inlX4 rfl 0 rfl 1 (by decide) fl_RX4_15 rfl dX4_secondOf_1 ?_
  refine y_iload_n Z dX4_secondOf_4 1 rfl rfl ?_
  refine y_iconst (v := 3) Z dX4_secondOf_5 (by decide) ?_
  refine y_imul Z dX4_secondOf_6 ?_
  refine y_iconst (v := 2) Z dX4_secondOf_7 (by decide) ?_
  refine y_iadd Z dX4_secondOf_8 ?_
  refine y_NI Z (k_X5_cell l D ht0 (aC 2) 180 (C 2) ((q * 3) + 2) (by decide)) (y_cn (n := 2) (host := RX5) Z co_X5_cell rfl rfl nm_RX4_29 in_X5 st_X5_cell hs_X5_cell ⟨Nat.le_of_ble_eq_true rfl, Nat.le_of_ble_eq_true rfl⟩) [2] rfl (by decide) rfl rfl (Nat.le_of_ble_eq_true rfl) dX4_secondOf_9 ⟨Nat.le_of_ble_eq_true rfl, Nat.le_of_ble_eq_true rfl⟩ [(aC 2)] rfl rfl (wScr cI aC C) rfl ?_
  exact y_retI Z hr hlk dX4_secondOf_12 (by first | (with_reducible rfl) | (simp only [wMix, wLog, wPic, wRep, wScr, wVM, wMd, sR_eq, sR_ne, sF_eq, sF_ne, upd_eq, upd_ne, gs_eq, gs_ne, gm_4, gm_ne, Nat.reduceBEq]; done) | rfl) (by first | (with_reducible rfl) | (simp only [wMix, wLog, wPic, wRep, wScr, wVM, wMd, sR_eq, sR_ne, sF_eq, sF_ne, upd_eq, upd_ne, gs_eq, gs_ne, gm_4, gm_ne, Nat.reduceBEq]; done) | rfl)
set_option maxHeartbeats 4000000 in
set_option maxRecDepth 100000 in
theorem k_X4_signAt (l : Launch) (D : va_G) {cI : ClassId} {tys : List (ClassId × FieldType)} (ht0 : tys[0]? = some (cI, .int)) (aC : Nat → Nat) (C : Nat → Nat → Int32) (q : Int32) (sz : Nat) : kI l yX4_signAt cX4_signAt 2 (some .int) { frames := 1, cells := 0, slots := 0, locals := 21 } D tys [.ref (aC 0), .int q] (wScr cI aC C) (wScr cI aC C) (sgF C q) 0 0 sz := by
  refine y_enterI (cc := cX4_signAt) (maxL := 2) (ret := (some .int)) (own := RX4) (by decide) rfl (lv0 := [(0, .ref (aC 0)), (1, .int q)]) rfl (Nat.le_of_ble_eq_true rfl) ?_
  intro p e s m args below meth c A Z hr hlk _
  refine y_iload_n Z dX4_signAt_0 1 rfl rfl ?_
  refine y_aload_n Z dX4_signAt_1 0 rfl rfl ?_
  refine y_get (C := RX4) (T := TX4) (N := 6) Z 4 inlX4 rfl 0 rfl 2 (by decide) fl_RX4_18 rfl dX4_signAt_2 ?_
  refine y_icmp_ge (tgt := 19) Z dX4_signAt_5 (by decide) (fun h1 => ?_) (fun h2 => ?_)
  · refine y_iconst (v := -1) Z dX4_signAt_19 (by decide) ?_
    exact y_retI Z hr hlk dX4_signAt_20 (by first | (simp only [sgF, h1, if_true, if_false, not_false_eq_true, not_true_eq_false, ↓reduceIte]; done) | (simp only [sgF, h1, if_true, if_false, not_false_eq_true, not_true_eq_false, ↓reduceIte, wMix, wLog, wPic, wRep, wScr, wVM, wMd, sR_eq, sR_ne, sF_eq, sF_ne, upd_eq, upd_ne, gs_eq, gs_ne, gm_4, gm_ne, Nat.reduceBEq]; done) | (with_reducible rfl) | contradiction | (simp only [sgF, h1, if_true, if_false, not_false_eq_true, not_true_eq_false, ↓reduceIte]; rfl) | rfl) (by first | (simp only [sgF, h1, if_true, if_false, not_false_eq_true, not_true_eq_false, ↓reduceIte]; done) | (simp only [sgF, h1, if_true, if_false, not_false_eq_true, not_true_eq_false, ↓reduceIte, wMix, wLog, wPic, wRep, wScr, wVM, wMd, sR_eq, sR_ne, sF_eq, sF_ne, upd_eq, upd_ne, gs_eq, gs_ne, gm_4, gm_ne, Nat.reduceBEq]; done) | (with_reducible rfl) | contradiction | (simp only [sgF, h1, if_true, if_false, not_false_eq_true, not_true_eq_false, ↓reduceIte]; rfl) | rfl)
  · refine y_aload_n Z dX4_signAt_8 0 rfl rfl ?_
    refine y_get (C := RX4) (T := TX4) (N := 6) Z 4 inlX4 rfl 0 rfl 0 (by decide) fl_RX4_11 rfl dX4_signAt_9 ?_
    refine y_iload_n Z dX4_signAt_12 1 rfl rfl ?_
    refine y_NI Z (k_X5_cell l D ht0 (aC 1) 120 (C 1) q (by decide)) (y_cn (n := 2) (host := RX5) Z co_X5_cell rfl rfl nm_RX4_29 in_X5 st_X5_cell hs_X5_cell ⟨Nat.le_of_ble_eq_true rfl, Nat.le_of_ble_eq_true rfl⟩) [1] rfl (by decide) rfl rfl (Nat.le_of_ble_eq_true rfl) dX4_signAt_13 ⟨Nat.le_of_ble_eq_true rfl, Nat.le_of_ble_eq_true rfl⟩ [(aC 1)] rfl rfl (wScr cI aC C) rfl ?_
    refine y_goto (tgt := 20) Z dX4_signAt_16 (by decide) ?_
    exact y_retI Z hr hlk dX4_signAt_20 (by first | (simp only [sgF, h2, if_true, if_false, not_false_eq_true, not_true_eq_false, ↓reduceIte]; done) | (simp only [sgF, h2, if_true, if_false, not_false_eq_true, not_true_eq_false, ↓reduceIte, wMix, wLog, wPic, wRep, wScr, wVM, wMd, sR_eq, sR_ne, sF_eq, sF_ne, upd_eq, upd_ne, gs_eq, gs_ne, gm_4, gm_ne, Nat.reduceBEq]; done) | (with_reducible rfl) | contradiction | (simp only [sgF, h2, if_true, if_false, not_false_eq_true, not_true_eq_false, ↓reduceIte]; rfl) | rfl) (by first | (simp only [sgF, h2, if_true, if_false, not_false_eq_true, not_true_eq_false, ↓reduceIte]; done) | (simp only [sgF, h2, if_true, if_false, not_false_eq_true, not_true_eq_false, ↓reduceIte, wMix, wLog, wPic, wRep, wScr, wVM, wMd, sR_eq, sR_ne, sF_eq, sF_ne, upd_eq, upd_ne, gs_eq, gs_ne, gm_4, gm_ne, Nat.reduceBEq]; done) | (with_reducible rfl) | contradiction | (simp only [sgF, h2, if_true, if_false, not_false_eq_true, not_true_eq_false, ↓reduceIte]; rfl) | rfl)
set_option maxHeartbeats 4000000 in
set_option maxRecDepth 100000 in
theorem k_X4_digitAt (l : Launch) (D : va_G) {cI : ClassId} {tys : List (ClassId × FieldType)} (ht0 : tys[0]? = some (cI, .int)) (aC : Nat → Nat) (C : Nat → Nat → Int32) (q : Int32) (sz : Nat) : kI l yX4_digitAt cX4_digitAt 3 (some .int) { frames := 2, cells := 0, slots := 0, locals := 42 } D tys [.ref (aC 0), .int q] (wScr cI aC C) (wScr cI aC C) (dgF C q) 0 0 sz := by
  refine y_enterI (cc := cX4_digitAt) (maxL := 3) (ret := (some .int)) (own := RX4) (by decide) rfl (lv0 := [(0, .ref (aC 0)), (1, .int q)]) rfl (Nat.le_of_ble_eq_true rfl) ?_
  intro p e s m args below meth c A Z hr hlk _
  refine y_aload_n Z dX4_digitAt_0 0 rfl rfl ?_
  refine y_iload_n Z dX4_digitAt_1 1 rfl rfl ?_
  refine y_VI Z (k_X4_signAt l D ht0 aC C q) (y_cwV 1 Z ml_RX4_42 im_X4_signAt se_X4_signAt in_X4 co_X4_signAt rfl rfl hd_X4_signAt ⟨Nat.le_of_ble_eq_true rfl, Nat.le_of_ble_eq_true rfl⟩) [0, 1, 2] rfl (by decide) 4 0 rfl rfl rfl rfl (Nat.le_of_ble_eq_true rfl) dX4_digitAt_2 ⟨Nat.le_of_ble_eq_true rfl, Nat.le_of_ble_eq_true rfl⟩ [(aC 0), (aC 1), (aC 2)] rfl rfl (wScr cI aC C) rfl ?_
  refine y_istore_n Z [(2, .int (sgF C q)), (0, .ref (aC 0)), (1, .int q)] dX4_digitAt_5 rfl (by decide) rfl ?_
  refine y_iload_n Z dX4_digitAt_6 0 rfl rfl ?_
  refine y_bipush (v := 48) Z dX4_digitAt_7 (by decide) ?_
  refine y_icmp_lt (tgt := 25) Z dX4_digitAt_9 (by decide) (fun h1 => ?_) (fun h2 => ?_)
  · refine y_iconst (v := -1) Z dX4_digitAt_25 (by decide) ?_
    exact y_retI Z hr hlk dX4_digitAt_26 (by first | (simp only [dgF, h1, if_true, if_false, not_false_eq_true, not_true_eq_false, ↓reduceIte]; done) | (simp only [dgF, h1, if_true, if_false, not_false_eq_true, not_true_eq_false, ↓reduceIte, wMix, wLog, wPic, wRep, wScr, wVM, wMd, sR_eq, sR_ne, sF_eq, sF_ne, upd_eq, upd_ne, gs_eq, gs_ne, gm_4, gm_ne, Nat.reduceBEq]; done) | (with_reducible rfl) | contradiction | (simp only [dgF, h1, if_true, if_false, not_false_eq_true, not_true_eq_false, ↓reduceIte]; rfl) | rfl) (by first | (simp only [dgF, h1, if_true, if_false, not_false_eq_true, not_true_eq_false, ↓reduceIte]; done) | (simp only [dgF, h1, if_true, if_false, not_false_eq_true, not_true_eq_false, ↓reduceIte, wMix, wLog, wPic, wRep, wScr, wVM, wMd, sR_eq, sR_ne, sF_eq, sF_ne, upd_eq, upd_ne, gs_eq, gs_ne, gm_4, gm_ne, Nat.reduceBEq]; done) | (with_reducible rfl) | contradiction | (simp only [dgF, h1, if_true, if_false, not_false_eq_true, not_true_eq_false, ↓reduceIte]; rfl) | rfl)
  · refine y_iload_n Z dX4_digitAt_12 0 rfl rfl ?_
    refine y_bipush (v := 57) Z dX4_digitAt_13 (by decide) ?_
    refine y_icmp_gt (tgt := 25) Z dX4_digitAt_15 (by decide) (fun h3 => ?_) (fun h4 => ?_)
    · refine y_iconst (v := -1) Z dX4_digitAt_25 (by decide) ?_
      exact y_retI Z hr hlk dX4_digitAt_26 (by first | (simp only [dgF, h2, h3, if_true, if_false, not_false_eq_true, not_true_eq_false, ↓reduceIte]; done) | (simp only [dgF, h2, h3, if_true, if_false, not_false_eq_true, not_true_eq_false, ↓reduceIte, wMix, wLog, wPic, wRep, wScr, wVM, wMd, sR_eq, sR_ne, sF_eq, sF_ne, upd_eq, upd_ne, gs_eq, gs_ne, gm_4, gm_ne, Nat.reduceBEq]; done) | (with_reducible rfl) | contradiction | (simp only [dgF, h2, h3, if_true, if_false, not_false_eq_true, not_true_eq_false, ↓reduceIte]; rfl) | rfl) (by first | (simp only [dgF, h2, h3, if_true, if_false, not_false_eq_true, not_true_eq_false, ↓reduceIte]; done) | (simp only [dgF, h2, h3, if_true, if_false, not_false_eq_true, not_true_eq_false, ↓reduceIte, wMix, wLog, wPic, wRep, wScr, wVM, wMd, sR_eq, sR_ne, sF_eq, sF_ne, upd_eq, upd_ne, gs_eq, gs_ne, gm_4, gm_ne, Nat.reduceBEq]; done) | (with_reducible rfl) | contradiction | (simp only [dgF, h2, h3, if_true, if_false, not_false_eq_true, not_true_eq_false, ↓reduceIte]; rfl) | rfl)
    · refine y_iload_n Z dX4_digitAt_18 0 rfl rfl ?_
      refine y_bipush (v := 48) Z dX4_digitAt_19 (by decide) ?_
      refine y_isub Z dX4_digitAt_21 ?_
      refine y_goto (tgt := 26) Z dX4_digitAt_22 (by decide) ?_
      exact y_retI Z hr hlk dX4_digitAt_26 (by first | (simp only [dgF, h2, h4, if_true, if_false, not_false_eq_true, not_true_eq_false, ↓reduceIte]; done) | (simp only [dgF, h2, h4, if_true, if_false, not_false_eq_true, not_true_eq_false, ↓reduceIte, wMix, wLog, wPic, wRep, wScr, wVM, wMd, sR_eq, sR_ne, sF_eq, sF_ne, upd_eq, upd_ne, gs_eq, gs_ne, gm_4, gm_ne, Nat.reduceBEq]; done) | (with_reducible rfl) | contradiction | (simp only [dgF, h2, h4, if_true, if_false, not_false_eq_true, not_true_eq_false, ↓reduceIte]; rfl) | rfl) (by first | (simp only [dgF, h2, h4, if_true, if_false, not_false_eq_true, not_true_eq_false, ↓reduceIte]; done) | (simp only [dgF, h2, h4, if_true, if_false, not_false_eq_true, not_true_eq_false, ↓reduceIte, wMix, wLog, wPic, wRep, wScr, wVM, wMd, sR_eq, sR_ne, sF_eq, sF_ne, upd_eq, upd_ne, gs_eq, gs_ne, gm_4, gm_ne, Nat.reduceBEq]; done) | (with_reducible rfl) | contradiction | (simp only [dgF, h2, h4, if_true, if_false, not_false_eq_true, not_true_eq_false, ↓reduceIte]; rfl) | rfl)
set_option maxHeartbeats 4000000 in
set_option maxRecDepth 100000 in
theorem k_X4_miss (l : Launch) (D : va_G) {cI : ClassId} {tys : List (ClassId × FieldType)} (ht0 : tys[0]? = some (cI, .int)) (aC : Nat → Nat) (C : Nat → Nat → Int32) (q : Int32) (sz : Nat) : kV l yX4_miss cX4_miss 2 none { frames := 0, cells := 0, slots := 0, locals := 0 } D tys [.ref (aC 0), .int q] (wScr cI aC C) (wScr cI aC (gt_miss C q)) 0 0 sz := by
  refine y_enterV (cc := cX4_miss) (maxL := 2) (ret := none) (own := RX4) (by decide) rfl (lv0 := [(0, .ref (aC 0)), (1, .int q)]) rfl (Nat.le_of_ble_eq_true rfl) ?_
  intro p e s m args below meth c A Z hr hlk _
  refine y_aload_n Z dX4_miss_0 0 rfl rfl ?_
  refine y_get (C := RX4) (T := TX4) (N := 6) Z 4 inlX4 rfl 0 rfl 5 (by decide) fl_RX4_36 rfl dX4_miss_1 ?_
  refine y_iconst (v := -1) Z dX4_miss_4 (by decide) ?_
  refine y_icmp_ne (tgt := 13) Z dX4_miss_5 (by decide) (fun h1 => ?_) (fun h2 => ?_)
  · exact y_retV Z hr hlk dX4_miss_13 (by first | (simp only [gt_miss, h1, if_true, if_false, not_false_eq_true, not_true_eq_false, ↓reduceIte]; done) | (simp only [gt_miss, h1, if_true, if_false, not_false_eq_true, not_true_eq_false, ↓reduceIte, wMix, wLog, wPic, wRep, wScr, wVM, wMd, sR_eq, sR_ne, sF_eq, sF_ne, upd_eq, upd_ne, gs_eq, gs_ne, gm_4, gm_ne, Nat.reduceBEq]; done) | (with_reducible rfl) | contradiction | (simp only [gt_miss, h1, if_true, if_false, not_false_eq_true, not_true_eq_false, ↓reduceIte]; rfl) | rfl)
  · refine y_aload_n Z dX4_miss_8 0 rfl rfl ?_
    refine y_iload_n Z dX4_miss_9 1 rfl rfl ?_
    refine y_put (C := RX4) (T := TX4) (N := 6) Z 4 inlX4 rfl tyX4 tyX4_ok nmX4 0 rfl 5 (by decide) fl_RX4_36 rfl rfl rfl (Nat.le_of_ble_eq_true rfl) (wScrR cI aC (C 0 0) (C 0 1) (C 0 2) q (C 1) (C 2)) rfl dX4_miss_10 ?_
    exact y_retV Z hr hlk dX4_miss_13 (by first | (simp only [gt_miss, eq_true h2, if_true, if_false, not_false_eq_true, not_true_eq_false, ↓reduceIte]; done) | (simp only [gt_miss, eq_true h2, if_true, if_false, not_false_eq_true, not_true_eq_false, ↓reduceIte, wMix, wLog, wPic, wRep, wScr, wVM, wMd, sR_eq, sR_ne, sF_eq, sF_ne, upd_eq, upd_ne, gs_eq, gs_ne, gm_4, gm_ne, Nat.reduceBEq]; done) | (with_reducible rfl) | contradiction | (simp only [gt_miss, eq_true h2, if_true, if_false, not_false_eq_true, not_true_eq_false, ↓reduceIte]; rfl) | rfl)
set_option maxHeartbeats 4000000 in
set_option maxRecDepth 100000 in
theorem k_X4_readSemicolon (l : Launch) (D : va_G) {cI : ClassId} {tys : List (ClassId × FieldType)} (ht0 : tys[0]? = some (cI, .int)) (aC : Nat → Nat) (C : Nat → Nat → Int32) (sz : Nat) : kV l yX4_readSemicolon cX4_readSemicolon 1 none { frames := 2, cells := 0, slots := 0, locals := 42 } D tys [.ref (aC 0)] (wScr cI aC C) (wScr cI aC (gt_semi C)) 0 0 sz := by
  refine y_enterV (cc := cX4_readSemicolon) (maxL := 1) (ret := none) (own := RX4) (by decide) rfl (lv0 := [(0, .ref (aC 0))]) rfl (Nat.le_of_ble_eq_true rfl) ?_
  intro p e s m args below meth c A Z hr hlk _
  refine y_aload_n Z dX4_readSemicolon_0 0 rfl rfl ?_
  refine y_aload_n Z dX4_readSemicolon_1 0 rfl rfl ?_
  refine y_get (C := RX4) (T := TX4) (N := 6) Z 4 inlX4 rfl 0 rfl 4 (by decide) fl_RX4_33 rfl dX4_readSemicolon_2 ?_
  refine y_VI Z (k_X4_signAt l D ht0 aC C (C 0 2)) (y_cwV 1 Z ml_RX4_42 im_X4_signAt se_X4_signAt in_X4 co_X4_signAt rfl rfl hd_X4_signAt ⟨Nat.le_of_ble_eq_true rfl, Nat.le_of_ble_eq_true rfl⟩) [0, 1, 2] rfl (by decide) 4 0 rfl rfl rfl rfl (Nat.le_of_ble_eq_true rfl) dX4_readSemicolon_5 ⟨Nat.le_of_ble_eq_true rfl, Nat.le_of_ble_eq_true rfl⟩ [(aC 0), (aC 1), (aC 2)] rfl rfl (wScr cI aC C) rfl ?_
  refine y_bipush (v := 59) Z dX4_readSemicolon_8 (by decide) ?_
  refine y_icmp_eq (tgt := 21) Z dX4_readSemicolon_10 (by decide) (fun h1 => ?_) (fun h2 => ?_)
  · refine y_aload_n Z dX4_readSemicolon_21 0 rfl rfl ?_
    refine y_dup Z dX4_readSemicolon_22 rfl ?_
    refine y_get (C := RX4) (T := TX4) (N := 6) Z 4 inlX4 rfl 0 rfl 4 (by decide) fl_RX4_33 rfl dX4_readSemicolon_23 ?_
    refine y_iconst (v := 1) Z dX4_readSemicolon_26 (by decide) ?_
    refine y_iadd Z dX4_readSemicolon_27 ?_
    refine y_put (C := RX4) (T := TX4) (N := 6) Z 4 inlX4 rfl tyX4 tyX4_ok nmX4 0 rfl 4 (by decide) fl_RX4_33 rfl rfl rfl (Nat.le_of_ble_eq_true rfl) (wScrR cI aC (C 0 0) (C 0 1) ((C 0 2) + 1) (C 0 3) (C 1) (C 2)) rfl dX4_readSemicolon_28 ?_
    exact y_retV Z hr hlk dX4_readSemicolon_31 (by first | (simp only [gt_semi, gt_at, eq_true h1, if_true, if_false, not_false_eq_true, not_true_eq_false, ↓reduceIte]; done) | (simp only [gt_semi, gt_at, eq_true h1, if_true, if_false, not_false_eq_true, not_true_eq_false, ↓reduceIte, wMix, wLog, wPic, wRep, wScr, wVM, wMd, sR_eq, sR_ne, sF_eq, sF_ne, upd_eq, upd_ne, gs_eq, gs_ne, gm_4, gm_ne, Nat.reduceBEq]; done) | (with_reducible rfl) | contradiction | (simp only [gt_semi, gt_at, eq_true h1, if_true, if_false, not_false_eq_true, not_true_eq_false, ↓reduceIte]; rfl) | rfl)
  · refine y_aload_n Z dX4_readSemicolon_13 0 rfl rfl ?_
    refine y_aload_n Z dX4_readSemicolon_14 0 rfl rfl ?_
    refine y_get (C := RX4) (T := TX4) (N := 6) Z 4 inlX4 rfl 0 rfl 4 (by decide) fl_RX4_33 rfl dX4_readSemicolon_15 ?_
    refine y_VV Z (k_X4_miss l D ht0 aC C (C 0 2)) (y_cwV 1 Z ml_RX4_49 im_X4_miss se_X4_miss in_X4 co_X4_miss rfl rfl hd_X4_miss ⟨Nat.le_of_ble_eq_true rfl, Nat.le_of_ble_eq_true rfl⟩) [0, 1, 2] rfl (by decide) 4 0 rfl rfl rfl rfl (Nat.le_of_ble_eq_true rfl) dX4_readSemicolon_18 ⟨Nat.le_of_ble_eq_true rfl, Nat.le_of_ble_eq_true rfl⟩ [(aC 0), (aC 1), (aC 2)] rfl rfl (wScr cI aC (gt_miss C (C 0 2))) rfl ?_
    refine y_aload_n Z dX4_readSemicolon_21 0 rfl rfl ?_
    refine y_dup Z dX4_readSemicolon_22 rfl ?_
    refine y_get (C := RX4) (T := TX4) (N := 6) Z 4 inlX4 rfl 0 rfl 4 (by decide) fl_RX4_33 rfl dX4_readSemicolon_23 ?_
    refine y_iconst (v := 1) Z dX4_readSemicolon_26 (by decide) ?_
    refine y_iadd Z dX4_readSemicolon_27 ?_
    refine y_put (C := RX4) (T := TX4) (N := 6) Z 4 inlX4 rfl tyX4 tyX4_ok nmX4 0 rfl 4 (by decide) fl_RX4_33 rfl rfl rfl (Nat.le_of_ble_eq_true rfl) (wScrR cI aC ((gt_miss C (C 0 2)) 0 0) ((gt_miss C (C 0 2)) 0 1) (((gt_miss C (C 0 2)) 0 2) + 1) ((gt_miss C (C 0 2)) 0 3) ((gt_miss C (C 0 2)) 1) ((gt_miss C (C 0 2)) 2)) rfl dX4_readSemicolon_28 ?_
    exact y_retV Z hr hlk dX4_readSemicolon_31 (by first | (simp only [gt_semi, gt_at, h2, if_true, if_false, not_false_eq_true, not_true_eq_false, ↓reduceIte]; done) | (simp only [gt_semi, gt_at, h2, if_true, if_false, not_false_eq_true, not_true_eq_false, ↓reduceIte, wMix, wLog, wPic, wRep, wScr, wVM, wMd, sR_eq, sR_ne, sF_eq, sF_ne, upd_eq, upd_ne, gs_eq, gs_ne, gm_4, gm_ne, Nat.reduceBEq]; done) | (with_reducible rfl) | contradiction | (simp only [gt_semi, gt_at, h2, if_true, if_false, not_false_eq_true, not_true_eq_false, ↓reduceIte]; rfl) | rfl)
set_option maxHeartbeats 4000000 in
set_option maxRecDepth 100000 in
theorem k_X4_readDigit (l : Launch) (D : va_G) {cI : ClassId} {tys : List (ClassId × FieldType)} (ht0 : tys[0]? = some (cI, .int)) (aC : Nat → Nat) (C : Nat → Nat → Int32) (hi : Int32) (sz : Nat) : kI l yX4_readDigit cX4_readDigit 3 (some .int) { frames := 3, cells := 0, slots := 0, locals := 64 } D tys [.ref (aC 0), .int hi] (wScr cI aC C) (wScr cI aC (gt_rdig C hi)) (dgF C (C 0 2)) 0 0 sz := by
  refine y_enterI (cc := cX4_readDigit) (maxL := 3) (ret := (some .int)) (own := RX4) (by decide) rfl (lv0 := [(0, .ref (aC 0)), (1, .int hi)]) rfl (Nat.le_of_ble_eq_true rfl) ?_
  intro p e s m args below meth c A Z hr hlk _
  refine y_aload_n Z dX4_readDigit_0 0 rfl rfl ?_
  refine y_aload_n Z dX4_readDigit_1 0 rfl rfl ?_
  refine y_get (C := RX4) (T := TX4) (N := 6) Z 4 inlX4 rfl 0 rfl 4 (by decide) fl_RX4_33 rfl dX4_readDigit_2 ?_
  refine y_VI Z (k_X4_digitAt l D ht0 aC C (C 0 2)) (y_cwV 1 Z ml_RX4_67 im_X4_digitAt se_X4_digitAt in_X4 co_X4_digitAt rfl rfl hd_X4_digitAt ⟨Nat.le_of_ble_eq_true rfl, Nat.le_of_ble_eq_true rfl⟩) [0, 1, 2] rfl (by decide) 4 0 rfl rfl rfl rfl (Nat.le_of_ble_eq_true rfl) dX4_readDigit_5 ⟨Nat.le_of_ble_eq_true rfl, Nat.le_of_ble_eq_true rfl⟩ [(aC 0), (aC 1), (aC 2)] rfl rfl (wScr cI aC C) rfl ?_
  refine y_istore_n Z [(2, .int (dgF C (C 0 2))), (0, .ref (aC 0)), (1, .int hi)] dX4_readDigit_8 rfl (by decide) rfl ?_
  refine y_iload_n Z dX4_readDigit_9 0 rfl rfl ?_
  refine y_iconst (v := -1) Z dX4_readDigit_10 (by decide) ?_
  refine y_icmp_eq (tgt := 19) Z dX4_readDigit_11 (by decide) (fun h1 => ?_) (fun h2 => ?_)
  · refine y_aload_n Z dX4_readDigit_19 1 rfl rfl ?_
    refine y_aload_n Z dX4_readDigit_20 1 rfl rfl ?_
    refine y_get (C := RX4) (T := TX4) (N := 6) Z 4 inlX4 rfl 0 rfl 4 (by decide) fl_RX4_33 rfl dX4_readDigit_21 ?_
    refine y_VV Z (k_X4_miss l D ht0 aC C (C 0 2)) (y_cwV 1 Z ml_RX4_49 im_X4_miss se_X4_miss in_X4 co_X4_miss rfl rfl hd_X4_miss ⟨Nat.le_of_ble_eq_true rfl, Nat.le_of_ble_eq_true rfl⟩) [0, 1, 2] rfl (by decide) 4 0 rfl rfl rfl rfl (Nat.le_of_ble_eq_true rfl) dX4_readDigit_24 ⟨Nat.le_of_ble_eq_true rfl, Nat.le_of_ble_eq_true rfl⟩ [(aC 0), (aC 1), (aC 2)] rfl rfl (wScr cI aC (gt_miss C (C 0 2))) rfl ?_
    refine y_aload_n Z dX4_readDigit_27 1 rfl rfl ?_
    refine y_dup Z dX4_readDigit_28 rfl ?_
    refine y_get (C := RX4) (T := TX4) (N := 6) Z 4 inlX4 rfl 0 rfl 4 (by decide) fl_RX4_33 rfl dX4_readDigit_29 ?_
    refine y_iconst (v := 1) Z dX4_readDigit_32 (by decide) ?_
    refine y_iadd Z dX4_readDigit_33 ?_
    refine y_put (C := RX4) (T := TX4) (N := 6) Z 4 inlX4 rfl tyX4 tyX4_ok nmX4 0 rfl 4 (by decide) fl_RX4_33 rfl rfl rfl (Nat.le_of_ble_eq_true rfl) (wScrR cI aC ((gt_miss C (C 0 2)) 0 0) ((gt_miss C (C 0 2)) 0 1) (((gt_miss C (C 0 2)) 0 2) + 1) ((gt_miss C (C 0 2)) 0 3) ((gt_miss C (C 0 2)) 1) ((gt_miss C (C 0 2)) 2)) rfl dX4_readDigit_34 ?_
    refine y_iload_n Z dX4_readDigit_37 0 rfl rfl ?_
    exact y_retI Z hr hlk dX4_readDigit_38 (by first | (simp only [gt_rdig, gt_at, eq_true h1, if_true, if_false, not_false_eq_true, not_true_eq_false, ↓reduceIte]; done) | (simp only [gt_rdig, gt_at, eq_true h1, if_true, if_false, not_false_eq_true, not_true_eq_false, ↓reduceIte, wMix, wLog, wPic, wRep, wScr, wVM, wMd, sR_eq, sR_ne, sF_eq, sF_ne, upd_eq, upd_ne, gs_eq, gs_ne, gm_4, gm_ne, Nat.reduceBEq]; done) | (with_reducible rfl) | contradiction | (simp only [gt_rdig, gt_at, eq_true h1, if_true, if_false, not_false_eq_true, not_true_eq_false, ↓reduceIte]; rfl) | rfl) (by first | (simp only [gt_rdig, gt_at, eq_true h1, if_true, if_false, not_false_eq_true, not_true_eq_false, ↓reduceIte]; done) | (simp only [gt_rdig, gt_at, eq_true h1, if_true, if_false, not_false_eq_true, not_true_eq_false, ↓reduceIte, wMix, wLog, wPic, wRep, wScr, wVM, wMd, sR_eq, sR_ne, sF_eq, sF_ne, upd_eq, upd_ne, gs_eq, gs_ne, gm_4, gm_ne, Nat.reduceBEq]; done) | (with_reducible rfl) | contradiction | (simp only [gt_rdig, gt_at, eq_true h1, if_true, if_false, not_false_eq_true, not_true_eq_false, ↓reduceIte]; rfl) | rfl)
  · refine y_iload_n Z dX4_readDigit_14 0 rfl rfl ?_
    refine y_iload_n Z dX4_readDigit_15 2 rfl rfl ?_
    refine y_icmp_le (tgt := 27) Z dX4_readDigit_16 (by decide) (fun h3 => ?_) (fun h4 => ?_)
    · refine y_aload_n Z dX4_readDigit_27 1 rfl rfl ?_
      refine y_dup Z dX4_readDigit_28 rfl ?_
      refine y_get (C := RX4) (T := TX4) (N := 6) Z 4 inlX4 rfl 0 rfl 4 (by decide) fl_RX4_33 rfl dX4_readDigit_29 ?_
      refine y_iconst (v := 1) Z dX4_readDigit_32 (by decide) ?_
      refine y_iadd Z dX4_readDigit_33 ?_
      refine y_put (C := RX4) (T := TX4) (N := 6) Z 4 inlX4 rfl tyX4 tyX4_ok nmX4 0 rfl 4 (by decide) fl_RX4_33 rfl rfl rfl (Nat.le_of_ble_eq_true rfl) (wScrR cI aC (C 0 0) (C 0 1) ((C 0 2) + 1) (C 0 3) (C 1) (C 2)) rfl dX4_readDigit_34 ?_
      refine y_iload_n Z dX4_readDigit_37 0 rfl rfl ?_
      exact y_retI Z hr hlk dX4_readDigit_38 (by first | (simp only [gt_rdig, gt_at, h2, h3, if_true, if_false, not_false_eq_true, not_true_eq_false, ↓reduceIte]; done) | (simp only [gt_rdig, gt_at, h2, h3, if_true, if_false, not_false_eq_true, not_true_eq_false, ↓reduceIte, wMix, wLog, wPic, wRep, wScr, wVM, wMd, sR_eq, sR_ne, sF_eq, sF_ne, upd_eq, upd_ne, gs_eq, gs_ne, gm_4, gm_ne, Nat.reduceBEq]; done) | (with_reducible rfl) | contradiction | (simp only [gt_rdig, gt_at, h2, h3, if_true, if_false, not_false_eq_true, not_true_eq_false, ↓reduceIte]; rfl) | rfl) (by first | (simp only [gt_rdig, gt_at, h2, h3, if_true, if_false, not_false_eq_true, not_true_eq_false, ↓reduceIte]; done) | (simp only [gt_rdig, gt_at, h2, h3, if_true, if_false, not_false_eq_true, not_true_eq_false, ↓reduceIte, wMix, wLog, wPic, wRep, wScr, wVM, wMd, sR_eq, sR_ne, sF_eq, sF_ne, upd_eq, upd_ne, gs_eq, gs_ne, gm_4, gm_ne, Nat.reduceBEq]; done) | (with_reducible rfl) | contradiction | (simp only [gt_rdig, gt_at, h2, h3, if_true, if_false, not_false_eq_true, not_true_eq_false, ↓reduceIte]; rfl) | rfl)
    · refine y_aload_n Z dX4_readDigit_19 1 rfl rfl ?_
      refine y_aload_n Z dX4_readDigit_20 1 rfl rfl ?_
      refine y_get (C := RX4) (T := TX4) (N := 6) Z 4 inlX4 rfl 0 rfl 4 (by decide) fl_RX4_33 rfl dX4_readDigit_21 ?_
      refine y_VV Z (k_X4_miss l D ht0 aC C (C 0 2)) (y_cwV 1 Z ml_RX4_49 im_X4_miss se_X4_miss in_X4 co_X4_miss rfl rfl hd_X4_miss ⟨Nat.le_of_ble_eq_true rfl, Nat.le_of_ble_eq_true rfl⟩) [0, 1, 2] rfl (by decide) 4 0 rfl rfl rfl rfl (Nat.le_of_ble_eq_true rfl) dX4_readDigit_24 ⟨Nat.le_of_ble_eq_true rfl, Nat.le_of_ble_eq_true rfl⟩ [(aC 0), (aC 1), (aC 2)] rfl rfl (wScr cI aC (gt_miss C (C 0 2))) rfl ?_
      refine y_aload_n Z dX4_readDigit_27 1 rfl rfl ?_
      refine y_dup Z dX4_readDigit_28 rfl ?_
      refine y_get (C := RX4) (T := TX4) (N := 6) Z 4 inlX4 rfl 0 rfl 4 (by decide) fl_RX4_33 rfl dX4_readDigit_29 ?_
      refine y_iconst (v := 1) Z dX4_readDigit_32 (by decide) ?_
      refine y_iadd Z dX4_readDigit_33 ?_
      refine y_put (C := RX4) (T := TX4) (N := 6) Z 4 inlX4 rfl tyX4 tyX4_ok nmX4 0 rfl 4 (by decide) fl_RX4_33 rfl rfl rfl (Nat.le_of_ble_eq_true rfl) (wScrR cI aC ((gt_miss C (C 0 2)) 0 0) ((gt_miss C (C 0 2)) 0 1) (((gt_miss C (C 0 2)) 0 2) + 1) ((gt_miss C (C 0 2)) 0 3) ((gt_miss C (C 0 2)) 1) ((gt_miss C (C 0 2)) 2)) rfl dX4_readDigit_34 ?_
      refine y_iload_n Z dX4_readDigit_37 0 rfl rfl ?_
      exact y_retI Z hr hlk dX4_readDigit_38 (by first | (simp only [gt_rdig, gt_at, h2, h4, if_true, if_false, not_false_eq_true, not_true_eq_false, ↓reduceIte]; done) | (simp only [gt_rdig, gt_at, h2, h4, if_true, if_false, not_false_eq_true, not_true_eq_false, ↓reduceIte, wMix, wLog, wPic, wRep, wScr, wVM, wMd, sR_eq, sR_ne, sF_eq, sF_ne, upd_eq, upd_ne, gs_eq, gs_ne, gm_4, gm_ne, Nat.reduceBEq]; done) | (with_reducible rfl) | contradiction | (simp only [gt_rdig, gt_at, h2, h4, if_true, if_false, not_false_eq_true, not_true_eq_false, ↓reduceIte]; rfl) | rfl) (by first | (simp only [gt_rdig, gt_at, h2, h4, if_true, if_false, not_false_eq_true, not_true_eq_false, ↓reduceIte]; done) | (simp only [gt_rdig, gt_at, h2, h4, if_true, if_false, not_false_eq_true, not_true_eq_false, ↓reduceIte, wMix, wLog, wPic, wRep, wScr, wVM, wMd, sR_eq, sR_ne, sF_eq, sF_ne, upd_eq, upd_ne, gs_eq, gs_ne, gm_4, gm_ne, Nat.reduceBEq]; done) | (with_reducible rfl) | contradiction | (simp only [gt_rdig, gt_at, h2, h4, if_true, if_false, not_false_eq_true, not_true_eq_false, ↓reduceIte]; rfl) | rfl)
set_option maxHeartbeats 4000000 in
set_option maxRecDepth 100000 in
theorem k_X4_readNumber (l : Launch) (D : va_G) {cI : ClassId} {tys : List (ClassId × FieldType)} (ht0 : tys[0]? = some (cI, .int)) (aC : Nat → Nat) (C : Nat → Nat → Int32) (mo : Int32) (lo : Int32) (hi : Int32) (h_mo : mo ≤ 4) (sz : Nat) : kI l yX4_readNumber cX4_readNumber 7 (some .int) { frames := 3, cells := 0, slots := 0, locals := 64 } D tys [.ref (aC 0), .int mo, .int lo, .int hi] (wScr cI aC C) (wScr cI aC (gt_rnum C mo lo hi)) ((rnX C mo).2.1) 0 0 sz := by
  refine y_enterI (cc := cX4_readNumber) (maxL := 7) (ret := (some .int)) (own := RX4) (by decide) rfl (lv0 := [(0, .ref (aC 0)), (1, .int mo), (2, .int lo), (3, .int hi)]) rfl (Nat.le_of_ble_eq_true rfl) ?_
  intro p e s m args below meth c A Z hr hlk _
  have L12 : ∀ (n : Nat) (x : (Nat → Nat → Int32) × Int32 × Int32), (rnC mo) (lw (rnC mo) rnB n x) = false → lw (rnC mo) rnB n x = (lw (rnC mo) rnB 5 (C, 0, 0)) → Yy p l e { frames := 3, cells := 0, slots := 0, locals := 64 } s m args below meth c (QI D tys A (wScr cI aC (gt_rnum C mo lo hi)) ((rnX C mo).2.1) below args s 0 0) D A 7 0 0 (wScr cI aC x.1) [(0, .ref (aC 0)), (1, .int mo), (2, .int lo), (3, .int hi), (4, .int (C 0 2)), (5, .int x.2.1), (6, .int x.2.2)] [] 12 := by
    intro n; induction n with
    | zero =>
      intro x hc hx
      refine y_iload Z dX4_readNumber_12 6 rfl ?_
      refine y_iload_n Z dX4_readNumber_14 1 rfl rfl ?_
      refine y_icmp_ge (tgt := 62) Z dX4_readNumber_15 (by decide) (fun h1 => ?_) (fun h2 => ?_)
      · have hb : (rnC mo) x = false := by simp only [rnC, h1, ↓reduceIte]
        have ex : x = (lw (rnC mo) rnB 5 (C, 0, 0)) := by rw [← hx, lw_f hb]
        refine y_aload_n Z dX4_readNumber_62 0 rfl rfl ?_
        refine y_get (C := RX4) (T := TX4) (N := 6) Z 4 inlX4 rfl 0 rfl 4 (by decide) fl_RX4_33 rfl dX4_readNumber_63 ?_
        refine y_iload Z dX4_readNumber_66 4 rfl ?_
        refine y_icmp_eq (tgt := 83) Z dX4_readNumber_68 (by decide) (fun h3 => ?_) (fun h4 => ?_)
        · refine y_aload_n Z dX4_readNumber_83 0 rfl rfl ?_
          refine y_aload_n Z dX4_readNumber_84 0 rfl rfl ?_
          refine y_get (C := RX4) (T := TX4) (N := 6) Z 4 inlX4 rfl 0 rfl 4 (by decide) fl_RX4_33 rfl dX4_readNumber_85 ?_
          refine y_VV Z (k_X4_miss l D ht0 aC x.1 (x.1 0 2)) (y_cwV 1 Z ml_RX4_49 im_X4_miss se_X4_miss in_X4 co_X4_miss rfl rfl hd_X4_miss ⟨Nat.le_of_ble_eq_true rfl, Nat.le_of_ble_eq_true rfl⟩) [0, 1, 2] rfl (by decide) 4 0 rfl rfl rfl rfl (Nat.le_of_ble_eq_true rfl) dX4_readNumber_88 ⟨Nat.le_of_ble_eq_true rfl, Nat.le_of_ble_eq_true rfl⟩ [(aC 0), (aC 1), (aC 2)] rfl rfl (wScr cI aC (gt_miss x.1 (x.1 0 2))) rfl ?_
          refine y_goto (tgt := 112) Z dX4_readNumber_91 (by decide) ?_
          refine y_iload Z dX4_readNumber_112 5 rfl ?_
          exact y_retI Z hr hlk dX4_readNumber_114 (by subst ex; first | (simp only [gt_rnum, gt_rnE, rnX, h1, eq_true h3, if_true, if_false, not_false_eq_true, not_true_eq_false, ↓reduceIte]; done) | (simp only [gt_rnum, gt_rnE, rnX, h1, eq_true h3, if_true, if_false, not_false_eq_true, not_true_eq_false, ↓reduceIte, wMix, wLog, wPic, wRep, wScr, wVM, wMd, sR_eq, sR_ne, sF_eq, sF_ne, upd_eq, upd_ne, gs_eq, gs_ne, gm_4, gm_ne, Nat.reduceBEq]; done) | (with_reducible rfl) | contradiction | (simp only [gt_rnum, gt_rnE, rnX, h1, eq_true h3, if_true, if_false, not_false_eq_true, not_true_eq_false, ↓reduceIte]; rfl) | rfl) (by subst ex; first | (simp only [gt_rnum, gt_rnE, rnX, h1, eq_true h3, if_true, if_false, not_false_eq_true, not_true_eq_false, ↓reduceIte]; done) | (simp only [gt_rnum, gt_rnE, rnX, h1, eq_true h3, if_true, if_false, not_false_eq_true, not_true_eq_false, ↓reduceIte, wMix, wLog, wPic, wRep, wScr, wVM, wMd, sR_eq, sR_ne, sF_eq, sF_ne, upd_eq, upd_ne, gs_eq, gs_ne, gm_4, gm_ne, Nat.reduceBEq]; done) | (with_reducible rfl) | contradiction | (simp only [gt_rnum, gt_rnE, rnX, h1, eq_true h3, if_true, if_false, not_false_eq_true, not_true_eq_false, ↓reduceIte]; rfl) | rfl)
        · refine y_aload_n Z dX4_readNumber_71 0 rfl rfl ?_
          refine y_aload_n Z dX4_readNumber_72 0 rfl rfl ?_
          refine y_get (C := RX4) (T := TX4) (N := 6) Z 4 inlX4 rfl 0 rfl 4 (by decide) fl_RX4_33 rfl dX4_readNumber_73 ?_
          refine y_VI Z (k_X4_digitAt l D ht0 aC x.1 (x.1 0 2)) (y_cwV 1 Z ml_RX4_67 im_X4_digitAt se_X4_digitAt in_X4 co_X4_digitAt rfl rfl hd_X4_digitAt ⟨Nat.le_of_ble_eq_true rfl, Nat.le_of_ble_eq_true rfl⟩) [0, 1, 2] rfl (by decide) 4 0 rfl rfl rfl rfl (Nat.le_of_ble_eq_true rfl) dX4_readNumber_76 ⟨Nat.le_of_ble_eq_true rfl, Nat.le_of_ble_eq_true rfl⟩ [(aC 0), (aC 1), (aC 2)] rfl rfl (wScr cI aC x.1) rfl ?_
          refine y_iconst (v := -1) Z dX4_readNumber_79 (by decide) ?_
          refine y_icmp_eq (tgt := 94) Z dX4_readNumber_80 (by decide) (fun h5 => ?_) (fun h6 => ?_)
          · refine y_iload Z dX4_readNumber_94 5 rfl ?_
            refine y_iload_n Z dX4_readNumber_96 2 rfl rfl ?_
            refine y_icmp_lt (tgt := 106) Z dX4_readNumber_97 (by decide) (fun h7 => ?_) (fun h8 => ?_)
            · refine y_aload_n Z dX4_readNumber_106 0 rfl rfl ?_
              refine y_iload Z dX4_readNumber_107 4 rfl ?_
              refine y_VV Z (k_X4_miss l D ht0 aC x.1 (C 0 2)) (y_cwV 1 Z ml_RX4_49 im_X4_miss se_X4_miss in_X4 co_X4_miss rfl rfl hd_X4_miss ⟨Nat.le_of_ble_eq_true rfl, Nat.le_of_ble_eq_true rfl⟩) [0, 1, 2] rfl (by decide) 4 0 rfl rfl rfl rfl (Nat.le_of_ble_eq_true rfl) dX4_readNumber_109 ⟨Nat.le_of_ble_eq_true rfl, Nat.le_of_ble_eq_true rfl⟩ [(aC 0), (aC 1), (aC 2)] rfl rfl (wScr cI aC (gt_miss x.1 (C 0 2))) rfl ?_
              refine y_iload Z dX4_readNumber_112 5 rfl ?_
              exact y_retI Z hr hlk dX4_readNumber_114 (by subst ex; first | (simp only [gt_rnum, gt_rnE, rnX, h1, h4, eq_true h5, h7, if_true, if_false, not_false_eq_true, not_true_eq_false, ↓reduceIte]; done) | (simp only [gt_rnum, gt_rnE, rnX, h1, h4, eq_true h5, h7, if_true, if_false, not_false_eq_true, not_true_eq_false, ↓reduceIte, wMix, wLog, wPic, wRep, wScr, wVM, wMd, sR_eq, sR_ne, sF_eq, sF_ne, upd_eq, upd_ne, gs_eq, gs_ne, gm_4, gm_ne, Nat.reduceBEq]; done) | (with_reducible rfl) | contradiction | (simp only [gt_rnum, gt_rnE, rnX, h1, h4, eq_true h5, h7, if_true, if_false, not_false_eq_true, not_true_eq_false, ↓reduceIte]; rfl) | rfl) (by subst ex; first | (simp only [gt_rnum, gt_rnE, rnX, h1, h4, eq_true h5, h7, if_true, if_false, not_false_eq_true, not_true_eq_false, ↓reduceIte]; done) | (simp only [gt_rnum, gt_rnE, rnX, h1, h4, eq_true h5, h7, if_true, if_false, not_false_eq_true, not_true_eq_false, ↓reduceIte, wMix, wLog, wPic, wRep, wScr, wVM, wMd, sR_eq, sR_ne, sF_eq, sF_ne, upd_eq, upd_ne, gs_eq, gs_ne, gm_4, gm_ne, Nat.reduceBEq]; done) | (with_reducible rfl) | contradiction | (simp only [gt_rnum, gt_rnE, rnX, h1, h4, eq_true h5, h7, if_true, if_false, not_false_eq_true, not_true_eq_false, ↓reduceIte]; rfl) | rfl)
            · refine y_iload Z dX4_readNumber_100 5 rfl ?_
              refine y_iload_n Z dX4_readNumber_102 3 rfl rfl ?_
              refine y_icmp_le (tgt := 112) Z dX4_readNumber_103 (by decide) (fun h9 => ?_) (fun h10 => ?_)
              · refine y_iload Z dX4_readNumber_112 5 rfl ?_
                exact y_retI Z hr hlk dX4_readNumber_114 (by subst ex; first | (simp only [gt_rnum, gt_rnE, rnX, h1, h4, eq_true h5, h8, h9, if_true, if_false, not_false_eq_true, not_true_eq_false, ↓reduceIte]; done) | (simp only [gt_rnum, gt_rnE, rnX, h1, h4, eq_true h5, h8, h9, if_true, if_false, not_false_eq_true, not_true_eq_false, ↓reduceIte, wMix, wLog, wPic, wRep, wScr, wVM, wMd, sR_eq, sR_ne, sF_eq, sF_ne, upd_eq, upd_ne, gs_eq, gs_ne, gm_4, gm_ne, Nat.reduceBEq]; done) | (with_reducible rfl) | contradiction | (simp only [gt_rnum, gt_rnE, rnX, h1, h4, eq_true h5, h8, h9, if_true, if_false, not_false_eq_true, not_true_eq_false, ↓reduceIte]; rfl) | rfl) (by subst ex; first | (simp only [gt_rnum, gt_rnE, rnX, h1, h4, eq_true h5, h8, h9, if_true, if_false, not_false_eq_true, not_true_eq_false, ↓reduceIte]; done) | (simp only [gt_rnum, gt_rnE, rnX, h1, h4, eq_true h5, h8, h9, if_true, if_false, not_false_eq_true, not_true_eq_false, ↓reduceIte, wMix, wLog, wPic, wRep, wScr, wVM, wMd, sR_eq, sR_ne, sF_eq, sF_ne, upd_eq, upd_ne, gs_eq, gs_ne, gm_4, gm_ne, Nat.reduceBEq]; done) | (with_reducible rfl) | contradiction | (simp only [gt_rnum, gt_rnE, rnX, h1, h4, eq_true h5, h8, h9, if_true, if_false, not_false_eq_true, not_true_eq_false, ↓reduceIte]; rfl) | rfl)
              · refine y_aload_n Z dX4_readNumber_106 0 rfl rfl ?_
                refine y_iload Z dX4_readNumber_107 4 rfl ?_
                refine y_VV Z (k_X4_miss l D ht0 aC x.1 (C 0 2)) (y_cwV 1 Z ml_RX4_49 im_X4_miss se_X4_miss in_X4 co_X4_miss rfl rfl hd_X4_miss ⟨Nat.le_of_ble_eq_true rfl, Nat.le_of_ble_eq_true rfl⟩) [0, 1, 2] rfl (by decide) 4 0 rfl rfl rfl rfl (Nat.le_of_ble_eq_true rfl) dX4_readNumber_109 ⟨Nat.le_of_ble_eq_true rfl, Nat.le_of_ble_eq_true rfl⟩ [(aC 0), (aC 1), (aC 2)] rfl rfl (wScr cI aC (gt_miss x.1 (C 0 2))) rfl ?_
                refine y_iload Z dX4_readNumber_112 5 rfl ?_
                exact y_retI Z hr hlk dX4_readNumber_114 (by subst ex; first | (simp only [gt_rnum, gt_rnE, rnX, h1, h4, eq_true h5, h8, h10, if_true, if_false, not_false_eq_true, not_true_eq_false, ↓reduceIte]; done) | (simp only [gt_rnum, gt_rnE, rnX, h1, h4, eq_true h5, h8, h10, if_true, if_false, not_false_eq_true, not_true_eq_false, ↓reduceIte, wMix, wLog, wPic, wRep, wScr, wVM, wMd, sR_eq, sR_ne, sF_eq, sF_ne, upd_eq, upd_ne, gs_eq, gs_ne, gm_4, gm_ne, Nat.reduceBEq]; done) | (with_reducible rfl) | contradiction | (simp only [gt_rnum, gt_rnE, rnX, h1, h4, eq_true h5, h8, h10, if_true, if_false, not_false_eq_true, not_true_eq_false, ↓reduceIte]; rfl) | rfl) (by subst ex; first | (simp only [gt_rnum, gt_rnE, rnX, h1, h4, eq_true h5, h8, h10, if_true, if_false, not_false_eq_true, not_true_eq_false, ↓reduceIte]; done) | (simp only [gt_rnum, gt_rnE, rnX, h1, h4, eq_true h5, h8, h10, if_true, if_false, not_false_eq_true, not_true_eq_false, ↓reduceIte, wMix, wLog, wPic, wRep, wScr, wVM, wMd, sR_eq, sR_ne, sF_eq, sF_ne, upd_eq, upd_ne, gs_eq, gs_ne, gm_4, gm_ne, Nat.reduceBEq]; done) | (with_reducible rfl) | contradiction | (simp only [gt_rnum, gt_rnE, rnX, h1, h4, eq_true h5, h8, h10, if_true, if_false, not_false_eq_true, not_true_eq_false, ↓reduceIte]; rfl) | rfl)
          · refine y_aload_n Z dX4_readNumber_83 0 rfl rfl ?_
            refine y_aload_n Z dX4_readNumber_84 0 rfl rfl ?_
            refine y_get (C := RX4) (T := TX4) (N := 6) Z 4 inlX4 rfl 0 rfl 4 (by decide) fl_RX4_33 rfl dX4_readNumber_85 ?_
            refine y_VV Z (k_X4_miss l D ht0 aC x.1 (x.1 0 2)) (y_cwV 1 Z ml_RX4_49 im_X4_miss se_X4_miss in_X4 co_X4_miss rfl rfl hd_X4_miss ⟨Nat.le_of_ble_eq_true rfl, Nat.le_of_ble_eq_true rfl⟩) [0, 1, 2] rfl (by decide) 4 0 rfl rfl rfl rfl (Nat.le_of_ble_eq_true rfl) dX4_readNumber_88 ⟨Nat.le_of_ble_eq_true rfl, Nat.le_of_ble_eq_true rfl⟩ [(aC 0), (aC 1), (aC 2)] rfl rfl (wScr cI aC (gt_miss x.1 (x.1 0 2))) rfl ?_
            refine y_goto (tgt := 112) Z dX4_readNumber_91 (by decide) ?_
            refine y_iload Z dX4_readNumber_112 5 rfl ?_
            exact y_retI Z hr hlk dX4_readNumber_114 (by subst ex; first | (simp only [gt_rnum, gt_rnE, rnX, h1, h4, h6, if_true, if_false, not_false_eq_true, not_true_eq_false, ↓reduceIte]; done) | (simp only [gt_rnum, gt_rnE, rnX, h1, h4, h6, if_true, if_false, not_false_eq_true, not_true_eq_false, ↓reduceIte, wMix, wLog, wPic, wRep, wScr, wVM, wMd, sR_eq, sR_ne, sF_eq, sF_ne, upd_eq, upd_ne, gs_eq, gs_ne, gm_4, gm_ne, Nat.reduceBEq]; done) | (with_reducible rfl) | contradiction | (simp only [gt_rnum, gt_rnE, rnX, h1, h4, h6, if_true, if_false, not_false_eq_true, not_true_eq_false, ↓reduceIte]; rfl) | rfl) (by subst ex; first | (simp only [gt_rnum, gt_rnE, rnX, h1, h4, h6, if_true, if_false, not_false_eq_true, not_true_eq_false, ↓reduceIte]; done) | (simp only [gt_rnum, gt_rnE, rnX, h1, h4, h6, if_true, if_false, not_false_eq_true, not_true_eq_false, ↓reduceIte, wMix, wLog, wPic, wRep, wScr, wVM, wMd, sR_eq, sR_ne, sF_eq, sF_ne, upd_eq, upd_ne, gs_eq, gs_ne, gm_4, gm_ne, Nat.reduceBEq]; done) | (with_reducible rfl) | contradiction | (simp only [gt_rnum, gt_rnE, rnX, h1, h4, h6, if_true, if_false, not_false_eq_true, not_true_eq_false, ↓reduceIte]; rfl) | rfl)
      · refine y_aload_n Z dX4_readNumber_18 0 rfl rfl ?_
        refine y_aload_n Z dX4_readNumber_19 0 rfl rfl ?_
        refine y_get (C := RX4) (T := TX4) (N := 6) Z 4 inlX4 rfl 0 rfl 4 (by decide) fl_RX4_33 rfl dX4_readNumber_20 ?_
        refine y_VI Z (k_X4_digitAt l D ht0 aC x.1 (x.1 0 2)) (y_cwV 1 Z ml_RX4_67 im_X4_digitAt se_X4_digitAt in_X4 co_X4_digitAt rfl rfl hd_X4_digitAt ⟨Nat.le_of_ble_eq_true rfl, Nat.le_of_ble_eq_true rfl⟩) [0, 1, 2] rfl (by decide) 4 0 rfl rfl rfl rfl (Nat.le_of_ble_eq_true rfl) dX4_readNumber_23 ⟨Nat.le_of_ble_eq_true rfl, Nat.le_of_ble_eq_true rfl⟩ [(aC 0), (aC 1), (aC 2)] rfl rfl (wScr cI aC x.1) rfl ?_
        refine y_iconst (v := -1) Z dX4_readNumber_26 (by decide) ?_
        refine y_icmp_eq (tgt := 62) Z dX4_readNumber_27 (by decide) (fun h11 => ?_) (fun h12 => ?_)
        · have hb : (rnC mo) x = false := by simp only [rnC, h2, eq_true h11, ↓reduceIte]
          have ex : x = (lw (rnC mo) rnB 5 (C, 0, 0)) := by rw [← hx, lw_f hb]
          refine y_aload_n Z dX4_readNumber_62 0 rfl rfl ?_
          refine y_get (C := RX4) (T := TX4) (N := 6) Z 4 inlX4 rfl 0 rfl 4 (by decide) fl_RX4_33 rfl dX4_readNumber_63 ?_
          refine y_iload Z dX4_readNumber_66 4 rfl ?_
          refine y_icmp_eq (tgt := 83) Z dX4_readNumber_68 (by decide) (fun h13 => ?_) (fun h14 => ?_)
          · refine y_aload_n Z dX4_readNumber_83 0 rfl rfl ?_
            refine y_aload_n Z dX4_readNumber_84 0 rfl rfl ?_
            refine y_get (C := RX4) (T := TX4) (N := 6) Z 4 inlX4 rfl 0 rfl 4 (by decide) fl_RX4_33 rfl dX4_readNumber_85 ?_
            refine y_VV Z (k_X4_miss l D ht0 aC x.1 (x.1 0 2)) (y_cwV 1 Z ml_RX4_49 im_X4_miss se_X4_miss in_X4 co_X4_miss rfl rfl hd_X4_miss ⟨Nat.le_of_ble_eq_true rfl, Nat.le_of_ble_eq_true rfl⟩) [0, 1, 2] rfl (by decide) 4 0 rfl rfl rfl rfl (Nat.le_of_ble_eq_true rfl) dX4_readNumber_88 ⟨Nat.le_of_ble_eq_true rfl, Nat.le_of_ble_eq_true rfl⟩ [(aC 0), (aC 1), (aC 2)] rfl rfl (wScr cI aC (gt_miss x.1 (x.1 0 2))) rfl ?_
            refine y_goto (tgt := 112) Z dX4_readNumber_91 (by decide) ?_
            refine y_iload Z dX4_readNumber_112 5 rfl ?_
            exact y_retI Z hr hlk dX4_readNumber_114 (by subst ex; first | (simp only [gt_rnum, gt_rnE, rnX, h2, eq_true h11, eq_true h13, if_true, if_false, not_false_eq_true, not_true_eq_false, ↓reduceIte]; done) | (simp only [gt_rnum, gt_rnE, rnX, h2, eq_true h11, eq_true h13, if_true, if_false, not_false_eq_true, not_true_eq_false, ↓reduceIte, wMix, wLog, wPic, wRep, wScr, wVM, wMd, sR_eq, sR_ne, sF_eq, sF_ne, upd_eq, upd_ne, gs_eq, gs_ne, gm_4, gm_ne, Nat.reduceBEq]; done) | (with_reducible rfl) | contradiction | (simp only [gt_rnum, gt_rnE, rnX, h2, eq_true h11, eq_true h13, if_true, if_false, not_false_eq_true, not_true_eq_false, ↓reduceIte]; rfl) | rfl) (by subst ex; first | (simp only [gt_rnum, gt_rnE, rnX, h2, eq_true h11, eq_true h13, if_true, if_false, not_false_eq_true, not_true_eq_false, ↓reduceIte]; done) | (simp only [gt_rnum, gt_rnE, rnX, h2, eq_true h11, eq_true h13, if_true, if_false, not_false_eq_true, not_true_eq_false, ↓reduceIte, wMix, wLog, wPic, wRep, wScr, wVM, wMd, sR_eq, sR_ne, sF_eq, sF_ne, upd_eq, upd_ne, gs_eq, gs_ne, gm_4, gm_ne, Nat.reduceBEq]; done) | (with_reducible rfl) | contradiction | (simp only [gt_rnum, gt_rnE, rnX, h2, eq_true h11, eq_true h13, if_true, if_false, not_false_eq_true, not_true_eq_false, ↓reduceIte]; rfl) | rfl)
          · refine y_aload_n Z dX4_readNumber_71 0 rfl rfl ?_
            refine y_aload_n Z dX4_readNumber_72 0 rfl rfl ?_
            refine y_get (C := RX4) (T := TX4) (N := 6) Z 4 inlX4 rfl 0 rfl 4 (by decide) fl_RX4_33 rfl dX4_readNumber_73 ?_
            refine y_VI Z (k_X4_digitAt l D ht0 aC x.1 (x.1 0 2)) (y_cwV 1 Z ml_RX4_67 im_X4_digitAt se_X4_digitAt in_X4 co_X4_digitAt rfl rfl hd_X4_digitAt ⟨Nat.le_of_ble_eq_true rfl, Nat.le_of_ble_eq_true rfl⟩) [0, 1, 2] rfl (by decide) 4 0 rfl rfl rfl rfl (Nat.le_of_ble_eq_true rfl) dX4_readNumber_76 ⟨Nat.le_of_ble_eq_true rfl, Nat.le_of_ble_eq_true rfl⟩ [(aC 0), (aC 1), (aC 2)] rfl rfl (wScr cI aC x.1) rfl ?_
            refine y_iconst (v := -1) Z dX4_readNumber_79 (by decide) ?_
            refine y_icmp_eq (tgt := 94) Z dX4_readNumber_80 (by decide) (fun h15 => ?_) (fun h16 => ?_)
            · refine y_iload Z dX4_readNumber_94 5 rfl ?_
              refine y_iload_n Z dX4_readNumber_96 2 rfl rfl ?_
              refine y_icmp_lt (tgt := 106) Z dX4_readNumber_97 (by decide) (fun h17 => ?_) (fun h18 => ?_)
              · refine y_aload_n Z dX4_readNumber_106 0 rfl rfl ?_
                refine y_iload Z dX4_readNumber_107 4 rfl ?_
                refine y_VV Z (k_X4_miss l D ht0 aC x.1 (C 0 2)) (y_cwV 1 Z ml_RX4_49 im_X4_miss se_X4_miss in_X4 co_X4_miss rfl rfl hd_X4_miss ⟨Nat.le_of_ble_eq_true rfl, Nat.le_of_ble_eq_true rfl⟩) [0, 1, 2] rfl (by decide) 4 0 rfl rfl rfl rfl (Nat.le_of_ble_eq_true rfl) dX4_readNumber_109 ⟨Nat.le_of_ble_eq_true rfl, Nat.le_of_ble_eq_true rfl⟩ [(aC 0), (aC 1), (aC 2)] rfl rfl (wScr cI aC (gt_miss x.1 (C 0 2))) rfl ?_
                refine y_iload Z dX4_readNumber_112 5 rfl ?_
                exact y_retI Z hr hlk dX4_readNumber_114 (by subst ex; first | (simp only [gt_rnum, gt_rnE, rnX, h2, eq_true h11, h14, eq_true h15, h17, if_true, if_false, not_false_eq_true, not_true_eq_false, ↓reduceIte]; done) | (simp only [gt_rnum, gt_rnE, rnX, h2, eq_true h11, h14, eq_true h15, h17, if_true, if_false, not_false_eq_true, not_true_eq_false, ↓reduceIte, wMix, wLog, wPic, wRep, wScr, wVM, wMd, sR_eq, sR_ne, sF_eq, sF_ne, upd_eq, upd_ne, gs_eq, gs_ne, gm_4, gm_ne, Nat.reduceBEq]; done) | (with_reducible rfl) | contradiction | (simp only [gt_rnum, gt_rnE, rnX, h2, eq_true h11, h14, eq_true h15, h17, if_true, if_false, not_false_eq_true, not_true_eq_false, ↓reduceIte]; rfl) | rfl) (by subst ex; first | (simp only [gt_rnum, gt_rnE, rnX, h2, eq_true h11, h14, eq_true h15, h17, if_true, if_false, not_false_eq_true, not_true_eq_false, ↓reduceIte]; done) | (simp only [gt_rnum, gt_rnE, rnX, h2, eq_true h11, h14, eq_true h15, h17, if_true, if_false, not_false_eq_true, not_true_eq_false, ↓reduceIte, wMix, wLog, wPic, wRep, wScr, wVM, wMd, sR_eq, sR_ne, sF_eq, sF_ne, upd_eq, upd_ne, gs_eq, gs_ne, gm_4, gm_ne, Nat.reduceBEq]; done) | (with_reducible rfl) | contradiction | (simp only [gt_rnum, gt_rnE, rnX, h2, eq_true h11, h14, eq_true h15, h17, if_true, if_false, not_false_eq_true, not_true_eq_false, ↓reduceIte]; rfl) | rfl)
              · refine y_iload Z dX4_readNumber_100 5 rfl ?_
                refine y_iload_n Z dX4_readNumber_102 3 rfl rfl ?_
                refine y_icmp_le (tgt := 112) Z dX4_readNumber_103 (by decide) (fun h19 => ?_) (fun h20 => ?_)
                · refine y_iload Z dX4_readNumber_112 5 rfl ?_
                  exact y_retI Z hr hlk dX4_readNumber_114 (by subst ex; first | (simp only [gt_rnum, gt_rnE, rnX, h2, eq_true h11, h14, eq_true h15, h18, h19, if_true, if_false, not_false_eq_true, not_true_eq_false, ↓reduceIte]; done) | (simp only [gt_rnum, gt_rnE, rnX, h2, eq_true h11, h14, eq_true h15, h18, h19, if_true, if_false, not_false_eq_true, not_true_eq_false, ↓reduceIte, wMix, wLog, wPic, wRep, wScr, wVM, wMd, sR_eq, sR_ne, sF_eq, sF_ne, upd_eq, upd_ne, gs_eq, gs_ne, gm_4, gm_ne, Nat.reduceBEq]; done) | (with_reducible rfl) | contradiction | (simp only [gt_rnum, gt_rnE, rnX, h2, eq_true h11, h14, eq_true h15, h18, h19, if_true, if_false, not_false_eq_true, not_true_eq_false, ↓reduceIte]; rfl) | rfl) (by subst ex; first | (simp only [gt_rnum, gt_rnE, rnX, h2, eq_true h11, h14, eq_true h15, h18, h19, if_true, if_false, not_false_eq_true, not_true_eq_false, ↓reduceIte]; done) | (simp only [gt_rnum, gt_rnE, rnX, h2, eq_true h11, h14, eq_true h15, h18, h19, if_true, if_false, not_false_eq_true, not_true_eq_false, ↓reduceIte, wMix, wLog, wPic, wRep, wScr, wVM, wMd, sR_eq, sR_ne, sF_eq, sF_ne, upd_eq, upd_ne, gs_eq, gs_ne, gm_4, gm_ne, Nat.reduceBEq]; done) | (with_reducible rfl) | contradiction | (simp only [gt_rnum, gt_rnE, rnX, h2, eq_true h11, h14, eq_true h15, h18, h19, if_true, if_false, not_false_eq_true, not_true_eq_false, ↓reduceIte]; rfl) | rfl)
                · refine y_aload_n Z dX4_readNumber_106 0 rfl rfl ?_
                  refine y_iload Z dX4_readNumber_107 4 rfl ?_
                  refine y_VV Z (k_X4_miss l D ht0 aC x.1 (C 0 2)) (y_cwV 1 Z ml_RX4_49 im_X4_miss se_X4_miss in_X4 co_X4_miss rfl rfl hd_X4_miss ⟨Nat.le_of_ble_eq_true rfl, Nat.le_of_ble_eq_true rfl⟩) [0, 1, 2] rfl (by decide) 4 0 rfl rfl rfl rfl (Nat.le_of_ble_eq_true rfl) dX4_readNumber_109 ⟨Nat.le_of_ble_eq_true rfl, Nat.le_of_ble_eq_true rfl⟩ [(aC 0), (aC 1), (aC 2)] rfl rfl (wScr cI aC (gt_miss x.1 (C 0 2))) rfl ?_
                  refine y_iload Z dX4_readNumber_112 5 rfl ?_
                  exact y_retI Z hr hlk dX4_readNumber_114 (by subst ex; first | (simp only [gt_rnum, gt_rnE, rnX, h2, eq_true h11, h14, eq_true h15, h18, h20, if_true, if_false, not_false_eq_true, not_true_eq_false, ↓reduceIte]; done) | (simp only [gt_rnum, gt_rnE, rnX, h2, eq_true h11, h14, eq_true h15, h18, h20, if_true, if_false, not_false_eq_true, not_true_eq_false, ↓reduceIte, wMix, wLog, wPic, wRep, wScr, wVM, wMd, sR_eq, sR_ne, sF_eq, sF_ne, upd_eq, upd_ne, gs_eq, gs_ne, gm_4, gm_ne, Nat.reduceBEq]; done) | (with_reducible rfl) | contradiction | (simp only [gt_rnum, gt_rnE, rnX, h2, eq_true h11, h14, eq_true h15, h18, h20, if_true, if_false, not_false_eq_true, not_true_eq_false, ↓reduceIte]; rfl) | rfl) (by subst ex; first | (simp only [gt_rnum, gt_rnE, rnX, h2, eq_true h11, h14, eq_true h15, h18, h20, if_true, if_false, not_false_eq_true, not_true_eq_false, ↓reduceIte]; done) | (simp only [gt_rnum, gt_rnE, rnX, h2, eq_true h11, h14, eq_true h15, h18, h20, if_true, if_false, not_false_eq_true, not_true_eq_false, ↓reduceIte, wMix, wLog, wPic, wRep, wScr, wVM, wMd, sR_eq, sR_ne, sF_eq, sF_ne, upd_eq, upd_ne, gs_eq, gs_ne, gm_4, gm_ne, Nat.reduceBEq]; done) | (with_reducible rfl) | contradiction | (simp only [gt_rnum, gt_rnE, rnX, h2, eq_true h11, h14, eq_true h15, h18, h20, if_true, if_false, not_false_eq_true, not_true_eq_false, ↓reduceIte]; rfl) | rfl)
            · refine y_aload_n Z dX4_readNumber_83 0 rfl rfl ?_
              refine y_aload_n Z dX4_readNumber_84 0 rfl rfl ?_
              refine y_get (C := RX4) (T := TX4) (N := 6) Z 4 inlX4 rfl 0 rfl 4 (by decide) fl_RX4_33 rfl dX4_readNumber_85 ?_
              refine y_VV Z (k_X4_miss l D ht0 aC x.1 (x.1 0 2)) (y_cwV 1 Z ml_RX4_49 im_X4_miss se_X4_miss in_X4 co_X4_miss rfl rfl hd_X4_miss ⟨Nat.le_of_ble_eq_true rfl, Nat.le_of_ble_eq_true rfl⟩) [0, 1, 2] rfl (by decide) 4 0 rfl rfl rfl rfl (Nat.le_of_ble_eq_true rfl) dX4_readNumber_88 ⟨Nat.le_of_ble_eq_true rfl, Nat.le_of_ble_eq_true rfl⟩ [(aC 0), (aC 1), (aC 2)] rfl rfl (wScr cI aC (gt_miss x.1 (x.1 0 2))) rfl ?_
              refine y_goto (tgt := 112) Z dX4_readNumber_91 (by decide) ?_
              refine y_iload Z dX4_readNumber_112 5 rfl ?_
              exact y_retI Z hr hlk dX4_readNumber_114 (by subst ex; first | (simp only [gt_rnum, gt_rnE, rnX, h2, eq_true h11, h14, h16, if_true, if_false, not_false_eq_true, not_true_eq_false, ↓reduceIte]; done) | (simp only [gt_rnum, gt_rnE, rnX, h2, eq_true h11, h14, h16, if_true, if_false, not_false_eq_true, not_true_eq_false, ↓reduceIte, wMix, wLog, wPic, wRep, wScr, wVM, wMd, sR_eq, sR_ne, sF_eq, sF_ne, upd_eq, upd_ne, gs_eq, gs_ne, gm_4, gm_ne, Nat.reduceBEq]; done) | (with_reducible rfl) | contradiction | (simp only [gt_rnum, gt_rnE, rnX, h2, eq_true h11, h14, h16, if_true, if_false, not_false_eq_true, not_true_eq_false, ↓reduceIte]; rfl) | rfl) (by subst ex; first | (simp only [gt_rnum, gt_rnE, rnX, h2, eq_true h11, h14, h16, if_true, if_false, not_false_eq_true, not_true_eq_false, ↓reduceIte]; done) | (simp only [gt_rnum, gt_rnE, rnX, h2, eq_true h11, h14, h16, if_true, if_false, not_false_eq_true, not_true_eq_false, ↓reduceIte, wMix, wLog, wPic, wRep, wScr, wVM, wMd, sR_eq, sR_ne, sF_eq, sF_ne, upd_eq, upd_ne, gs_eq, gs_ne, gm_4, gm_ne, Nat.reduceBEq]; done) | (with_reducible rfl) | contradiction | (simp only [gt_rnum, gt_rnE, rnX, h2, eq_true h11, h14, h16, if_true, if_false, not_false_eq_true, not_true_eq_false, ↓reduceIte]; rfl) | rfl)
        · exact absurd (show (rnC mo) x = true by simp only [rnC, h2, h12, ↓reduceIte]) (by rw [show (rnC mo) x = false from hc]; decide)
    | succ n ih =>
      intro x hc hx
      refine y_iload Z dX4_readNumber_12 6 rfl ?_
      refine y_iload_n Z dX4_readNumber_14 1 rfl rfl ?_
      refine y_icmp_ge (tgt := 62) Z dX4_readNumber_15 (by decide) (fun h21 => ?_) (fun h22 => ?_)
      · have hb : (rnC mo) x = false := by simp only [rnC, h21, ↓reduceIte]
        have ex : x = (lw (rnC mo) rnB 5 (C, 0, 0)) := by rw [← hx, lw_f hb]
        refine y_aload_n Z dX4_readNumber_62 0 rfl rfl ?_
        refine y_get (C := RX4) (T := TX4) (N := 6) Z 4 inlX4 rfl 0 rfl 4 (by decide) fl_RX4_33 rfl dX4_readNumber_63 ?_
        refine y_iload Z dX4_readNumber_66 4 rfl ?_
        refine y_icmp_eq (tgt := 83) Z dX4_readNumber_68 (by decide) (fun h23 => ?_) (fun h24 => ?_)
        · refine y_aload_n Z dX4_readNumber_83 0 rfl rfl ?_
          refine y_aload_n Z dX4_readNumber_84 0 rfl rfl ?_
          refine y_get (C := RX4) (T := TX4) (N := 6) Z 4 inlX4 rfl 0 rfl 4 (by decide) fl_RX4_33 rfl dX4_readNumber_85 ?_
          refine y_VV Z (k_X4_miss l D ht0 aC x.1 (x.1 0 2)) (y_cwV 1 Z ml_RX4_49 im_X4_miss se_X4_miss in_X4 co_X4_miss rfl rfl hd_X4_miss ⟨Nat.le_of_ble_eq_true rfl, Nat.le_of_ble_eq_true rfl⟩) [0, 1, 2] rfl (by decide) 4 0 rfl rfl rfl rfl (Nat.le_of_ble_eq_true rfl) dX4_readNumber_88 ⟨Nat.le_of_ble_eq_true rfl, Nat.le_of_ble_eq_true rfl⟩ [(aC 0), (aC 1), (aC 2)] rfl rfl (wScr cI aC (gt_miss x.1 (x.1 0 2))) rfl ?_
          refine y_goto (tgt := 112) Z dX4_readNumber_91 (by decide) ?_
          refine y_iload Z dX4_readNumber_112 5 rfl ?_
          exact y_retI Z hr hlk dX4_readNumber_114 (by subst ex; first | (simp only [gt_rnum, gt_rnE, rnX, h21, eq_true h23, if_true, if_false, not_false_eq_true, not_true_eq_false, ↓reduceIte]; done) | (simp only [gt_rnum, gt_rnE, rnX, h21, eq_true h23, if_true, if_false, not_false_eq_true, not_true_eq_false, ↓reduceIte, wMix, wLog, wPic, wRep, wScr, wVM, wMd, sR_eq, sR_ne, sF_eq, sF_ne, upd_eq, upd_ne, gs_eq, gs_ne, gm_4, gm_ne, Nat.reduceBEq]; done) | (with_reducible rfl) | contradiction | (simp only [gt_rnum, gt_rnE, rnX, h21, eq_true h23, if_true, if_false, not_false_eq_true, not_true_eq_false, ↓reduceIte]; rfl) | rfl) (by subst ex; first | (simp only [gt_rnum, gt_rnE, rnX, h21, eq_true h23, if_true, if_false, not_false_eq_true, not_true_eq_false, ↓reduceIte]; done) | (simp only [gt_rnum, gt_rnE, rnX, h21, eq_true h23, if_true, if_false, not_false_eq_true, not_true_eq_false, ↓reduceIte, wMix, wLog, wPic, wRep, wScr, wVM, wMd, sR_eq, sR_ne, sF_eq, sF_ne, upd_eq, upd_ne, gs_eq, gs_ne, gm_4, gm_ne, Nat.reduceBEq]; done) | (with_reducible rfl) | contradiction | (simp only [gt_rnum, gt_rnE, rnX, h21, eq_true h23, if_true, if_false, not_false_eq_true, not_true_eq_false, ↓reduceIte]; rfl) | rfl)
        · refine y_aload_n Z dX4_readNumber_71 0 rfl rfl ?_
          refine y_aload_n Z dX4_readNumber_72 0 rfl rfl ?_
          refine y_get (C := RX4) (T := TX4) (N := 6) Z 4 inlX4 rfl 0 rfl 4 (by decide) fl_RX4_33 rfl dX4_readNumber_73 ?_
          refine y_VI Z (k_X4_digitAt l D ht0 aC x.1 (x.1 0 2)) (y_cwV 1 Z ml_RX4_67 im_X4_digitAt se_X4_digitAt in_X4 co_X4_digitAt rfl rfl hd_X4_digitAt ⟨Nat.le_of_ble_eq_true rfl, Nat.le_of_ble_eq_true rfl⟩) [0, 1, 2] rfl (by decide) 4 0 rfl rfl rfl rfl (Nat.le_of_ble_eq_true rfl) dX4_readNumber_76 ⟨Nat.le_of_ble_eq_true rfl, Nat.le_of_ble_eq_true rfl⟩ [(aC 0), (aC 1), (aC 2)] rfl rfl (wScr cI aC x.1) rfl ?_
          refine y_iconst (v := -1) Z dX4_readNumber_79 (by decide) ?_
          refine y_icmp_eq (tgt := 94) Z dX4_readNumber_80 (by decide) (fun h25 => ?_) (fun h26 => ?_)
          · refine y_iload Z dX4_readNumber_94 5 rfl ?_
            refine y_iload_n Z dX4_readNumber_96 2 rfl rfl ?_
            refine y_icmp_lt (tgt := 106) Z dX4_readNumber_97 (by decide) (fun h27 => ?_) (fun h28 => ?_)
            · refine y_aload_n Z dX4_readNumber_106 0 rfl rfl ?_
              refine y_iload Z dX4_readNumber_107 4 rfl ?_
              refine y_VV Z (k_X4_miss l D ht0 aC x.1 (C 0 2)) (y_cwV 1 Z ml_RX4_49 im_X4_miss se_X4_miss in_X4 co_X4_miss rfl rfl hd_X4_miss ⟨Nat.le_of_ble_eq_true rfl, Nat.le_of_ble_eq_true rfl⟩) [0, 1, 2] rfl (by decide) 4 0 rfl rfl rfl rfl (Nat.le_of_ble_eq_true rfl) dX4_readNumber_109 ⟨Nat.le_of_ble_eq_true rfl, Nat.le_of_ble_eq_true rfl⟩ [(aC 0), (aC 1), (aC 2)] rfl rfl (wScr cI aC (gt_miss x.1 (C 0 2))) rfl ?_
              refine y_iload Z dX4_readNumber_112 5 rfl ?_
              exact y_retI Z hr hlk dX4_readNumber_114 (by subst ex; first | (simp only [gt_rnum, gt_rnE, rnX, h21, h24, eq_true h25, h27, if_true, if_false, not_false_eq_true, not_true_eq_false, ↓reduceIte]; done) | (simp only [gt_rnum, gt_rnE, rnX, h21, h24, eq_true h25, h27, if_true, if_false, not_false_eq_true, not_true_eq_false, ↓reduceIte, wMix, wLog, wPic, wRep, wScr, wVM, wMd, sR_eq, sR_ne, sF_eq, sF_ne, upd_eq, upd_ne, gs_eq, gs_ne, gm_4, gm_ne, Nat.reduceBEq]; done) | (with_reducible rfl) | contradiction | (simp only [gt_rnum, gt_rnE, rnX, h21, h24, eq_true h25, h27, if_true, if_false, not_false_eq_true, not_true_eq_false, ↓reduceIte]; rfl) | rfl) (by subst ex; first | (simp only [gt_rnum, gt_rnE, rnX, h21, h24, eq_true h25, h27, if_true, if_false, not_false_eq_true, not_true_eq_false, ↓reduceIte]; done) | (simp only [gt_rnum, gt_rnE, rnX, h21, h24, eq_true h25, h27, if_true, if_false, not_false_eq_true, not_true_eq_false, ↓reduceIte, wMix, wLog, wPic, wRep, wScr, wVM, wMd, sR_eq, sR_ne, sF_eq, sF_ne, upd_eq, upd_ne, gs_eq, gs_ne, gm_4, gm_ne, Nat.reduceBEq]; done) | (with_reducible rfl) | contradiction | (simp only [gt_rnum, gt_rnE, rnX, h21, h24, eq_true h25, h27, if_true, if_false, not_false_eq_true, not_true_eq_false, ↓reduceIte]; rfl) | rfl)
            · refine y_iload Z dX4_readNumber_100 5 rfl ?_
              refine y_iload_n Z dX4_readNumber_102 3 rfl rfl ?_
              refine y_icmp_le (tgt := 112) Z dX4_readNumber_103 (by decide) (fun h29 => ?_) (fun h30 => ?_)
              · refine y_iload Z dX4_readNumber_112 5 rfl ?_
                exact y_retI Z hr hlk dX4_readNumber_114 (by subst ex; first | (simp only [gt_rnum, gt_rnE, rnX, h21, h24, eq_true h25, h28, h29, if_true, if_false, not_false_eq_true, not_true_eq_false, ↓reduceIte]; done) | (simp only [gt_rnum, gt_rnE, rnX, h21, h24, eq_true h25, h28, h29, if_true, if_false, not_false_eq_true, not_true_eq_false, ↓reduceIte, wMix, wLog, wPic, wRep, wScr, wVM, wMd, sR_eq, sR_ne, sF_eq, sF_ne, upd_eq, upd_ne, gs_eq, gs_ne, gm_4, gm_ne, Nat.reduceBEq]; done) | (with_reducible rfl) | contradiction | (simp only [gt_rnum, gt_rnE, rnX, h21, h24, eq_true h25, h28, h29, if_true, if_false, not_false_eq_true, not_true_eq_false, ↓reduceIte]; rfl) | rfl) (by subst ex; first | (simp only [gt_rnum, gt_rnE, rnX, h21, h24, eq_true h25, h28, h29, if_true, if_false, not_false_eq_true, not_true_eq_false, ↓reduceIte]; done) | (simp only [gt_rnum, gt_rnE, rnX, h21, h24, eq_true h25, h28, h29, if_true, if_false, not_false_eq_true, not_true_eq_false, ↓reduceIte, wMix, wLog, wPic, wRep, wScr, wVM, wMd, sR_eq, sR_ne, sF_eq, sF_ne, upd_eq, upd_ne, gs_eq, gs_ne, gm_4, gm_ne, Nat.reduceBEq]; done) | (with_reducible rfl) | contradiction | (simp only [gt_rnum, gt_rnE, rnX, h21, h24, eq_true h25, h28, h29, if_true, if_false, not_false_eq_true, not_true_eq_false, ↓reduceIte]; rfl) | rfl)
              · refine y_aload_n Z dX4_readNumber_106 0 rfl rfl ?_
                refine y_iload Z dX4_readNumber_107 4 rfl ?_
                refine y_VV Z (k_X4_miss l D ht0 aC x.1 (C 0 2)) (y_cwV 1 Z ml_RX4_49 im_X4_miss se_X4_miss in_X4 co_X4_miss rfl rfl hd_X4_miss ⟨Nat.le_of_ble_eq_true rfl, Nat.le_of_ble_eq_true rfl⟩) [0, 1, 2] rfl (by decide) 4 0 rfl rfl rfl rfl (Nat.le_of_ble_eq_true rfl) dX4_readNumber_109 ⟨Nat.le_of_ble_eq_true rfl, Nat.le_of_ble_eq_true rfl⟩ [(aC 0), (aC 1), (aC 2)] rfl rfl (wScr cI aC (gt_miss x.1 (C 0 2))) rfl ?_
                refine y_iload Z dX4_readNumber_112 5 rfl ?_
                exact y_retI Z hr hlk dX4_readNumber_114 (by subst ex; first | (simp only [gt_rnum, gt_rnE, rnX, h21, h24, eq_true h25, h28, h30, if_true, if_false, not_false_eq_true, not_true_eq_false, ↓reduceIte]; done) | (simp only [gt_rnum, gt_rnE, rnX, h21, h24, eq_true h25, h28, h30, if_true, if_false, not_false_eq_true, not_true_eq_false, ↓reduceIte, wMix, wLog, wPic, wRep, wScr, wVM, wMd, sR_eq, sR_ne, sF_eq, sF_ne, upd_eq, upd_ne, gs_eq, gs_ne, gm_4, gm_ne, Nat.reduceBEq]; done) | (with_reducible rfl) | contradiction | (simp only [gt_rnum, gt_rnE, rnX, h21, h24, eq_true h25, h28, h30, if_true, if_false, not_false_eq_true, not_true_eq_false, ↓reduceIte]; rfl) | rfl) (by subst ex; first | (simp only [gt_rnum, gt_rnE, rnX, h21, h24, eq_true h25, h28, h30, if_true, if_false, not_false_eq_true, not_true_eq_false, ↓reduceIte]; done) | (simp only [gt_rnum, gt_rnE, rnX, h21, h24, eq_true h25, h28, h30, if_true, if_false, not_false_eq_true, not_true_eq_false, ↓reduceIte, wMix, wLog, wPic, wRep, wScr, wVM, wMd, sR_eq, sR_ne, sF_eq, sF_ne, upd_eq, upd_ne, gs_eq, gs_ne, gm_4, gm_ne, Nat.reduceBEq]; done) | (with_reducible rfl) | contradiction | (simp only [gt_rnum, gt_rnE, rnX, h21, h24, eq_true h25, h28, h30, if_true, if_false, not_false_eq_true, not_true_eq_false, ↓reduceIte]; rfl) | rfl)
          · refine y_aload_n Z dX4_readNumber_83 0 rfl rfl ?_
            refine y_aload_n Z dX4_readNumber_84 0 rfl rfl ?_
            refine y_get (C := RX4) (T := TX4) (N := 6) Z 4 inlX4 rfl 0 rfl 4 (by decide) fl_RX4_33 rfl dX4_readNumber_85 ?_
            refine y_VV Z (k_X4_miss l D ht0 aC x.1 (x.1 0 2)) (y_cwV 1 Z ml_RX4_49 im_X4_miss se_X4_miss in_X4 co_X4_miss rfl rfl hd_X4_miss ⟨Nat.le_of_ble_eq_true rfl, Nat.le_of_ble_eq_true rfl⟩) [0, 1, 2] rfl (by decide) 4 0 rfl rfl rfl rfl (Nat.le_of_ble_eq_true rfl) dX4_readNumber_88 ⟨Nat.le_of_ble_eq_true rfl, Nat.le_of_ble_eq_true rfl⟩ [(aC 0), (aC 1), (aC 2)] rfl rfl (wScr cI aC (gt_miss x.1 (x.1 0 2))) rfl ?_
            refine y_goto (tgt := 112) Z dX4_readNumber_91 (by decide) ?_
            refine y_iload Z dX4_readNumber_112 5 rfl ?_
            exact y_retI Z hr hlk dX4_readNumber_114 (by subst ex; first | (simp only [gt_rnum, gt_rnE, rnX, h21, h24, h26, if_true, if_false, not_false_eq_true, not_true_eq_false, ↓reduceIte]; done) | (simp only [gt_rnum, gt_rnE, rnX, h21, h24, h26, if_true, if_false, not_false_eq_true, not_true_eq_false, ↓reduceIte, wMix, wLog, wPic, wRep, wScr, wVM, wMd, sR_eq, sR_ne, sF_eq, sF_ne, upd_eq, upd_ne, gs_eq, gs_ne, gm_4, gm_ne, Nat.reduceBEq]; done) | (with_reducible rfl) | contradiction | (simp only [gt_rnum, gt_rnE, rnX, h21, h24, h26, if_true, if_false, not_false_eq_true, not_true_eq_false, ↓reduceIte]; rfl) | rfl) (by subst ex; first | (simp only [gt_rnum, gt_rnE, rnX, h21, h24, h26, if_true, if_false, not_false_eq_true, not_true_eq_false, ↓reduceIte]; done) | (simp only [gt_rnum, gt_rnE, rnX, h21, h24, h26, if_true, if_false, not_false_eq_true, not_true_eq_false, ↓reduceIte, wMix, wLog, wPic, wRep, wScr, wVM, wMd, sR_eq, sR_ne, sF_eq, sF_ne, upd_eq, upd_ne, gs_eq, gs_ne, gm_4, gm_ne, Nat.reduceBEq]; done) | (with_reducible rfl) | contradiction | (simp only [gt_rnum, gt_rnE, rnX, h21, h24, h26, if_true, if_false, not_false_eq_true, not_true_eq_false, ↓reduceIte]; rfl) | rfl)
      · refine y_aload_n Z dX4_readNumber_18 0 rfl rfl ?_
        refine y_aload_n Z dX4_readNumber_19 0 rfl rfl ?_
        refine y_get (C := RX4) (T := TX4) (N := 6) Z 4 inlX4 rfl 0 rfl 4 (by decide) fl_RX4_33 rfl dX4_readNumber_20 ?_
        refine y_VI Z (k_X4_digitAt l D ht0 aC x.1 (x.1 0 2)) (y_cwV 1 Z ml_RX4_67 im_X4_digitAt se_X4_digitAt in_X4 co_X4_digitAt rfl rfl hd_X4_digitAt ⟨Nat.le_of_ble_eq_true rfl, Nat.le_of_ble_eq_true rfl⟩) [0, 1, 2] rfl (by decide) 4 0 rfl rfl rfl rfl (Nat.le_of_ble_eq_true rfl) dX4_readNumber_23 ⟨Nat.le_of_ble_eq_true rfl, Nat.le_of_ble_eq_true rfl⟩ [(aC 0), (aC 1), (aC 2)] rfl rfl (wScr cI aC x.1) rfl ?_
        refine y_iconst (v := -1) Z dX4_readNumber_26 (by decide) ?_
        refine y_icmp_eq (tgt := 62) Z dX4_readNumber_27 (by decide) (fun h31 => ?_) (fun h32 => ?_)
        · have hb : (rnC mo) x = false := by simp only [rnC, h22, eq_true h31, ↓reduceIte]
          have ex : x = (lw (rnC mo) rnB 5 (C, 0, 0)) := by rw [← hx, lw_f hb]
          refine y_aload_n Z dX4_readNumber_62 0 rfl rfl ?_
          refine y_get (C := RX4) (T := TX4) (N := 6) Z 4 inlX4 rfl 0 rfl 4 (by decide) fl_RX4_33 rfl dX4_readNumber_63 ?_
          refine y_iload Z dX4_readNumber_66 4 rfl ?_
          refine y_icmp_eq (tgt := 83) Z dX4_readNumber_68 (by decide) (fun h33 => ?_) (fun h34 => ?_)
          · refine y_aload_n Z dX4_readNumber_83 0 rfl rfl ?_
            refine y_aload_n Z dX4_readNumber_84 0 rfl rfl ?_
            refine y_get (C := RX4) (T := TX4) (N := 6) Z 4 inlX4 rfl 0 rfl 4 (by decide) fl_RX4_33 rfl dX4_readNumber_85 ?_
            refine y_VV Z (k_X4_miss l D ht0 aC x.1 (x.1 0 2)) (y_cwV 1 Z ml_RX4_49 im_X4_miss se_X4_miss in_X4 co_X4_miss rfl rfl hd_X4_miss ⟨Nat.le_of_ble_eq_true rfl, Nat.le_of_ble_eq_true rfl⟩) [0, 1, 2] rfl (by decide) 4 0 rfl rfl rfl rfl (Nat.le_of_ble_eq_true rfl) dX4_readNumber_88 ⟨Nat.le_of_ble_eq_true rfl, Nat.le_of_ble_eq_true rfl⟩ [(aC 0), (aC 1), (aC 2)] rfl rfl (wScr cI aC (gt_miss x.1 (x.1 0 2))) rfl ?_
            refine y_goto (tgt := 112) Z dX4_readNumber_91 (by decide) ?_
            refine y_iload Z dX4_readNumber_112 5 rfl ?_
            exact y_retI Z hr hlk dX4_readNumber_114 (by subst ex; first | (simp only [gt_rnum, gt_rnE, rnX, h22, eq_true h31, eq_true h33, if_true, if_false, not_false_eq_true, not_true_eq_false, ↓reduceIte]; done) | (simp only [gt_rnum, gt_rnE, rnX, h22, eq_true h31, eq_true h33, if_true, if_false, not_false_eq_true, not_true_eq_false, ↓reduceIte, wMix, wLog, wPic, wRep, wScr, wVM, wMd, sR_eq, sR_ne, sF_eq, sF_ne, upd_eq, upd_ne, gs_eq, gs_ne, gm_4, gm_ne, Nat.reduceBEq]; done) | (with_reducible rfl) | contradiction | (simp only [gt_rnum, gt_rnE, rnX, h22, eq_true h31, eq_true h33, if_true, if_false, not_false_eq_true, not_true_eq_false, ↓reduceIte]; rfl) | rfl) (by subst ex; first | (simp only [gt_rnum, gt_rnE, rnX, h22, eq_true h31, eq_true h33, if_true, if_false, not_false_eq_true, not_true_eq_false, ↓reduceIte]; done) | (simp only [gt_rnum, gt_rnE, rnX, h22, eq_true h31, eq_true h33, if_true, if_false, not_false_eq_true, not_true_eq_false, ↓reduceIte, wMix, wLog, wPic, wRep, wScr, wVM, wMd, sR_eq, sR_ne, sF_eq, sF_ne, upd_eq, upd_ne, gs_eq, gs_ne, gm_4, gm_ne, Nat.reduceBEq]; done) | (with_reducible rfl) | contradiction | (simp only [gt_rnum, gt_rnE, rnX, h22, eq_true h31, eq_true h33, if_true, if_false, not_false_eq_true, not_true_eq_false, ↓reduceIte]; rfl) | rfl)
          · refine y_aload_n Z dX4_readNumber_71 0 rfl rfl ?_
            refine y_aload_n Z dX4_readNumber_72 0 rfl rfl ?_
            refine y_get (C := RX4) (T := TX4) (N := 6) Z 4 inlX4 rfl 0 rfl 4 (by decide) fl_RX4_33 rfl dX4_readNumber_73 ?_
            refine y_VI Z (k_X4_digitAt l D ht0 aC x.1 (x.1 0 2)) (y_cwV 1 Z ml_RX4_67 im_X4_digitAt se_X4_digitAt in_X4 co_X4_digitAt rfl rfl hd_X4_digitAt ⟨Nat.le_of_ble_eq_true rfl, Nat.le_of_ble_eq_true rfl⟩) [0, 1, 2] rfl (by decide) 4 0 rfl rfl rfl rfl (Nat.le_of_ble_eq_true rfl) dX4_readNumber_76 ⟨Nat.le_of_ble_eq_true rfl, Nat.le_of_ble_eq_true rfl⟩ [(aC 0), (aC 1), (aC 2)] rfl rfl (wScr cI aC x.1) rfl ?_
            refine y_iconst (v := -1) Z dX4_readNumber_79 (by decide) ?_
            refine y_icmp_eq (tgt := 94) Z dX4_readNumber_80 (by decide) (fun h35 => ?_) (fun h36 => ?_)
            · refine y_iload Z dX4_readNumber_94 5 rfl ?_
              refine y_iload_n Z dX4_readNumber_96 2 rfl rfl ?_
              refine y_icmp_lt (tgt := 106) Z dX4_readNumber_97 (by decide) (fun h37 => ?_) (fun h38 => ?_)
              · refine y_aload_n Z dX4_readNumber_106 0 rfl rfl ?_
                refine y_iload Z dX4_readNumber_107 4 rfl ?_
                refine y_VV Z (k_X4_miss l D ht0 aC x.1 (C 0 2)) (y_cwV 1 Z ml_RX4_49 im_X4_miss se_X4_miss in_X4 co_X4_miss rfl rfl hd_X4_miss ⟨Nat.le_of_ble_eq_true rfl, Nat.le_of_ble_eq_true rfl⟩) [0, 1, 2] rfl (by decide) 4 0 rfl rfl rfl rfl (Nat.le_of_ble_eq_true rfl) dX4_readNumber_109 ⟨Nat.le_of_ble_eq_true rfl, Nat.le_of_ble_eq_true rfl⟩ [(aC 0), (aC 1), (aC 2)] rfl rfl (wScr cI aC (gt_miss x.1 (C 0 2))) rfl ?_
                refine y_iload Z dX4_readNumber_112 5 rfl ?_
                exact y_retI Z hr hlk dX4_readNumber_114 (by subst ex; first | (simp only [gt_rnum, gt_rnE, rnX, h22, eq_true h31, h34, eq_true h35, h37, if_true, if_false, not_false_eq_true, not_true_eq_false, ↓reduceIte]; done) | (simp only [gt_rnum, gt_rnE, rnX, h22, eq_true h31, h34, eq_true h35, h37, if_true, if_false, not_false_eq_true, not_true_eq_false, ↓reduceIte, wMix, wLog, wPic, wRep, wScr, wVM, wMd, sR_eq, sR_ne, sF_eq, sF_ne, upd_eq, upd_ne, gs_eq, gs_ne, gm_4, gm_ne, Nat.reduceBEq]; done) | (with_reducible rfl) | contradiction | (simp only [gt_rnum, gt_rnE, rnX, h22, eq_true h31, h34, eq_true h35, h37, if_true, if_false, not_false_eq_true, not_true_eq_false, ↓reduceIte]; rfl) | rfl) (by subst ex; first | (simp only [gt_rnum, gt_rnE, rnX, h22, eq_true h31, h34, eq_true h35, h37, if_true, if_false, not_false_eq_true, not_true_eq_false, ↓reduceIte]; done) | (simp only [gt_rnum, gt_rnE, rnX, h22, eq_true h31, h34, eq_true h35, h37, if_true, if_false, not_false_eq_true, not_true_eq_false, ↓reduceIte, wMix, wLog, wPic, wRep, wScr, wVM, wMd, sR_eq, sR_ne, sF_eq, sF_ne, upd_eq, upd_ne, gs_eq, gs_ne, gm_4, gm_ne, Nat.reduceBEq]; done) | (with_reducible rfl) | contradiction | (simp only [gt_rnum, gt_rnE, rnX, h22, eq_true h31, h34, eq_true h35, h37, if_true, if_false, not_false_eq_true, not_true_eq_false, ↓reduceIte]; rfl) | rfl)
              · refine y_iload Z dX4_readNumber_100 5 rfl ?_
                refine y_iload_n Z dX4_readNumber_102 3 rfl rfl ?_
                refine y_icmp_le (tgt := 112) Z dX4_readNumber_103 (by decide) (fun h39 => ?_) (fun h40 => ?_)
                · refine y_iload Z dX4_readNumber_112 5 rfl ?_
                  exact y_retI Z hr hlk dX4_readNumber_114 (by subst ex; first | (simp only [gt_rnum, gt_rnE, rnX, h22, eq_true h31, h34, eq_true h35, h38, h39, if_true, if_false, not_false_eq_true, not_true_eq_false, ↓reduceIte]; done) | (simp only [gt_rnum, gt_rnE, rnX, h22, eq_true h31, h34, eq_true h35, h38, h39, if_true, if_false, not_false_eq_true, not_true_eq_false, ↓reduceIte, wMix, wLog, wPic, wRep, wScr, wVM, wMd, sR_eq, sR_ne, sF_eq, sF_ne, upd_eq, upd_ne, gs_eq, gs_ne, gm_4, gm_ne, Nat.reduceBEq]; done) | (with_reducible rfl) | contradiction | (simp only [gt_rnum, gt_rnE, rnX, h22, eq_true h31, h34, eq_true h35, h38, h39, if_true, if_false, not_false_eq_true, not_true_eq_false, ↓reduceIte]; rfl) | rfl) (by subst ex; first | (simp only [gt_rnum, gt_rnE, rnX, h22, eq_true h31, h34, eq_true h35, h38, h39, if_true, if_false, not_false_eq_true, not_true_eq_false, ↓reduceIte]; done) | (simp only [gt_rnum, gt_rnE, rnX, h22, eq_true h31, h34, eq_true h35, h38, h39, if_true, if_false, not_false_eq_true, not_true_eq_false, ↓reduceIte, wMix, wLog, wPic, wRep, wScr, wVM, wMd, sR_eq, sR_ne, sF_eq, sF_ne, upd_eq, upd_ne, gs_eq, gs_ne, gm_4, gm_ne, Nat.reduceBEq]; done) | (with_reducible rfl) | contradiction | (simp only [gt_rnum, gt_rnE, rnX, h22, eq_true h31, h34, eq_true h35, h38, h39, if_true, if_false, not_false_eq_true, not_true_eq_false, ↓reduceIte]; rfl) | rfl)
                · refine y_aload_n Z dX4_readNumber_106 0 rfl rfl ?_
                  refine y_iload Z dX4_readNumber_107 4 rfl ?_
                  refine y_VV Z (k_X4_miss l D ht0 aC x.1 (C 0 2)) (y_cwV 1 Z ml_RX4_49 im_X4_miss se_X4_miss in_X4 co_X4_miss rfl rfl hd_X4_miss ⟨Nat.le_of_ble_eq_true rfl, Nat.le_of_ble_eq_true rfl⟩) [0, 1, 2] rfl (by decide) 4 0 rfl rfl rfl rfl (Nat.le_of_ble_eq_true rfl) dX4_readNumber_109 ⟨Nat.le_of_ble_eq_true rfl, Nat.le_of_ble_eq_true rfl⟩ [(aC 0), (aC 1), (aC 2)] rfl rfl (wScr cI aC (gt_miss x.1 (C 0 2))) rfl ?_
                  refine y_iload Z dX4_readNumber_112 5 rfl ?_
                  exact y_retI Z hr hlk dX4_readNumber_114 (by subst ex; first | (simp only [gt_rnum, gt_rnE, rnX, h22, eq_true h31, h34, eq_true h35, h38, h40, if_true, if_false, not_false_eq_true, not_true_eq_false, ↓reduceIte]; done) | (simp only [gt_rnum, gt_rnE, rnX, h22, eq_true h31, h34, eq_true h35, h38, h40, if_true, if_false, not_false_eq_true, not_true_eq_false, ↓reduceIte, wMix, wLog, wPic, wRep, wScr, wVM, wMd, sR_eq, sR_ne, sF_eq, sF_ne, upd_eq, upd_ne, gs_eq, gs_ne, gm_4, gm_ne, Nat.reduceBEq]; done) | (with_reducible rfl) | contradiction | (simp only [gt_rnum, gt_rnE, rnX, h22, eq_true h31, h34, eq_true h35, h38, h40, if_true, if_false, not_false_eq_true, not_true_eq_false, ↓reduceIte]; rfl) | rfl) (by subst ex; first | (simp only [gt_rnum, gt_rnE, rnX, h22, eq_true h31, h34, eq_true h35, h38, h40, if_true, if_false, not_false_eq_true, not_true_eq_false, ↓reduceIte]; done) | (simp only [gt_rnum, gt_rnE, rnX, h22, eq_true h31, h34, eq_true h35, h38, h40, if_true, if_false, not_false_eq_true, not_true_eq_false, ↓reduceIte, wMix, wLog, wPic, wRep, wScr, wVM, wMd, sR_eq, sR_ne, sF_eq, sF_ne, upd_eq, upd_ne, gs_eq, gs_ne, gm_4, gm_ne, Nat.reduceBEq]; done) | (with_reducible rfl) | contradiction | (simp only [gt_rnum, gt_rnE, rnX, h22, eq_true h31, h34, eq_true h35, h38, h40, if_true, if_false, not_false_eq_true, not_true_eq_false, ↓reduceIte]; rfl) | rfl)
            · refine y_aload_n Z dX4_readNumber_83 0 rfl rfl ?_
              refine y_aload_n Z dX4_readNumber_84 0 rfl rfl ?_
              refine y_get (C := RX4) (T := TX4) (N := 6) Z 4 inlX4 rfl 0 rfl 4 (by decide) fl_RX4_33 rfl dX4_readNumber_85 ?_
              refine y_VV Z (k_X4_miss l D ht0 aC x.1 (x.1 0 2)) (y_cwV 1 Z ml_RX4_49 im_X4_miss se_X4_miss in_X4 co_X4_miss rfl rfl hd_X4_miss ⟨Nat.le_of_ble_eq_true rfl, Nat.le_of_ble_eq_true rfl⟩) [0, 1, 2] rfl (by decide) 4 0 rfl rfl rfl rfl (Nat.le_of_ble_eq_true rfl) dX4_readNumber_88 ⟨Nat.le_of_ble_eq_true rfl, Nat.le_of_ble_eq_true rfl⟩ [(aC 0), (aC 1), (aC 2)] rfl rfl (wScr cI aC (gt_miss x.1 (x.1 0 2))) rfl ?_
              refine y_goto (tgt := 112) Z dX4_readNumber_91 (by decide) ?_
              refine y_iload Z dX4_readNumber_112 5 rfl ?_
              exact y_retI Z hr hlk dX4_readNumber_114 (by subst ex; first | (simp only [gt_rnum, gt_rnE, rnX, h22, eq_true h31, h34, h36, if_true, if_false, not_false_eq_true, not_true_eq_false, ↓reduceIte]; done) | (simp only [gt_rnum, gt_rnE, rnX, h22, eq_true h31, h34, h36, if_true, if_false, not_false_eq_true, not_true_eq_false, ↓reduceIte, wMix, wLog, wPic, wRep, wScr, wVM, wMd, sR_eq, sR_ne, sF_eq, sF_ne, upd_eq, upd_ne, gs_eq, gs_ne, gm_4, gm_ne, Nat.reduceBEq]; done) | (with_reducible rfl) | contradiction | (simp only [gt_rnum, gt_rnE, rnX, h22, eq_true h31, h34, h36, if_true, if_false, not_false_eq_true, not_true_eq_false, ↓reduceIte]; rfl) | rfl) (by subst ex; first | (simp only [gt_rnum, gt_rnE, rnX, h22, eq_true h31, h34, h36, if_true, if_false, not_false_eq_true, not_true_eq_false, ↓reduceIte]; done) | (simp only [gt_rnum, gt_rnE, rnX, h22, eq_true h31, h34, h36, if_true, if_false, not_false_eq_true, not_true_eq_false, ↓reduceIte, wMix, wLog, wPic, wRep, wScr, wVM, wMd, sR_eq, sR_ne, sF_eq, sF_ne, upd_eq, upd_ne, gs_eq, gs_ne, gm_4, gm_ne, Nat.reduceBEq]; done) | (with_reducible rfl) | contradiction | (simp only [gt_rnum, gt_rnE, rnX, h22, eq_true h31, h34, h36, if_true, if_false, not_false_eq_true, not_true_eq_false, ↓reduceIte]; rfl) | rfl)
        · have hb : (rnC mo) x = true := by simp only [rnC, h22, h32, ↓reduceIte]
          refine y_bipush (v := 10) Z dX4_readNumber_30 (by decide) ?_
          refine y_iload Z dX4_readNumber_32 5 rfl ?_
          refine y_imul Z dX4_readNumber_34 ?_
          refine y_aload_n Z dX4_readNumber_35 0 rfl rfl ?_
          refine y_aload_n Z dX4_readNumber_36 0 rfl rfl ?_
          refine y_get (C := RX4) (T := TX4) (N := 6) Z 4 inlX4 rfl 0 rfl 4 (by decide) fl_RX4_33 rfl dX4_readNumber_37 ?_
          refine y_VI Z (k_X4_digitAt l D ht0 aC x.1 (x.1 0 2)) (y_cwV 1 Z ml_RX4_67 im_X4_digitAt se_X4_digitAt in_X4 co_X4_digitAt rfl rfl hd_X4_digitAt ⟨Nat.le_of_ble_eq_true rfl, Nat.le_of_ble_eq_true rfl⟩) [0, 1, 2] rfl (by decide) 4 0 rfl rfl rfl rfl (Nat.le_of_ble_eq_true rfl) dX4_readNumber_40 ⟨Nat.le_of_ble_eq_true rfl, Nat.le_of_ble_eq_true rfl⟩ [(aC 0), (aC 1), (aC 2)] rfl rfl (wScr cI aC x.1) rfl ?_
          refine y_iadd Z dX4_readNumber_43 ?_
          refine y_istore Z [(5, .int ((10 * x.2.1) + dgF x.1 (x.1 0 2))), (0, .ref (aC 0)), (1, .int mo), (2, .int lo), (3, .int hi), (4, .int (C 0 2)), (6, .int x.2.2)] dX4_readNumber_44 (by decide) rfl ?_
          refine y_aload_n Z dX4_readNumber_46 1 rfl rfl ?_
          refine y_dup Z dX4_readNumber_47 rfl ?_
          refine y_get (C := RX4) (T := TX4) (N := 6) Z 4 inlX4 rfl 0 rfl 4 (by decide) fl_RX4_33 rfl dX4_readNumber_48 ?_
          refine y_iconst (v := 1) Z dX4_readNumber_51 (by decide) ?_
          refine y_iadd Z dX4_readNumber_52 ?_
          refine y_put (C := RX4) (T := TX4) (N := 6) Z 4 inlX4 rfl tyX4 tyX4_ok nmX4 0 rfl 4 (by decide) fl_RX4_33 rfl rfl rfl (Nat.le_of_ble_eq_true rfl) (wScrR cI aC (x.1 0 0) (x.1 0 1) ((x.1 0 2) + 1) (x.1 0 3) (x.1 1) (x.1 2)) rfl dX4_readNumber_53 ?_
          refine y_iinc Z [(6, .int (x.2.2 + 1)), (5, .int ((10 * x.2.1) + dgF x.1 (x.1 0 2))), (0, .ref (aC 0)), (1, .int mo), (2, .int lo), (3, .int hi), (4, .int (C 0 2))] dX4_readNumber_56 6 rfl rfl (by decide) rfl ?_
          refine y_goto (tgt := 12) Z dX4_readNumber_59 (by decide) ?_
          refine y_lv [2, 3, 4, 5, 6, 1, 0] rfl ?_
          refine y_eq (ws' := (wScr cI aC ((rnB x).1))) (lv' := [(0, .ref (aC 0)), (1, .int mo), (2, .int lo), (3, .int hi), (4, .int (C 0 2)), (5, .int ((rnB x).2.1)), (6, .int ((rnB x).2.2))]) (st' := []) (by first | (simp only [rnB, gt_at, h22, h32, if_true, if_false, not_false_eq_true, not_true_eq_false, ↓reduceIte]; done) | (simp only [rnB, gt_at, h22, h32, if_true, if_false, not_false_eq_true, not_true_eq_false, ↓reduceIte, wMix, wLog, wPic, wRep, wScr, wVM, wMd, sR_eq, sR_ne, sF_eq, sF_ne, upd_eq, upd_ne, gs_eq, gs_ne, gm_4, gm_ne, Nat.reduceBEq]; done) | (with_reducible rfl) | contradiction | (simp only [rnB, gt_at, h22, h32, if_true, if_false, not_false_eq_true, not_true_eq_false, ↓reduceIte]; rfl) | rfl) (by first | (simp only [rnB, gt_at, h22, h32, if_true, if_false, not_false_eq_true, not_true_eq_false, ↓reduceIte]; done) | (simp only [rnB, gt_at, h22, h32, if_true, if_false, not_false_eq_true, not_true_eq_false, ↓reduceIte, wMix, wLog, wPic, wRep, wScr, wVM, wMd, sR_eq, sR_ne, sF_eq, sF_ne, upd_eq, upd_ne, gs_eq, gs_ne, gm_4, gm_ne, Nat.reduceBEq]; done) | (with_reducible rfl) | contradiction | (simp only [rnB, gt_at, h22, h32, if_true, if_false, not_false_eq_true, not_true_eq_false, ↓reduceIte]; rfl) | rfl) rfl ?_
          exact ih _ (by rw [lw_t hb] at hc; exact hc) (by rw [lw_t hb] at hx; exact hx)
  refine y_aload_n Z dX4_readNumber_0 0 rfl rfl ?_
  refine y_get (C := RX4) (T := TX4) (N := 6) Z 4 inlX4 rfl 0 rfl 4 (by decide) fl_RX4_33 rfl dX4_readNumber_1 ?_
  refine y_istore Z [(4, .int (C 0 2)), (0, .ref (aC 0)), (1, .int mo), (2, .int lo), (3, .int hi)] dX4_readNumber_4 (by decide) rfl ?_
  refine y_iconst (v := 0) Z dX4_readNumber_6 (by decide) ?_
  refine y_istore Z [(5, .int 0), (4, .int (C 0 2)), (0, .ref (aC 0)), (1, .int mo), (2, .int lo), (3, .int hi)] dX4_readNumber_7 (by decide) rfl ?_
  refine y_iconst (v := 0) Z dX4_readNumber_9 (by decide) ?_
  refine y_istore Z [(6, .int 0), (5, .int 0), (4, .int (C 0 2)), (0, .ref (aC 0)), (1, .int mo), (2, .int lo), (3, .int hi)] dX4_readNumber_10 (by decide) rfl ?_
  refine y_lv [3, 4, 5, 6, 2, 1, 0] rfl ?_
  exact L12 5 (C, 0, 0) (rn_stop C mo h_mo) rfl
set_option maxHeartbeats 4000000 in
set_option maxRecDepth 100000 in
theorem k_X4_keep (l : Launch) (D : va_G) {cI : ClassId} {tys : List (ClassId × FieldType)} (ht0 : tys[0]? = some (cI, .int)) (aC : Nat → Nat) (C : Nat → Nat → Int32) (w : Int32) (a : Int32) (b : Int32) (sz : Nat) : kV l yX4_keep cX4_keep 4 none { frames := 1, cells := 0, slots := 0, locals := 22 } D tys [.ref (aC 0), .int w, .int a, .int b] (wScr cI aC C) (wScr cI aC (gt_keep C w a b)) 0 0 sz := by
  refine y_enterV (cc := cX4_keep) (maxL := 4) (ret := none) (own := RX4) (by decide) rfl (lv0 := [(0, .ref (aC 0)), (1, .int w), (2, .int a), (3, .int b)]) rfl (Nat.le_of_ble_eq_true rfl) ?_
  intro p e s m args below meth c A Z hr hlk _
  refine y_aload_n Z dX4_keep_0 0 rfl rfl ?_
  refine y_get (C := RX4) (T := TX4) (N := 6) Z 4 inlX4 rfl 0 rfl 1 (by decide) fl_RX4_15 rfl dX4_keep_1 ?_
  refine y_aload_n Z dX4_keep_4 0 rfl rfl ?_
  refine y_get (C := RX4) (T := TX4) (N := 6) Z 4 inlX4 rfl 0 rfl 3 (by decide) fl_RX4_26 rfl dX4_keep_5 ?_
  refine y_iconst (v := 3) Z dX4_keep_8 (by decide) ?_
  refine y_imul Z dX4_keep_9 ?_
  refine y_iload_n Z dX4_keep_10 1 rfl rfl ?_
  refine y_NV Z (k_X5_put l D ht0 (aC 2) 180 (C 2) ((C 0 1) * 3) w (by decide)) (y_cn (n := 3) (host := RX5) Z co_X5_put rfl rfl nm_RX4_22 in_X5 st_X5_put hs_X5_put ⟨Nat.le_of_ble_eq_true rfl, Nat.le_of_ble_eq_true rfl⟩) [2] rfl (by decide) rfl rfl (Nat.le_of_ble_eq_true rfl) dX4_keep_11 ⟨Nat.le_of_ble_eq_true rfl, Nat.le_of_ble_eq_true rfl⟩ [(aC 2)] rfl rfl (wScrR cI aC (C 0 0) (C 0 1) (C 0 2) (C 0 3) (C 1) (putF (C 2) 180 ((C 0 1) * 3) w)) rfl ?_
  refine y_aload_n Z dX4_keep_14 0 rfl rfl ?_
  refine y_get (C := RX4) (T := TX4) (N := 6) Z 4 inlX4 rfl 0 rfl 1 (by decide) fl_RX4_15 rfl dX4_keep_15 ?_
  refine y_aload_n Z dX4_keep_18 0 rfl rfl ?_
  refine y_get (C := RX4) (T := TX4) (N := 6) Z 4 inlX4 rfl 0 rfl 3 (by decide) fl_RX4_26 rfl dX4_keep_19 ?_
  refine y_iconst (v := 3) Z dX4_keep_22 (by decide) ?_
  refine y_imul Z dX4_keep_23 ?_
  refine y_iconst (v := 1) Z dX4_keep_24 (by decide) ?_
  refine y_iadd Z dX4_keep_25 ?_
  refine y_iload_n Z dX4_keep_26 2 rfl rfl ?_
  refine y_NV Z (k_X5_put l D ht0 (aC 2) 180 (putF (C 2) 180 ((C 0 1) * 3) w) (((C 0 1) * 3) + 1) a (by decide)) (y_cn (n := 3) (host := RX5) Z co_X5_put rfl rfl nm_RX4_22 in_X5 st_X5_put hs_X5_put ⟨Nat.le_of_ble_eq_true rfl, Nat.le_of_ble_eq_true rfl⟩) [2] rfl (by decide) rfl rfl (Nat.le_of_ble_eq_true rfl) dX4_keep_27 ⟨Nat.le_of_ble_eq_true rfl, Nat.le_of_ble_eq_true rfl⟩ [(aC 2)] rfl rfl (wScrR cI aC (C 0 0) (C 0 1) (C 0 2) (C 0 3) (C 1) (putF (putF (C 2) 180 ((C 0 1) * 3) w) 180 (((C 0 1) * 3) + 1) a)) rfl ?_
  refine y_aload_n Z dX4_keep_30 0 rfl rfl ?_
  refine y_get (C := RX4) (T := TX4) (N := 6) Z 4 inlX4 rfl 0 rfl 1 (by decide) fl_RX4_15 rfl dX4_keep_31 ?_
  refine y_aload_n Z dX4_keep_34 0 rfl rfl ?_
  refine y_get (C := RX4) (T := TX4) (N := 6) Z 4 inlX4 rfl 0 rfl 3 (by decide) fl_RX4_26 rfl dX4_keep_35 ?_
  refine y_iconst (v := 3) Z dX4_keep_38 (by decide) ?_
  refine y_imul Z dX4_keep_39 ?_
  refine y_iconst (v := 2) Z dX4_keep_40 (by decide) ?_
  refine y_iadd Z dX4_keep_41 ?_
  refine y_iload_n Z dX4_keep_42 3 rfl rfl ?_
  refine y_NV Z (k_X5_put l D ht0 (aC 2) 180 (putF (putF (C 2) 180 ((C 0 1) * 3) w) 180 (((C 0 1) * 3) + 1) a) (((C 0 1) * 3) + 2) b (by decide)) (y_cn (n := 3) (host := RX5) Z co_X5_put rfl rfl nm_RX4_22 in_X5 st_X5_put hs_X5_put ⟨Nat.le_of_ble_eq_true rfl, Nat.le_of_ble_eq_true rfl⟩) [2] rfl (by decide) rfl rfl (Nat.le_of_ble_eq_true rfl) dX4_keep_43 ⟨Nat.le_of_ble_eq_true rfl, Nat.le_of_ble_eq_true rfl⟩ [(aC 2)] rfl rfl (wScrR cI aC (C 0 0) (C 0 1) (C 0 2) (C 0 3) (C 1) (putF (putF (putF (C 2) 180 ((C 0 1) * 3) w) 180 (((C 0 1) * 3) + 1) a) 180 (((C 0 1) * 3) + 2) b)) rfl ?_
  refine y_aload_n Z dX4_keep_46 0 rfl rfl ?_
  refine y_dup Z dX4_keep_47 rfl ?_
  refine y_get (C := RX4) (T := TX4) (N := 6) Z 4 inlX4 rfl 0 rfl 3 (by decide) fl_RX4_26 rfl dX4_keep_48 ?_
  refine y_iconst (v := 1) Z dX4_keep_51 (by decide) ?_
  refine y_iadd Z dX4_keep_52 ?_
  refine y_put (C := RX4) (T := TX4) (N := 6) Z 4 inlX4 rfl tyX4 tyX4_ok nmX4 0 rfl 3 (by decide) fl_RX4_26 rfl rfl rfl (Nat.le_of_ble_eq_true rfl) (wScrR cI aC (C 0 0) ((C 0 1) + 1) (C 0 2) (C 0 3) (C 1) (putF (putF (putF (C 2) 180 ((C 0 1) * 3) w) 180 (((C 0 1) * 3) + 1) a) 180 (((C 0 1) * 3) + 2) b)) rfl dX4_keep_53 ?_
  exact y_retV Z hr hlk dX4_keep_56 (by first | (simp only [gt_keep, gt_cinc, gt_kp1, gt_kp2, gt_kp3, gt_cput, if_true, if_false, not_false_eq_true, not_true_eq_false, ↓reduceIte]; done) | (simp only [gt_keep, gt_cinc, gt_kp1, gt_kp2, gt_kp3, gt_cput, if_true, if_false, not_false_eq_true, not_true_eq_false, ↓reduceIte, wMix, wLog, wPic, wRep, wScr, wVM, wMd, sR_eq, sR_ne, sF_eq, sF_ne, upd_eq, upd_ne, gs_eq, gs_ne, gm_4, gm_ne, Nat.reduceBEq]; done) | (with_reducible rfl) | contradiction | (simp only [gt_keep, gt_cinc, gt_kp1, gt_kp2, gt_kp3, gt_cput, if_true, if_false, not_false_eq_true, not_true_eq_false, ↓reduceIte]; rfl) | rfl)
set_option maxHeartbeats 4000000 in
set_option maxRecDepth 100000 in
theorem k_X4_orderOf (l : Launch) (D : va_G) {cI : ClassId} {tys : List (ClassId × FieldType)} (ht0 : tys[0]? = some (cI, .int)) (g : Int32) (sz : Nat) : kI l yX4_orderOf cX4_orderOf 1 (some .int) { frames := 0, cells := 0, slots := 0, locals := 0 } D tys [.int g] ([] : va_W) ([] : va_W) (ordF g) 0 0 sz := by
  refine y_enterI (cc := cX4_orderOf) (maxL := 1) (ret := (some .int)) (own := RX4) (by decide) rfl (lv0 := [(0, .int g)]) rfl (Nat.le_of_ble_eq_true rfl) ?_
  intro p e s m args below meth c A Z hr hlk _
  refine y_iload_n Z dX4_orderOf_0 0 rfl rfl ?_
  rcases y_sw g 97 22 (by decide) with hs1 | ⟨j2, hj, hs1⟩
  · refine y_tableOut (tgt := 128) Z dX4_orderOf_1 hs1 (by decide) ?_
    have hs1_97 : ¬ g = 97 := y_swn hs1 97 (by decide) (by decide)
    have hs1_98 : ¬ g = 98 := y_swn hs1 98 (by decide) (by decide)
    have hs1_99 : ¬ g = 99 := y_swn hs1 99 (by decide) (by decide)
    have hs1_107 : ¬ g = 107 := y_swn hs1 107 (by decide) (by decide)
    have hs1_110 : ¬ g = 110 := y_swn hs1 110 (by decide) (by decide)
    have hs1_112 : ¬ g = 112 := y_swn hs1 112 (by decide) (by decide)
    have hs1_118 : ¬ g = 118 := y_swn hs1 118 (by decide) (by decide)
    have hs1_119 : ¬ g = 119 := y_swn hs1 119 (by decide) (by decide)
    refine y_iconst (v := -1) Z dX4_orderOf_128 (by decide) ?_
    exact y_retI Z hr hlk dX4_orderOf_129 (by first | (simp only [ordF, hs1_97, hs1_98, hs1_99, hs1_107, hs1_110, hs1_112, hs1_118, hs1_119, if_true, if_false, not_false_eq_true, not_true_eq_false, ↓reduceIte]; done) | (simp only [ordF, hs1_97, hs1_98, hs1_99, hs1_107, hs1_110, hs1_112, hs1_118, hs1_119, if_true, if_false, not_false_eq_true, not_true_eq_false, ↓reduceIte, wMix, wLog, wPic, wRep, wScr, wVM, wMd, sR_eq, sR_ne, sF_eq, sF_ne, upd_eq, upd_ne, gs_eq, gs_ne, gm_4, gm_ne, Nat.reduceBEq]; done) | (with_reducible rfl) | contradiction | (simp only [ordF, hs1_97, hs1_98, hs1_99, hs1_107, hs1_110, hs1_112, hs1_118, hs1_119, if_true, if_false, not_false_eq_true, not_true_eq_false, ↓reduceIte]; rfl) | rfl) (by first | (simp only [ordF, hs1_97, hs1_98, hs1_99, hs1_107, hs1_110, hs1_112, hs1_118, hs1_119, if_true, if_false, not_false_eq_true, not_true_eq_false, ↓reduceIte]; done) | (simp only [ordF, hs1_97, hs1_98, hs1_99, hs1_107, hs1_110, hs1_112, hs1_118, hs1_119, if_true, if_false, not_false_eq_true, not_true_eq_false, ↓reduceIte, wMix, wLog, wPic, wRep, wScr, wVM, wMd, sR_eq, sR_ne, sF_eq, sF_ne, upd_eq, upd_ne, gs_eq, gs_ne, gm_4, gm_ne, Nat.reduceBEq]; done) | (with_reducible rfl) | contradiction | (simp only [ordF, hs1_97, hs1_98, hs1_99, hs1_107, hs1_110, hs1_112, hs1_118, hs1_119, if_true, if_false, not_false_eq_true, not_true_eq_false, ↓reduceIte]; rfl) | rfl)
  · rcases (show j2 = 0 ∨ j2 = 1 ∨ j2 = 2 ∨ j2 = 3 ∨ j2 = 4 ∨ j2 = 5 ∨ j2 = 6 ∨ j2 = 7 ∨ j2 = 8 ∨ j2 = 9 ∨ j2 = 10 ∨ j2 = 11 ∨ j2 = 12 ∨ j2 = 13 ∨ j2 = 14 ∨ j2 = 15 ∨ j2 = 16 ∨ j2 = 17 ∨ j2 = 18 ∨ j2 = 19 ∨ j2 = 20 ∨ j2 = 21 ∨ j2 = 22 by omega) with rfl | rfl | rfl | rfl | rfl | rfl | rfl | rfl | rfl | rfl | rfl | rfl | rfl | rfl | rfl | rfl | rfl | rfl | rfl | rfl | rfl | rfl | rfl
    · replace hs1 : g = 97 := hs1
      refine y_tableIn (tgt := 119) (off := 118) Z dX4_orderOf_1 (by rw [hs1]; decide) (by rw [hs1]; decide) (by rw [hs1]; rfl) (by decide) ?_
      refine y_bipush (v := 7) Z dX4_orderOf_119 (by decide) ?_
      exact y_retI Z hr hlk dX4_orderOf_121 (by subst hs1; first | (simp only [ordF, if_true, if_false, not_false_eq_true, not_true_eq_false, ↓reduceIte]; done) | (simp only [ordF, if_true, if_false, not_false_eq_true, not_true_eq_false, ↓reduceIte, wMix, wLog, wPic, wRep, wScr, wVM, wMd, sR_eq, sR_ne, sF_eq, sF_ne, upd_eq, upd_ne, gs_eq, gs_ne, gm_4, gm_ne, Nat.reduceBEq]; done) | (with_reducible rfl) | contradiction | (simp only [ordF, if_true, if_false, not_false_eq_true, not_true_eq_false, ↓reduceIte]; rfl) | rfl) (by subst hs1; first | (simp only [ordF, if_true, if_false, not_false_eq_true, not_true_eq_false, ↓reduceIte]; done) | (simp only [ordF, if_true, if_false, not_false_eq_true, not_true_eq_false, ↓reduceIte, wMix, wLog, wPic, wRep, wScr, wVM, wMd, sR_eq, sR_ne, sF_eq, sF_ne, upd_eq, upd_ne, gs_eq, gs_ne, gm_4, gm_ne, Nat.reduceBEq]; done) | (with_reducible rfl) | contradiction | (simp only [ordF, if_true, if_false, not_false_eq_true, not_true_eq_false, ↓reduceIte]; rfl) | rfl)
    · replace hs1 : g = 98 := hs1
      refine y_tableIn (tgt := 122) (off := 121) Z dX4_orderOf_1 (by rw [hs1]; decide) (by rw [hs1]; decide) (by rw [hs1]; rfl) (by decide) ?_
      refine y_bipush (v := 8) Z dX4_orderOf_122 (by decide) ?_
      exact y_retI Z hr hlk dX4_orderOf_124 (by subst hs1; first | (simp only [ordF, if_true, if_false, not_false_eq_true, not_true_eq_false, ↓reduceIte]; done) | (simp only [ordF, if_true, if_false, not_false_eq_true, not_true_eq_false, ↓reduceIte, wMix, wLog, wPic, wRep, wScr, wVM, wMd, sR_eq, sR_ne, sF_eq, sF_ne, upd_eq, upd_ne, gs_eq, gs_ne, gm_4, gm_ne, Nat.reduceBEq]; done) | (with_reducible rfl) | contradiction | (simp only [ordF, if_true, if_false, not_false_eq_true, not_true_eq_false, ↓reduceIte]; rfl) | rfl) (by subst hs1; first | (simp only [ordF, if_true, if_false, not_false_eq_true, not_true_eq_false, ↓reduceIte]; done) | (simp only [ordF, if_true, if_false, not_false_eq_true, not_true_eq_false, ↓reduceIte, wMix, wLog, wPic, wRep, wScr, wVM, wMd, sR_eq, sR_ne, sF_eq, sF_ne, upd_eq, upd_ne, gs_eq, gs_ne, gm_4, gm_ne, Nat.reduceBEq]; done) | (with_reducible rfl) | contradiction | (simp only [ordF, if_true, if_false, not_false_eq_true, not_true_eq_false, ↓reduceIte]; rfl) | rfl)
    · replace hs1 : g = 99 := hs1
      refine y_tableIn (tgt := 116) (off := 115) Z dX4_orderOf_1 (by rw [hs1]; decide) (by rw [hs1]; decide) (by rw [hs1]; rfl) (by decide) ?_
      refine y_bipush (v := 6) Z dX4_orderOf_116 (by decide) ?_
      exact y_retI Z hr hlk dX4_orderOf_118 (by subst hs1; first | (simp only [ordF, if_true, if_false, not_false_eq_true, not_true_eq_false, ↓reduceIte]; done) | (simp only [ordF, if_true, if_false, not_false_eq_true, not_true_eq_false, ↓reduceIte, wMix, wLog, wPic, wRep, wScr, wVM, wMd, sR_eq, sR_ne, sF_eq, sF_ne, upd_eq, upd_ne, gs_eq, gs_ne, gm_4, gm_ne, Nat.reduceBEq]; done) | (with_reducible rfl) | contradiction | (simp only [ordF, if_true, if_false, not_false_eq_true, not_true_eq_false, ↓reduceIte]; rfl) | rfl) (by subst hs1; first | (simp only [ordF, if_true, if_false, not_false_eq_true, not_true_eq_false, ↓reduceIte]; done) | (simp only [ordF, if_true, if_false, not_false_eq_true, not_true_eq_false, ↓reduceIte, wMix, wLog, wPic, wRep, wScr, wVM, wMd, sR_eq, sR_ne, sF_eq, sF_ne, upd_eq, upd_ne, gs_eq, gs_ne, gm_4, gm_ne, Nat.reduceBEq]; done) | (with_reducible rfl) | contradiction | (simp only [ordF, if_true, if_false, not_false_eq_true, not_true_eq_false, ↓reduceIte]; rfl) | rfl)
    · replace hs1 : g = 100 := hs1
      refine y_tableIn (tgt := 128) (off := 127) Z dX4_orderOf_1 (by rw [hs1]; decide) (by rw [hs1]; decide) (by rw [hs1]; rfl) (by decide) ?_
      refine y_iconst (v := -1) Z dX4_orderOf_128 (by decide) ?_
      exact y_retI Z hr hlk dX4_orderOf_129 (by subst hs1; first | (simp only [ordF, if_true, if_false, not_false_eq_true, not_true_eq_false, ↓reduceIte]; done) | (simp only [ordF, if_true, if_false, not_false_eq_true, not_true_eq_false, ↓reduceIte, wMix, wLog, wPic, wRep, wScr, wVM, wMd, sR_eq, sR_ne, sF_eq, sF_ne, upd_eq, upd_ne, gs_eq, gs_ne, gm_4, gm_ne, Nat.reduceBEq]; done) | (with_reducible rfl) | contradiction | (simp only [ordF, if_true, if_false, not_false_eq_true, not_true_eq_false, ↓reduceIte]; rfl) | rfl) (by subst hs1; first | (simp only [ordF, if_true, if_false, not_false_eq_true, not_true_eq_false, ↓reduceIte]; done) | (simp only [ordF, if_true, if_false, not_false_eq_true, not_true_eq_false, ↓reduceIte, wMix, wLog, wPic, wRep, wScr, wVM, wMd, sR_eq, sR_ne, sF_eq, sF_ne, upd_eq, upd_ne, gs_eq, gs_ne, gm_4, gm_ne, Nat.reduceBEq]; done) | (with_reducible rfl) | contradiction | (simp only [ordF, if_true, if_false, not_false_eq_true, not_true_eq_false, ↓reduceIte]; rfl) | rfl)
    · replace hs1 : g = 101 := hs1
      refine y_tableIn (tgt := 128) (off := 127) Z dX4_orderOf_1 (by rw [hs1]; decide) (by rw [hs1]; decide) (by rw [hs1]; rfl) (by decide) ?_
      refine y_iconst (v := -1) Z dX4_orderOf_128 (by decide) ?_
      exact y_retI Z hr hlk dX4_orderOf_129 (by subst hs1; first | (simp only [ordF, if_true, if_false, not_false_eq_true, not_true_eq_false, ↓reduceIte]; done) | (simp only [ordF, if_true, if_false, not_false_eq_true, not_true_eq_false, ↓reduceIte, wMix, wLog, wPic, wRep, wScr, wVM, wMd, sR_eq, sR_ne, sF_eq, sF_ne, upd_eq, upd_ne, gs_eq, gs_ne, gm_4, gm_ne, Nat.reduceBEq]; done) | (with_reducible rfl) | contradiction | (simp only [ordF, if_true, if_false, not_false_eq_true, not_true_eq_false, ↓reduceIte]; rfl) | rfl) (by subst hs1; first | (simp only [ordF, if_true, if_false, not_false_eq_true, not_true_eq_false, ↓reduceIte]; done) | (simp only [ordF, if_true, if_false, not_false_eq_true, not_true_eq_false, ↓reduceIte, wMix, wLog, wPic, wRep, wScr, wVM, wMd, sR_eq, sR_ne, sF_eq, sF_ne, upd_eq, upd_ne, gs_eq, gs_ne, gm_4, gm_ne, Nat.reduceBEq]; done) | (with_reducible rfl) | contradiction | (simp only [ordF, if_true, if_false, not_false_eq_true, not_true_eq_false, ↓reduceIte]; rfl) | rfl)
    · replace hs1 : g = 102 := hs1
      refine y_tableIn (tgt := 128) (off := 127) Z dX4_orderOf_1 (by rw [hs1]; decide) (by rw [hs1]; decide) (by rw [hs1]; rfl) (by decide) ?_
      refine y_iconst (v := -1) Z dX4_orderOf_128 (by decide) ?_
      exact y_retI Z hr hlk dX4_orderOf_129 (by subst hs1; first | (simp only [ordF, if_true, if_false, not_false_eq_true, not_true_eq_false, ↓reduceIte]; done) | (simp only [ordF, if_true, if_false, not_false_eq_true, not_true_eq_false, ↓reduceIte, wMix, wLog, wPic, wRep, wScr, wVM, wMd, sR_eq, sR_ne, sF_eq, sF_ne, upd_eq, upd_ne, gs_eq, gs_ne, gm_4, gm_ne, Nat.reduceBEq]; done) | (with_reducible rfl) | contradiction | (simp only [ordF, if_true, if_false, not_false_eq_true, not_true_eq_false, ↓reduceIte]; rfl) | rfl) (by subst hs1; first | (simp only [ordF, if_true, if_false, not_false_eq_true, not_true_eq_false, ↓reduceIte]; done) | (simp only [ordF, if_true, if_false, not_false_eq_true, not_true_eq_false, ↓reduceIte, wMix, wLog, wPic, wRep, wScr, wVM, wMd, sR_eq, sR_ne, sF_eq, sF_ne, upd_eq, upd_ne, gs_eq, gs_ne, gm_4, gm_ne, Nat.reduceBEq]; done) | (with_reducible rfl) | contradiction | (simp only [ordF, if_true, if_false, not_false_eq_true, not_true_eq_false, ↓reduceIte]; rfl) | rfl)
    · replace hs1 : g = 103 := hs1
      refine y_tableIn (tgt := 128) (off := 127) Z dX4_orderOf_1 (by rw [hs1]; decide) (by rw [hs1]; decide) (by rw [hs1]; rfl) (by decide) ?_
      refine y_iconst (v := -1) Z dX4_orderOf_128 (by decide) ?_
      exact y_retI Z hr hlk dX4_orderOf_129 (by subst hs1; first | (simp only [ordF, if_true, if_false, not_false_eq_true, not_true_eq_false, ↓reduceIte]; done) | (simp only [ordF, if_true, if_false, not_false_eq_true, not_true_eq_false, ↓reduceIte, wMix, wLog, wPic, wRep, wScr, wVM, wMd, sR_eq, sR_ne, sF_eq, sF_ne, upd_eq, upd_ne, gs_eq, gs_ne, gm_4, gm_ne, Nat.reduceBEq]; done) | (with_reducible rfl) | contradiction | (simp only [ordF, if_true, if_false, not_false_eq_true, not_true_eq_false, ↓reduceIte]; rfl) | rfl) (by subst hs1; first | (simp only [ordF, if_true, if_false, not_false_eq_true, not_true_eq_false, ↓reduceIte]; done) | (simp only [ordF, if_true, if_false, not_false_eq_true, not_true_eq_false, ↓reduceIte, wMix, wLog, wPic, wRep, wScr, wVM, wMd, sR_eq, sR_ne, sF_eq, sF_ne, upd_eq, upd_ne, gs_eq, gs_ne, gm_4, gm_ne, Nat.reduceBEq]; done) | (with_reducible rfl) | contradiction | (simp only [ordF, if_true, if_false, not_false_eq_true, not_true_eq_false, ↓reduceIte]; rfl) | rfl)
    · replace hs1 : g = 104 := hs1
      refine y_tableIn (tgt := 128) (off := 127) Z dX4_orderOf_1 (by rw [hs1]; decide) (by rw [hs1]; decide) (by rw [hs1]; rfl) (by decide) ?_
      refine y_iconst (v := -1) Z dX4_orderOf_128 (by decide) ?_
      exact y_retI Z hr hlk dX4_orderOf_129 (by subst hs1; first | (simp only [ordF, if_true, if_false, not_false_eq_true, not_true_eq_false, ↓reduceIte]; done) | (simp only [ordF, if_true, if_false, not_false_eq_true, not_true_eq_false, ↓reduceIte, wMix, wLog, wPic, wRep, wScr, wVM, wMd, sR_eq, sR_ne, sF_eq, sF_ne, upd_eq, upd_ne, gs_eq, gs_ne, gm_4, gm_ne, Nat.reduceBEq]; done) | (with_reducible rfl) | contradiction | (simp only [ordF, if_true, if_false, not_false_eq_true, not_true_eq_false, ↓reduceIte]; rfl) | rfl) (by subst hs1; first | (simp only [ordF, if_true, if_false, not_false_eq_true, not_true_eq_false, ↓reduceIte]; done) | (simp only [ordF, if_true, if_false, not_false_eq_true, not_true_eq_false, ↓reduceIte, wMix, wLog, wPic, wRep, wScr, wVM, wMd, sR_eq, sR_ne, sF_eq, sF_ne, upd_eq, upd_ne, gs_eq, gs_ne, gm_4, gm_ne, Nat.reduceBEq]; done) | (with_reducible rfl) | contradiction | (simp only [ordF, if_true, if_false, not_false_eq_true, not_true_eq_false, ↓reduceIte]; rfl) | rfl)
    · replace hs1 : g = 105 := hs1
      refine y_tableIn (tgt := 128) (off := 127) Z dX4_orderOf_1 (by rw [hs1]; decide) (by rw [hs1]; decide) (by rw [hs1]; rfl) (by decide) ?_
      refine y_iconst (v := -1) Z dX4_orderOf_128 (by decide) ?_
      exact y_retI Z hr hlk dX4_orderOf_129 (by subst hs1; first | (simp only [ordF, if_true, if_false, not_false_eq_true, not_true_eq_false, ↓reduceIte]; done) | (simp only [ordF, if_true, if_false, not_false_eq_true, not_true_eq_false, ↓reduceIte, wMix, wLog, wPic, wRep, wScr, wVM, wMd, sR_eq, sR_ne, sF_eq, sF_ne, upd_eq, upd_ne, gs_eq, gs_ne, gm_4, gm_ne, Nat.reduceBEq]; done) | (with_reducible rfl) | contradiction | (simp only [ordF, if_true, if_false, not_false_eq_true, not_true_eq_false, ↓reduceIte]; rfl) | rfl) (by subst hs1; first | (simp only [ordF, if_true, if_false, not_false_eq_true, not_true_eq_false, ↓reduceIte]; done) | (simp only [ordF, if_true, if_false, not_false_eq_true, not_true_eq_false, ↓reduceIte, wMix, wLog, wPic, wRep, wScr, wVM, wMd, sR_eq, sR_ne, sF_eq, sF_ne, upd_eq, upd_ne, gs_eq, gs_ne, gm_4, gm_ne, Nat.reduceBEq]; done) | (with_reducible rfl) | contradiction | (simp only [ordF, if_true, if_false, not_false_eq_true, not_true_eq_false, ↓reduceIte]; rfl) | rfl)
    · replace hs1 : g = 106 := hs1
      refine y_tableIn (tgt := 128) (off := 127) Z dX4_orderOf_1 (by rw [hs1]; decide) (by rw [hs1]; decide) (by rw [hs1]; rfl) (by decide) ?_
      refine y_iconst (v := -1) Z dX4_orderOf_128 (by decide) ?_
      exact y_retI Z hr hlk dX4_orderOf_129 (by subst hs1; first | (simp only [ordF, if_true, if_false, not_false_eq_true, not_true_eq_false, ↓reduceIte]; done) | (simp only [ordF, if_true, if_false, not_false_eq_true, not_true_eq_false, ↓reduceIte, wMix, wLog, wPic, wRep, wScr, wVM, wMd, sR_eq, sR_ne, sF_eq, sF_ne, upd_eq, upd_ne, gs_eq, gs_ne, gm_4, gm_ne, Nat.reduceBEq]; done) | (with_reducible rfl) | contradiction | (simp only [ordF, if_true, if_false, not_false_eq_true, not_true_eq_false, ↓reduceIte]; rfl) | rfl) (by subst hs1; first | (simp only [ordF, if_true, if_false, not_false_eq_true, not_true_eq_false, ↓reduceIte]; done) | (simp only [ordF, if_true, if_false, not_false_eq_true, not_true_eq_false, ↓reduceIte, wMix, wLog, wPic, wRep, wScr, wVM, wMd, sR_eq, sR_ne, sF_eq, sF_ne, upd_eq, upd_ne, gs_eq, gs_ne, gm_4, gm_ne, Nat.reduceBEq]; done) | (with_reducible rfl) | contradiction | (simp only [ordF, if_true, if_false, not_false_eq_true, not_true_eq_false, ↓reduceIte]; rfl) | rfl)
    · replace hs1 : g = 107 := hs1
      refine y_tableIn (tgt := 112) (off := 111) Z dX4_orderOf_1 (by rw [hs1]; decide) (by rw [hs1]; decide) (by rw [hs1]; rfl) (by decide) ?_
      refine y_iconst (v := 2) Z dX4_orderOf_112 (by decide) ?_
      exact y_retI Z hr hlk dX4_orderOf_113 (by subst hs1; first | (simp only [ordF, if_true, if_false, not_false_eq_true, not_true_eq_false, ↓reduceIte]; done) | (simp only [ordF, if_true, if_false, not_false_eq_true, not_true_eq_false, ↓reduceIte, wMix, wLog, wPic, wRep, wScr, wVM, wMd, sR_eq, sR_ne, sF_eq, sF_ne, upd_eq, upd_ne, gs_eq, gs_ne, gm_4, gm_ne, Nat.reduceBEq]; done) | (with_reducible rfl) | contradiction | (simp only [ordF, if_true, if_false, not_false_eq_true, not_true_eq_false, ↓reduceIte]; rfl) | rfl) (by subst hs1; first | (simp only [ordF, if_true, if_false, not_false_eq_true, not_true_eq_false, ↓reduceIte]; done) | (simp only [ordF, if_true, if_false, not_false_eq_true, not_true_eq_false, ↓reduceIte, wMix, wLog, wPic, wRep, wScr, wVM, wMd, sR_eq, sR_ne, sF_eq, sF_ne, upd_eq, upd_ne, gs_eq, gs_ne, gm_4, gm_ne, Nat.reduceBEq]; done) | (with_reducible rfl) | contradiction | (simp only [ordF, if_true, if_false, not_false_eq_true, not_true_eq_false, ↓reduceIte]; rfl) | rfl)
    · replace hs1 : g = 108 := hs1
      refine y_tableIn (tgt := 128) (off := 127) Z dX4_orderOf_1 (by rw [hs1]; decide) (by rw [hs1]; decide) (by rw [hs1]; rfl) (by decide) ?_
      refine y_iconst (v := -1) Z dX4_orderOf_128 (by decide) ?_
      exact y_retI Z hr hlk dX4_orderOf_129 (by subst hs1; first | (simp only [ordF, if_true, if_false, not_false_eq_true, not_true_eq_false, ↓reduceIte]; done) | (simp only [ordF, if_true, if_false, not_false_eq_true, not_true_eq_false, ↓reduceIte, wMix, wLog, wPic, wRep, wScr, wVM, wMd, sR_eq, sR_ne, sF_eq, sF_ne, upd_eq, upd_ne, gs_eq, gs_ne, gm_4, gm_ne, Nat.reduceBEq]; done) | (with_reducible rfl) | contradiction | (simp only [ordF, if_true, if_false, not_false_eq_true, not_true_eq_false, ↓reduceIte]; rfl) | rfl) (by subst hs1; first | (simp only [ordF, if_true, if_false, not_false_eq_true, not_true_eq_false, ↓reduceIte]; done) | (simp only [ordF, if_true, if_false, not_false_eq_true, not_true_eq_false, ↓reduceIte, wMix, wLog, wPic, wRep, wScr, wVM, wMd, sR_eq, sR_ne, sF_eq, sF_ne, upd_eq, upd_ne, gs_eq, gs_ne, gm_4, gm_ne, Nat.reduceBEq]; done) | (with_reducible rfl) | contradiction | (simp only [ordF, if_true, if_false, not_false_eq_true, not_true_eq_false, ↓reduceIte]; rfl) | rfl)
    · replace hs1 : g = 109 := hs1
      refine y_tableIn (tgt := 128) (off := 127) Z dX4_orderOf_1 (by rw [hs1]; decide) (by rw [hs1]; decide) (by rw [hs1]; rfl) (by decide) ?_
      refine y_iconst (v := -1) Z dX4_orderOf_128 (by decide) ?_
      exact y_retI Z hr hlk dX4_orderOf_129 (by subst hs1; first | (simp only [ordF, if_true, if_false, not_false_eq_true, not_true_eq_false, ↓reduceIte]; done) | (simp only [ordF, if_true, if_false, not_false_eq_true, not_true_eq_false, ↓reduceIte, wMix, wLog, wPic, wRep, wScr, wVM, wMd, sR_eq, sR_ne, sF_eq, sF_ne, upd_eq, upd_ne, gs_eq, gs_ne, gm_4, gm_ne, Nat.reduceBEq]; done) | (with_reducible rfl) | contradiction | (simp only [ordF, if_true, if_false, not_false_eq_true, not_true_eq_false, ↓reduceIte]; rfl) | rfl) (by subst hs1; first | (simp only [ordF, if_true, if_false, not_false_eq_true, not_true_eq_false, ↓reduceIte]; done) | (simp only [ordF, if_true, if_false, not_false_eq_true, not_true_eq_false, ↓reduceIte, wMix, wLog, wPic, wRep, wScr, wVM, wMd, sR_eq, sR_ne, sF_eq, sF_ne, upd_eq, upd_ne, gs_eq, gs_ne, gm_4, gm_ne, Nat.reduceBEq]; done) | (with_reducible rfl) | contradiction | (simp only [ordF, if_true, if_false, not_false_eq_true, not_true_eq_false, ↓reduceIte]; rfl) | rfl)
    · replace hs1 : g = 110 := hs1
      refine y_tableIn (tgt := 114) (off := 113) Z dX4_orderOf_1 (by rw [hs1]; decide) (by rw [hs1]; decide) (by rw [hs1]; rfl) (by decide) ?_
      refine y_iconst (v := 3) Z dX4_orderOf_114 (by decide) ?_
      exact y_retI Z hr hlk dX4_orderOf_115 (by subst hs1; first | (simp only [ordF, if_true, if_false, not_false_eq_true, not_true_eq_false, ↓reduceIte]; done) | (simp only [ordF, if_true, if_false, not_false_eq_true, not_true_eq_false, ↓reduceIte, wMix, wLog, wPic, wRep, wScr, wVM, wMd, sR_eq, sR_ne, sF_eq, sF_ne, upd_eq, upd_ne, gs_eq, gs_ne, gm_4, gm_ne, Nat.reduceBEq]; done) | (with_reducible rfl) | contradiction | (simp only [ordF, if_true, if_false, not_false_eq_true, not_true_eq_false, ↓reduceIte]; rfl) | rfl) (by subst hs1; first | (simp only [ordF, if_true, if_false, not_false_eq_true, not_true_eq_false, ↓reduceIte]; done) | (simp only [ordF, if_true, if_false, not_false_eq_true, not_true_eq_false, ↓reduceIte, wMix, wLog, wPic, wRep, wScr, wVM, wMd, sR_eq, sR_ne, sF_eq, sF_ne, upd_eq, upd_ne, gs_eq, gs_ne, gm_4, gm_ne, Nat.reduceBEq]; done) | (with_reducible rfl) | contradiction | (simp only [ordF, if_true, if_false, not_false_eq_true, not_true_eq_false, ↓reduceIte]; rfl) | rfl)
    · replace hs1 : g = 111 := hs1
      refine y_tableIn (tgt := 128) (off := 127) Z dX4_orderOf_1 (by rw [hs1]; decide) (by rw [hs1]; decide) (by rw [hs1]; rfl) (by decide) ?_
      refine y_iconst (v := -1) Z dX4_orderOf_128 (by decide) ?_
      exact y_retI Z hr hlk dX4_orderOf_129 (by subst hs1; first | (simp only [ordF, if_true, if_false, not_false_eq_true, not_true_eq_false, ↓reduceIte]; done) | (simp only [ordF, if_true, if_false, not_false_eq_true, not_true_eq_false, ↓reduceIte, wMix, wLog, wPic, wRep, wScr, wVM, wMd, sR_eq, sR_ne, sF_eq, sF_ne, upd_eq, upd_ne, gs_eq, gs_ne, gm_4, gm_ne, Nat.reduceBEq]; done) | (with_reducible rfl) | contradiction | (simp only [ordF, if_true, if_false, not_false_eq_true, not_true_eq_false, ↓reduceIte]; rfl) | rfl) (by subst hs1; first | (simp only [ordF, if_true, if_false, not_false_eq_true, not_true_eq_false, ↓reduceIte]; done) | (simp only [ordF, if_true, if_false, not_false_eq_true, not_true_eq_false, ↓reduceIte, wMix, wLog, wPic, wRep, wScr, wVM, wMd, sR_eq, sR_ne, sF_eq, sF_ne, upd_eq, upd_ne, gs_eq, gs_ne, gm_4, gm_ne, Nat.reduceBEq]; done) | (with_reducible rfl) | contradiction | (simp only [ordF, if_true, if_false, not_false_eq_true, not_true_eq_false, ↓reduceIte]; rfl) | rfl)
    · replace hs1 : g = 112 := hs1
      refine y_tableIn (tgt := 108) (off := 107) Z dX4_orderOf_1 (by rw [hs1]; decide) (by rw [hs1]; decide) (by rw [hs1]; rfl) (by decide) ?_
      refine y_iconst (v := 0) Z dX4_orderOf_108 (by decide) ?_
      exact y_retI Z hr hlk dX4_orderOf_109 (by subst hs1; first | (simp only [ordF, if_true, if_false, not_false_eq_true, not_true_eq_false, ↓reduceIte]; done) | (simp only [ordF, if_true, if_false, not_false_eq_true, not_true_eq_false, ↓reduceIte, wMix, wLog, wPic, wRep, wScr, wVM, wMd, sR_eq, sR_ne, sF_eq, sF_ne, upd_eq, upd_ne, gs_eq, gs_ne, gm_4, gm_ne, Nat.reduceBEq]; done) | (with_reducible rfl) | contradiction | (simp only [ordF, if_true, if_false, not_false_eq_true, not_true_eq_false, ↓reduceIte]; rfl) | rfl) (by subst hs1; first | (simp only [ordF, if_true, if_false, not_false_eq_true, not_true_eq_false, ↓reduceIte]; done) | (simp only [ordF, if_true, if_false, not_false_eq_true, not_true_eq_false, ↓reduceIte, wMix, wLog, wPic, wRep, wScr, wVM, wMd, sR_eq, sR_ne, sF_eq, sF_ne, upd_eq, upd_ne, gs_eq, gs_ne, gm_4, gm_ne, Nat.reduceBEq]; done) | (with_reducible rfl) | contradiction | (simp only [ordF, if_true, if_false, not_false_eq_true, not_true_eq_false, ↓reduceIte]; rfl) | rfl)
    · replace hs1 : g = 113 := hs1
      refine y_tableIn (tgt := 128) (off := 127) Z dX4_orderOf_1 (by rw [hs1]; decide) (by rw [hs1]; decide) (by rw [hs1]; rfl) (by decide) ?_
      refine y_iconst (v := -1) Z dX4_orderOf_128 (by decide) ?_
      exact y_retI Z hr hlk dX4_orderOf_129 (by subst hs1; first | (simp only [ordF, if_true, if_false, not_false_eq_true, not_true_eq_false, ↓reduceIte]; done) | (simp only [ordF, if_true, if_false, not_false_eq_true, not_true_eq_false, ↓reduceIte, wMix, wLog, wPic, wRep, wScr, wVM, wMd, sR_eq, sR_ne, sF_eq, sF_ne, upd_eq, upd_ne, gs_eq, gs_ne, gm_4, gm_ne, Nat.reduceBEq]; done) | (with_reducible rfl) | contradiction | (simp only [ordF, if_true, if_false, not_false_eq_true, not_true_eq_false, ↓reduceIte]; rfl) | rfl) (by subst hs1; first | (simp only [ordF, if_true, if_false, not_false_eq_true, not_true_eq_false, ↓reduceIte]; done) | (simp only [ordF, if_true, if_false, not_false_eq_true, not_true_eq_false, ↓reduceIte, wMix, wLog, wPic, wRep, wScr, wVM, wMd, sR_eq, sR_ne, sF_eq, sF_ne, upd_eq, upd_ne, gs_eq, gs_ne, gm_4, gm_ne, Nat.reduceBEq]; done) | (with_reducible rfl) | contradiction | (simp only [ordF, if_true, if_false, not_false_eq_true, not_true_eq_false, ↓reduceIte]; rfl) | rfl)
    · replace hs1 : g = 114 := hs1
      refine y_tableIn (tgt := 128) (off := 127) Z dX4_orderOf_1 (by rw [hs1]; decide) (by rw [hs1]; decide) (by rw [hs1]; rfl) (by decide) ?_
      refine y_iconst (v := -1) Z dX4_orderOf_128 (by decide) ?_
      exact y_retI Z hr hlk dX4_orderOf_129 (by subst hs1; first | (simp only [ordF, if_true, if_false, not_false_eq_true, not_true_eq_false, ↓reduceIte]; done) | (simp only [ordF, if_true, if_false, not_false_eq_true, not_true_eq_false, ↓reduceIte, wMix, wLog, wPic, wRep, wScr, wVM, wMd, sR_eq, sR_ne, sF_eq, sF_ne, upd_eq, upd_ne, gs_eq, gs_ne, gm_4, gm_ne, Nat.reduceBEq]; done) | (with_reducible rfl) | contradiction | (simp only [ordF, if_true, if_false, not_false_eq_true, not_true_eq_false, ↓reduceIte]; rfl) | rfl) (by subst hs1; first | (simp only [ordF, if_true, if_false, not_false_eq_true, not_true_eq_false, ↓reduceIte]; done) | (simp only [ordF, if_true, if_false, not_false_eq_true, not_true_eq_false, ↓reduceIte, wMix, wLog, wPic, wRep, wScr, wVM, wMd, sR_eq, sR_ne, sF_eq, sF_ne, upd_eq, upd_ne, gs_eq, gs_ne, gm_4, gm_ne, Nat.reduceBEq]; done) | (with_reducible rfl) | contradiction | (simp only [ordF, if_true, if_false, not_false_eq_true, not_true_eq_false, ↓reduceIte]; rfl) | rfl)
    · replace hs1 : g = 115 := hs1
      refine y_tableIn (tgt := 128) (off := 127) Z dX4_orderOf_1 (by rw [hs1]; decide) (by rw [hs1]; decide) (by rw [hs1]; rfl) (by decide) ?_
      refine y_iconst (v := -1) Z dX4_orderOf_128 (by decide) ?_
      exact y_retI Z hr hlk dX4_orderOf_129 (by subst hs1; first | (simp only [ordF, if_true, if_false, not_false_eq_true, not_true_eq_false, ↓reduceIte]; done) | (simp only [ordF, if_true, if_false, not_false_eq_true, not_true_eq_false, ↓reduceIte, wMix, wLog, wPic, wRep, wScr, wVM, wMd, sR_eq, sR_ne, sF_eq, sF_ne, upd_eq, upd_ne, gs_eq, gs_ne, gm_4, gm_ne, Nat.reduceBEq]; done) | (with_reducible rfl) | contradiction | (simp only [ordF, if_true, if_false, not_false_eq_true, not_true_eq_false, ↓reduceIte]; rfl) | rfl) (by subst hs1; first | (simp only [ordF, if_true, if_false, not_false_eq_true, not_true_eq_false, ↓reduceIte]; done) | (simp only [ordF, if_true, if_false, not_false_eq_true, not_true_eq_false, ↓reduceIte, wMix, wLog, wPic, wRep, wScr, wVM, wMd, sR_eq, sR_ne, sF_eq, sF_ne, upd_eq, upd_ne, gs_eq, gs_ne, gm_4, gm_ne, Nat.reduceBEq]; done) | (with_reducible rfl) | contradiction | (simp only [ordF, if_true, if_false, not_false_eq_true, not_true_eq_false, ↓reduceIte]; rfl) | rfl)
    · replace hs1 : g = 116 := hs1
      refine y_tableIn (tgt := 128) (off := 127) Z dX4_orderOf_1 (by rw [hs1]; decide) (by rw [hs1]; decide) (by rw [hs1]; rfl) (by decide) ?_
      refine y_iconst (v := -1) Z dX4_orderOf_128 (by decide) ?_
      exact y_retI Z hr hlk dX4_orderOf_129 (by subst hs1; first | (simp only [ordF, if_true, if_false, not_false_eq_true, not_true_eq_false, ↓reduceIte]; done) | (simp only [ordF, if_true, if_false, not_false_eq_true, not_true_eq_false, ↓reduceIte, wMix, wLog, wPic, wRep, wScr, wVM, wMd, sR_eq, sR_ne, sF_eq, sF_ne, upd_eq, upd_ne, gs_eq, gs_ne, gm_4, gm_ne, Nat.reduceBEq]; done) | (with_reducible rfl) | contradiction | (simp only [ordF, if_true, if_false, not_false_eq_true, not_true_eq_false, ↓reduceIte]; rfl) | rfl) (by subst hs1; first | (simp only [ordF, if_true, if_false, not_false_eq_true, not_true_eq_false, ↓reduceIte]; done) | (simp only [ordF, if_true, if_false, not_false_eq_true, not_true_eq_false, ↓reduceIte, wMix, wLog, wPic, wRep, wScr, wVM, wMd, sR_eq, sR_ne, sF_eq, sF_ne, upd_eq, upd_ne, gs_eq, gs_ne, gm_4, gm_ne, Nat.reduceBEq]; done) | (with_reducible rfl) | contradiction | (simp only [ordF, if_true, if_false, not_false_eq_true, not_true_eq_false, ↓reduceIte]; rfl) | rfl)
    · replace hs1 : g = 117 := hs1
      refine y_tableIn (tgt := 128) (off := 127) Z dX4_orderOf_1 (by rw [hs1]; decide) (by rw [hs1]; decide) (by rw [hs1]; rfl) (by decide) ?_
      refine y_iconst (v := -1) Z dX4_orderOf_128 (by decide) ?_
      exact y_retI Z hr hlk dX4_orderOf_129 (by subst hs1; first | (simp only [ordF, if_true, if_false, not_false_eq_true, not_true_eq_false, ↓reduceIte]; done) | (simp only [ordF, if_true, if_false, not_false_eq_true, not_true_eq_false, ↓reduceIte, wMix, wLog, wPic, wRep, wScr, wVM, wMd, sR_eq, sR_ne, sF_eq, sF_ne, upd_eq, upd_ne, gs_eq, gs_ne, gm_4, gm_ne, Nat.reduceBEq]; done) | (with_reducible rfl) | contradiction | (simp only [ordF, if_true, if_false, not_false_eq_true, not_true_eq_false, ↓reduceIte]; rfl) | rfl) (by subst hs1; first | (simp only [ordF, if_true, if_false, not_false_eq_true, not_true_eq_false, ↓reduceIte]; done) | (simp only [ordF, if_true, if_false, not_false_eq_true, not_true_eq_false, ↓reduceIte, wMix, wLog, wPic, wRep, wScr, wVM, wMd, sR_eq, sR_ne, sF_eq, sF_ne, upd_eq, upd_ne, gs_eq, gs_ne, gm_4, gm_ne, Nat.reduceBEq]; done) | (with_reducible rfl) | contradiction | (simp only [ordF, if_true, if_false, not_false_eq_true, not_true_eq_false, ↓reduceIte]; rfl) | rfl)
    · replace hs1 : g = 118 := hs1
      refine y_tableIn (tgt := 110) (off := 109) Z dX4_orderOf_1 (by rw [hs1]; decide) (by rw [hs1]; decide) (by rw [hs1]; rfl) (by decide) ?_
      refine y_iconst (v := 1) Z dX4_orderOf_110 (by decide) ?_
      exact y_retI Z hr hlk dX4_orderOf_111 (by subst hs1; first | (simp only [ordF, if_true, if_false, not_false_eq_true, not_true_eq_false, ↓reduceIte]; done) | (simp only [ordF, if_true, if_false, not_false_eq_true, not_true_eq_false, ↓reduceIte, wMix, wLog, wPic, wRep, wScr, wVM, wMd, sR_eq, sR_ne, sF_eq, sF_ne, upd_eq, upd_ne, gs_eq, gs_ne, gm_4, gm_ne, Nat.reduceBEq]; done) | (with_reducible rfl) | contradiction | (simp only [ordF, if_true, if_false, not_false_eq_true, not_true_eq_false, ↓reduceIte]; rfl) | rfl) (by subst hs1; first | (simp only [ordF, if_true, if_false, not_false_eq_true, not_true_eq_false, ↓reduceIte]; done) | (simp only [ordF, if_true, if_false, not_false_eq_true, not_true_eq_false, ↓reduceIte, wMix, wLog, wPic, wRep, wScr, wVM, wMd, sR_eq, sR_ne, sF_eq, sF_ne, upd_eq, upd_ne, gs_eq, gs_ne, gm_4, gm_ne, Nat.reduceBEq]; done) | (with_reducible rfl) | contradiction | (simp only [ordF, if_true, if_false, not_false_eq_true, not_true_eq_false, ↓reduceIte]; rfl) | rfl)
    · replace hs1 : g = 119 := hs1
      refine y_tableIn (tgt := 125) (off := 124) Z dX4_orderOf_1 (by rw [hs1]; decide) (by rw [hs1]; decide) (by rw [hs1]; rfl) (by decide) ?_
      refine y_bipush (v := 10) Z dX4_orderOf_125 (by decide) ?_
      exact y_retI Z hr hlk dX4_orderOf_127 (by subst hs1; first | (simp only [ordF, if_true, if_false, not_false_eq_true, not_true_eq_false, ↓reduceIte]; done) | (simp only [ordF, if_true, if_false, not_false_eq_true, not_true_eq_false, ↓reduceIte, wMix, wLog, wPic, wRep, wScr, wVM, wMd, sR_eq, sR_ne, sF_eq, sF_ne, upd_eq, upd_ne, gs_eq, gs_ne, gm_4, gm_ne, Nat.reduceBEq]; done) | (with_reducible rfl) | contradiction | (simp only [ordF, if_true, if_false, not_false_eq_true, not_true_eq_false, ↓reduceIte]; rfl) | rfl) (by subst hs1; first | (simp only [ordF, if_true, if_false, not_false_eq_true, not_true_eq_false, ↓reduceIte]; done) | (simp only [ordF, if_true, if_false, not_false_eq_true, not_true_eq_false, ↓reduceIte, wMix, wLog, wPic, wRep, wScr, wVM, wMd, sR_eq, sR_ne, sF_eq, sF_ne, upd_eq, upd_ne, gs_eq, gs_ne, gm_4, gm_ne, Nat.reduceBEq]; done) | (with_reducible rfl) | contradiction | (simp only [ordF, if_true, if_false, not_false_eq_true, not_true_eq_false, ↓reduceIte]; rfl) | rfl)
set_option maxHeartbeats 4000000 in
set_option maxRecDepth 100000 in
theorem k_X4_readOrder (l : Launch) (D : va_G) {cI : ClassId} {tys : List (ClassId × FieldType)} (ht0 : tys[0]? = some (cI, .int)) (aC : Nat → Nat) (C : Nat → Nat → Int32) (sz : Nat) : kV l yX4_readOrder cX4_readOrder 4 none { frames := 4, cells := 0, slots := 0, locals := 90 } D tys [.ref (aC 0)] (wScr cI aC C) (wScr cI aC (gt_ro C)) 0 0 sz := by
  refine y_enterV (cc := cX4_readOrder) (maxL := 4) (ret := none) (own := RX4) (by decide) rfl (lv0 := [(0, .ref (aC 0))]) rfl (Nat.le_of_ble_eq_true rfl) ?_
  intro p e s m args below meth c A Z hr hlk _
  refine y_aload_n Z dX4_readOrder_0 0 rfl rfl ?_
  refine y_aload_n Z dX4_readOrder_1 0 rfl rfl ?_
  refine y_get (C := RX4) (T := TX4) (N := 6) Z 4 inlX4 rfl 0 rfl 4 (by decide) fl_RX4_33 rfl dX4_readOrder_2 ?_
  refine y_VI Z (k_X4_signAt l D ht0 aC C (C 0 2)) (y_cwV 1 Z ml_RX4_42 im_X4_signAt se_X4_signAt in_X4 co_X4_signAt rfl rfl hd_X4_signAt ⟨Nat.le_of_ble_eq_true rfl, Nat.le_of_ble_eq_true rfl⟩) [0, 1, 2] rfl (by decide) 4 0 rfl rfl rfl rfl (Nat.le_of_ble_eq_true rfl) dX4_readOrder_5 ⟨Nat.le_of_ble_eq_true rfl, Nat.le_of_ble_eq_true rfl⟩ [(aC 0), (aC 1), (aC 2)] rfl rfl (wScr cI aC C) rfl ?_
  refine y_SI Z (k_X4_orderOf l D ht0 (sgF C (C 0 2))) (y_cwS 1 Z ml_RX4_46 st_X4_orderOf in_X4 co_X4_orderOf rfl rfl hs_X4_orderOf ⟨Nat.le_of_ble_eq_true rfl, Nat.le_of_ble_eq_true rfl⟩) [] rfl (by decide) rfl rfl (Nat.le_of_ble_eq_true rfl) dX4_readOrder_8 ⟨Nat.le_of_ble_eq_true rfl, Nat.le_of_ble_eq_true rfl⟩ [] rfl rfl (wScr cI aC C) rfl ?_
  refine y_istore_n Z [(1, .int (ordF (sgF C (C 0 2)))), (0, .ref (aC 0))] dX4_readOrder_11 rfl (by decide) rfl ?_
  refine y_iconst (v := -1) Z dX4_readOrder_12 (by decide) ?_
  refine y_istore_n Z [(2, .int (-1)), (1, .int (ordF (sgF C (C 0 2)))), (0, .ref (aC 0))] dX4_readOrder_13 rfl (by decide) rfl ?_
  refine y_iconst (v := -1) Z dX4_readOrder_14 (by decide) ?_
  refine y_istore_n Z [(3, .int (-1)), (2, .int (-1)), (1, .int (ordF (sgF C (C 0 2)))), (0, .ref (aC 0))] dX4_readOrder_15 rfl (by decide) rfl ?_
  refine y_iload_n Z dX4_readOrder_16 2 rfl rfl ?_
  refine y_iconst (v := -1) Z dX4_readOrder_17 (by decide) ?_
  refine y_icmp_ne (tgt := 30) Z dX4_readOrder_18 (by decide) (fun h1 => ?_) (fun h2 => ?_)
  · refine y_aload_n Z dX4_readOrder_30 3 rfl rfl ?_
    refine y_dup Z dX4_readOrder_31 rfl ?_
    refine y_get (C := RX4) (T := TX4) (N := 6) Z 4 inlX4 rfl 0 rfl 4 (by decide) fl_RX4_33 rfl dX4_readOrder_32 ?_
    refine y_iconst (v := 1) Z dX4_readOrder_35 (by decide) ?_
    refine y_iadd Z dX4_readOrder_36 ?_
    refine y_put (C := RX4) (T := TX4) (N := 6) Z 4 inlX4 rfl tyX4 tyX4_ok nmX4 0 rfl 4 (by decide) fl_RX4_33 rfl rfl rfl (Nat.le_of_ble_eq_true rfl) (wScrR cI aC (C 0 0) (C 0 1) ((C 0 2) + 1) (C 0 3) (C 1) (C 2)) rfl dX4_readOrder_37 ?_
    refine y_iload_n Z dX4_readOrder_40 2 rfl rfl ?_
    rcases y_sw (ordF (sgF C (C 0 2))) 0 10 (by decide) with hs3 | ⟨j4, hj, hs3⟩
    · refine y_tableOut (tgt := 164) Z dX4_readOrder_41 hs3 (by decide) ?_
      have hs3_0 : ¬ ordF (sgF C (C 0 2)) = 0 := y_swn hs3 0 (by decide) (by decide)
      have hs3_1 : ¬ ordF (sgF C (C 0 2)) = 1 := y_swn hs3 1 (by decide) (by decide)
      have hs3_2 : ¬ ordF (sgF C (C 0 2)) = 2 := y_swn hs3 2 (by decide) (by decide)
      have hs3_3 : ¬ ordF (sgF C (C 0 2)) = 3 := y_swn hs3 3 (by decide) (by decide)
      have hs3_8 : ¬ ordF (sgF C (C 0 2)) = 8 := y_swn hs3 8 (by decide) (by decide)
      have hs3_10 : ¬ ordF (sgF C (C 0 2)) = 10 := y_swn hs3 10 (by decide) (by decide)
      refine y_aload_n Z dX4_readOrder_164 3 rfl rfl ?_
      refine y_VV Z (k_X4_readSemicolon l D ht0 aC (sF C 0 2 ((C 0 2) + 1))) (y_cwV 0 Z ml_RX4_60 im_X4_readSemicolon se_X4_readSemicolon in_X4 co_X4_readSemicolon rfl rfl hd_X4_readSemicolon ⟨Nat.le_of_ble_eq_true rfl, Nat.le_of_ble_eq_true rfl⟩) [0, 1, 2] rfl (by decide) 4 0 rfl rfl rfl rfl (Nat.le_of_ble_eq_true rfl) dX4_readOrder_165 ⟨Nat.le_of_ble_eq_true rfl, Nat.le_of_ble_eq_true rfl⟩ [(aC 0), (aC 1), (aC 2)] rfl rfl (wScr cI aC (gt_semi (sF C 0 2 ((C 0 2) + 1)))) rfl ?_
      refine y_aload_n Z dX4_readOrder_168 3 rfl rfl ?_
      refine y_iload_n Z dX4_readOrder_169 2 rfl rfl ?_
      refine y_iload_n Z dX4_readOrder_170 1 rfl rfl ?_
      refine y_iload_n Z dX4_readOrder_171 0 rfl rfl ?_
      refine y_VV Z (k_X4_keep l D ht0 aC (gt_semi (sF C 0 2 ((C 0 2) + 1))) (ordF (sgF C (C 0 2))) (-1) (-1)) (y_cwV 3 Z ml_RX4_63 im_X4_keep se_X4_keep in_X4 co_X4_keep rfl rfl hd_X4_keep ⟨Nat.le_of_ble_eq_true rfl, Nat.le_of_ble_eq_true rfl⟩) [0, 1, 2] rfl (by decide) 4 0 rfl rfl rfl rfl (Nat.le_of_ble_eq_true rfl) dX4_readOrder_172 ⟨Nat.le_of_ble_eq_true rfl, Nat.le_of_ble_eq_true rfl⟩ [(aC 0), (aC 1), (aC 2)] rfl rfl (wScr cI aC (gt_keep (gt_semi (sF C 0 2 ((C 0 2) + 1))) (ordF (sgF C (C 0 2))) (-1) (-1))) rfl ?_
      exact y_retV Z hr hlk dX4_readOrder_175 (by first | (simp only [gt_ro, gt_ro2, gt_fin, gt_at, h1, hs3_0, hs3_1, hs3_2, hs3_3, hs3_8, hs3_10, if_true, if_false, not_false_eq_true, not_true_eq_false, ↓reduceIte]; done) | (simp only [gt_ro, gt_ro2, gt_fin, gt_at, h1, hs3_0, hs3_1, hs3_2, hs3_3, hs3_8, hs3_10, if_true, if_false, not_false_eq_true, not_true_eq_false, ↓reduceIte, wMix, wLog, wPic, wRep, wScr, wVM, wMd, sR_eq, sR_ne, sF_eq, sF_ne, upd_eq, upd_ne, gs_eq, gs_ne, gm_4, gm_ne, Nat.reduceBEq]; done) | (with_reducible rfl) | contradiction | (simp only [gt_ro, gt_ro2, gt_fin, gt_at, h1, hs3_0, hs3_1, hs3_2, hs3_3, hs3_8, hs3_10, if_true, if_false, not_false_eq_true, not_true_eq_false, ↓reduceIte]; rfl) | rfl)
    · rcases (show j4 = 0 ∨ j4 = 1 ∨ j4 = 2 ∨ j4 = 3 ∨ j4 = 4 ∨ j4 = 5 ∨ j4 = 6 ∨ j4 = 7 ∨ j4 = 8 ∨ j4 = 9 ∨ j4 = 10 by omega) with rfl | rfl | rfl | rfl | rfl | rfl | rfl | rfl | rfl | rfl | rfl
      · replace hs3 : ordF (sgF C (C 0 2)) = 0 := hs3
        refine y_tableIn (tgt := 100) (off := 59) Z dX4_readOrder_41 (by rw [hs3]; decide) (by rw [hs3]; decide) (by rw [hs3]; rfl) (by decide) ?_
        have hs3_1 : ¬ ordF (sgF C (C 0 2)) = 1 := by rw [hs3]; decide
        have hs3_2 : ¬ ordF (sgF C (C 0 2)) = 2 := by rw [hs3]; decide
        have hs3_3 : ¬ ordF (sgF C (C 0 2)) = 3 := by rw [hs3]; decide
        have hs3_8 : ¬ ordF (sgF C (C 0 2)) = 8 := by rw [hs3]; decide
        have hs3_10 : ¬ ordF (sgF C (C 0 2)) = 10 := by rw [hs3]; decide
        refine y_aload_n Z dX4_readOrder_100 3 rfl rfl ?_
        refine y_bipush (v := 9) Z dX4_readOrder_101 (by decide) ?_
        refine y_VI Z (k_X4_readDigit l D ht0 aC (sF C 0 2 ((C 0 2) + 1)) 9) (y_cwV 1 Z ml_RX4_53 im_X4_readDigit se_X4_readDigit in_X4 co_X4_readDigit rfl rfl hd_X4_readDigit ⟨Nat.le_of_ble_eq_true rfl, Nat.le_of_ble_eq_true rfl⟩) [0, 1, 2] rfl (by decide) 4 0 rfl rfl rfl rfl (Nat.le_of_ble_eq_true rfl) dX4_readOrder_103 ⟨Nat.le_of_ble_eq_true rfl, Nat.le_of_ble_eq_true rfl⟩ [(aC 0), (aC 1), (aC 2)] rfl rfl (wScr cI aC (gt_rdig (sF C 0 2 ((C 0 2) + 1)) 9)) rfl ?_
        refine y_istore_n Z [(2, .int (dgF (sF C 0 2 ((C 0 2) + 1)) ((sF C 0 2 ((C 0 2) + 1)) 0 2))), (3, .int (-1)), (1, .int (ordF (sgF C (C 0 2)))), (0, .ref (aC 0))] dX4_readOrder_106 rfl (by decide) rfl ?_
        refine y_goto (tgt := 164) Z dX4_readOrder_107 (by decide) ?_
        refine y_aload_n Z dX4_readOrder_164 3 rfl rfl ?_
        refine y_VV Z (k_X4_readSemicolon l D ht0 aC (gt_rdig (sF C 0 2 ((C 0 2) + 1)) 9)) (y_cwV 0 Z ml_RX4_60 im_X4_readSemicolon se_X4_readSemicolon in_X4 co_X4_readSemicolon rfl rfl hd_X4_readSemicolon ⟨Nat.le_of_ble_eq_true rfl, Nat.le_of_ble_eq_true rfl⟩) [0, 1, 2] rfl (by decide) 4 0 rfl rfl rfl rfl (Nat.le_of_ble_eq_true rfl) dX4_readOrder_165 ⟨Nat.le_of_ble_eq_true rfl, Nat.le_of_ble_eq_true rfl⟩ [(aC 0), (aC 1), (aC 2)] rfl rfl (wScr cI aC (gt_semi (gt_rdig (sF C 0 2 ((C 0 2) + 1)) 9))) rfl ?_
        refine y_aload_n Z dX4_readOrder_168 3 rfl rfl ?_
        refine y_iload_n Z dX4_readOrder_169 2 rfl rfl ?_
        refine y_iload_n Z dX4_readOrder_170 0 rfl rfl ?_
        refine y_iload_n Z dX4_readOrder_171 1 rfl rfl ?_
        refine y_VV Z (k_X4_keep l D ht0 aC (gt_semi (gt_rdig (sF C 0 2 ((C 0 2) + 1)) 9)) (ordF (sgF C (C 0 2))) (dgF (sF C 0 2 ((C 0 2) + 1)) ((sF C 0 2 ((C 0 2) + 1)) 0 2)) (-1)) (y_cwV 3 Z ml_RX4_63 im_X4_keep se_X4_keep in_X4 co_X4_keep rfl rfl hd_X4_keep ⟨Nat.le_of_ble_eq_true rfl, Nat.le_of_ble_eq_true rfl⟩) [0, 1, 2] rfl (by decide) 4 0 rfl rfl rfl rfl (Nat.le_of_ble_eq_true rfl) dX4_readOrder_172 ⟨Nat.le_of_ble_eq_true rfl, Nat.le_of_ble_eq_true rfl⟩ [(aC 0), (aC 1), (aC 2)] rfl rfl (wScr cI aC (gt_keep (gt_semi (gt_rdig (sF C 0 2 ((C 0 2) + 1)) 9)) (ordF (sgF C (C 0 2))) (dgF (sF C 0 2 ((C 0 2) + 1)) ((sF C 0 2 ((C 0 2) + 1)) 0 2)) (-1))) rfl ?_
        exact y_retV Z hr hlk dX4_readOrder_175 (by first | (simp only [gt_ro, gt_ro2, gt_fin, gt_at, h1, hs3_1, hs3_2, hs3_3, hs3_8, hs3_10, eq_true hs3, if_true, if_false, not_false_eq_true, not_true_eq_false, ↓reduceIte]; done) | (simp only [gt_ro, gt_ro2, gt_fin, gt_at, h1, hs3_1, hs3_2, hs3_3, hs3_8, hs3_10, eq_true hs3, if_true, if_false, not_false_eq_true, not_true_eq_false, ↓reduceIte, wMix, wLog, wPic, wRep, wScr, wVM, wMd, sR_eq, sR_ne, sF_eq, sF_ne, upd_eq, upd_ne, gs_eq, gs_ne, gm_4, gm_ne, Nat.reduceBEq]; done) | (with_reducible rfl) | contradiction | (simp only [gt_ro, gt_ro2, gt_fin, gt_at, h1, hs3_1, hs3_2, hs3_3, hs3_8, hs3_10, eq_true hs3, if_true, if_false, not_false_eq_true, not_true_eq_false, ↓reduceIte]; rfl) | rfl)
      · replace hs3 : ordF (sgF C (C 0 2)) = 1 := hs3
        refine y_tableIn (tgt := 100) (off := 59) Z dX4_readOrder_41 (by rw [hs3]; decide) (by rw [hs3]; decide) (by rw [hs3]; rfl) (by decide) ?_
        have hs3_0 : ¬ ordF (sgF C (C 0 2)) = 0 := by rw [hs3]; decide
        have hs3_2 : ¬ ordF (sgF C (C 0 2)) = 2 := by rw [hs3]; decide
        have hs3_3 : ¬ ordF (sgF C (C 0 2)) = 3 := by rw [hs3]; decide
        have hs3_8 : ¬ ordF (sgF C (C 0 2)) = 8 := by rw [hs3]; decide
        have hs3_10 : ¬ ordF (sgF C (C 0 2)) = 10 := by rw [hs3]; decide
        refine y_aload_n Z dX4_readOrder_100 3 rfl rfl ?_
        refine y_bipush (v := 9) Z dX4_readOrder_101 (by decide) ?_
        refine y_VI Z (k_X4_readDigit l D ht0 aC (sF C 0 2 ((C 0 2) + 1)) 9) (y_cwV 1 Z ml_RX4_53 im_X4_readDigit se_X4_readDigit in_X4 co_X4_readDigit rfl rfl hd_X4_readDigit ⟨Nat.le_of_ble_eq_true rfl, Nat.le_of_ble_eq_true rfl⟩) [0, 1, 2] rfl (by decide) 4 0 rfl rfl rfl rfl (Nat.le_of_ble_eq_true rfl) dX4_readOrder_103 ⟨Nat.le_of_ble_eq_true rfl, Nat.le_of_ble_eq_true rfl⟩ [(aC 0), (aC 1), (aC 2)] rfl rfl (wScr cI aC (gt_rdig (sF C 0 2 ((C 0 2) + 1)) 9)) rfl ?_
        refine y_istore_n Z [(2, .int (dgF (sF C 0 2 ((C 0 2) + 1)) ((sF C 0 2 ((C 0 2) + 1)) 0 2))), (3, .int (-1)), (1, .int (ordF (sgF C (C 0 2)))), (0, .ref (aC 0))] dX4_readOrder_106 rfl (by decide) rfl ?_
        refine y_goto (tgt := 164) Z dX4_readOrder_107 (by decide) ?_
        refine y_aload_n Z dX4_readOrder_164 3 rfl rfl ?_
        refine y_VV Z (k_X4_readSemicolon l D ht0 aC (gt_rdig (sF C 0 2 ((C 0 2) + 1)) 9)) (y_cwV 0 Z ml_RX4_60 im_X4_readSemicolon se_X4_readSemicolon in_X4 co_X4_readSemicolon rfl rfl hd_X4_readSemicolon ⟨Nat.le_of_ble_eq_true rfl, Nat.le_of_ble_eq_true rfl⟩) [0, 1, 2] rfl (by decide) 4 0 rfl rfl rfl rfl (Nat.le_of_ble_eq_true rfl) dX4_readOrder_165 ⟨Nat.le_of_ble_eq_true rfl, Nat.le_of_ble_eq_true rfl⟩ [(aC 0), (aC 1), (aC 2)] rfl rfl (wScr cI aC (gt_semi (gt_rdig (sF C 0 2 ((C 0 2) + 1)) 9))) rfl ?_
        refine y_aload_n Z dX4_readOrder_168 3 rfl rfl ?_
        refine y_iload_n Z dX4_readOrder_169 2 rfl rfl ?_
        refine y_iload_n Z dX4_readOrder_170 0 rfl rfl ?_
        refine y_iload_n Z dX4_readOrder_171 1 rfl rfl ?_
        refine y_VV Z (k_X4_keep l D ht0 aC (gt_semi (gt_rdig (sF C 0 2 ((C 0 2) + 1)) 9)) (ordF (sgF C (C 0 2))) (dgF (sF C 0 2 ((C 0 2) + 1)) ((sF C 0 2 ((C 0 2) + 1)) 0 2)) (-1)) (y_cwV 3 Z ml_RX4_63 im_X4_keep se_X4_keep in_X4 co_X4_keep rfl rfl hd_X4_keep ⟨Nat.le_of_ble_eq_true rfl, Nat.le_of_ble_eq_true rfl⟩) [0, 1, 2] rfl (by decide) 4 0 rfl rfl rfl rfl (Nat.le_of_ble_eq_true rfl) dX4_readOrder_172 ⟨Nat.le_of_ble_eq_true rfl, Nat.le_of_ble_eq_true rfl⟩ [(aC 0), (aC 1), (aC 2)] rfl rfl (wScr cI aC (gt_keep (gt_semi (gt_rdig (sF C 0 2 ((C 0 2) + 1)) 9)) (ordF (sgF C (C 0 2))) (dgF (sF C 0 2 ((C 0 2) + 1)) ((sF C 0 2 ((C 0 2) + 1)) 0 2)) (-1))) rfl ?_
        exact y_retV Z hr hlk dX4_readOrder_175 (by first | (simp only [gt_ro, gt_ro2, gt_fin, gt_at, h1, hs3_0, hs3_2, hs3_3, hs3_8, hs3_10, eq_true hs3, if_true, if_false, not_false_eq_true, not_true_eq_false, ↓reduceIte]; done) | (simp only [gt_ro, gt_ro2, gt_fin, gt_at, h1, hs3_0, hs3_2, hs3_3, hs3_8, hs3_10, eq_true hs3, if_true, if_false, not_false_eq_true, not_true_eq_false, ↓reduceIte, wMix, wLog, wPic, wRep, wScr, wVM, wMd, sR_eq, sR_ne, sF_eq, sF_ne, upd_eq, upd_ne, gs_eq, gs_ne, gm_4, gm_ne, Nat.reduceBEq]; done) | (with_reducible rfl) | contradiction | (simp only [gt_ro, gt_ro2, gt_fin, gt_at, h1, hs3_0, hs3_2, hs3_3, hs3_8, hs3_10, eq_true hs3, if_true, if_false, not_false_eq_true, not_true_eq_false, ↓reduceIte]; rfl) | rfl)
      · replace hs3 : ordF (sgF C (C 0 2)) = 2 := hs3
        refine y_tableIn (tgt := 110) (off := 69) Z dX4_readOrder_41 (by rw [hs3]; decide) (by rw [hs3]; decide) (by rw [hs3]; rfl) (by decide) ?_
        have hs3_0 : ¬ ordF (sgF C (C 0 2)) = 0 := by rw [hs3]; decide
        have hs3_1 : ¬ ordF (sgF C (C 0 2)) = 1 := by rw [hs3]; decide
        have hs3_3 : ¬ ordF (sgF C (C 0 2)) = 3 := by rw [hs3]; decide
        have hs3_8 : ¬ ordF (sgF C (C 0 2)) = 8 := by rw [hs3]; decide
        have hs3_10 : ¬ ordF (sgF C (C 0 2)) = 10 := by rw [hs3]; decide
        refine y_aload_n Z dX4_readOrder_110 3 rfl rfl ?_
        refine y_iconst (v := 2) Z dX4_readOrder_111 (by decide) ?_
        refine y_VI Z (k_X4_readDigit l D ht0 aC (sF C 0 2 ((C 0 2) + 1)) 2) (y_cwV 1 Z ml_RX4_53 im_X4_readDigit se_X4_readDigit in_X4 co_X4_readDigit rfl rfl hd_X4_readDigit ⟨Nat.le_of_ble_eq_true rfl, Nat.le_of_ble_eq_true rfl⟩) [0, 1, 2] rfl (by decide) 4 0 rfl rfl rfl rfl (Nat.le_of_ble_eq_true rfl) dX4_readOrder_112 ⟨Nat.le_of_ble_eq_true rfl, Nat.le_of_ble_eq_true rfl⟩ [(aC 0), (aC 1), (aC 2)] rfl rfl (wScr cI aC (gt_rdig (sF C 0 2 ((C 0 2) + 1)) 2)) rfl ?_
        refine y_istore_n Z [(2, .int (dgF (sF C 0 2 ((C 0 2) + 1)) ((sF C 0 2 ((C 0 2) + 1)) 0 2))), (3, .int (-1)), (1, .int (ordF (sgF C (C 0 2)))), (0, .ref (aC 0))] dX4_readOrder_115 rfl (by decide) rfl ?_
        refine y_aload_n Z dX4_readOrder_116 3 rfl rfl ?_
        refine y_iconst (v := 3) Z dX4_readOrder_117 (by decide) ?_
        refine y_iconst (v := 1) Z dX4_readOrder_118 (by decide) ?_
        refine y_bipush (v := 100) Z dX4_readOrder_119 (by decide) ?_
        refine y_VI Z (k_X4_readNumber l D ht0 aC (gt_rdig (sF C 0 2 ((C 0 2) + 1)) 2) 3 1 100 (by decide)) (y_cwV 3 Z ml_RX4_56 im_X4_readNumber se_X4_readNumber in_X4 co_X4_readNumber rfl rfl hd_X4_readNumber ⟨Nat.le_of_ble_eq_true rfl, Nat.le_of_ble_eq_true rfl⟩) [0, 1, 2] rfl (by decide) 4 0 rfl rfl rfl rfl (Nat.le_of_ble_eq_true rfl) dX4_readOrder_121 ⟨Nat.le_of_ble_eq_true rfl, Nat.le_of_ble_eq_true rfl⟩ [(aC 0), (aC 1), (aC 2)] rfl rfl (wScr cI aC (gt_rnum (gt_rdig (sF C 0 2 ((C 0 2) + 1)) 2) 3 1 100)) rfl ?_
        refine y_istore_n Z [(3, .int ((rnX (gt_rdig (sF C 0 2 ((C 0 2) + 1)) 2) 3).2.1)), (2, .int (dgF (sF C 0 2 ((C 0 2) + 1)) ((sF C 0 2 ((C 0 2) + 1)) 0 2))), (1, .int (ordF (sgF C (C 0 2)))), (0, .ref (aC 0))] dX4_readOrder_124 rfl (by decide) rfl ?_
        refine y_goto (tgt := 164) Z dX4_readOrder_125 (by decide) ?_
        refine y_aload_n Z dX4_readOrder_164 3 rfl rfl ?_
        refine y_VV Z (k_X4_readSemicolon l D ht0 aC (gt_rnum (gt_rdig (sF C 0 2 ((C 0 2) + 1)) 2) 3 1 100)) (y_cwV 0 Z ml_RX4_60 im_X4_readSemicolon se_X4_readSemicolon in_X4 co_X4_readSemicolon rfl rfl hd_X4_readSemicolon ⟨Nat.le_of_ble_eq_true rfl, Nat.le_of_ble_eq_true rfl⟩) [0, 1, 2] rfl (by decide) 4 0 rfl rfl rfl rfl (Nat.le_of_ble_eq_true rfl) dX4_readOrder_165 ⟨Nat.le_of_ble_eq_true rfl, Nat.le_of_ble_eq_true rfl⟩ [(aC 0), (aC 1), (aC 2)] rfl rfl (wScr cI aC (gt_semi (gt_rnum (gt_rdig (sF C 0 2 ((C 0 2) + 1)) 2) 3 1 100))) rfl ?_
        refine y_aload_n Z dX4_readOrder_168 3 rfl rfl ?_
        refine y_iload_n Z dX4_readOrder_169 2 rfl rfl ?_
        refine y_iload_n Z dX4_readOrder_170 1 rfl rfl ?_
        refine y_iload_n Z dX4_readOrder_171 0 rfl rfl ?_
        refine y_VV Z (k_X4_keep l D ht0 aC (gt_semi (gt_rnum (gt_rdig (sF C 0 2 ((C 0 2) + 1)) 2) 3 1 100)) (ordF (sgF C (C 0 2))) (dgF (sF C 0 2 ((C 0 2) + 1)) ((sF C 0 2 ((C 0 2) + 1)) 0 2)) ((rnX (gt_rdig (sF C 0 2 ((C 0 2) + 1)) 2) 3).2.1)) (y_cwV 3 Z ml_RX4_63 im_X4_keep se_X4_keep in_X4 co_X4_keep rfl rfl hd_X4_keep ⟨Nat.le_of_ble_eq_true rfl, Nat.le_of_ble_eq_true rfl⟩) [0, 1, 2] rfl (by decide) 4 0 rfl rfl rfl rfl (Nat.le_of_ble_eq_true rfl) dX4_readOrder_172 ⟨Nat.le_of_ble_eq_true rfl, Nat.le_of_ble_eq_true rfl⟩ [(aC 0), (aC 1), (aC 2)] rfl rfl (wScr cI aC (gt_keep (gt_semi (gt_rnum (gt_rdig (sF C 0 2 ((C 0 2) + 1)) 2) 3 1 100)) (ordF (sgF C (C 0 2))) (dgF (sF C 0 2 ((C 0 2) + 1)) ((sF C 0 2 ((C 0 2) + 1)) 0 2)) ((rnX (gt_rdig (sF C 0 2 ((C 0 2) + 1)) 2) 3).2.1))) rfl ?_
        exact y_retV Z hr hlk dX4_readOrder_175 (by first | (simp only [gt_ro, gt_ro2, gt_fin, gt_at, h1, hs3_0, hs3_1, hs3_3, hs3_8, hs3_10, eq_true hs3, if_true, if_false, not_false_eq_true, not_true_eq_false, ↓reduceIte]; done) | (simp only [gt_ro, gt_ro2, gt_fin, gt_at, h1, hs3_0, hs3_1, hs3_3, hs3_8, hs3_10, eq_true hs3, if_true, if_false, not_false_eq_true, not_true_eq_false, ↓reduceIte, wMix, wLog, wPic, wRep, wScr, wVM, wMd, sR_eq, sR_ne, sF_eq, sF_ne, upd_eq, upd_ne, gs_eq, gs_ne, gm_4, gm_ne, Nat.reduceBEq]; done) | (with_reducible rfl) | contradiction | (simp only [gt_ro, gt_ro2, gt_fin, gt_at, h1, hs3_0, hs3_1, hs3_3, hs3_8, hs3_10, eq_true hs3, if_true, if_false, not_false_eq_true, not_true_eq_false, ↓reduceIte]; rfl) | rfl)
      · replace hs3 : ordF (sgF C (C 0 2)) = 3 := hs3
        refine y_tableIn (tgt := 128) (off := 87) Z dX4_readOrder_41 (by rw [hs3]; decide) (by rw [hs3]; decide) (by rw [hs3]; rfl) (by decide) ?_
        have hs3_0 : ¬ ordF (sgF C (C 0 2)) = 0 := by rw [hs3]; decide
        have hs3_1 : ¬ ordF (sgF C (C 0 2)) = 1 := by rw [hs3]; decide
        have hs3_2 : ¬ ordF (sgF C (C 0 2)) = 2 := by rw [hs3]; decide
        have hs3_8 : ¬ ordF (sgF C (C 0 2)) = 8 := by rw [hs3]; decide
        have hs3_10 : ¬ ordF (sgF C (C 0 2)) = 10 := by rw [hs3]; decide
        refine y_aload_n Z dX4_readOrder_128 3 rfl rfl ?_
        refine y_bipush (v := 7) Z dX4_readOrder_129 (by decide) ?_
        refine y_VI Z (k_X4_readDigit l D ht0 aC (sF C 0 2 ((C 0 2) + 1)) 7) (y_cwV 1 Z ml_RX4_53 im_X4_readDigit se_X4_readDigit in_X4 co_X4_readDigit rfl rfl hd_X4_readDigit ⟨Nat.le_of_ble_eq_true rfl, Nat.le_of_ble_eq_true rfl⟩) [0, 1, 2] rfl (by decide) 4 0 rfl rfl rfl rfl (Nat.le_of_ble_eq_true rfl) dX4_readOrder_131 ⟨Nat.le_of_ble_eq_true rfl, Nat.le_of_ble_eq_true rfl⟩ [(aC 0), (aC 1), (aC 2)] rfl rfl (wScr cI aC (gt_rdig (sF C 0 2 ((C 0 2) + 1)) 7)) rfl ?_
        refine y_istore_n Z [(2, .int (dgF (sF C 0 2 ((C 0 2) + 1)) ((sF C 0 2 ((C 0 2) + 1)) 0 2))), (3, .int (-1)), (1, .int (ordF (sgF C (C 0 2)))), (0, .ref (aC 0))] dX4_readOrder_134 rfl (by decide) rfl ?_
        refine y_goto (tgt := 164) Z dX4_readOrder_135 (by decide) ?_
        refine y_aload_n Z dX4_readOrder_164 3 rfl rfl ?_
        refine y_VV Z (k_X4_readSemicolon l D ht0 aC (gt_rdig (sF C 0 2 ((C 0 2) + 1)) 7)) (y_cwV 0 Z ml_RX4_60 im_X4_readSemicolon se_X4_readSemicolon in_X4 co_X4_readSemicolon rfl rfl hd_X4_readSemicolon ⟨Nat.le_of_ble_eq_true rfl, Nat.le_of_ble_eq_true rfl⟩) [0, 1, 2] rfl (by decide) 4 0 rfl rfl rfl rfl (Nat.le_of_ble_eq_true rfl) dX4_readOrder_165 ⟨Nat.le_of_ble_eq_true rfl, Nat.le_of_ble_eq_true rfl⟩ [(aC 0), (aC 1), (aC 2)] rfl rfl (wScr cI aC (gt_semi (gt_rdig (sF C 0 2 ((C 0 2) + 1)) 7))) rfl ?_
        refine y_aload_n Z dX4_readOrder_168 3 rfl rfl ?_
        refine y_iload_n Z dX4_readOrder_169 2 rfl rfl ?_
        refine y_iload_n Z dX4_readOrder_170 0 rfl rfl ?_
        refine y_iload_n Z dX4_readOrder_171 1 rfl rfl ?_
        refine y_VV Z (k_X4_keep l D ht0 aC (gt_semi (gt_rdig (sF C 0 2 ((C 0 2) + 1)) 7)) (ordF (sgF C (C 0 2))) (dgF (sF C 0 2 ((C 0 2) + 1)) ((sF C 0 2 ((C 0 2) + 1)) 0 2)) (-1)) (y_cwV 3 Z ml_RX4_63 im_X4_keep se_X4_keep in_X4 co_X4_keep rfl rfl hd_X4_keep ⟨Nat.le_of_ble_eq_true rfl, Nat.le_of_ble_eq_true rfl⟩) [0, 1, 2] rfl (by decide) 4 0 rfl rfl rfl rfl (Nat.le_of_ble_eq_true rfl) dX4_readOrder_172 ⟨Nat.le_of_ble_eq_true rfl, Nat.le_of_ble_eq_true rfl⟩ [(aC 0), (aC 1), (aC 2)] rfl rfl (wScr cI aC (gt_keep (gt_semi (gt_rdig (sF C 0 2 ((C 0 2) + 1)) 7)) (ordF (sgF C (C 0 2))) (dgF (sF C 0 2 ((C 0 2) + 1)) ((sF C 0 2 ((C 0 2) + 1)) 0 2)) (-1))) rfl ?_
        exact y_retV Z hr hlk dX4_readOrder_175 (by first | (simp only [gt_ro, gt_ro2, gt_fin, gt_at, h1, hs3_0, hs3_1, hs3_2, hs3_8, hs3_10, eq_true hs3, if_true, if_false, not_false_eq_true, not_true_eq_false, ↓reduceIte]; done) | (simp only [gt_ro, gt_ro2, gt_fin, gt_at, h1, hs3_0, hs3_1, hs3_2, hs3_8, hs3_10, eq_true hs3, if_true, if_false, not_false_eq_true, not_true_eq_false, ↓reduceIte, wMix, wLog, wPic, wRep, wScr, wVM, wMd, sR_eq, sR_ne, sF_eq, sF_ne, upd_eq, upd_ne, gs_eq, gs_ne, gm_4, gm_ne, Nat.reduceBEq]; done) | (with_reducible rfl) | contradiction | (simp only [gt_ro, gt_ro2, gt_fin, gt_at, h1, hs3_0, hs3_1, hs3_2, hs3_8, hs3_10, eq_true hs3, if_true, if_false, not_false_eq_true, not_true_eq_false, ↓reduceIte]; rfl) | rfl)
      · replace hs3 : ordF (sgF C (C 0 2)) = 4 := hs3
        refine y_tableIn (tgt := 164) (off := 123) Z dX4_readOrder_41 (by rw [hs3]; decide) (by rw [hs3]; decide) (by rw [hs3]; rfl) (by decide) ?_
        have hs3_0 : ¬ ordF (sgF C (C 0 2)) = 0 := by rw [hs3]; decide
        have hs3_1 : ¬ ordF (sgF C (C 0 2)) = 1 := by rw [hs3]; decide
        have hs3_2 : ¬ ordF (sgF C (C 0 2)) = 2 := by rw [hs3]; decide
        have hs3_3 : ¬ ordF (sgF C (C 0 2)) = 3 := by rw [hs3]; decide
        have hs3_8 : ¬ ordF (sgF C (C 0 2)) = 8 := by rw [hs3]; decide
        have hs3_10 : ¬ ordF (sgF C (C 0 2)) = 10 := by rw [hs3]; decide
        refine y_aload_n Z dX4_readOrder_164 3 rfl rfl ?_
        refine y_VV Z (k_X4_readSemicolon l D ht0 aC (sF C 0 2 ((C 0 2) + 1))) (y_cwV 0 Z ml_RX4_60 im_X4_readSemicolon se_X4_readSemicolon in_X4 co_X4_readSemicolon rfl rfl hd_X4_readSemicolon ⟨Nat.le_of_ble_eq_true rfl, Nat.le_of_ble_eq_true rfl⟩) [0, 1, 2] rfl (by decide) 4 0 rfl rfl rfl rfl (Nat.le_of_ble_eq_true rfl) dX4_readOrder_165 ⟨Nat.le_of_ble_eq_true rfl, Nat.le_of_ble_eq_true rfl⟩ [(aC 0), (aC 1), (aC 2)] rfl rfl (wScr cI aC (gt_semi (sF C 0 2 ((C 0 2) + 1)))) rfl ?_
        refine y_aload_n Z dX4_readOrder_168 3 rfl rfl ?_
        refine y_iload_n Z dX4_readOrder_169 2 rfl rfl ?_
        refine y_iload_n Z dX4_readOrder_170 1 rfl rfl ?_
        refine y_iload_n Z dX4_readOrder_171 0 rfl rfl ?_
        refine y_VV Z (k_X4_keep l D ht0 aC (gt_semi (sF C 0 2 ((C 0 2) + 1))) (ordF (sgF C (C 0 2))) (-1) (-1)) (y_cwV 3 Z ml_RX4_63 im_X4_keep se_X4_keep in_X4 co_X4_keep rfl rfl hd_X4_keep ⟨Nat.le_of_ble_eq_true rfl, Nat.le_of_ble_eq_true rfl⟩) [0, 1, 2] rfl (by decide) 4 0 rfl rfl rfl rfl (Nat.le_of_ble_eq_true rfl) dX4_readOrder_172 ⟨Nat.le_of_ble_eq_true rfl, Nat.le_of_ble_eq_true rfl⟩ [(aC 0), (aC 1), (aC 2)] rfl rfl (wScr cI aC (gt_keep (gt_semi (sF C 0 2 ((C 0 2) + 1))) (ordF (sgF C (C 0 2))) (-1) (-1))) rfl ?_
        exact y_retV Z hr hlk dX4_readOrder_175 (by first | (simp only [gt_ro, gt_ro2, gt_fin, gt_at, h1, hs3_0, hs3_1, hs3_2, hs3_3, hs3_8, hs3_10, eq_true hs3, if_true, if_false, not_false_eq_true, not_true_eq_false, ↓reduceIte]; done) | (simp only [gt_ro, gt_ro2, gt_fin, gt_at, h1, hs3_0, hs3_1, hs3_2, hs3_3, hs3_8, hs3_10, eq_true hs3, if_true, if_false, not_false_eq_true, not_true_eq_false, ↓reduceIte, wMix, wLog, wPic, wRep, wScr, wVM, wMd, sR_eq, sR_ne, sF_eq, sF_ne, upd_eq, upd_ne, gs_eq, gs_ne, gm_4, gm_ne, Nat.reduceBEq]; done) | (with_reducible rfl) | contradiction | (simp only [gt_ro, gt_ro2, gt_fin, gt_at, h1, hs3_0, hs3_1, hs3_2, hs3_3, hs3_8, hs3_10, eq_true hs3, if_true, if_false, not_false_eq_true, not_true_eq_false, ↓reduceIte]; rfl) | rfl)
      · replace hs3 : ordF (sgF C (C 0 2)) = 5 := hs3
        refine y_tableIn (tgt := 164) (off := 123) Z dX4_readOrder_41 (by rw [hs3]; decide) (by rw [hs3]; decide) (by rw [hs3]; rfl) (by decide) ?_
        have hs3_0 : ¬ ordF (sgF C (C 0 2)) = 0 := by rw [hs3]; decide
        have hs3_1 : ¬ ordF (sgF C (C 0 2)) = 1 := by rw [hs3]; decide
        have hs3_2 : ¬ ordF (sgF C (C 0 2)) = 2 := by rw [hs3]; decide
        have hs3_3 : ¬ ordF (sgF C (C 0 2)) = 3 := by rw [hs3]; decide
        have hs3_8 : ¬ ordF (sgF C (C 0 2)) = 8 := by rw [hs3]; decide
        have hs3_10 : ¬ ordF (sgF C (C 0 2)) = 10 := by rw [hs3]; decide
        refine y_aload_n Z dX4_readOrder_164 3 rfl rfl ?_
        refine y_VV Z (k_X4_readSemicolon l D ht0 aC (sF C 0 2 ((C 0 2) + 1))) (y_cwV 0 Z ml_RX4_60 im_X4_readSemicolon se_X4_readSemicolon in_X4 co_X4_readSemicolon rfl rfl hd_X4_readSemicolon ⟨Nat.le_of_ble_eq_true rfl, Nat.le_of_ble_eq_true rfl⟩) [0, 1, 2] rfl (by decide) 4 0 rfl rfl rfl rfl (Nat.le_of_ble_eq_true rfl) dX4_readOrder_165 ⟨Nat.le_of_ble_eq_true rfl, Nat.le_of_ble_eq_true rfl⟩ [(aC 0), (aC 1), (aC 2)] rfl rfl (wScr cI aC (gt_semi (sF C 0 2 ((C 0 2) + 1)))) rfl ?_
        refine y_aload_n Z dX4_readOrder_168 3 rfl rfl ?_
        refine y_iload_n Z dX4_readOrder_169 2 rfl rfl ?_
        refine y_iload_n Z dX4_readOrder_170 1 rfl rfl ?_
        refine y_iload_n Z dX4_readOrder_171 0 rfl rfl ?_
        refine y_VV Z (k_X4_keep l D ht0 aC (gt_semi (sF C 0 2 ((C 0 2) + 1))) (ordF (sgF C (C 0 2))) (-1) (-1)) (y_cwV 3 Z ml_RX4_63 im_X4_keep se_X4_keep in_X4 co_X4_keep rfl rfl hd_X4_keep ⟨Nat.le_of_ble_eq_true rfl, Nat.le_of_ble_eq_true rfl⟩) [0, 1, 2] rfl (by decide) 4 0 rfl rfl rfl rfl (Nat.le_of_ble_eq_true rfl) dX4_readOrder_172 ⟨Nat.le_of_ble_eq_true rfl, Nat.le_of_ble_eq_true rfl⟩ [(aC 0), (aC 1), (aC 2)] rfl rfl (wScr cI aC (gt_keep (gt_semi (sF C 0 2 ((C 0 2) + 1))) (ordF (sgF C (C 0 2))) (-1) (-1))) rfl ?_
        exact y_retV Z hr hlk dX4_readOrder_175 (by first | (simp only [gt_ro, gt_ro2, gt_fin, gt_at, h1, hs3_0, hs3_1, hs3_2, hs3_3, hs3_8, hs3_10, eq_true hs3, if_true, if_false, not_false_eq_true, not_true_eq_false, ↓reduceIte]; done) | (simp only [gt_ro, gt_ro2, gt_fin, gt_at, h1, hs3_0, hs3_1, hs3_2, hs3_3, hs3_8, hs3_10, eq_true hs3, if_true, if_false, not_false_eq_true, not_true_eq_false, ↓reduceIte, wMix, wLog, wPic, wRep, wScr, wVM, wMd, sR_eq, sR_ne, sF_eq, sF_ne, upd_eq, upd_ne, gs_eq, gs_ne, gm_4, gm_ne, Nat.reduceBEq]; done) | (with_reducible rfl) | contradiction | (simp only [gt_ro, gt_ro2, gt_fin, gt_at, h1, hs3_0, hs3_1, hs3_2, hs3_3, hs3_8, hs3_10, eq_true hs3, if_true, if_false, not_false_eq_true, not_true_eq_false, ↓reduceIte]; rfl) | rfl)
      · replace hs3 : ordF (sgF C (C 0 2)) = 6 := hs3
        refine y_tableIn (tgt := 164) (off := 123) Z dX4_readOrder_41 (by rw [hs3]; decide) (by rw [hs3]; decide) (by rw [hs3]; rfl) (by decide) ?_
        have hs3_0 : ¬ ordF (sgF C (C 0 2)) = 0 := by rw [hs3]; decide
        have hs3_1 : ¬ ordF (sgF C (C 0 2)) = 1 := by rw [hs3]; decide
        have hs3_2 : ¬ ordF (sgF C (C 0 2)) = 2 := by rw [hs3]; decide
        have hs3_3 : ¬ ordF (sgF C (C 0 2)) = 3 := by rw [hs3]; decide
        have hs3_8 : ¬ ordF (sgF C (C 0 2)) = 8 := by rw [hs3]; decide
        have hs3_10 : ¬ ordF (sgF C (C 0 2)) = 10 := by rw [hs3]; decide
        refine y_aload_n Z dX4_readOrder_164 3 rfl rfl ?_
        refine y_VV Z (k_X4_readSemicolon l D ht0 aC (sF C 0 2 ((C 0 2) + 1))) (y_cwV 0 Z ml_RX4_60 im_X4_readSemicolon se_X4_readSemicolon in_X4 co_X4_readSemicolon rfl rfl hd_X4_readSemicolon ⟨Nat.le_of_ble_eq_true rfl, Nat.le_of_ble_eq_true rfl⟩) [0, 1, 2] rfl (by decide) 4 0 rfl rfl rfl rfl (Nat.le_of_ble_eq_true rfl) dX4_readOrder_165 ⟨Nat.le_of_ble_eq_true rfl, Nat.le_of_ble_eq_true rfl⟩ [(aC 0), (aC 1), (aC 2)] rfl rfl (wScr cI aC (gt_semi (sF C 0 2 ((C 0 2) + 1)))) rfl ?_
        refine y_aload_n Z dX4_readOrder_168 3 rfl rfl ?_
        refine y_iload_n Z dX4_readOrder_169 2 rfl rfl ?_
        refine y_iload_n Z dX4_readOrder_170 1 rfl rfl ?_
        refine y_iload_n Z dX4_readOrder_171 0 rfl rfl ?_
        refine y_VV Z (k_X4_keep l D ht0 aC (gt_semi (sF C 0 2 ((C 0 2) + 1))) (ordF (sgF C (C 0 2))) (-1) (-1)) (y_cwV 3 Z ml_RX4_63 im_X4_keep se_X4_keep in_X4 co_X4_keep rfl rfl hd_X4_keep ⟨Nat.le_of_ble_eq_true rfl, Nat.le_of_ble_eq_true rfl⟩) [0, 1, 2] rfl (by decide) 4 0 rfl rfl rfl rfl (Nat.le_of_ble_eq_true rfl) dX4_readOrder_172 ⟨Nat.le_of_ble_eq_true rfl, Nat.le_of_ble_eq_true rfl⟩ [(aC 0), (aC 1), (aC 2)] rfl rfl (wScr cI aC (gt_keep (gt_semi (sF C 0 2 ((C 0 2) + 1))) (ordF (sgF C (C 0 2))) (-1) (-1))) rfl ?_
        exact y_retV Z hr hlk dX4_readOrder_175 (by first | (simp only [gt_ro, gt_ro2, gt_fin, gt_at, h1, hs3_0, hs3_1, hs3_2, hs3_3, hs3_8, hs3_10, eq_true hs3, if_true, if_false, not_false_eq_true, not_true_eq_false, ↓reduceIte]; done) | (simp only [gt_ro, gt_ro2, gt_fin, gt_at, h1, hs3_0, hs3_1, hs3_2, hs3_3, hs3_8, hs3_10, eq_true hs3, if_true, if_false, not_false_eq_true, not_true_eq_false, ↓reduceIte, wMix, wLog, wPic, wRep, wScr, wVM, wMd, sR_eq, sR_ne, sF_eq, sF_ne, upd_eq, upd_ne, gs_eq, gs_ne, gm_4, gm_ne, Nat.reduceBEq]; done) | (with_reducible rfl) | contradiction | (simp only [gt_ro, gt_ro2, gt_fin, gt_at, h1, hs3_0, hs3_1, hs3_2, hs3_3, hs3_8, hs3_10, eq_true hs3, if_true, if_false, not_false_eq_true, not_true_eq_false, ↓reduceIte]; rfl) | rfl)
      · replace hs3 : ordF (sgF C (C 0 2)) = 7 := hs3
        refine y_tableIn (tgt := 164) (off := 123) Z dX4_readOrder_41 (by rw [hs3]; decide) (by rw [hs3]; decide) (by rw [hs3]; rfl) (by decide) ?_
        have hs3_0 : ¬ ordF (sgF C (C 0 2)) = 0 := by rw [hs3]; decide
        have hs3_1 : ¬ ordF (sgF C (C 0 2)) = 1 := by rw [hs3]; decide
        have hs3_2 : ¬ ordF (sgF C (C 0 2)) = 2 := by rw [hs3]; decide
        have hs3_3 : ¬ ordF (sgF C (C 0 2)) = 3 := by rw [hs3]; decide
        have hs3_8 : ¬ ordF (sgF C (C 0 2)) = 8 := by rw [hs3]; decide
        have hs3_10 : ¬ ordF (sgF C (C 0 2)) = 10 := by rw [hs3]; decide
        refine y_aload_n Z dX4_readOrder_164 3 rfl rfl ?_
        refine y_VV Z (k_X4_readSemicolon l D ht0 aC (sF C 0 2 ((C 0 2) + 1))) (y_cwV 0 Z ml_RX4_60 im_X4_readSemicolon se_X4_readSemicolon in_X4 co_X4_readSemicolon rfl rfl hd_X4_readSemicolon ⟨Nat.le_of_ble_eq_true rfl, Nat.le_of_ble_eq_true rfl⟩) [0, 1, 2] rfl (by decide) 4 0 rfl rfl rfl rfl (Nat.le_of_ble_eq_true rfl) dX4_readOrder_165 ⟨Nat.le_of_ble_eq_true rfl, Nat.le_of_ble_eq_true rfl⟩ [(aC 0), (aC 1), (aC 2)] rfl rfl (wScr cI aC (gt_semi (sF C 0 2 ((C 0 2) + 1)))) rfl ?_
        refine y_aload_n Z dX4_readOrder_168 3 rfl rfl ?_
        refine y_iload_n Z dX4_readOrder_169 2 rfl rfl ?_
        refine y_iload_n Z dX4_readOrder_170 1 rfl rfl ?_
        refine y_iload_n Z dX4_readOrder_171 0 rfl rfl ?_
        refine y_VV Z (k_X4_keep l D ht0 aC (gt_semi (sF C 0 2 ((C 0 2) + 1))) (ordF (sgF C (C 0 2))) (-1) (-1)) (y_cwV 3 Z ml_RX4_63 im_X4_keep se_X4_keep in_X4 co_X4_keep rfl rfl hd_X4_keep ⟨Nat.le_of_ble_eq_true rfl, Nat.le_of_ble_eq_true rfl⟩) [0, 1, 2] rfl (by decide) 4 0 rfl rfl rfl rfl (Nat.le_of_ble_eq_true rfl) dX4_readOrder_172 ⟨Nat.le_of_ble_eq_true rfl, Nat.le_of_ble_eq_true rfl⟩ [(aC 0), (aC 1), (aC 2)] rfl rfl (wScr cI aC (gt_keep (gt_semi (sF C 0 2 ((C 0 2) + 1))) (ordF (sgF C (C 0 2))) (-1) (-1))) rfl ?_
        exact y_retV Z hr hlk dX4_readOrder_175 (by first | (simp only [gt_ro, gt_ro2, gt_fin, gt_at, h1, hs3_0, hs3_1, hs3_2, hs3_3, hs3_8, hs3_10, eq_true hs3, if_true, if_false, not_false_eq_true, not_true_eq_false, ↓reduceIte]; done) | (simp only [gt_ro, gt_ro2, gt_fin, gt_at, h1, hs3_0, hs3_1, hs3_2, hs3_3, hs3_8, hs3_10, eq_true hs3, if_true, if_false, not_false_eq_true, not_true_eq_false, ↓reduceIte, wMix, wLog, wPic, wRep, wScr, wVM, wMd, sR_eq, sR_ne, sF_eq, sF_ne, upd_eq, upd_ne, gs_eq, gs_ne, gm_4, gm_ne, Nat.reduceBEq]; done) | (with_reducible rfl) | contradiction | (simp only [gt_ro, gt_ro2, gt_fin, gt_at, h1, hs3_0, hs3_1, hs3_2, hs3_3, hs3_8, hs3_10, eq_true hs3, if_true, if_false, not_false_eq_true, not_true_eq_false, ↓reduceIte]; rfl) | rfl)
      · replace hs3 : ordF (sgF C (C 0 2)) = 8 := hs3
        refine y_tableIn (tgt := 138) (off := 97) Z dX4_readOrder_41 (by rw [hs3]; decide) (by rw [hs3]; decide) (by rw [hs3]; rfl) (by decide) ?_
        have hs3_0 : ¬ ordF (sgF C (C 0 2)) = 0 := by rw [hs3]; decide
        have hs3_1 : ¬ ordF (sgF C (C 0 2)) = 1 := by rw [hs3]; decide
        have hs3_2 : ¬ ordF (sgF C (C 0 2)) = 2 := by rw [hs3]; decide
        have hs3_3 : ¬ ordF (sgF C (C 0 2)) = 3 := by rw [hs3]; decide
        have hs3_10 : ¬ ordF (sgF C (C 0 2)) = 10 := by rw [hs3]; decide
        refine y_aload_n Z dX4_readOrder_138 3 rfl rfl ?_
        refine y_iconst (v := 4) Z dX4_readOrder_139 (by decide) ?_
        refine y_iconst (v := 0) Z dX4_readOrder_140 (by decide) ?_
        refine y_sipush (v := 1000) Z dX4_readOrder_141 (by decide) ?_
        refine y_VI Z (k_X4_readNumber l D ht0 aC (sF C 0 2 ((C 0 2) + 1)) 4 0 1000 (by decide)) (y_cwV 3 Z ml_RX4_56 im_X4_readNumber se_X4_readNumber in_X4 co_X4_readNumber rfl rfl hd_X4_readNumber ⟨Nat.le_of_ble_eq_true rfl, Nat.le_of_ble_eq_true rfl⟩) [0, 1, 2] rfl (by decide) 4 0 rfl rfl rfl rfl (Nat.le_of_ble_eq_true rfl) dX4_readOrder_144 ⟨Nat.le_of_ble_eq_true rfl, Nat.le_of_ble_eq_true rfl⟩ [(aC 0), (aC 1), (aC 2)] rfl rfl (wScr cI aC (gt_rnum (sF C 0 2 ((C 0 2) + 1)) 4 0 1000)) rfl ?_
        refine y_istore_n Z [(2, .int ((rnX (sF C 0 2 ((C 0 2) + 1)) 4).2.1)), (3, .int (-1)), (1, .int (ordF (sgF C (C 0 2)))), (0, .ref (aC 0))] dX4_readOrder_147 rfl (by decide) rfl ?_
        refine y_goto (tgt := 164) Z dX4_readOrder_148 (by decide) ?_
        refine y_aload_n Z dX4_readOrder_164 3 rfl rfl ?_
        refine y_VV Z (k_X4_readSemicolon l D ht0 aC (gt_rnum (sF C 0 2 ((C 0 2) + 1)) 4 0 1000)) (y_cwV 0 Z ml_RX4_60 im_X4_readSemicolon se_X4_readSemicolon in_X4 co_X4_readSemicolon rfl rfl hd_X4_readSemicolon ⟨Nat.le_of_ble_eq_true rfl, Nat.le_of_ble_eq_true rfl⟩) [0, 1, 2] rfl (by decide) 4 0 rfl rfl rfl rfl (Nat.le_of_ble_eq_true rfl) dX4_readOrder_165 ⟨Nat.le_of_ble_eq_true rfl, Nat.le_of_ble_eq_true rfl⟩ [(aC 0), (aC 1), (aC 2)] rfl rfl (wScr cI aC (gt_semi (gt_rnum (sF C 0 2 ((C 0 2) + 1)) 4 0 1000))) rfl ?_
        refine y_aload_n Z dX4_readOrder_168 3 rfl rfl ?_
        refine y_iload_n Z dX4_readOrder_169 2 rfl rfl ?_
        refine y_iload_n Z dX4_readOrder_170 0 rfl rfl ?_
        refine y_iload_n Z dX4_readOrder_171 1 rfl rfl ?_
        refine y_VV Z (k_X4_keep l D ht0 aC (gt_semi (gt_rnum (sF C 0 2 ((C 0 2) + 1)) 4 0 1000)) (ordF (sgF C (C 0 2))) ((rnX (sF C 0 2 ((C 0 2) + 1)) 4).2.1) (-1)) (y_cwV 3 Z ml_RX4_63 im_X4_keep se_X4_keep in_X4 co_X4_keep rfl rfl hd_X4_keep ⟨Nat.le_of_ble_eq_true rfl, Nat.le_of_ble_eq_true rfl⟩) [0, 1, 2] rfl (by decide) 4 0 rfl rfl rfl rfl (Nat.le_of_ble_eq_true rfl) dX4_readOrder_172 ⟨Nat.le_of_ble_eq_true rfl, Nat.le_of_ble_eq_true rfl⟩ [(aC 0), (aC 1), (aC 2)] rfl rfl (wScr cI aC (gt_keep (gt_semi (gt_rnum (sF C 0 2 ((C 0 2) + 1)) 4 0 1000)) (ordF (sgF C (C 0 2))) ((rnX (sF C 0 2 ((C 0 2) + 1)) 4).2.1) (-1))) rfl ?_
        exact y_retV Z hr hlk dX4_readOrder_175 (by first | (simp only [gt_ro, gt_ro2, gt_fin, gt_at, h1, hs3_0, hs3_1, hs3_2, hs3_3, hs3_10, eq_true hs3, if_true, if_false, not_false_eq_true, not_true_eq_false, ↓reduceIte]; done) | (simp only [gt_ro, gt_ro2, gt_fin, gt_at, h1, hs3_0, hs3_1, hs3_2, hs3_3, hs3_10, eq_true hs3, if_true, if_false, not_false_eq_true, not_true_eq_false, ↓reduceIte, wMix, wLog, wPic, wRep, wScr, wVM, wMd, sR_eq, sR_ne, sF_eq, sF_ne, upd_eq, upd_ne, gs_eq, gs_ne, gm_4, gm_ne, Nat.reduceBEq]; done) | (with_reducible rfl) | contradiction | (simp only [gt_ro, gt_ro2, gt_fin, gt_at, h1, hs3_0, hs3_1, hs3_2, hs3_3, hs3_10, eq_true hs3, if_true, if_false, not_false_eq_true, not_true_eq_false, ↓reduceIte]; rfl) | rfl)
      · replace hs3 : ordF (sgF C (C 0 2)) = 9 := hs3
        refine y_tableIn (tgt := 164) (off := 123) Z dX4_readOrder_41 (by rw [hs3]; decide) (by rw [hs3]; decide) (by rw [hs3]; rfl) (by decide) ?_
        have hs3_0 : ¬ ordF (sgF C (C 0 2)) = 0 := by rw [hs3]; decide
        have hs3_1 : ¬ ordF (sgF C (C 0 2)) = 1 := by rw [hs3]; decide
        have hs3_2 : ¬ ordF (sgF C (C 0 2)) = 2 := by rw [hs3]; decide
        have hs3_3 : ¬ ordF (sgF C (C 0 2)) = 3 := by rw [hs3]; decide
        have hs3_8 : ¬ ordF (sgF C (C 0 2)) = 8 := by rw [hs3]; decide
        have hs3_10 : ¬ ordF (sgF C (C 0 2)) = 10 := by rw [hs3]; decide
        refine y_aload_n Z dX4_readOrder_164 3 rfl rfl ?_
        refine y_VV Z (k_X4_readSemicolon l D ht0 aC (sF C 0 2 ((C 0 2) + 1))) (y_cwV 0 Z ml_RX4_60 im_X4_readSemicolon se_X4_readSemicolon in_X4 co_X4_readSemicolon rfl rfl hd_X4_readSemicolon ⟨Nat.le_of_ble_eq_true rfl, Nat.le_of_ble_eq_true rfl⟩) [0, 1, 2] rfl (by decide) 4 0 rfl rfl rfl rfl (Nat.le_of_ble_eq_true rfl) dX4_readOrder_165 ⟨Nat.le_of_ble_eq_true rfl, Nat.le_of_ble_eq_true rfl⟩ [(aC 0), (aC 1), (aC 2)] rfl rfl (wScr cI aC (gt_semi (sF C 0 2 ((C 0 2) + 1)))) rfl ?_
        refine y_aload_n Z dX4_readOrder_168 3 rfl rfl ?_
        refine y_iload_n Z dX4_readOrder_169 2 rfl rfl ?_
        refine y_iload_n Z dX4_readOrder_170 1 rfl rfl ?_
        refine y_iload_n Z dX4_readOrder_171 0 rfl rfl ?_
        refine y_VV Z (k_X4_keep l D ht0 aC (gt_semi (sF C 0 2 ((C 0 2) + 1))) (ordF (sgF C (C 0 2))) (-1) (-1)) (y_cwV 3 Z ml_RX4_63 im_X4_keep se_X4_keep in_X4 co_X4_keep rfl rfl hd_X4_keep ⟨Nat.le_of_ble_eq_true rfl, Nat.le_of_ble_eq_true rfl⟩) [0, 1, 2] rfl (by decide) 4 0 rfl rfl rfl rfl (Nat.le_of_ble_eq_true rfl) dX4_readOrder_172 ⟨Nat.le_of_ble_eq_true rfl, Nat.le_of_ble_eq_true rfl⟩ [(aC 0), (aC 1), (aC 2)] rfl rfl (wScr cI aC (gt_keep (gt_semi (sF C 0 2 ((C 0 2) + 1))) (ordF (sgF C (C 0 2))) (-1) (-1))) rfl ?_
        exact y_retV Z hr hlk dX4_readOrder_175 (by first | (simp only [gt_ro, gt_ro2, gt_fin, gt_at, h1, hs3_0, hs3_1, hs3_2, hs3_3, hs3_8, hs3_10, eq_true hs3, if_true, if_false, not_false_eq_true, not_true_eq_false, ↓reduceIte]; done) | (simp only [gt_ro, gt_ro2, gt_fin, gt_at, h1, hs3_0, hs3_1, hs3_2, hs3_3, hs3_8, hs3_10, eq_true hs3, if_true, if_false, not_false_eq_true, not_true_eq_false, ↓reduceIte, wMix, wLog, wPic, wRep, wScr, wVM, wMd, sR_eq, sR_ne, sF_eq, sF_ne, upd_eq, upd_ne, gs_eq, gs_ne, gm_4, gm_ne, Nat.reduceBEq]; done) | (with_reducible rfl) | contradiction | (simp only [gt_ro, gt_ro2, gt_fin, gt_at, h1, hs3_0, hs3_1, hs3_2, hs3_3, hs3_8, hs3_10, eq_true hs3, if_true, if_false, not_false_eq_true, not_true_eq_false, ↓reduceIte]; rfl) | rfl)
      · replace hs3 : ordF (sgF C (C 0 2)) = 10 := hs3
        refine y_tableIn (tgt := 151) (off := 110) Z dX4_readOrder_41 (by rw [hs3]; decide) (by rw [hs3]; decide) (by rw [hs3]; rfl) (by decide) ?_
        have hs3_0 : ¬ ordF (sgF C (C 0 2)) = 0 := by rw [hs3]; decide
        have hs3_1 : ¬ ordF (sgF C (C 0 2)) = 1 := by rw [hs3]; decide
        have hs3_2 : ¬ ordF (sgF C (C 0 2)) = 2 := by rw [hs3]; decide
        have hs3_3 : ¬ ordF (sgF C (C 0 2)) = 3 := by rw [hs3]; decide
        have hs3_8 : ¬ ordF (sgF C (C 0 2)) = 8 := by rw [hs3]; decide
        refine y_aload_n Z dX4_readOrder_151 3 rfl rfl ?_
        refine y_iconst (v := 3) Z dX4_readOrder_152 (by decide) ?_
        refine y_iconst (v := 0) Z dX4_readOrder_153 (by decide) ?_
        refine y_sipush (v := 999) Z dX4_readOrder_154 (by decide) ?_
        refine y_VI Z (k_X4_readNumber l D ht0 aC (sF C 0 2 ((C 0 2) + 1)) 3 0 999 (by decide)) (y_cwV 3 Z ml_RX4_56 im_X4_readNumber se_X4_readNumber in_X4 co_X4_readNumber rfl rfl hd_X4_readNumber ⟨Nat.le_of_ble_eq_true rfl, Nat.le_of_ble_eq_true rfl⟩) [0, 1, 2] rfl (by decide) 4 0 rfl rfl rfl rfl (Nat.le_of_ble_eq_true rfl) dX4_readOrder_157 ⟨Nat.le_of_ble_eq_true rfl, Nat.le_of_ble_eq_true rfl⟩ [(aC 0), (aC 1), (aC 2)] rfl rfl (wScr cI aC (gt_rnum (sF C 0 2 ((C 0 2) + 1)) 3 0 999)) rfl ?_
        refine y_istore_n Z [(2, .int ((rnX (sF C 0 2 ((C 0 2) + 1)) 3).2.1)), (3, .int (-1)), (1, .int (ordF (sgF C (C 0 2)))), (0, .ref (aC 0))] dX4_readOrder_160 rfl (by decide) rfl ?_
        refine y_goto (tgt := 164) Z dX4_readOrder_161 (by decide) ?_
        refine y_aload_n Z dX4_readOrder_164 3 rfl rfl ?_
        refine y_VV Z (k_X4_readSemicolon l D ht0 aC (gt_rnum (sF C 0 2 ((C 0 2) + 1)) 3 0 999)) (y_cwV 0 Z ml_RX4_60 im_X4_readSemicolon se_X4_readSemicolon in_X4 co_X4_readSemicolon rfl rfl hd_X4_readSemicolon ⟨Nat.le_of_ble_eq_true rfl, Nat.le_of_ble_eq_true rfl⟩) [0, 1, 2] rfl (by decide) 4 0 rfl rfl rfl rfl (Nat.le_of_ble_eq_true rfl) dX4_readOrder_165 ⟨Nat.le_of_ble_eq_true rfl, Nat.le_of_ble_eq_true rfl⟩ [(aC 0), (aC 1), (aC 2)] rfl rfl (wScr cI aC (gt_semi (gt_rnum (sF C 0 2 ((C 0 2) + 1)) 3 0 999))) rfl ?_
        refine y_aload_n Z dX4_readOrder_168 3 rfl rfl ?_
        refine y_iload_n Z dX4_readOrder_169 2 rfl rfl ?_
        refine y_iload_n Z dX4_readOrder_170 0 rfl rfl ?_
        refine y_iload_n Z dX4_readOrder_171 1 rfl rfl ?_
        refine y_VV Z (k_X4_keep l D ht0 aC (gt_semi (gt_rnum (sF C 0 2 ((C 0 2) + 1)) 3 0 999)) (ordF (sgF C (C 0 2))) ((rnX (sF C 0 2 ((C 0 2) + 1)) 3).2.1) (-1)) (y_cwV 3 Z ml_RX4_63 im_X4_keep se_X4_keep in_X4 co_X4_keep rfl rfl hd_X4_keep ⟨Nat.le_of_ble_eq_true rfl, Nat.le_of_ble_eq_true rfl⟩) [0, 1, 2] rfl (by decide) 4 0 rfl rfl rfl rfl (Nat.le_of_ble_eq_true rfl) dX4_readOrder_172 ⟨Nat.le_of_ble_eq_true rfl, Nat.le_of_ble_eq_true rfl⟩ [(aC 0), (aC 1), (aC 2)] rfl rfl (wScr cI aC (gt_keep (gt_semi (gt_rnum (sF C 0 2 ((C 0 2) + 1)) 3 0 999)) (ordF (sgF C (C 0 2))) ((rnX (sF C 0 2 ((C 0 2) + 1)) 3).2.1) (-1))) rfl ?_
        exact y_retV Z hr hlk dX4_readOrder_175 (by first | (simp only [gt_ro, gt_ro2, gt_fin, gt_at, h1, hs3_0, hs3_1, hs3_2, hs3_3, hs3_8, eq_true hs3, if_true, if_false, not_false_eq_true, not_true_eq_false, ↓reduceIte]; done) | (simp only [gt_ro, gt_ro2, gt_fin, gt_at, h1, hs3_0, hs3_1, hs3_2, hs3_3, hs3_8, eq_true hs3, if_true, if_false, not_false_eq_true, not_true_eq_false, ↓reduceIte, wMix, wLog, wPic, wRep, wScr, wVM, wMd, sR_eq, sR_ne, sF_eq, sF_ne, upd_eq, upd_ne, gs_eq, gs_ne, gm_4, gm_ne, Nat.reduceBEq]; done) | (with_reducible rfl) | contradiction | (simp only [gt_ro, gt_ro2, gt_fin, gt_at, h1, hs3_0, hs3_1, hs3_2, hs3_3, hs3_8, eq_true hs3, if_true, if_false, not_false_eq_true, not_true_eq_false, ↓reduceIte]; rfl) | rfl)
  · refine y_aload_n Z dX4_readOrder_21 3 rfl rfl ?_
    refine y_aload_n Z dX4_readOrder_22 3 rfl rfl ?_
    refine y_get (C := RX4) (T := TX4) (N := 6) Z 4 inlX4 rfl 0 rfl 4 (by decide) fl_RX4_33 rfl dX4_readOrder_23 ?_
    refine y_VV Z (k_X4_miss l D ht0 aC C (C 0 2)) (y_cwV 1 Z ml_RX4_49 im_X4_miss se_X4_miss in_X4 co_X4_miss rfl rfl hd_X4_miss ⟨Nat.le_of_ble_eq_true rfl, Nat.le_of_ble_eq_true rfl⟩) [0, 1, 2] rfl (by decide) 4 0 rfl rfl rfl rfl (Nat.le_of_ble_eq_true rfl) dX4_readOrder_26 ⟨Nat.le_of_ble_eq_true rfl, Nat.le_of_ble_eq_true rfl⟩ [(aC 0), (aC 1), (aC 2)] rfl rfl (wScr cI aC (gt_miss C (C 0 2))) rfl ?_
    exact y_retV Z hr hlk dX4_readOrder_29 (by first | (simp only [gt_ro, gt_ro2, gt_fin, gt_at, eq_true h2, if_true, if_false, not_false_eq_true, not_true_eq_false, ↓reduceIte]; done) | (simp only [gt_ro, gt_ro2, gt_fin, gt_at, eq_true h2, if_true, if_false, not_false_eq_true, not_true_eq_false, ↓reduceIte, wMix, wLog, wPic, wRep, wScr, wVM, wMd, sR_eq, sR_ne, sF_eq, sF_ne, upd_eq, upd_ne, gs_eq, gs_ne, gm_4, gm_ne, Nat.reduceBEq]; done) | (with_reducible rfl) | contradiction | (simp only [gt_ro, gt_ro2, gt_fin, gt_at, eq_true h2, if_true, if_false, not_false_eq_true, not_true_eq_false, ↓reduceIte]; rfl) | rfl)
set_option maxHeartbeats 4000000 in
set_option maxRecDepth 100000 in
theorem k_X4_read (l : Launch) (D : va_G) {cI : ClassId} {tys : List (ClassId × FieldType)} (ht0 : tys[0]? = some (cI, .int)) (aC : Nat → Nat) (C : Nat → Nat → Int32) (sz : Nat) : kI l yX4_read cX4_read 2 (some .int) { frames := 5, cells := 0, slots := 0, locals := 113 } D tys [.ref (aC 0)] (wScr cI aC C) (wScr cI aC (gt_read C)) (gt_read C 0 3) 0 0 sz := by
  refine y_enterI (cc := cX4_read) (maxL := 2) (ret := (some .int)) (own := RX4) (by decide) rfl (lv0 := [(0, .ref (aC 0))]) rfl (Nat.le_of_ble_eq_true rfl) ?_
  intro p e s m args below meth c A Z hr hlk _
  have L17 : ∀ (n : Nat) (x : (Nat → Nat → Int32) × Int32), reC (lw reC reB n x) = false → lw reC reB n x = (lw reC reB 121 (gt_re0 C, 0)) → Yy p l e { frames := 5, cells := 0, slots := 0, locals := 113 } s m args below meth c (QI D tys A (wScr cI aC (gt_read C)) (gt_read C 0 3) below args s 0 0) D A 2 0 0 (wScr cI aC x.1) [(0, .ref (aC 0)), (1, .int x.2)] [] 17 := by
    intro n; induction n with
    | zero =>
      intro x hc hx
      refine y_iload_n Z dX4_read_17 1 rfl rfl ?_
      refine y_bipush (v := 120) Z dX4_read_18 (by decide) ?_
      refine y_icmp_ge (tgt := 52) Z dX4_read_20 (by decide) (fun h1 => ?_) (fun h2 => ?_)
      · have hb : reC x = false := by simp only [reC, h1, ↓reduceIte]
        have ex : x = (lw reC reB 121 (gt_re0 C, 0)) := by rw [← hx, lw_f hb]
        refine y_aload_n Z dX4_read_52 0 rfl rfl ?_
        refine y_get (C := RX4) (T := TX4) (N := 6) Z 4 inlX4 rfl 0 rfl 5 (by decide) fl_RX4_36 rfl dX4_read_53 ?_
        exact y_retI Z hr hlk dX4_read_56 (by subst ex; first | (simp only [gt_read, gt_re0, h1, if_true, if_false, not_false_eq_true, not_true_eq_false, ↓reduceIte]; done) | (simp only [gt_read, gt_re0, h1, if_true, if_false, not_false_eq_true, not_true_eq_false, ↓reduceIte, wMix, wLog, wPic, wRep, wScr, wVM, wMd, sR_eq, sR_ne, sF_eq, sF_ne, upd_eq, upd_ne, gs_eq, gs_ne, gm_4, gm_ne, Nat.reduceBEq]; done) | (with_reducible rfl) | contradiction | (simp only [gt_read, gt_re0, h1, if_true, if_false, not_false_eq_true, not_true_eq_false, ↓reduceIte]; rfl) | rfl) (by subst ex; first | (simp only [gt_read, gt_re0, h1, if_true, if_false, not_false_eq_true, not_true_eq_false, ↓reduceIte]; done) | (simp only [gt_read, gt_re0, h1, if_true, if_false, not_false_eq_true, not_true_eq_false, ↓reduceIte, wMix, wLog, wPic, wRep, wScr, wVM, wMd, sR_eq, sR_ne, sF_eq, sF_ne, upd_eq, upd_ne, gs_eq, gs_ne, gm_4, gm_ne, Nat.reduceBEq]; done) | (with_reducible rfl) | contradiction | (simp only [gt_read, gt_re0, h1, if_true, if_false, not_false_eq_true, not_true_eq_false, ↓reduceIte]; rfl) | rfl)
      · refine y_aload_n Z dX4_read_23 0 rfl rfl ?_
        refine y_get (C := RX4) (T := TX4) (N := 6) Z 4 inlX4 rfl 0 rfl 4 (by decide) fl_RX4_33 rfl dX4_read_24 ?_
        refine y_aload_n Z dX4_read_27 0 rfl rfl ?_
        refine y_get (C := RX4) (T := TX4) (N := 6) Z 4 inlX4 rfl 0 rfl 2 (by decide) fl_RX4_18 rfl dX4_read_28 ?_
        refine y_icmp_ge (tgt := 52) Z dX4_read_31 (by decide) (fun h3 => ?_) (fun h4 => ?_)
        · have hb : reC x = false := by simp only [reC, h2, h3, ↓reduceIte]
          have ex : x = (lw reC reB 121 (gt_re0 C, 0)) := by rw [← hx, lw_f hb]
          refine y_aload_n Z dX4_read_52 0 rfl rfl ?_
          refine y_get (C := RX4) (T := TX4) (N := 6) Z 4 inlX4 rfl 0 rfl 5 (by decide) fl_RX4_36 rfl dX4_read_53 ?_
          exact y_retI Z hr hlk dX4_read_56 (by subst ex; first | (simp only [gt_read, gt_re0, h2, h3, if_true, if_false, not_false_eq_true, not_true_eq_false, ↓reduceIte]; done) | (simp only [gt_read, gt_re0, h2, h3, if_true, if_false, not_false_eq_true, not_true_eq_false, ↓reduceIte, wMix, wLog, wPic, wRep, wScr, wVM, wMd, sR_eq, sR_ne, sF_eq, sF_ne, upd_eq, upd_ne, gs_eq, gs_ne, gm_4, gm_ne, Nat.reduceBEq]; done) | (with_reducible rfl) | contradiction | (simp only [gt_read, gt_re0, h2, h3, if_true, if_false, not_false_eq_true, not_true_eq_false, ↓reduceIte]; rfl) | rfl) (by subst ex; first | (simp only [gt_read, gt_re0, h2, h3, if_true, if_false, not_false_eq_true, not_true_eq_false, ↓reduceIte]; done) | (simp only [gt_read, gt_re0, h2, h3, if_true, if_false, not_false_eq_true, not_true_eq_false, ↓reduceIte, wMix, wLog, wPic, wRep, wScr, wVM, wMd, sR_eq, sR_ne, sF_eq, sF_ne, upd_eq, upd_ne, gs_eq, gs_ne, gm_4, gm_ne, Nat.reduceBEq]; done) | (with_reducible rfl) | contradiction | (simp only [gt_read, gt_re0, h2, h3, if_true, if_false, not_false_eq_true, not_true_eq_false, ↓reduceIte]; rfl) | rfl)
        · refine y_aload_n Z dX4_read_34 0 rfl rfl ?_
          refine y_get (C := RX4) (T := TX4) (N := 6) Z 4 inlX4 rfl 0 rfl 5 (by decide) fl_RX4_36 rfl dX4_read_35 ?_
          refine y_iconst (v := -1) Z dX4_read_38 (by decide) ?_
          refine y_icmp_ne (tgt := 52) Z dX4_read_39 (by decide) (fun h5 => ?_) (fun h6 => ?_)
          · have hb : reC x = false := by simp only [reC, h2, h4, h5, ↓reduceIte]
            have ex : x = (lw reC reB 121 (gt_re0 C, 0)) := by rw [← hx, lw_f hb]
            refine y_aload_n Z dX4_read_52 0 rfl rfl ?_
            refine y_get (C := RX4) (T := TX4) (N := 6) Z 4 inlX4 rfl 0 rfl 5 (by decide) fl_RX4_36 rfl dX4_read_53 ?_
            exact y_retI Z hr hlk dX4_read_56 (by subst ex; first | (simp only [gt_read, gt_re0, h2, h4, h5, if_true, if_false, not_false_eq_true, not_true_eq_false, ↓reduceIte]; done) | (simp only [gt_read, gt_re0, h2, h4, h5, if_true, if_false, not_false_eq_true, not_true_eq_false, ↓reduceIte, wMix, wLog, wPic, wRep, wScr, wVM, wMd, sR_eq, sR_ne, sF_eq, sF_ne, upd_eq, upd_ne, gs_eq, gs_ne, gm_4, gm_ne, Nat.reduceBEq]; done) | (with_reducible rfl) | contradiction | (simp only [gt_read, gt_re0, h2, h4, h5, if_true, if_false, not_false_eq_true, not_true_eq_false, ↓reduceIte]; rfl) | rfl) (by subst ex; first | (simp only [gt_read, gt_re0, h2, h4, h5, if_true, if_false, not_false_eq_true, not_true_eq_false, ↓reduceIte]; done) | (simp only [gt_read, gt_re0, h2, h4, h5, if_true, if_false, not_false_eq_true, not_true_eq_false, ↓reduceIte, wMix, wLog, wPic, wRep, wScr, wVM, wMd, sR_eq, sR_ne, sF_eq, sF_ne, upd_eq, upd_ne, gs_eq, gs_ne, gm_4, gm_ne, Nat.reduceBEq]; done) | (with_reducible rfl) | contradiction | (simp only [gt_read, gt_re0, h2, h4, h5, if_true, if_false, not_false_eq_true, not_true_eq_false, ↓reduceIte]; rfl) | rfl)
          · exact absurd (show reC x = true by simp only [reC, h2, h4, eq_true h6, ↓reduceIte]) (by rw [show reC x = false from hc]; decide)
    | succ n ih =>
      intro x hc hx
      refine y_iload_n Z dX4_read_17 1 rfl rfl ?_
      refine y_bipush (v := 120) Z dX4_read_18 (by decide) ?_
      refine y_icmp_ge (tgt := 52) Z dX4_read_20 (by decide) (fun h7 => ?_) (fun h8 => ?_)
      · have hb : reC x = false := by simp only [reC, h7, ↓reduceIte]
        have ex : x = (lw reC reB 121 (gt_re0 C, 0)) := by rw [← hx, lw_f hb]
        refine y_aload_n Z dX4_read_52 0 rfl rfl ?_
        refine y_get (C := RX4) (T := TX4) (N := 6) Z 4 inlX4 rfl 0 rfl 5 (by decide) fl_RX4_36 rfl dX4_read_53 ?_
        exact y_retI Z hr hlk dX4_read_56 (by subst ex; first | (simp only [gt_read, gt_re0, h7, if_true, if_false, not_false_eq_true, not_true_eq_false, ↓reduceIte]; done) | (simp only [gt_read, gt_re0, h7, if_true, if_false, not_false_eq_true, not_true_eq_false, ↓reduceIte, wMix, wLog, wPic, wRep, wScr, wVM, wMd, sR_eq, sR_ne, sF_eq, sF_ne, upd_eq, upd_ne, gs_eq, gs_ne, gm_4, gm_ne, Nat.reduceBEq]; done) | (with_reducible rfl) | contradiction | (simp only [gt_read, gt_re0, h7, if_true, if_false, not_false_eq_true, not_true_eq_false, ↓reduceIte]; rfl) | rfl) (by subst ex; first | (simp only [gt_read, gt_re0, h7, if_true, if_false, not_false_eq_true, not_true_eq_false, ↓reduceIte]; done) | (simp only [gt_read, gt_re0, h7, if_true, if_false, not_false_eq_true, not_true_eq_false, ↓reduceIte, wMix, wLog, wPic, wRep, wScr, wVM, wMd, sR_eq, sR_ne, sF_eq, sF_ne, upd_eq, upd_ne, gs_eq, gs_ne, gm_4, gm_ne, Nat.reduceBEq]; done) | (with_reducible rfl) | contradiction | (simp only [gt_read, gt_re0, h7, if_true, if_false, not_false_eq_true, not_true_eq_false, ↓reduceIte]; rfl) | rfl)
      · refine y_aload_n Z dX4_read_23 0 rfl rfl ?_
        refine y_get (C := RX4) (T := TX4) (N := 6) Z 4 inlX4 rfl 0 rfl 4 (by decide) fl_RX4_33 rfl dX4_read_24 ?_
        refine y_aload_n Z dX4_read_27 0 rfl rfl ?_
        refine y_get (C := RX4) (T := TX4) (N := 6) Z 4 inlX4 rfl 0 rfl 2 (by decide) fl_RX4_18 rfl dX4_read_28 ?_
        refine y_icmp_ge (tgt := 52) Z dX4_read_31 (by decide) (fun h9 => ?_) (fun h10 => ?_)
        · have hb : reC x = false := by simp only [reC, h8, h9, ↓reduceIte]
          have ex : x = (lw reC reB 121 (gt_re0 C, 0)) := by rw [← hx, lw_f hb]
          refine y_aload_n Z dX4_read_52 0 rfl rfl ?_
          refine y_get (C := RX4) (T := TX4) (N := 6) Z 4 inlX4 rfl 0 rfl 5 (by decide) fl_RX4_36 rfl dX4_read_53 ?_
          exact y_retI Z hr hlk dX4_read_56 (by subst ex; first | (simp only [gt_read, gt_re0, h8, h9, if_true, if_false, not_false_eq_true, not_true_eq_false, ↓reduceIte]; done) | (simp only [gt_read, gt_re0, h8, h9, if_true, if_false, not_false_eq_true, not_true_eq_false, ↓reduceIte, wMix, wLog, wPic, wRep, wScr, wVM, wMd, sR_eq, sR_ne, sF_eq, sF_ne, upd_eq, upd_ne, gs_eq, gs_ne, gm_4, gm_ne, Nat.reduceBEq]; done) | (with_reducible rfl) | contradiction | (simp only [gt_read, gt_re0, h8, h9, if_true, if_false, not_false_eq_true, not_true_eq_false, ↓reduceIte]; rfl) | rfl) (by subst ex; first | (simp only [gt_read, gt_re0, h8, h9, if_true, if_false, not_false_eq_true, not_true_eq_false, ↓reduceIte]; done) | (simp only [gt_read, gt_re0, h8, h9, if_true, if_false, not_false_eq_true, not_true_eq_false, ↓reduceIte, wMix, wLog, wPic, wRep, wScr, wVM, wMd, sR_eq, sR_ne, sF_eq, sF_ne, upd_eq, upd_ne, gs_eq, gs_ne, gm_4, gm_ne, Nat.reduceBEq]; done) | (with_reducible rfl) | contradiction | (simp only [gt_read, gt_re0, h8, h9, if_true, if_false, not_false_eq_true, not_true_eq_false, ↓reduceIte]; rfl) | rfl)
        · refine y_aload_n Z dX4_read_34 0 rfl rfl ?_
          refine y_get (C := RX4) (T := TX4) (N := 6) Z 4 inlX4 rfl 0 rfl 5 (by decide) fl_RX4_36 rfl dX4_read_35 ?_
          refine y_iconst (v := -1) Z dX4_read_38 (by decide) ?_
          refine y_icmp_ne (tgt := 52) Z dX4_read_39 (by decide) (fun h11 => ?_) (fun h12 => ?_)
          · have hb : reC x = false := by simp only [reC, h8, h10, h11, ↓reduceIte]
            have ex : x = (lw reC reB 121 (gt_re0 C, 0)) := by rw [← hx, lw_f hb]
            refine y_aload_n Z dX4_read_52 0 rfl rfl ?_
            refine y_get (C := RX4) (T := TX4) (N := 6) Z 4 inlX4 rfl 0 rfl 5 (by decide) fl_RX4_36 rfl dX4_read_53 ?_
            exact y_retI Z hr hlk dX4_read_56 (by subst ex; first | (simp only [gt_read, gt_re0, h8, h10, h11, if_true, if_false, not_false_eq_true, not_true_eq_false, ↓reduceIte]; done) | (simp only [gt_read, gt_re0, h8, h10, h11, if_true, if_false, not_false_eq_true, not_true_eq_false, ↓reduceIte, wMix, wLog, wPic, wRep, wScr, wVM, wMd, sR_eq, sR_ne, sF_eq, sF_ne, upd_eq, upd_ne, gs_eq, gs_ne, gm_4, gm_ne, Nat.reduceBEq]; done) | (with_reducible rfl) | contradiction | (simp only [gt_read, gt_re0, h8, h10, h11, if_true, if_false, not_false_eq_true, not_true_eq_false, ↓reduceIte]; rfl) | rfl) (by subst ex; first | (simp only [gt_read, gt_re0, h8, h10, h11, if_true, if_false, not_false_eq_true, not_true_eq_false, ↓reduceIte]; done) | (simp only [gt_read, gt_re0, h8, h10, h11, if_true, if_false, not_false_eq_true, not_true_eq_false, ↓reduceIte, wMix, wLog, wPic, wRep, wScr, wVM, wMd, sR_eq, sR_ne, sF_eq, sF_ne, upd_eq, upd_ne, gs_eq, gs_ne, gm_4, gm_ne, Nat.reduceBEq]; done) | (with_reducible rfl) | contradiction | (simp only [gt_read, gt_re0, h8, h10, h11, if_true, if_false, not_false_eq_true, not_true_eq_false, ↓reduceIte]; rfl) | rfl)
          · have hb : reC x = true := by simp only [reC, h8, h10, eq_true h12, ↓reduceIte]
            refine y_aload_n Z dX4_read_42 0 rfl rfl ?_
            refine y_VV Z (k_X4_readOrder l D ht0 aC x.1) (y_cwV 0 Z ml_RX4_39 im_X4_readOrder se_X4_readOrder in_X4 co_X4_readOrder rfl rfl hd_X4_readOrder ⟨Nat.le_of_ble_eq_true rfl, Nat.le_of_ble_eq_true rfl⟩) [0, 1, 2] rfl (by decide) 4 0 rfl rfl rfl rfl (Nat.le_of_ble_eq_true rfl) dX4_read_43 ⟨Nat.le_of_ble_eq_true rfl, Nat.le_of_ble_eq_true rfl⟩ [(aC 0), (aC 1), (aC 2)] rfl rfl (wScr cI aC (gt_ro x.1)) rfl ?_
            refine y_iinc Z [(1, .int (x.2 + 1)), (0, .ref (aC 0))] dX4_read_46 1 rfl rfl (by decide) rfl ?_
            refine y_goto (tgt := 17) Z dX4_read_49 (by decide) ?_
            refine y_lv [1, 0] rfl ?_
            refine y_eq (ws' := (wScr cI aC ((reB x).1))) (lv' := [(0, .ref (aC 0)), (1, .int ((reB x).2))]) (st' := []) (by first | (simp only [reB, h8, h10, eq_true h12, if_true, if_false, not_false_eq_true, not_true_eq_false, ↓reduceIte]; done) | (simp only [reB, h8, h10, eq_true h12, if_true, if_false, not_false_eq_true, not_true_eq_false, ↓reduceIte, wMix, wLog, wPic, wRep, wScr, wVM, wMd, sR_eq, sR_ne, sF_eq, sF_ne, upd_eq, upd_ne, gs_eq, gs_ne, gm_4, gm_ne, Nat.reduceBEq]; done) | (with_reducible rfl) | contradiction | (simp only [reB, h8, h10, eq_true h12, if_true, if_false, not_false_eq_true, not_true_eq_false, ↓reduceIte]; rfl) | rfl) (by first | (simp only [reB, h8, h10, eq_true h12, if_true, if_false, not_false_eq_true, not_true_eq_false, ↓reduceIte]; done) | (simp only [reB, h8, h10, eq_true h12, if_true, if_false, not_false_eq_true, not_true_eq_false, ↓reduceIte, wMix, wLog, wPic, wRep, wScr, wVM, wMd, sR_eq, sR_ne, sF_eq, sF_ne, upd_eq, upd_ne, gs_eq, gs_ne, gm_4, gm_ne, Nat.reduceBEq]; done) | (with_reducible rfl) | contradiction | (simp only [reB, h8, h10, eq_true h12, if_true, if_false, not_false_eq_true, not_true_eq_false, ↓reduceIte]; rfl) | rfl) rfl ?_
            exact ih _ (by rw [lw_t hb] at hc; exact hc) (by rw [lw_t hb] at hx; exact hx)
  refine y_aload_n Z dX4_read_0 0 rfl rfl ?_
  refine y_iconst (v := 0) Z dX4_read_1 (by decide) ?_
  refine y_put (C := RX4) (T := TX4) (N := 6) Z 4 inlX4 rfl tyX4 tyX4_ok nmX4 0 rfl 4 (by decide) fl_RX4_33 rfl rfl rfl (Nat.le_of_ble_eq_true rfl) (wScrR cI aC (C 0 0) (C 0 1) 0 (C 0 3) (C 1) (C 2)) rfl dX4_read_2 ?_
  refine y_aload_n Z dX4_read_5 0 rfl rfl ?_
  refine y_iconst (v := 0) Z dX4_read_6 (by decide) ?_
  refine y_put (C := RX4) (T := TX4) (N := 6) Z 4 inlX4 rfl tyX4 tyX4_ok nmX4 0 rfl 3 (by decide) fl_RX4_26 rfl rfl rfl (Nat.le_of_ble_eq_true rfl) (wScrR cI aC (C 0 0) 0 0 (C 0 3) (C 1) (C 2)) rfl dX4_read_7 ?_
  refine y_aload_n Z dX4_read_10 0 rfl rfl ?_
  refine y_iconst (v := -1) Z dX4_read_11 (by decide) ?_
  refine y_put (C := RX4) (T := TX4) (N := 6) Z 4 inlX4 rfl tyX4 tyX4_ok nmX4 0 rfl 5 (by decide) fl_RX4_36 rfl rfl rfl (Nat.le_of_ble_eq_true rfl) (wScrR cI aC (C 0 0) 0 0 (-1) (C 1) (C 2)) rfl dX4_read_12 ?_
  refine y_iconst (v := 0) Z dX4_read_15 (by decide) ?_
  refine y_istore_n Z [(1, .int 0), (0, .ref (aC 0))] dX4_read_16 rfl (by decide) rfl ?_
  refine y_lv [1, 0] rfl ?_
  exact L17 121 (gt_re0 C, 0) (re_stop _) rfl
