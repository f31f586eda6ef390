/-! level 2: pictures, tallies, the digest -/
theorem bh_rm {J : Nat → Nat → Nat → Int32} {m : Nat → Int32} (h : RM (J 0) m) (o : mOk m) : RM (vm_bh J) (mr_cp m) := RM_cp (RM_cy (J 2) h) o
theorem tal_0 (J : Nat → Nat → Nat → Int32) : vm_tal J 0 = J 0 ∧ vm_tal J 3 = J 3 ∧ vm_tal J 7 = J 7 ∧ vm_tal J 5 = gt_paint (J 0) (J 5) ∧ vm_tal J 6 = gt_paint (vm_bh J) (J 6) := by
  unfold vm_tal
  refine ⟨?_, ?_, ?_, ?_, ?_⟩
  · rw [gs_ne _ _ _ rfl, gs_ne _ _ _ rfl, gs_ne _ _ _ rfl]
  · rw [gs_ne _ _ _ rfl, gs_ne _ _ _ rfl, gs_ne _ _ _ rfl]
  · rw [gs_ne _ _ _ rfl, gs_ne _ _ _ rfl, gs_ne _ _ _ rfl]
  · rw [gs_ne _ _ _ rfl, gs_eq]
  · rw [gs_eq]
theorem pP_0 (J : Nat → Nat → Nat → Int32) : vm_pP J 0 = J 0 ∧ vm_pP J 3 = J 3 ∧ vm_pP J 7 = J 7 := by
  unfold vm_pP
  rw [gs_ne _ _ _ rfl, gs_ne _ _ _ rfl, gs_ne _ _ _ rfl]
  exact ⟨rfl, rfl, rfl⟩
theorem go_s1 {q : Int32} (h : okS q) : ¬ mv_go (mv_is q) 1 1 = 0 := by rw [is_1 h]; decide
theorem go_s0 {q : Int32} (h : ¬ okS q) : mv_go (mv_is q) 1 1 = 0 := by rw [is_0 h]; rfl
theorem gf_s1 {q : Int32} (h : okS q) : mv_gf (mv_is q) 1 1 = 0 := by rw [is_1 h]; decide
theorem gf_s0 {q : Int32} (h : ¬ okS q) : mv_gf (mv_is q) 1 1 = 1 := by rw [is_0 h]; rfl
theorem S_02 (S : Nat → Nat → Int32) (v : Int32) : sF S 0 2 v 0 2 = v := by rw [sF_eq, upd_eq]
theorem c2_share {J : Nat → Nat → Nat → Int32} {S : Nat → Nat → Int32} (I : Inv J S) (q : Int32) (sn : Int32) : (okm (S 1)) ∧ (((okS q) ∧ (mc_share S q sn) 0 2 = 0 ∧ shF J q sn = (if mv_go (mv_is q) 1 1 = 0 then 0 else mv_sh (S 1) (mr_ls (S 1) (S 4)) q sn) ∧ Inv (vm_pP J) (mc_share S q sn)) ∨ (¬ (okS q) ∧ (mc_share S q sn) 0 2 = 1 ∧ Inv J (mc_share S q sn))) := by
  have o := inv_ok I
  have r : (mc_share S q sn) 0 2 = mv_gf (mv_is q) 1 1 := S_02 _ _
  obtain ⟨p0, p3, p7⟩ := pP_0 J
  refine ⟨okm_m o, ?_⟩
  by_cases h : okS q
  · left
    refine ⟨h, r.trans (gf_s1 h), ?_, inv_cg I p0 p3 p7 rfl rfl rfl eq_n.rf rfl rfl⟩
    rw [if_neg (go_s1 h)]
    obtain ⟨k, -, hk, rfl⟩ := okS_rg h
    exact share_eq (inv_rm I) o (pt_eq (inv_rm I) o (J 5) (S 4)) (by omega) sn
  · right
    exact ⟨h, r.trans (gf_s0 h), inv_cg I rfl rfl rfl rfl rfl rfl eq_n.rf rfl rfl⟩
theorem c2_faulty {J : Nat → Nat → Nat → Int32} {S : Nat → Nat → Int32} (I : Inv J S) : (okm (S 1)) ∧ (fyF (fpF (gt_paint (J 0) (J 5)) (J 0 0 9)) = fyF (mv_fy (S 1) (mr_ls (S 1) (S 4))) ∧ Inv (vm_pP J) (mc_faulty S)) := by
  have o := inv_ok I
  obtain ⟨p0, p3, p7⟩ := pP_0 J
  refine ⟨okm_m o, ?_, inv_cg I p0 p3 p7 rfl rfl rfl eq_n.rf rfl rfl⟩
  rw [fy_eq (inv_rm I) o (pt_eq (inv_rm I) o (J 5) (S 4))]
theorem t1_k (m a s : Nat → Int32) (q : Int32) : eq_n 20 m (mr_t1 m a s q) := by
  unfold mr_t1
  split
  · exact eq_n.rf
  · exact fun k hk => (tb_k m a hk).symm
theorem tp_eq {J : Nat → Nat → Nat → Int32} {m : Nat → Int32} (h : RM (J 0) m) (o : mOk m) (s : Nat → Int32) {k : Nat} (hk : k < 10) : (if cellF (gt_paint (J 0) (J 5) 1) 10 (nI k) ≤ 0 then (if cellF (gt_paint (vm_bh J) (J 6) 1) 10 (nI k) ≤ 0 then (0 : Int32) else 1) else 2) = mv_ty m s (nI k) :=
  ty_eq (pt_eq h o (J 5) s) (pt_eq (bh_rm h o) (mOk_cp o) (J 6) (mr_ls m s)) eq_n.rf eq_n.rf hk
theorem ty_1 (S : Nat → Nat → Int32) (q : Int32) : mc_tally S q 1 = (if mv_go (mv_is q) 1 1 = 0 then (S 1) else mr_t1 (S 1) (S 2) (S 4) q) := by
  unfold mc_tally
  rw [sF_ne _ _ _ _ rfl, sR_ne _ _ _ rfl, sR_ne _ _ _ rfl, sR_eq]
theorem ty_o (S : Nat → Nat → Int32) (q : Int32) : mc_tally S q 0 0 = S 0 0 ∧ mc_tally S q 0 1 = S 0 1 ∧ mc_tally S q 0 8 = S 0 8 ∧ mc_tally S q 3 = S 3 ∧ mc_tally S q 6 = S 6 := by
  unfold mc_tally
  generalize (if mv_go (mv_is q) 1 1 = 0 then (S 1) else mr_t1 (S 1) (S 2) (S 4) q) = a
  generalize (if mv_go (mv_is q) 1 1 = 0 then (S 2) else mr_t2 (S 1) (S 2) (S 4) q) = b
  generalize (if mv_go (mv_is q) 1 1 = 0 then (S 4) else mr_t4 (S 1) (S 4) q) = c
  exact ⟨rfl, rfl, rfl, rfl, rfl⟩
theorem c2_tally {J : Nat → Nat → Nat → Int32} {S : Nat → Nat → Int32} (I : Inv J S) (q : Int32) : (okm (S 1)) ∧ (((okS q) ∧ (mc_tally S q) 0 2 = 0 ∧ tpF (vm_tal J) q = (if mv_go (mv_is q) 1 1 = 0 then 0 else mv_ty (S 1) (S 4) q) ∧ Inv (vm_tal J) (mc_tally S q)) ∨ (¬ (okS q) ∧ (mc_tally S q) 0 2 = 1 ∧ Inv J (mc_tally S q))) := by
  have o := inv_ok I
  have r : (mc_tally S q) 0 2 = mv_gf (mv_is q) 1 1 := S_02 _ _
  obtain ⟨p0, p3, p7, p5, p6⟩ := tal_0 J
  refine ⟨okm_m o, ?_⟩
  by_cases h : okS q
  · left
    obtain ⟨b1, b2, b3, b4, b5⟩ := ty_o S q
    refine ⟨h, r.trans (gf_s1 h), ?_, inv_cg I p0 p3 p7 b1 b2 b3 ?_ b4 b5⟩
    · rw [if_neg (go_s1 h)]
      unfold tpF
      rw [p5, p6]
      obtain ⟨k, -, hk, rfl⟩ := okS_rg h
      exact tp_eq (inv_rm I) o (S 4) (by omega)
    · rw [ty_1, if_neg (go_s1 h)]
      exact t1_k _ _ _ _
  · right
    obtain ⟨b1, b2, b3, b4, b5⟩ := ty_o S q
    refine ⟨h, r.trans (gf_s0 h), inv_cg I rfl rfl rfl b1 b2 b3 ?_ b4 b5⟩
    rw [ty_1, if_pos (go_s0 h)]
    exact eq_n.rf
theorem ia_3 {N : Nat} (hN : N ≤ 100) : ((nI N).toInt64 - 1).toInt = (N : Int) - 1 := by
  rw [Int64.toInt_sub, Int32.toInt_toInt64, nI_toInt (by omega)]
  exact Int.bmod_eq_of_le (by show -(2 ^ 64 / 2) ≤ (N : Int) - 1; omega) (by show (N : Int) - 1 < (2 ^ 64 + 1) / 2; omega)
theorem ia_1 {N : Nat} (hN : N ≤ 100) {a : Int32} (h0 : ¬ a < 0) (h1 : a < nI N) : mv_ia a (nI N) = 1 := by
  have x := i_nlt.mp h0
  have y := Int32.lt_iff_toInt_lt.mp h1
  rw [nI_toInt (by omega)] at y
  rw [show (0 : Int32).toInt = 0 by decide] at x
  unfold mv_ia mv_in
  rw [if_neg (fun e => by
    have q := (lg_cmp_lt _ _).mp e
    rw [Int64.lt_iff_toInt_lt, Int32.toInt_toInt64, show (0 : Int64).toInt = 0 by decide] at q
    omega), if_neg (fun e => by
    have q := (lg_cmp_gt _ _).mp e
    rw [Int64.lt_iff_toInt_lt, Int32.toInt_toInt64, ia_3 hN] at q
    omega)]
theorem ia_0 {N : Nat} (hN : N ≤ 100) {a : Int32} (h : ¬ (¬ a < 0 ∧ a < nI N)) : mv_ia a (nI N) = 0 := by
  unfold mv_ia mv_in
  by_cases c : a < 0
  · rw [if_pos ((lg_cmp_lt _ _).mpr (by rw [Int64.lt_iff_toInt_lt, Int32.toInt_toInt64, show (0 : Int64).toInt = 0 by decide]; have := Int32.lt_iff_toInt_lt.mp c; rw [show (0 : Int32).toInt = 0 by decide] at this; exact this))]
  · have d : ¬ a < nI N := fun z => h ⟨c, z⟩
    have y := i_nlt.mp d
    rw [nI_toInt (by omega)] at y
    by_cases z : lg_cmp a.toInt64 0 < 0
    · rw [if_pos z]
    · rw [if_neg z, if_pos ((lg_cmp_gt _ _).mpr (by rw [Int64.lt_iff_toInt_lt, Int32.toInt_toInt64, ia_3 hN]; omega))]
theorem a_nI {N : Nat} (hN : N ≤ 100) {a : Int32} (h0 : ¬ a < 0) (h1 : a < nI N) : ∃ i : Nat, i < N ∧ a = nI i := by
  have x := i_nlt.mp h0
  have y := Int32.lt_iff_toInt_lt.mp h1
  rw [nI_toInt (by omega)] at y
  rw [show (0 : Int32).toInt = 0 by decide] at x
  exact ⟨a.toInt.toNat, by omega, by rw [← Int32.toInt_inj, nI_toInt (by omega)]; omega⟩
theorem inv_LE {J : Nat → Nat → Nat → Int32} {S : Nat → Nat → Int32} (I : Inv J S) : ∃ N, N ≤ 100 ∧ S 0 1 = nI N ∧ LE (J 3) (S 3) N := by
  obtain ⟨N, t, K, hN, ht, hK, h1, h2, h3, h4, h5, h6, -⟩ := I
  exact ⟨N, hN, h5, h4, h6⟩
theorem c2_act {J : Nat → Nat → Nat → Int32} {S : Nat → Nat → Int32} (I : Inv J S) (a : Int32) (w : Int32) : ((S 0 1) ≤ 100) ∧ (((okA J a) ∧ (okR w 0 3) ∧ (mc_act S a w) 0 2 = 0 ∧ lgT (J 3) a w = (if mv_go (mv_ia a (S 0 1)) (mv_in (Int32.toInt64 w) 0 3) 1 = 0 then 0 else (S 3) (cl (6 * a + w))) ∧ Inv J (mc_act S a w)) ∨ (¬ (okA J a) ∧ (mc_act S a w) 0 2 = 1 ∧ Inv J (mc_act S a w)) ∨ ((okA J a) ∧ ¬ (okR w 0 3) ∧ (mc_act S a w) 0 2 = 2 ∧ Inv J (mc_act S a w))) := by
  have r : (mc_act S a w) 0 2 = mv_gf (mv_ia a (S 0 1)) (mv_in (Int32.toInt64 w) 0 3) 1 := S_02 _ _
  refine ⟨(inv_n0 I).2.1, ?_⟩
  obtain ⟨N, hN, e, hL⟩ := inv_LE I
  have e3 : J 3 0 0 = nI N := hL.1
  rw [r, e]
  unfold okA
  rw [e3]
  by_cases h : ¬ a < 0 ∧ a < nI N
  · have e1 := ia_1 hN h.1 h.2
    by_cases h2 : okR w 0 3
    · have e2 : mv_in (Int32.toInt64 w) 0 3 = 1 := in_L1 (by decide) (by decide) h2
      left
      refine ⟨h, h2, by rw [e1, e2]; decide, ?_, inv_2 I _⟩
      rw [e1, e2, if_neg (show ¬ mv_go 1 1 1 = 0 by decide)]
      obtain ⟨i, hi, rfl⟩ := a_nI hN h.1 h.2
      obtain ⟨f, -, hf, rfl⟩ := okR_rg (a := 0) (b := 3) (by decide) (by decide) h2
      rw [lg_k hL hN hi (f := f) (by omega) (fi := nI f) rfl, show (6 : Int32) = nI 6 from rfl, nI_muln, nI_add, cl_k (by omega)]
    · right; right
      have e2 : mv_in (Int32.toInt64 w) 0 3 = 0 := in_L0 (by decide) (by decide) h2
      exact ⟨h, h2, by rw [e1, e2]; decide, inv_2 I _⟩
  · right; left
    exact ⟨h, by rw [ia_0 hN h]; rfl, inv_2 I _⟩
theorem ap_0 (J : Nat → Nat → Nat → Int32) (v : Int32) : vm_ap J v 0 = J 0 ∧ vm_ap J v 3 = J 3 ∧ vm_ap J v 7 = gt_sadd (J 7) v := by
  unfold vm_ap
  rw [gs_ne _ _ _ rfl, gs_ne _ _ _ rfl, gs_eq]
  exact ⟨rfl, rfl, rfl⟩
theorem sa_0 (C : Nat → Nat → Int32) (v : Int32) : gt_sadd C v 0 0 = C 0 0 + 1 ∧ gt_sadd C v 1 = putF (C 1) 120 (C 0 0) v := by
  unfold gt_sadd gt_sa2 gt_sa1
  simp only [sF_eq, sF_ne, sR_eq, sR_ne, upd_eq, upd_ne, Nat.reduceBEq]
  exact ⟨trivial, trivial⟩
theorem ma_0 {S : Nat → Nat → Int32} {v : Int32} (hg : ¬ mv_go (mv_in (Int32.toInt64 v) 0 127) (mv_tl (S 0 8)) 1 = 0) : mc_append S v 0 0 = S 0 0 ∧ mc_append S v 0 1 = S 0 1 ∧ mc_append S v 0 8 = S 0 8 + 1 ∧ mc_append S v 1 = S 1 ∧ mc_append S v 3 = S 3 ∧ mc_append S v 6 = upd (S 6) (cl (S 0 8)) v := by
  unfold mc_append
  rw [if_neg hg, if_neg hg]
  simp only [sF_eq, sF_ne, sR_eq, sR_ne, upd_eq, upd_ne, Nat.reduceBEq]
  exact ⟨trivial, trivial, trivial, trivial, trivial, trivial⟩
theorem ma_no {J : Nat → Nat → Nat → Int32} {S : Nat → Nat → Int32} (I : Inv J S) {v : Int32} (hg : mv_go (mv_in (Int32.toInt64 v) 0 127) (mv_tl (S 0 8)) 1 = 0) : Inv J (mc_append S v) := by
  have e : mc_append S v = sF (sF (sR S 6 (S 6)) 0 8 (S 0 8)) 0 2 (mv_gf (mv_in (Int32.toInt64 v) 0 127) (mv_tl (S 0 8)) 1) := by
    unfold mc_append
    rw [if_pos hg, if_pos hg]
  rw [e]
  exact inv_cg I rfl rfl rfl rfl rfl rfl eq_n.rf rfl rfl
theorem c2_append {J : Nat → Nat → Nat → Int32} {S : Nat → Nat → Int32} (I : Inv J S) (v : Int32) : (¬ (S 0 8) < 0) ∧ (((okR v 0 127) ∧ (okW J) ∧ (mc_append S v) 0 2 = 0 ∧ gt_sadd (J 7) v 0 0 = (if mv_go (mv_in (Int32.toInt64 v) 0 127) (mv_tl (S 0 8)) 1 = 0 then 0 else (S 0 8) + 1) ∧ Inv (vm_ap J v) (mc_append S v)) ∨ (¬ (okR v 0 127) ∧ (mc_append S v) 0 2 = 1 ∧ Inv J (mc_append S v)) ∨ ((okR v 0 127) ∧ ¬ (okW J) ∧ (mc_append S v) 0 2 = 2 ∧ Inv J (mc_append S v))) := by
  have r : (mc_append S v) 0 2 = mv_gf (mv_in (Int32.toInt64 v) 0 127) (mv_tl (S 0 8)) 1 := S_02 _ _
  refine ⟨(inv_n0 I).2.2.2.1, ?_⟩
  by_cases h : okR v 0 127
  · have e1 : mv_in (Int32.toInt64 v) 0 127 = 1 := in_L1 (by decide) (by decide) h
    have e3 := (inv_t I).2.2
    obtain ⟨K0, hK0, e4⟩ := (inv_n I).2.2
    by_cases hw : okW J
    · left
      have hlt : K0 < 120 := by
        rcases Nat.lt_or_ge K0 120 with q | q
        · exact q
        · exfalso
          unfold okW at hw
          rw [e3, e4, if_neg (show ¬ nI K0 < 120 from fun z => by have := (nI_lt_iff (b := 120) (by omega) (by decide)).mp z; omega)] at hw
          exact absurd hw (by decide)
      have e2 : mv_tl (S 0 8) = 1 := by
        unfold mv_tl
        rw [e4, if_neg (show ¬ (120 : Int32) ≤ nI K0 from nI_ge (a := K0) (b := 120) hlt (by decide))]
      have hg : ¬ mv_go (mv_in (Int32.toInt64 v) 0 127) (mv_tl (S 0 8)) 1 = 0 := by rw [e1, e2]; decide
      obtain ⟨a1, a2, a3⟩ := ap_0 J v
      obtain ⟨s1, s2⟩ := sa_0 (J 7) v
      obtain ⟨m1, m2, m3, m4, m5, m6⟩ := ma_0 hg
      refine ⟨h, hw, by rw [r, e1, e2]; decide, ?_, ?_⟩
      · rw [if_neg hg, s1, e3]
      · obtain ⟨N, t, K, hN, ht, hK, h1, h2, h3, h4, h5, h6, h7, h8, h9, h10, h11⟩ := I
        have eK : K = K0 := nI_inj (by omega) (by omega) (h9.symm.trans e4)
        subst eK
        obtain ⟨b, -, hb, eb⟩ := okR_rg (a := 0) (b := 127) (by decide) (by decide) h
        refine ⟨N, t, K + 1, hN, ht, hlt, ?_, ?_, ?_, ?_, ?_, ?_, ?_, ?_, ?_, ?_, ?_⟩
        · rw [a1, m4]; exact h1
        · rw [a1]; exact h2
        · rw [m1]; exact h3
        · rw [a2]; exact h4
        · rw [m2]; exact h5
        · rw [a2, m5]; exact h6
        · rw [m5]; exact h7
        · rw [a3, s1, h8, nI_1]
        · rw [m3, h9, nI_1]
        · rw [a3, s2, m6, h8, h9, putF_k _ _ hlt (by decide), cl_k (by omega)]
          intro i hi
          rw [upd_at, upd_at]
          by_cases q : i = K
          · rw [if_pos q, if_pos q]; exact ⟨rfl, b, by omega, eb⟩
          · rw [if_neg q, if_neg q]; exact h10 i (by omega)
        · rw [m4, m5]; exact h11
    · right; right
      have e2 : mv_tl (S 0 8) = 0 := by
        unfold mv_tl
        rw [if_pos]
        rcases Nat.lt_or_ge K0 120 with q | q
        · exfalso; apply hw
          unfold okW
          rw [e3, e4, if_pos (show nI K0 < 120 from nI_lt (b := 120) q (by decide))]
        · rw [e4]; exact nI_le (a := 120) q (by omega)
      exact ⟨h, hw, by rw [r, e1, e2]; decide, ma_no I (by rw [e1, e2]; decide)⟩
  · right; left
    have e1 : mv_in (Int32.toInt64 v) 0 127 = 0 := in_L0 (by decide) (by decide) h
    exact ⟨h, by rw [r, e1]; rfl, ma_no I (by rw [e1]; rfl)⟩
theorem psF_k {J : Nat → Nat → Nat → Int32} {S : Nat → Nat → Int32} (I : Inv J S) {k : Nat} (hk : k ≤ 8) : psF J (nI k) = mv_st (S 1) (S 0 0) (S 0 1) (nI k) := by
  obtain ⟨t1, t2, -⟩ := inv_t I
  have rm := inv_rm I
  unfold psF mv_st tellF
  rcases (show k = 0 ∨ k = 1 ∨ k = 2 ∨ k = 3 ∨ k = 4 ∨ k = 5 ∨ k = 6 ∨ k = 7 ∨ k = 8 by omega) with rfl | rfl | rfl | rfl | rfl | rfl | rfl | rfl | rfl
  · exact rm.1 0 (by omega)
  · exact rm.1 1 (by omega)
  · exact rm.1 2 (by omega)
  · exact rm.1 3 (by omega)
  · exact rm.1 4 (by omega)
  · exact rm.1 5 (by omega)
  · exact rm.1 6 (by omega)
  · exact t1
  · exact t2
theorem tlK {M : Nat → Nat → Int32} {m : Nat → Int32} (h : RM M m) {k : Nat} (hk : k < 3) : tellK M (nI k) 0 = m (7 + 4 * k) ∧ tellK M (nI k) 1 = m (7 + 4 * k + 1) ∧ tellK M (nI k) 2 = m (7 + 4 * k + 2) ∧ tellK M (nI k) 3 = m (7 + 4 * k + 3) := by
  obtain ⟨c1, c2, c3, c4⟩ := h.2.2.1 k hk
  unfold tellK
  refine ⟨?_, ?_, ?_, ?_⟩
  · rw [if_pos rfl, cellF_k _ hk (by decide)]; exact c1
  · rw [if_neg (by decide), if_pos rfl, cellF_k _ hk (by decide)]; exact c2
  · rw [if_neg (by decide), if_neg (by decide), if_pos rfl, cellF_k _ hk (by decide)]; exact c3
  · rw [if_neg (by decide), if_neg (by decide), if_neg (by decide), onF_bt, ite01a (bt01 _ _)]; exact c4
theorem hk_eq {M : Nat → Nat → Int32} {m : Nat → Int32} (h : RM M m) (x : Int64) : it (hkS M) 3 x = it (hd2 m) 12 x := by
  rw [it_s, it_s, it_s, it_0, it_s, it_s, it_s, it_s, it_s, it_s, it_s, it_s, it_s, it_s, it_s, it_s, it_0]
  obtain ⟨a0, a1, a2, a3⟩ := tlK h (k := 0) (by omega)
  obtain ⟨b0, b1, b2, b3⟩ := tlK h (k := 1) (by omega)
  obtain ⟨c0, c1, c2, c3⟩ := tlK h (k := 2) (by omega)
  unfold hkS hd2 hsF
  rw [a0, a1, a2, a3, b0, b1, b2, b3, c0, c1, c2, c3]
theorem h0_eq {J : Nat → Nat → Nat → Int32} {S : Nat → Nat → Int32} (I : Inv J S) : it (hkS (J 0)) 3 (hsF (hsF (hsF (hsF (hsF (hsF (hsF (hsF (hsF (hsF 3253 (J 7 0 0)) (psF J 0)) (psF J 1)) (psF J 2)) (psF J 3)) (psF J 4)) (psF J 5)) (psF J 6)) (psF J 7)) (psF J 8)) = hd0 (S 1) (S 0 0) (S 0 1) (S 0 8) := by
  rw [hk_eq (inv_rm I)]
  have k0 := psF_k I (k := 0) (by omega)
  have k1 := psF_k I (k := 1) (by omega)
  have k2 := psF_k I (k := 2) (by omega)
  have k3 := psF_k I (k := 3) (by omega)
  have k4 := psF_k I (k := 4) (by omega)
  have k5 := psF_k I (k := 5) (by omega)
  have k6 := psF_k I (k := 6) (by omega)
  have k7 := psF_k I (k := 7) (by omega)
  have k8 := psF_k I (k := 8) (by omega)
  have e : hsF (hsF (hsF (hsF (hsF (hsF (hsF (hsF (hsF (hsF 3253 (J 7 0 0)) (psF J 0)) (psF J 1)) (psF J 2)) (psF J 3)) (psF J 4)) (psF J 5)) (psF J 6)) (psF J 7)) (psF J 8) = it (hd1 (S 1) (S 0 0) (S 0 1)) 9 (31 * 3253 + Int32.toInt64 (S 0 8)) := by
    rw [it_s, it_s, it_s, it_s, it_s, it_s, it_s, it_s, it_s, it_0, (inv_t I).2.2]
    unfold hd1 hsF
    rw [← k0, ← k1, ← k2, ← k3, ← k4, ← k5, ← k6, ← k7, ← k8]
    rw [show nI 0 = (0 : Int32) from rfl, show nI 1 = (1 : Int32) from rfl, show nI 2 = (2 : Int32) from rfl, show nI 3 = (3 : Int32) from rfl, show nI 4 = (4 : Int32) from rfl, show nI 5 = (5 : Int32) from rfl, show nI 6 = (6 : Int32) from rfl, show nI 7 = (7 : Int32) from rfl, show nI 8 = (8 : Int32) from rfl]
  rw [e]
  unfold hd0
  with_reducible rfl
theorem hs_eq {J : Nat → Nat → Nat → Int32} {S : Nat → Nat → Int32} (I : Inv J S) (x : Int64) (a s : Nat → Int32) : eq_n 20 (S 1) (it hd3 10 (S 1, a, s, x)).1 ∧ it (hsS (J 0 0 9) (gt_paint (J 0) (J 5)) (gt_paint (vm_bh J) (J 6))) 10 x = (it hd3 10 (S 1, a, s, x)).2.2.2 := by
  have o := inv_ok I
  have h := inv_rm I
  have q := it_r (R := fun _ (h : Int64) (y : d4) => eq_n 20 (S 1) y.1 ∧ h = y.2.2.2) (f := hsS (J 0 0 9) (gt_paint (J 0) (J 5)) (gt_paint (vm_bh J) (J 6))) (g := hd3) (n := 10) (x := x) (y := (S 1, a, s, x)) (fun k hk u y e => by
    obtain ⟨e1, e2⟩ := e
    have h2 := RM_eq h e1
    have o2 := mOk_eq o e1
    refine ⟨e1.tr (t1_k _ _ _ _), ?_⟩
    have s1 := share_eq h2 o2 (pt_eq h2 o2 (J 5) y.2.2.1) hk 0
    have s2 := share_eq h2 o2 (pt_eq h2 o2 (J 5) (mr_ls y.1 y.2.2.1)) hk 1
    have s3 := tp_eq h2 o2 (mr_ls y.1 (mr_ls y.1 y.2.2.1)) hk
    rw [if_pos rfl] at s1
    rw [if_neg (by decide)] at s2
    unfold hsS hd3 hsF
    rw [s3, s1, s2, e2]) ⟨eq_n.rf, rfl⟩ 10 (by omega)
  exact q
theorem ha_eq {L : Nat → Nat → Int32} {E : Nat → Int32} {N : Nat} (hL : LE L E N) (hN : N ≤ 100) (h : Int64) : haX L h = hd4X E (nI N) h ∧ haC L (haX L h) = false := by
  have key : ∀ (d i : Nat), i + d = N → ∀ f : Nat, d < f → ∀ x : Int64, lw (haC L) (haB L) f (x, nI i) = lw (hd4C (nI N)) (hd4B E) f (x, nI i) ∧ haC L (lw (haC L) (haB L) f (x, nI i)) = false := by
    intro d
    induction d with
    | zero =>
      intro i hi f hf x
      have : i = N := by omega
      subst this
      have c1 : haC L (x, nI i) = false := by
        unfold haC
        rw [hL.1]
        exact if_pos (nI_le (Nat.le_refl _) (by omega))
      have c2 : hd4C (nI i) (x, nI i) = false := if_pos (show nI i ≤ nI i from nI_le (Nat.le_refl _) (by omega))
      rw [lw_f c1, lw_f c2]
      exact ⟨rfl, c1⟩
    | succ d ih =>
      intro i hi f hf x
      obtain ⟨g, rfl⟩ : ∃ g, f = g + 1 := ⟨f - 1, by omega⟩
      have c1 : haC L (x, nI i) = true := by
        unfold haC
        rw [hL.1]
        exact if_neg (show ¬ nI N ≤ nI i from nI_ge (by omega) (by omega))
      have c2 : hd4C (nI N) (x, nI i) = true := if_neg (show ¬ nI N ≤ nI i from nI_ge (by omega) (by omega))
      rw [lw_t c1, lw_t c2]
      have eb : haB L (x, nI i) = (hsF (hsF (hsF (hsF x (E (6 * i))) (E (6 * i + 1))) (E (6 * i + 2))) (E (6 * i + 3)), nI (i + 1)) := by
        unfold haB
        show (hsF (hsF (hsF (hsF x (lgT L (nI i) 0)) (lgT L (nI i) 1)) (lgT L (nI i) 2)) (lgT L (nI i) 3), nI i + 1) = _
        rw [lg_0 hL hN (by omega), lg_k hL hN (by omega) (f := 1) (by omega) (fi := 1) rfl, lg_k hL hN (by omega) (f := 2) (by omega) (fi := 2) rfl, lg_k hL hN (by omega) (f := 3) (by omega) (fi := 3) rfl, nI_1]
      have eb2 : hd4B E (x, nI i) = (hsF (hsF (hsF (hsF x (E (6 * i))) (E (6 * i + 1))) (E (6 * i + 2))) (E (6 * i + 3)), nI (i + 1)) := by
        unfold hd4B hsF
        show (31 * (31 * (31 * (31 * x + Int32.toInt64 (E (6 * cl (nI i)))) + Int32.toInt64 (E (6 * cl (nI i) + 1))) + Int32.toInt64 (E (6 * cl (nI i) + 2))) + Int32.toInt64 (E (6 * cl (nI i) + 3)), nI i + 1) = _
        rw [cl_k (by omega), nI_1]
      rw [eb, eb2]
      exact ih (i + 1) (by omega) g (by omega) _
  have q := key N 0 (by omega) 101 (by omega) h
  unfold haX hd4X
  exact q
theorem c2_digest {J : Nat → Nat → Nat → Int32} {S : Nat → Nat → Int32} (I : Inv J S) : ((S 0 1) ≤ 100) ∧ (okm (S 1)) ∧ ((haC (J 3) (haX (J 3) (dgH J)) = false) ∧ (haX (J 3) (dgH J)).1 = (hd4X (S 3) (S 0 1) (hd3X (S 1) (S 2) (S 4) (S 0 0) (S 0 1) (S 0 8) 10).2.2.2).1 ∧ Inv (vm_tal J) (mc_digest S)) := by
  have o := inv_ok I
  obtain ⟨N, hN, e, hL⟩ := inv_LE I
  obtain ⟨p0, p3, p7, -, -⟩ := tal_0 J
  have e0 : hd3X (S 1) (S 2) (S 4) (S 0 0) (S 0 1) (S 0 8) 10 = it hd3 10 (S 1, S 2, S 4, hd0 (S 1) (S 0 0) (S 0 1) (S 0 8)) := rfl
  obtain ⟨q1, q2⟩ := hs_eq I (hd0 (S 1) (S 0 0) (S 0 1) (S 0 8)) (S 2) (S 4)
  have e1 : dgH J = (it hd3 10 (S 1, S 2, S 4, hd0 (S 1) (S 0 0) (S 0 1) (S 0 8))).2.2.2 := by
    rw [← q2, ← h0_eq I]
    rfl
  obtain ⟨a, b⟩ := ha_eq hL hN (dgH J)
  refine ⟨(inv_n0 I).2.1, okm_m o, b, ?_, inv_cg I p0 p3 p7 rfl rfl rfl ?_ rfl rfl⟩
  · rw [a, e1, e0, ← e]
  · show eq_n 20 (S 1) ((hd3X (S 1) (S 2) (S 4) (S 0 0) (S 0 1) (S 0 8) 10).1)
    rw [e0]; exact q1
