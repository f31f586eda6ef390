/-! level 2: past times, acts taken out -/
theorem inv_d {J : Nat → Nat → Nat → Int32} {S : Nat → Nat → Int32} (I : Inv J S) : ∃ (N t : Nat) (τ : Nat → Nat), N ≤ 100 ∧ t ≤ 5000 ∧ S 0 1 = nI N ∧ S 0 0 = nI t ∧ J 0 0 7 = nI t ∧ LE (J 3) (S 3) N ∧ LV (S 3) N τ t ∧ eq_n 20 (S 1) (rp (S 3) N (-1) t).1 := by
  obtain ⟨N, t, K, hN, ht, hK, h1, h2, h3, h4, h5, h6, ⟨τ, j1, j2⟩, h8, h9, h10, h11⟩ := I
  exact ⟨N, t, τ, hN, ht, h5, h3, h2, ⟨h4, h6⟩, ⟨j1, j2⟩, h11⟩
theorem inv_go {J : Nat → Nat → Nat → Int32} {S : Nat → Nat → Int32} (I : Inv J S) (m : Nat → Int32) : eq_n 20 (S 1) (gtX (S 3) (S 0 1) (S 0 0) (-1) m).1 := by
  obtain ⟨N, t, τ, hN, ht, e1, e2, -, -, H, h⟩ := inv_d I
  rw [e1, e2]
  exact h.tr (gtX_eq H (by omega) hN (-1) ht m).1.sy
theorem rpl_0 (J : Nat → Nat → Nat → Int32) (t wo : Int32) : vm_replay J t wo 0 = J 0 ∧ vm_replay J t wo 3 = J 3 ∧ vm_replay J t wo 7 = J 7 ∧ vm_replay J t wo 4 = gt_goTo (J 3) t wo (gt_begin (J 4)) := by
  unfold vm_replay
  rw [gs_ne _ _ _ rfl, gs_ne _ _ _ rfl, gs_ne _ _ _ rfl, gs_eq]
  exact ⟨rfl, rfl, rfl, rfl⟩
theorem vrp_0 (J : Nat → Nat → Nat → Int32) (t wo : Int32) : vm_rp J t wo 0 = J 0 ∧ vm_rp J t wo 3 = J 3 ∧ vm_rp J t wo 7 = J 7 ∧ vm_rp J t wo 6 = gt_paint (gt_goTo (J 3) t wo (gt_begin (J 4))) (vm_replay J t wo 6) := by
  obtain ⟨a, b, c, d⟩ := rpl_0 J t wo
  unfold vm_rp vm_pO
  rw [gs_ne _ _ _ rfl, gs_ne _ _ _ rfl, gs_ne _ _ _ rfl, gs_eq, a, b, c, d]
  exact ⟨rfl, rfl, rfl, rfl⟩
/-- the replay to the time s: the class's Mix and the reference's row -/
theorem rpl_eq {L : Nat → Nat → Int32} {E : Nat → Int32} {N : Nat} {τ : Nat → Nat} {T : Nat} (H : LV E N τ T) (hT : T ≤ 5000) (hL : LE L E N) (hN : N ≤ 100) (wo : Int32) {s : Nat} (hs : s ≤ 5000) (R : Nat → Nat → Int32) (m : Nat → Int32) : RM (gt_goTo L (nI s) wo (gt_begin R)) (gtX E (nI N) (nI s) wo m).1 ∧ mOk (gtX E (nI N) (nI s) wo m).1 ∧ gt_goTo L (nI s) wo (gt_begin R) 0 8 = (gtX E (nI N) (nI s) wo m).2.1 ∧ gt_goTo L (nI s) wo (gt_begin R) 0 7 = nI s := by
  have a := go_eq H hT hL hN (wo := wo) (R := gt_begin R) (s := 0) (t := s) (RF_bg E N τ wo R) (by omega) hs
  obtain ⟨b1, b2, b3, b4⟩ := RT_rp H hT hN a hs
  obtain ⟨c1, c2, c3⟩ := gtX_eq H (by omega) hN wo hs m
  have o := (rp_ok H (by omega) hN wo (t := s) (by omega)).1
  exact ⟨RM_eq b1 c1.sy, mOk_eq o c1.sy, by rw [b3, c2], b2⟩
theorem okT_R {J : Nat → Nat → Nat → Int32} {S : Nat → Nat → Int32} (I : Inv J S) (t : Int32) : okT J t ↔ okR t 0 (S 0 0) := by
  unfold okT okR
  rw [(inv_t I).1]
theorem it_1 {J : Nat → Nat → Nat → Int32} {S : Nat → Nat → Int32} (I : Inv J S) {t : Int32} (h : okT J t) : mv_it t (S 0 0) = 1 := in_L1 (lo := 0) (hi := S 0 0) (by decide) rfl ((okT_R I t).mp h)
theorem it_z {J : Nat → Nat → Nat → Int32} {S : Nat → Nat → Int32} (I : Inv J S) {t : Int32} (h : ¬ okT J t) : mv_it t (S 0 0) = 0 := in_L0 (lo := 0) (hi := S 0 0) (by decide) rfl (fun z => h ((okT_R I t).mpr z))
theorem tell_k {M : Nat → Nat → Int32} {m : Nat → Int32} (rm : RM M m) {k : Nat} (hk : k ≤ 6) : tellF M (nI k) = m k := by
  unfold tellF
  rcases (show k = 0 ∨ k = 1 ∨ k = 2 ∨ k = 3 ∨ k = 4 ∨ k = 5 ∨ k = 6 by omega) with rfl | rfl | rfl | rfl | rfl | rfl | rfl
  · exact rm.1 0 (by omega)
  · exact rm.1 1 (by omega)
  · exact rm.1 2 (by omega)
  · exact rm.1 3 (by omega)
  · exact rm.1 4 (by omega)
  · exact rm.1 5 (by omega)
  · exact rm.1 6 (by omega)
theorem j3_le {J : Nat → Nat → Nat → Int32} {S : Nat → Nat → Int32} (I : Inv J S) : J 3 0 0 ≤ 100 := by
  rw [(inv_t I).2.1]; exact (inv_n0 I).2.1
theorem settingAt_1 (S : Nat → Nat → Int32) (t : Int32) (w : Int32) : mc_settingAt S t w 1 = if mv_go (mv_it t (S 0 0)) (mv_in (Int32.toInt64 w) 0 6) 1 = 0 then (S 1) else (gtX (S 3) (S 0 1) (S 0 0) (-1) (gtX (S 3) (S 0 1) t (-1) (S 1)).1).1 := by
  unfold mc_settingAt
  simp only [sF_eq, sF_ne, sR_eq, sR_ne, upd_eq, upd_ne, Nat.reduceBEq]
theorem settingAt_o (S : Nat → Nat → Int32) (t : Int32) (w : Int32) : mc_settingAt S t w 0 0 = S 0 0 ∧ mc_settingAt S t w 0 1 = S 0 1 ∧ mc_settingAt S t w 0 8 = S 0 8 ∧ mc_settingAt S t w 3 = S 3 ∧ mc_settingAt S t w 6 = S 6 := by
  unfold mc_settingAt
  simp only [sF_eq, sF_ne, sR_eq, sR_ne, upd_eq, upd_ne, Nat.reduceBEq]
  exact ⟨trivial, trivial, trivial, trivial, trivial⟩
theorem shareAt_1 (S : Nat → Nat → Int32) (t : Int32) (q : Int32) : mc_shareAt S t q 1 = if mv_go (mv_an (mv_it t (S 0 0)) (mv_is q)) 1 1 = 0 then (S 1) else (gtX (S 3) (S 0 1) (S 0 0) (-1) (gtX (S 3) (S 0 1) t (-1) (S 1)).1).1 := by
  unfold mc_shareAt
  simp only [sF_eq, sF_ne, sR_eq, sR_ne, upd_eq, upd_ne, Nat.reduceBEq]
theorem shareAt_o (S : Nat → Nat → Int32) (t : Int32) (q : Int32) : mc_shareAt S t q 0 0 = S 0 0 ∧ mc_shareAt S t q 0 1 = S 0 1 ∧ mc_shareAt S t q 0 8 = S 0 8 ∧ mc_shareAt S t q 3 = S 3 ∧ mc_shareAt S t q 6 = S 6 := by
  unfold mc_shareAt
  simp only [sF_eq, sF_ne, sR_eq, sR_ne, upd_eq, upd_ne, Nat.reduceBEq]
  exact ⟨trivial, trivial, trivial, trivial, trivial⟩
theorem redWithout_1 (S : Nat → Nat → Int32) (a : Int32) : mc_redWithout S a 1 = if mv_go (mv_ia a (S 0 1)) 1 1 = 0 then (S 1) else (gtX (S 3) (S 0 1) (S 0 0) (-1) (gtX (S 3) (S 0 1) (S 0 0) a (S 1)).1).1 := by
  unfold mc_redWithout
  simp only [sF_eq, sF_ne, sR_eq, sR_ne, upd_eq, upd_ne, Nat.reduceBEq]
theorem redWithout_o (S : Nat → Nat → Int32) (a : Int32) : mc_redWithout S a 0 0 = S 0 0 ∧ mc_redWithout S a 0 1 = S 0 1 ∧ mc_redWithout S a 0 8 = S 0 8 ∧ mc_redWithout S a 3 = S 3 ∧ mc_redWithout S a 6 = S 6 := by
  unfold mc_redWithout
  simp only [sF_eq, sF_ne, sR_eq, sR_ne, upd_eq, upd_ne, Nat.reduceBEq]
  exact ⟨trivial, trivial, trivial, trivial, trivial⟩
theorem runs_1 (S : Nat → Nat → Int32) : mc_runs S 1 = (gtX (S 3) (S 0 1) (S 0 0) (-1) (S 1)).1 := by
  unfold mc_runs
  simp only [sF_eq, sF_ne, sR_eq, sR_ne, upd_eq, upd_ne, Nat.reduceBEq]
theorem runs_o (S : Nat → Nat → Int32) : mc_runs S 0 0 = S 0 0 ∧ mc_runs S 0 1 = S 0 1 ∧ mc_runs S 0 8 = S 0 8 ∧ mc_runs S 3 = S 3 ∧ mc_runs S 6 = S 6 := by
  unfold mc_runs
  simp only [sF_eq, sF_ne, sR_eq, sR_ne, upd_eq, upd_ne, Nat.reduceBEq]
  exact ⟨trivial, trivial, trivial, trivial, trivial⟩
theorem c2_settingAt {J : Nat → Nat → Nat → Int32} {S : Nat → Nat → Int32} (I : Inv J S) (t : Int32) (w : Int32) : ((S 0 1) ≤ 100) ∧ (lgv (S 3) (S 0 1)) ∧ ((S 0 0) ≤ 5000) ∧ (((okT J t) ∧ (okR w 0 6) ∧ (J 3 0 0 ≤ 100) ∧ (mc_settingAt S t w) 0 2 = 0 ∧ tellF (vm_replay J t (-1) 4) w = (if mv_go (mv_it t (S 0 0)) (mv_in (Int32.toInt64 w) 0 6) 1 = 0 then 0 else (gtX (S 3) (S 0 1) t (-1) (S 1)).1 (cl w)) ∧ Inv (vm_replay J t (-1)) (mc_settingAt S t w)) ∨ (¬ (okT J t) ∧ (mc_settingAt S t w) 0 2 = 1 ∧ Inv J (mc_settingAt S t w)) ∨ ((okT J t) ∧ ¬ (okR w 0 6) ∧ (mc_settingAt S t w) 0 2 = 2 ∧ Inv J (mc_settingAt S t w))) := by
  refine ⟨(inv_n0 I).2.1, inv_lg I, (inv_n0 I).2.2.1, ?_⟩
  have r : (mc_settingAt S t w) 0 2 = mv_gf (mv_it t (S 0 0)) (mv_in (Int32.toInt64 w) 0 6) 1 := S_02 _ _
  have r1 := settingAt_1 S t w
  obtain ⟨b1, b2, b3, b4, b5⟩ := settingAt_o S t w
  obtain ⟨p0, p3, p7, p4⟩ := rpl_0 J t (-1)
  by_cases h : okT J t
  · have e1 := it_1 I h
    by_cases h2 : okR w 0 6
    · have e2 : mv_in (Int32.toInt64 w) 0 6 = 1 := in_L1 (by decide) (by decide) h2
      left
      have hg : ¬ mv_go (mv_it t (S 0 0)) (mv_in (Int32.toInt64 w) 0 6) 1 = 0 := by rw [e1, e2]; decide
      rw [if_neg hg] at r1
      refine ⟨h, h2, j3_le I, by rw [r, e1, e2]; decide, ?_, inv_cg I p0 p3 p7 b1 b2 b3 (by rw [r1]; exact inv_go I _) b4 b5⟩
      rw [if_neg hg, p4]
      obtain ⟨N, tt, τ, hN, ht, e3, e4, e5, hL, H, -⟩ := inv_d I
      have hR := (okT_R I t).mp h
      rw [e4] at hR
      obtain ⟨s, -, hs, rfl⟩ := okR_rg (a := 0) (b := tt) (by decide) (by omega) hR
      obtain ⟨k, -, hk, rfl⟩ := okR_rg (a := 0) (b := 6) (by decide) (by decide) h2
      obtain ⟨x, -⟩ := rpl_eq H ht hL hN (-1) (s := s) (by omega) (J 4) (S 1)
      rw [e3, cl_k (by omega)]
      exact tell_k x hk
    · right; right
      have e2 : mv_in (Int32.toInt64 w) 0 6 = 0 := in_L0 (by decide) (by decide) h2
      have hg : mv_go (mv_it t (S 0 0)) (mv_in (Int32.toInt64 w) 0 6) 1 = 0 := by rw [e1, e2]; decide
      rw [if_pos hg] at r1
      exact ⟨h, h2, by rw [r, e1, e2]; decide, inv_cg I rfl rfl rfl b1 b2 b3 (by rw [r1]; exact eq_n.rf) b4 b5⟩
  · right; left
    have e1 := it_z I h
    have hg : mv_go (mv_it t (S 0 0)) (mv_in (Int32.toInt64 w) 0 6) 1 = 0 := by rw [e1]; rfl
    rw [if_pos hg] at r1
    exact ⟨h, by rw [r, e1]; rfl, inv_cg I rfl rfl rfl b1 b2 b3 (by rw [r1]; exact eq_n.rf) b4 b5⟩
theorem c2_shareAt {J : Nat → Nat → Nat → Int32} {S : Nat → Nat → Int32} (I : Inv J S) (t : Int32) (q : Int32) : ((S 0 1) ≤ 100) ∧ (lgv (S 3) (S 0 1)) ∧ ((S 0 0) ≤ 5000) ∧ (((okT J t) ∧ (okS q) ∧ (J 3 0 0 ≤ 100) ∧ (mc_shareAt S t q) 0 2 = 0 ∧ cellF (vm_rp J t (-1) 6 1) 10 q = (if mv_go (mv_an (mv_it t (S 0 0)) (mv_is q)) 1 1 = 0 then 0 else mv_sh (gtX (S 3) (S 0 1) t (-1) (S 1)).1 (mr_ls (gtX (S 3) (S 0 1) t (-1) (S 1)).1 (S 4)) q 0) ∧ Inv (vm_rp J t (-1)) (mc_shareAt S t q)) ∨ (¬ (okT J t) ∧ (mc_shareAt S t q) 0 2 = 1 ∧ Inv J (mc_shareAt S t q)) ∨ ((okT J t) ∧ ¬ (okS q) ∧ (mc_shareAt S t q) 0 2 = 1 ∧ Inv J (mc_shareAt S t q))) := by
  refine ⟨(inv_n0 I).2.1, inv_lg I, (inv_n0 I).2.2.1, ?_⟩
  have r1 := shareAt_1 S t q
  obtain ⟨b1, b2, b3, b4, b5⟩ := shareAt_o S t q
  have r : (mc_shareAt S t q) 0 2 = mv_gf (mv_an (mv_it t (S 0 0)) (mv_is q)) 1 1 := by
    unfold mc_shareAt
    simp only [sF_eq, sF_ne, sR_eq, sR_ne, upd_eq, upd_ne, Nat.reduceBEq]
  obtain ⟨p0, p3, p7, p6⟩ := vrp_0 J t (-1)
  by_cases h : okT J t
  · have e1 := it_1 I h
    by_cases h2 : okS q
    · have e2 := is_1 h2
      left
      have hg : ¬ mv_go (mv_an (mv_it t (S 0 0)) (mv_is q)) 1 1 = 0 := by rw [e1, e2]; decide
      rw [if_neg hg] at r1
      refine ⟨h, h2, j3_le I, by rw [r, e1, e2]; decide, ?_, inv_cg I p0 p3 p7 b1 b2 b3 (by rw [r1]; exact inv_go I _) b4 b5⟩
      rw [if_neg hg, p6]
      obtain ⟨N, tt, τ, hN, ht, e3, e4, e5, hL, H, -⟩ := inv_d I
      have hR := (okT_R I t).mp h
      rw [e4] at hR
      obtain ⟨s, -, hs, rfl⟩ := okR_rg (a := 0) (b := tt) (by decide) (by omega) hR
      obtain ⟨k, -, hk, rfl⟩ := okS_rg h2
      obtain ⟨x, o, -⟩ := rpl_eq H ht hL hN (-1) (s := s) (by omega) (J 4) (S 1)
      rw [e3]
      have z := share_eq x o (pt_eq x o (vm_replay J (nI s) (-1) 6) (S 4)) (k := k) (by omega) 0
      rw [if_pos rfl] at z
      exact z
    · right; right
      have e2 := is_0 h2
      have hg : mv_go (mv_an (mv_it t (S 0 0)) (mv_is q)) 1 1 = 0 := by rw [e1, e2]; decide
      rw [if_pos hg] at r1
      exact ⟨h, h2, by rw [r, e1, e2]; decide, inv_cg I rfl rfl rfl b1 b2 b3 (by rw [r1]; exact eq_n.rf) b4 b5⟩
  · right; left
    have e1 := it_z I h
    have hg : mv_go (mv_an (mv_it t (S 0 0)) (mv_is q)) 1 1 = 0 := by rw [e1]; rfl
    rw [if_pos hg] at r1
    exact ⟨h, by rw [r, e1]; rfl, inv_cg I rfl rfl rfl b1 b2 b3 (by rw [r1]; exact eq_n.rf) b4 b5⟩
theorem c2_redWithout {J : Nat → Nat → Nat → Int32} {S : Nat → Nat → Int32} (I : Inv J S) (a : Int32) : ((S 0 1) ≤ 100) ∧ (lgv (S 3) (S 0 1)) ∧ ((S 0 0) ≤ 5000) ∧ (((okA J a) ∧ (J 3 0 0 ≤ 100) ∧ (mc_redWithout S a) 0 2 = 0 ∧ rdF (vm_rp J (J 0 0 7) a 6) = (if mv_go (mv_ia a (S 0 1)) 1 1 = 0 then 0 else mv_rd (mr_ls (gtX (S 3) (S 0 1) (S 0 0) a (S 1)).1 (S 4))) ∧ Inv (vm_rp J (J 0 0 7) a) (mc_redWithout S a)) ∨ (¬ (okA J a) ∧ (mc_redWithout S a) 0 2 = 1 ∧ Inv J (mc_redWithout S a))) := by
  refine ⟨(inv_n0 I).2.1, inv_lg I, (inv_n0 I).2.2.1, ?_⟩
  have r1 := redWithout_1 S a
  obtain ⟨b1, b2, b3, b4, b5⟩ := redWithout_o S a
  have r : (mc_redWithout S a) 0 2 = mv_gf (mv_ia a (S 0 1)) 1 1 := by
    unfold mc_redWithout
    simp only [sF_eq, sF_ne, sR_eq, sR_ne, upd_eq, upd_ne, Nat.reduceBEq]
  obtain ⟨p0, p3, p7, p6⟩ := vrp_0 J (J 0 0 7) a
  obtain ⟨N, tt, τ, hN, ht, e3, e4, e5, hL, H, -⟩ := inv_d I
  have e6 : J 3 0 0 = nI N := hL.1
  by_cases h : okA J a
  · left
    have h' := h
    unfold okA at h'
    rw [e6] at h'
    have e1 := ia_1 hN h'.1 h'.2
    rw [← e3] at e1
    have hg : ¬ mv_go (mv_ia a (S 0 1)) 1 1 = 0 := by rw [e1]; decide
    rw [if_neg hg] at r1
    refine ⟨h, j3_le I, by rw [r, e1]; decide, ?_, inv_cg I p0 p3 p7 b1 b2 b3 (by rw [r1]; exact inv_go I _) b4 b5⟩
    rw [if_neg hg, p6, e5, e3, e4]
    obtain ⟨x, o, -⟩ := rpl_eq H ht hL hN a (s := tt) ht (J 4) (S 1)
    exact rd_eq (pt_eq x o _ _)
  · right
    have h' := h
    unfold okA at h'
    rw [e6] at h'
    have e1 := ia_0 hN h'
    rw [← e3] at e1
    have hg : mv_go (mv_ia a (S 0 1)) 1 1 = 0 := by rw [e1]; rfl
    rw [if_pos hg] at r1
    exact ⟨h, by rw [r, e1]; rfl, inv_cg I rfl rfl rfl b1 b2 b3 (by rw [r1]; exact eq_n.rf) b4 b5⟩
theorem c2_runs {J : Nat → Nat → Nat → Int32} {S : Nat → Nat → Int32} (I : Inv J S) : ((S 0 1) ≤ 100) ∧ (lgv (S 3) (S 0 1)) ∧ ((S 0 0) ≤ 5000) ∧ ((J 3 0 0 ≤ 100) ∧ vm_replay J (J 0 0 7) (-1) 4 0 8 = (gtX (S 3) (S 0 1) (S 0 0) (-1) (S 1)).2.1 ∧ Inv (vm_replay J (J 0 0 7) (-1)) (mc_runs S)) := by
  refine ⟨(inv_n0 I).2.1, inv_lg I, (inv_n0 I).2.2.1, j3_le I, ?_⟩
  have r1 := runs_1 S
  obtain ⟨b1, b2, b3, b4, b5⟩ := runs_o S
  obtain ⟨p0, p3, p7, p4⟩ := rpl_0 J (J 0 0 7) (-1)
  obtain ⟨N, tt, τ, hN, ht, e3, e4, e5, hL, H, -⟩ := inv_d I
  refine ⟨?_, inv_cg I p0 p3 p7 b1 b2 b3 (by rw [r1]; exact inv_go I _) b4 b5⟩
  obtain ⟨x, o, y, -⟩ := rpl_eq H ht hL hN (-1) (s := tt) ht (J 4) (S 1)
  rw [p4, e5, e3, e4]
  exact y
/-! an act taken out -/
/-- the log without the act i -/
def xE (E : Nat → Int32) (i q : Nat) : Nat → Int32 := fun k => if 6 * i ≤ k ∧ k < q then E (k + 6) else E k
theorem rx_eq {L : Nat → Nat → Int32} {E : Nat → Int32} {N : Nat} (hL : LE L E N) (hN : N ≤ 100) {i : Nat} (hi : i < N) : (rxX E (nI (N - 1)) (nI i)).1 = xE E i (6 * (N - 1)) ∧ rmStop L (nI i) ∧ LE (gt_lrem L (nI i)) (xE E i (6 * (N - 1))) (N - 1) := by
  have key : ∀ (d q : Nat), q + d = 6 * (N - 1) → 6 * i ≤ q → ∀ (f g : Nat), d < f → d < g → ∀ X : Nat → Nat → Int32, X 0 0 = nI N → (∀ k, k < 6 * N → X 1 k = xE E i q k) → (lw (rxC (nI (N - 1))) rxB f (xE E i q, nI q)).1 = xE E i (6 * (N - 1)) ∧ (rmC (lw rmC rmB g (X, nI q)) = false) ∧ (lw rmC rmB g (X, nI q)).1 0 0 = nI N ∧ ∀ k, k < 6 * N → (lw rmC rmB g (X, nI q)).1 1 k = xE E i (6 * (N - 1)) k := by
    intro d
    induction d with
    | zero =>
      intro q hq hiq f g hf hg X h0 h1
      have : q = 6 * (N - 1) := by omega
      subst this
      have c1 : rxC (nI (N - 1)) (xE E i (6 * (N - 1)), nI (6 * (N - 1))) = false := by
        unfold rxC
        rw [show (6 : Int32) = nI 6 from rfl, nI_muln]
        exact if_pos (nI_le (Nat.le_refl _) (by omega))
      have c2 : rmC (X, nI (6 * (N - 1))) = false := by
        unfold rmC
        show (if (X 0 0 - 1) * 6 ≤ nI (6 * (N - 1)) then false else true) = false
        rw [h0, show (1 : Int32) = nI 1 from rfl, nI_sub (by omega) (by omega), show (6 : Int32) = nI 6 from rfl, nI_muln, Nat.mul_comm, if_pos (nI_le (Nat.le_refl _) (by omega))]
      rw [lw_f c1, lw_f c2]
      exact ⟨rfl, c2, h0, h1⟩
    | succ d ih =>
      intro q hq hiq f g hf hg X h0 h1
      obtain ⟨f', rfl⟩ : ∃ z, f = z + 1 := ⟨f - 1, by omega⟩
      obtain ⟨g', rfl⟩ : ∃ z, g = z + 1 := ⟨g - 1, by omega⟩
      have c1 : rxC (nI (N - 1)) (xE E i q, nI q) = true := by
        unfold rxC
        rw [show (6 : Int32) = nI 6 from rfl, nI_muln]
        exact if_neg (nI_ge (by omega) (by omega))
      have c2 : rmC (X, nI q) = true := by
        unfold rmC
        show (if (X 0 0 - 1) * 6 ≤ nI q then false else true) = true
        rw [h0, show (1 : Int32) = nI 1 from rfl, nI_sub (by omega) (by omega), show (6 : Int32) = nI 6 from rfl, nI_muln, Nat.mul_comm, if_neg (nI_ge (by omega) (by omega))]
      have ex : upd (xE E i q) q (xE E i q (q + 6)) = xE E i (q + 1) := by
        funext k
        rw [upd_at]
        unfold xE
        by_cases z : k = q
        · subst z
          rw [if_pos rfl, if_neg (by omega), if_pos (by omega)]
        · rw [if_neg z]
          by_cases w : 6 * i ≤ k ∧ k < q
          · rw [if_pos w, if_pos (by omega)]
          · rw [if_neg w, if_neg (by omega)]
      have b1 : rxB (xE E i q, nI q) = (xE E i (q + 1), nI (q + 1)) := by
        unfold rxB
        show (upd (xE E i q) (cl (nI q)) (xE E i q (cl (nI q + 6))), nI q + 1) = _
        rw [show nI q + 6 = nI (q + 6) from nI_add q 6, cl_k (by omega), cl_k (by omega), nI_1, ex]
      have b2 : rmB (X, nI q) = (sR X 1 (upd (X 1) q (X 1 (q + 6))), nI (q + 1)) := by
        unfold rmB
        show (sR X 1 (putF (X 1) 600 (nI q) (cellF (X 1) 600 (nI q + 6))), nI q + 1) = _
        rw [show nI q + 6 = nI (q + 6) from nI_add q 6, cellF_k _ (by omega) (by decide), putF_k _ _ (by omega) (by decide), nI_1]
      rw [lw_t c1, lw_t c2, b1, b2]
      refine ih (q + 1) (by omega) (by omega) f' g' (by omega) (by omega) _ ?_ (fun k hk => ?_)
      · rw [sR_ne _ _ _ rfl]; exact h0
      · rw [sR_eq, ← ex, upd_at, upd_at, h1 (q + 6) (by omega), h1 k hk]
  have x0 : xE E i (6 * i) = E := by
    funext k
    unfold xE
    rw [if_neg (by omega)]
  obtain ⟨a, b, c, d⟩ := key (6 * (N - 1) - 6 * i) (6 * i) (by omega) (by omega) 601 600 (by omega) (by omega) L hL.1 (by rw [x0]; exact hL.2)
  rw [x0] at a
  have e6 : nI i * 6 = nI (6 * i) := by rw [show (6 : Int32) = nI 6 from rfl, nI_muln, Nat.mul_comm]
  have e7 : 6 * nI i = nI (6 * i) := by rw [show (6 : Int32) = nI 6 from rfl, nI_muln]
  refine ⟨?_, ?_, ?_, ?_⟩
  · unfold rxX; rw [e7]; exact a
  · unfold rmStop; rw [e6]; exact b
  · unfold gt_lrem gt_lrE
    rw [e6, sF_eq, upd_eq, c, show (1 : Int32) = nI 1 from rfl, nI_sub (by omega) (by omega)]
  · unfold gt_lrem gt_lrE
    rw [e6, sF_ne _ _ _ _ rfl]
    exact fun k hk => d k (by omega)
theorem xE_LV {E : Nat → Int32} {N : Nat} {τ : Nat → Nat} {T : Nat} (H : LV E N τ T) {i : Nat} (hi : i < N) : LV (xE E i (6 * (N - 1))) (N - 1) (fun j => if j < i then τ j else τ (j + 1)) T := by
  refine ⟨fun j hj => ?_, fun j k hjk hk => ?_⟩
  · by_cases q : j < i
    · have e : ∀ f, f < 6 → xE E i (6 * (N - 1)) (6 * j + f) = E (6 * j + f) := fun f hf => by unfold xE; rw [if_neg (by omega)]
      have e0 := e 0 (by omega)
      rw [Nat.add_zero] at e0
      rw [e0, e 1 (by omega), e 2 (by omega), e 3 (by omega), e 4 (by omega), e 5 (by omega)]
      simp only [if_pos q]
      exact H.1 j (by omega)
    · have e : ∀ f, f < 6 → xE E i (6 * (N - 1)) (6 * j + f) = E (6 * (j + 1) + f) := fun f hf => by unfold xE; rw [if_pos (by omega)]; congr 1; omega
      have e0 := e 0 (by omega)
      rw [Nat.add_zero, Nat.add_zero] at e0
      rw [e0, e 1 (by omega), e 2 (by omega), e 3 (by omega), e 4 (by omega), e 5 (by omega)]
      simp only [if_neg q]
      exact H.1 (j + 1) (by omega)
  · by_cases q : k < i
    · simp only [if_pos q, if_pos (show j < i by omega)]
      exact H.2 j k hjk (by omega)
    · simp only [if_neg q]
      split
      · exact H.2 j (k + 1) (by omega) (by omega)
      · exact H.2 (j + 1) (k + 1) (by omega) (by omega)
theorem tk_0 (J : Nat → Nat → Nat → Int32) (a : Int32) : vm_tk J a 0 = gt_copy (J 0) (gt_goTo (gt_lrem (J 3) a) (J 0 0 7) (-1) (gt_begin (J 4))) ∧ vm_tk J a 3 = gt_lrem (J 3) a ∧ vm_tk J a 7 = J 7 := by
  unfold vm_tk vm_cn vm_replay vm_rm
  simp only [gs_eq, gs_ne, Nat.reduceBEq]
  exact ⟨trivial, trivial, trivial⟩
theorem tk_eq2 {J : Nat → Nat → Nat → Int32} {S S' : Nat → Nat → Int32} (I : Inv J S) {N i : Nat} (hN : S 0 1 = nI N) (hi : i < N) (hN2 : N ≤ 100) (s0 : S' 0 0 = S 0 0) (s1 : S' 0 1 = S 0 1 - 1) (s8 : S' 0 8 = S 0 8) (r1 : S' 1 = (gtX (rxX (S 3) (S 0 1 - 1) (nI i)).1 (S 0 1 - 1) (S 0 0) (-1) (S 1)).1) (r3 : S' 3 = (rxX (S 3) (S 0 1 - 1) (nI i)).1) (r6 : S' 6 = S 6) : S 0 1 - 1 = nI (N - 1) ∧ lgv (rxX (S 3) (S 0 1 - 1) (nI i)).1 (S 0 1 - 1) ∧ gt_lrem (J 3) (nI i) 0 0 = nI (N - 1) ∧ rmStop (J 3) (nI i) ∧ Inv (vm_tk J (nI i)) S' := by
  have en : S 0 1 - 1 = nI (N - 1) := by rw [hN, show (1 : Int32) = nI 1 from rfl, nI_sub (by omega) (by omega)]
  obtain ⟨N', t, K, hN', ht, hK, h1, h2, h3, h4, h5, h6, ⟨τ, j1, j2⟩, h8, h9, h10, h11⟩ := I
  have eN : N' = N := nI_inj (by omega) (by omega) (h5.symm.trans hN)
  subst eN
  have H : LV (S 3) N' τ t := ⟨j1, j2⟩
  obtain ⟨x1, x2, x3⟩ := rx_eq (L := J 3) (E := S 3) ⟨h4, h6⟩ hN2 hi
  have H2 := xE_LV H hi
  rw [en, x1] at r3 r1
  rw [en, x1]
  obtain ⟨t0, t3, t7⟩ := tk_0 J (nI i)
  refine ⟨rfl, lgv_V H2 (by omega), x3.1, x2, N' - 1, t, K, by omega, ht, hK, ?_, ?_, ?_, ?_, ?_, ?_, ?_, ?_, ?_, ?_, ?_⟩
  · rw [t0, r1, h2, h3]
    exact RM_cy _ (rpl_eq H2 ht x3 (by omega) (-1) (s := t) ht (J 4) (S 1)).1
  · rw [t0, cy_0 _ _ (by omega), h2]
    exact (rpl_eq H2 ht x3 (by omega) (-1) (s := t) ht (J 4) (S 1)).2.2.2
  · rw [s0]; exact h3
  · rw [t3]; exact x3.1
  · rw [s1]; exact en
  · rw [t3, r3]; exact x3.2
  · rw [r3]; exact ⟨_, H2.1, H2.2⟩
  · rw [t7]; exact h8
  · rw [s8]; exact h9
  · rw [t7, r6]; exact h10
  · rw [r1, r3, h3]
    exact (gtX_eq H2 (by omega) (by omega) (-1) ht (S 1)).1
theorem takeOut_o (S : Nat → Nat → Int32) (a : Int32) (hg : ¬ mv_go (mv_ia a (S 0 1)) 1 1 = 0) : mc_takeOut S a 0 0 = S 0 0 ∧ mc_takeOut S a 0 1 = S 0 1 - 1 ∧ mc_takeOut S a 0 8 = S 0 8 ∧ mc_takeOut S a 1 = (gtX (rxX (S 3) ((S 0 1) - 1) a).1 ((S 0 1) - 1) (S 0 0) (-1) (S 1)).1 ∧ mc_takeOut S a 3 = (rxX (S 3) ((S 0 1) - 1) a).1 ∧ mc_takeOut S a 6 = S 6 := by
  unfold mc_takeOut
  simp only [if_neg hg, sF_eq, sF_ne, sR_eq, sR_ne, upd_eq, upd_ne, Nat.reduceBEq]
  exact ⟨trivial, trivial, trivial, trivial, trivial, trivial⟩
theorem takeOut_n (S : Nat → Nat → Int32) (a : Int32) (hg : mv_go (mv_ia a (S 0 1)) 1 1 = 0) : mc_takeOut S a 0 0 = S 0 0 ∧ mc_takeOut S a 0 1 = S 0 1 ∧ mc_takeOut S a 0 8 = S 0 8 ∧ mc_takeOut S a 1 = S 1 ∧ mc_takeOut S a 3 = S 3 ∧ mc_takeOut S a 6 = S 6 := by
  unfold mc_takeOut
  simp only [if_pos hg, sF_eq, sF_ne, sR_eq, sR_ne, upd_eq, upd_ne, Nat.reduceBEq]
  exact ⟨trivial, trivial, trivial, trivial, trivial, trivial⟩
theorem takeOut_2 (S : Nat → Nat → Int32) (a : Int32) : mc_takeOut S a 0 2 = mv_gf (mv_ia a (S 0 1)) 1 1 := by
  unfold mc_takeOut
  simp only [sF_eq, sF_ne, sR_eq, sR_ne, upd_eq, upd_ne, Nat.reduceBEq]
theorem undo_o (S : Nat → Nat → Int32) (hg : ¬ mv_go (mv_po (S 0 1)) 1 1 = 0) : mc_undo S 0 0 = S 0 0 ∧ mc_undo S 0 1 = S 0 1 - 1 ∧ mc_undo S 0 8 = S 0 8 ∧ mc_undo S 1 = (gtX (rxX (S 3) ((S 0 1) - 1) ((S 0 1) - 1)).1 ((S 0 1) - 1) (S 0 0) (-1) (S 1)).1 ∧ mc_undo S 3 = (rxX (S 3) ((S 0 1) - 1) ((S 0 1) - 1)).1 ∧ mc_undo S 6 = S 6 := by
  unfold mc_undo
  simp only [if_neg hg, sF_eq, sF_ne, sR_eq, sR_ne, upd_eq, upd_ne, Nat.reduceBEq]
  exact ⟨trivial, trivial, trivial, trivial, trivial, trivial⟩
theorem undo_n (S : Nat → Nat → Int32) (hg : mv_go (mv_po (S 0 1)) 1 1 = 0) : mc_undo S 0 0 = S 0 0 ∧ mc_undo S 0 1 = S 0 1 ∧ mc_undo S 0 8 = S 0 8 ∧ mc_undo S 1 = S 1 ∧ mc_undo S 3 = S 3 ∧ mc_undo S 6 = S 6 := by
  unfold mc_undo
  simp only [if_pos hg, sF_eq, sF_ne, sR_eq, sR_ne, upd_eq, upd_ne, Nat.reduceBEq]
  exact ⟨trivial, trivial, trivial, trivial, trivial, trivial⟩
theorem undo_2 (S : Nat → Nat → Int32) : mc_undo S 0 2 = mv_gf (mv_po (S 0 1)) 1 1 := by
  unfold mc_undo
  simp only [sF_eq, sF_ne, sR_eq, sR_ne, upd_eq, upd_ne, Nat.reduceBEq]
theorem c2_takeOut {J : Nat → Nat → Nat → Int32} {S : Nat → Nat → Int32} (I : Inv J S) (a : Int32) : (¬ mv_go (mv_ia a (S 0 1)) 1 1 = 0 → vp_in a 100) ∧ (¬ mv_go (mv_ia a (S 0 1)) 1 1 = 0 → vp_in ((S 0 1) - 1) 100) ∧ (¬ mv_go (mv_ia a (S 0 1)) 1 1 = 0 → lgv (rxX (S 3) ((S 0 1) - 1) a).1 ((S 0 1) - 1)) ∧ ((S 0 0) ≤ 5000) ∧ (((okA J a) ∧ (gt_lrem (J 3) a 0 0 ≤ 100) ∧ (rmStop (J 3) a) ∧ (mc_takeOut S a) 0 2 = 0 ∧ vm_tk J a 3 0 0 = (if mv_go (mv_ia a (S 0 1)) 1 1 = 0 then 0 else (S 0 1) - 1) ∧ Inv (vm_tk J a) (mc_takeOut S a)) ∨ (¬ (okA J a) ∧ (mc_takeOut S a) 0 2 = 1 ∧ Inv J (mc_takeOut S a))) := by
  have r := takeOut_2 S a
  obtain ⟨N, tt, τ, hN, ht, e3, e4, e5, hL, H, -⟩ := inv_d I
  have e6 : J 3 0 0 = nI N := hL.1
  by_cases h : okA J a
  · have h' := h
    unfold okA at h'
    rw [e6] at h'
    have e1 := ia_1 hN h'.1 h'.2
    rw [← e3] at e1
    have hg : ¬ mv_go (mv_ia a (S 0 1)) 1 1 = 0 := by rw [e1]; decide
    obtain ⟨i, hi, rfl⟩ := a_nI hN h'.1 h'.2
    obtain ⟨m1, m2, m3, m4, m5, m6⟩ := takeOut_o S (nI i) hg
    obtain ⟨x1, x2, x3, x4, x5⟩ := tk_eq2 I e3 hi hN m1 m2 m3 m4 m5 m6
    refine ⟨fun _ => vp_in_nI (by omega) (by decide), fun _ => by rw [x1]; exact vp_in_nI (by omega) (by decide), fun _ => x2, (inv_n0 I).2.2.1, Or.inl ⟨h, ?_, x4, by rw [r, e1]; decide, ?_, x5⟩⟩
    · rw [x3]; exact nI_le (b := 100) (by omega) (by decide)
    · rw [if_neg hg, (tk_0 J (nI i)).2.1, x3, x1]
  · have h' := h
    unfold okA at h'
    rw [e6] at h'
    have e1 := ia_0 hN h'
    rw [← e3] at e1
    have hg : mv_go (mv_ia a (S 0 1)) 1 1 = 0 := by rw [e1]; rfl
    obtain ⟨m1, m2, m3, m4, m5, m6⟩ := takeOut_n S a hg
    exact ⟨fun z => absurd hg z, fun z => absurd hg z, fun z => absurd hg z, (inv_n0 I).2.2.1, Or.inr ⟨h, by rw [r, e1]; rfl, inv_cg I rfl rfl rfl m1 m2 m3 (by rw [m4]; exact eq_n.rf) m5 m6⟩⟩
theorem c2_undo {J : Nat → Nat → Nat → Int32} {S : Nat → Nat → Int32} (I : Inv J S) : (¬ mv_go (mv_po (S 0 1)) 1 1 = 0 → vp_in ((S 0 1) - 1) 100) ∧ (¬ mv_go (mv_po (S 0 1)) 1 1 = 0 → vp_in ((S 0 1) - 1) 100) ∧ (¬ mv_go (mv_po (S 0 1)) 1 1 = 0 → lgv (rxX (S 3) ((S 0 1) - 1) ((S 0 1) - 1)).1 ((S 0 1) - 1)) ∧ ((S 0 0) ≤ 5000) ∧ (((okU J) ∧ (gt_lrem (J 3) (J 3 0 0 - 1) 0 0 ≤ 100) ∧ (rmStop (J 3) (J 3 0 0 - 1)) ∧ (mc_undo S) 0 2 = 0 ∧ vm_tk J (J 3 0 0 - 1) 3 0 0 = (if mv_go (mv_po (S 0 1)) 1 1 = 0 then 0 else (S 0 1) - 1) ∧ Inv (vm_tk J (J 3 0 0 - 1)) (mc_undo S)) ∨ (¬ (okU J) ∧ (mc_undo S) 0 2 = 1 ∧ Inv J (mc_undo S))) := by
  have r := undo_2 S
  obtain ⟨N, tt, τ, hN, ht, e3, e4, e5, hL, H, -⟩ := inv_d I
  have e6 : J 3 0 0 = nI N := hL.1
  by_cases h : okU J
  · have hN0 : 0 < N := by
      rcases Nat.eq_zero_or_pos N with z | z
      · exact absurd (by rw [e6, z]; rfl) h
      · exact z
    have e1 : mv_po (S 0 1) = 1 := by
      unfold mv_po
      rw [e3, if_neg (show ¬ nI N ≤ (0 : Int32) from nI_ge (a := 0) (b := N) hN0 (by omega))]
    have hg : ¬ mv_go (mv_po (S 0 1)) 1 1 = 0 := by rw [e1]; decide
    have en : S 0 1 - 1 = nI (N - 1) := by rw [e3, show (1 : Int32) = nI 1 from rfl, nI_sub (by omega) (by omega)]
    have ej : J 3 0 0 - 1 = nI (N - 1) := by rw [e6, show (1 : Int32) = nI 1 from rfl, nI_sub (by omega) (by omega)]
    obtain ⟨m1, m2, m3, m4, m5, m6⟩ := undo_o S hg
    rw [show rxX (S 3) (S 0 1 - 1) (S 0 1 - 1) = rxX (S 3) (S 0 1 - 1) (nI (N - 1)) by rw [en]] at m4 m5 ⊢
    obtain ⟨x1, x2, x3, x4, x5⟩ := tk_eq2 I e3 (i := N - 1) (by omega) hN m1 m2 m3 m4 m5 m6
    rw [ej]
    refine ⟨fun _ => by rw [x1]; exact vp_in_nI (by omega) (by decide), fun _ => by rw [x1]; exact vp_in_nI (by omega) (by decide), fun _ => x2, (inv_n0 I).2.2.1, Or.inl ⟨h, ?_, x4, by rw [r, e1]; decide, ?_, x5⟩⟩
    · rw [x3]; exact nI_le (b := 100) (by omega) (by decide)
    · rw [if_neg hg, (tk_0 J (nI (N - 1))).2.1, x3, x1]
  · have e0 : J 3 0 0 = 0 := Decidable.byContradiction (fun z => h z)
    have eN : N = 0 := (nI_z (by omega)).mp (e6.symm.trans e0)
    have e1 : mv_po (S 0 1) = 0 := by
      unfold mv_po
      rw [e3, eN]
      rfl
    have hg : mv_go (mv_po (S 0 1)) 1 1 = 0 := by rw [e1]; rfl
    obtain ⟨m1, m2, m3, m4, m5, m6⟩ := undo_n S hg
    exact ⟨fun z => absurd hg z, fun z => absurd hg z, fun z => absurd hg z, (inv_n0 I).2.2.1, Or.inr ⟨h, by rw [r, e1]; rfl, inv_cg I rfl rfl rfl m1 m2 m3 (by rw [m4]; exact eq_n.rf) m5 m6⟩⟩
