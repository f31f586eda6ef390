/-! level 2: checks -/
theorem t64 {a b : Int32} : a.toInt64 < b.toInt64 ↔ a < b := by
  rw [Int64.lt_iff_toInt_lt, Int32.toInt_toInt64, Int32.toInt_toInt64, Int32.lt_iff_toInt_lt]
theorem i_nlt {a b : Int32} : ¬ a < b ↔ b.toInt ≤ a.toInt := by rw [Int32.lt_iff_toInt_lt]; omega
theorem i_le {a b : Int32} : a ≤ b ↔ a.toInt ≤ b.toInt := Int32.le_iff_toInt_le
theorem in_R1 {v lo hi : Int32} (h : okR v lo hi) : mv_in v.toInt64 lo.toInt64 hi.toInt64 = 1 := by
  unfold mv_in
  rw [if_neg (fun e => h.1 (t64.mp ((lg_cmp_lt _ _).mp e))), if_neg (fun e => by
    have a := Int32.lt_iff_toInt_lt.mp (t64.mp ((lg_cmp_gt _ _).mp e))
    have b := i_le.mp h.2
    omega)]
theorem in_R0 {v lo hi : Int32} (h : ¬ okR v lo hi) : mv_in v.toInt64 lo.toInt64 hi.toInt64 = 0 := by
  unfold mv_in
  by_cases c : v < lo
  · rw [if_pos ((lg_cmp_lt _ _).mpr (t64.mpr c))]
  · by_cases d : v ≤ hi
    · exact absurd ⟨c, d⟩ h
    · have e : hi < v := by rw [Int32.lt_iff_toInt_lt]; rw [i_le] at d; omega
      by_cases z : lg_cmp v.toInt64 lo.toInt64 < 0
      · rw [if_pos z]
      · rw [if_neg z, if_pos ((lg_cmp_gt _ _).mpr (t64.mpr e))]
theorem in_L1 {v lo hi : Int32} {l h : Int64} (hl : l = lo.toInt64) (hh : h = hi.toInt64) (hr : okR v lo hi) : mv_in v.toInt64 l h = 1 := by rw [hl, hh]; exact in_R1 hr
theorem in_L0 {v lo hi : Int32} {l h : Int64} (hl : l = lo.toInt64) (hh : h = hi.toInt64) (hr : ¬ okR v lo hi) : mv_in v.toInt64 l h = 0 := by rw [hl, hh]; exact in_R0 hr
theorem okS_R (q : Int32) : okS q ↔ okR q 0 9 := by
  unfold okS okR
  rw [Int32.lt_iff_toInt_lt (x := q) (y := 10), i_le, show (10 : Int32).toInt = 10 by decide, show (9 : Int32).toInt = 9 by decide]
  constructor
  · exact fun h => ⟨h.1, by omega⟩
  · exact fun h => ⟨h.1, by omega⟩
theorem okK_R (q : Int32) : okK q ↔ okR q 0 2 := by
  unfold okK okR
  rw [Int32.lt_iff_toInt_lt (x := q) (y := 3), i_le, show (3 : Int32).toInt = 3 by decide, show (2 : Int32).toInt = 2 by decide]
  constructor
  · exact fun h => ⟨h.1, by omega⟩
  · exact fun h => ⟨h.1, by omega⟩
theorem is_1 {q : Int32} (h : okS q) : mv_is q = 1 := in_L1 (lo := 0) (hi := 9) (by decide) (by decide) ((okS_R q).mp h)
theorem is_0 {q : Int32} (h : ¬ okS q) : mv_is q = 0 := in_L0 (lo := 0) (hi := 9) (by decide) (by decide) (fun z => h ((okS_R q).mpr z))
theorem ik_1 {q : Int32} (h : okK q) : mv_ik q = 1 := in_L1 (lo := 0) (hi := 2) (by decide) (by decide) ((okK_R q).mp h)
theorem ik_0 {q : Int32} (h : ¬ okK q) : mv_ik q = 0 := in_L0 (lo := 0) (hi := 2) (by decide) (by decide) (fun z => h ((okK_R q).mpr z))
theorem rg_of {v : Int32} {a b : Nat} (h1 : (a : Int) ≤ v.toInt) (h2 : v.toInt ≤ b) (hb : b < 2 ^ 31) : rg v a b :=
  ⟨v.toInt.toNat, by omega, by omega, by rw [← Int32.toInt_inj, nI_toInt (by omega)]; omega⟩
theorem okR_rg {v : Int32} {a b : Nat} (ha : a < 2 ^ 31) (hb : b < 2 ^ 31) (h : okR v (nI a) (nI b)) : rg v a b := by
  have x := i_nlt.mp h.1
  have y := i_le.mp h.2
  rw [nI_toInt ha] at x
  rw [nI_toInt hb] at y
  exact rg_of x y hb
theorem okS_rg {q : Int32} (h : okS q) : rg q 0 9 := okR_rg (a := 0) (b := 9) (by decide) (by decide) ((okS_R q).mp h)
theorem okK_rg {q : Int32} (h : okK q) : rg q 0 2 := okR_rg (a := 0) (b := 2) (by decide) (by decide) ((okK_R q).mp h)
/-! the invariant -/
theorem inv_cg {J J' : Nat → Nat → Nat → Int32} {S S' : Nat → Nat → Int32} (I : Inv J S) (j0 : J' 0 = J 0) (j3 : J' 3 = J 3) (j7 : J' 7 = J 7) (s0 : S' 0 0 = S 0 0) (s1 : S' 0 1 = S 0 1) (s8 : S' 0 8 = S 0 8) (r1 : eq_n 20 (S 1) (S' 1)) (r3 : S' 3 = S 3) (r6 : S' 6 = S 6) : Inv J' S' := by
  obtain ⟨N, t, K, a, b, c, d, e, f, g, h, i, j, k, l, m, n⟩ := I
  refine ⟨N, t, K, a, b, c, ?_, ?_, ?_, ?_, ?_, ?_, ?_, ?_, ?_, ?_, ?_⟩
  · rw [j0]; exact RM_eq d r1
  · rw [j0]; exact e
  · rw [s0]; exact f
  · rw [j3]; exact g
  · rw [s1]; exact h
  · rw [j3, r3]; exact i
  · rw [r3]; exact j
  · rw [j7]; exact k
  · rw [s8]; exact l
  · rw [j7, r6]; exact m
  · rw [r3]; exact fun q hq => (r1 q hq).symm.trans (n q hq)
/-- the reference's answer field changed alone -/
theorem inv_2 {J : Nat → Nat → Nat → Int32} {S : Nat → Nat → Int32} (I : Inv J S) (v : Int32) : Inv J (sF S 0 2 v) := inv_cg I rfl rfl rfl rfl rfl rfl eq_n.rf rfl rfl
theorem inv_ok {J : Nat → Nat → Nat → Int32} {S : Nat → Nat → Int32} (I : Inv J S) : mOk (S 1) := by
  obtain ⟨N, t, K, a, b, c, d, e, f, g, h, i, ⟨τ, j1, j2⟩, k, l, m, n⟩ := I
  exact mOk_eq (rp_ok (E := S 3) (N := N) (τ := τ) (T := t) ⟨j1, j2⟩ (by omega) a (-1) (t := t) (by omega)).1 (fun q hq => (n q hq).symm)
theorem inv_rm {J : Nat → Nat → Nat → Int32} {S : Nat → Nat → Int32} (I : Inv J S) : RM (J 0) (S 1) := by
  obtain ⟨N, t, K, a, b, c, d, -⟩ := I
  exact d
theorem inv_t {J : Nat → Nat → Nat → Int32} {S : Nat → Nat → Int32} (I : Inv J S) : J 0 0 7 = S 0 0 ∧ J 3 0 0 = S 0 1 ∧ J 7 0 0 = S 0 8 := by
  obtain ⟨N, t, K, a, b, c, d, e, f, g, h, i, j, k, l, -⟩ := I
  exact ⟨e.trans f.symm, g.trans h.symm, k.trans l.symm⟩
theorem inv_n {J : Nat → Nat → Nat → Int32} {S : Nat → Nat → Int32} (I : Inv J S) : (∃ N : Nat, N ≤ 100 ∧ S 0 1 = nI N) ∧ (∃ t : Nat, t ≤ 5000 ∧ S 0 0 = nI t) ∧ ∃ K : Nat, K ≤ 120 ∧ S 0 8 = nI K := by
  obtain ⟨N, t, K, a, b, c, d, e, f, g, h, i, j, k, l, -⟩ := I
  exact ⟨⟨N, a, h⟩, ⟨t, b, f⟩, ⟨K, c, l⟩⟩
theorem inv_n0 {J : Nat → Nat → Nat → Int32} {S : Nat → Nat → Int32} (I : Inv J S) : ¬ S 0 1 < 0 ∧ S 0 1 ≤ 100 ∧ S 0 0 ≤ 5000 ∧ ¬ S 0 8 < 0 ∧ S 0 8 ≤ 120 := by
  obtain ⟨⟨N, hN, e1⟩, ⟨t, ht, e2⟩, K, hK, e3⟩ := inv_n I
  rw [e1, e2, e3]
  exact ⟨nI_pos (by omega), nI_le (b := 100) hN (by decide), nI_le (b := 5000) ht (by decide), nI_pos (by omega), nI_le (b := 120) hK (by decide)⟩
theorem aOk_v {w : Nat} {a b c d : Int32} (h : aOk w a b c d) : vOk (nI w) a b := by
  have f : ∀ x : Int32, rg x 0 9 → vp_in x 10 := fun x ⟨k, _, hk, ex⟩ => by rw [ex]; exact vp_in_nI (by omega) (by decide)
  have hlt : w < 2 ^ 31 := by rcases h with ⟨rfl, _⟩ | ⟨rfl, _⟩ | ⟨rfl, _⟩ | ⟨rfl, _⟩ | ⟨rfl, _⟩ | ⟨rfl, _⟩ | rfl | rfl | ⟨rfl, _⟩ | ⟨rfl, _⟩ <;> decide
  have u : ∀ k : Nat, k < 2 ^ 31 → nI w = nI k → w = k := fun k hk e => nI_inj hlt hk e
  refine ⟨fun hw => ?_, fun hw => ?_, aOk_k h, fun hw => ?_⟩
  · rcases hw with e | e
    · have := u 0 (by decide) e; subst this
      rcases h with ⟨_, h⟩ | ⟨h, _⟩ | ⟨h, _⟩ | ⟨h, _⟩ | ⟨h, _⟩ | ⟨h, _⟩ | h | h | ⟨h, _⟩ | ⟨h, _⟩
      · exact f _ h
      all_goals exact absurd h (by decide)
    · have := u 1 (by decide) e; subst this
      rcases h with ⟨h, _⟩ | ⟨_, h⟩ | ⟨h, _⟩ | ⟨h, _⟩ | ⟨h, _⟩ | ⟨h, _⟩ | h | h | ⟨h, _⟩ | ⟨h, _⟩
      · exact absurd h (by decide)
      · exact f _ h
      all_goals exact absurd h (by decide)
  · have := u 2 (by decide) hw; subst this
    rcases h with ⟨h, _⟩ | ⟨h, _⟩ | ⟨_, _, h⟩ | ⟨h, _⟩ | ⟨h, _⟩ | ⟨h, _⟩ | h | h | ⟨h, _⟩ | ⟨h, _⟩
    · exact absurd h (by decide)
    · exact absurd h (by decide)
    · obtain ⟨k, h1, h2, e⟩ := h
      rw [e]
      intro z
      have := (nI_z (by omega)).mp z
      omega
    all_goals exact absurd h (by decide)
  · have := u 4 (by decide) hw; subst this
    rcases h with ⟨h, _⟩ | ⟨h, _⟩ | ⟨h, _⟩ | ⟨h, _⟩ | ⟨_, _, h, _⟩ | ⟨h, _⟩ | h | h | ⟨h, _⟩ | ⟨h, _⟩
    · exact absurd h (by decide)
    · exact absurd h (by decide)
    · exact absurd h (by decide)
    · exact absurd h (by decide)
    · exact f _ h
    all_goals exact absurd h (by decide)
theorem lgv_V {E : Nat → Int32} {N : Nat} {τ : Nat → Nat} {T : Nat} (H : LV E N τ T) (hN : N ≤ 100) : lgv E (nI N) := by
  intro i hi
  rw [cl_k (by omega)] at hi
  obtain ⟨-, -, w, e, h⟩ := H.1 i hi
  rw [e]
  exact aOk_v h
theorem inv_lg {J : Nat → Nat → Nat → Int32} {S : Nat → Nat → Int32} (I : Inv J S) : lgv (S 3) (S 0 1) := by
  obtain ⟨N, t, K, a, b, c, d, e, f, g, h, i, ⟨τ, j1, j2⟩, k, l, m, n⟩ := I
  rw [h]
  exact lgv_V (τ := τ) (T := t) ⟨j1, j2⟩ a
/-! the first cases -/
theorem vm0_0 : vm0 0 = gt_reset zM := by unfold vm0 mx0; rw [gs_ne _ _ _ rfl, gs_ne _ _ _ rfl, gs_ne _ _ _ rfl, gs_eq]
theorem vm0_3 : vm0 3 = zM := by unfold vm0; rw [gs_ne _ _ _ rfl, gs_ne _ _ _ rfl, gs_ne _ _ _ rfl, gs_ne _ _ _ rfl]
theorem vm0_7 : vm0 7 = zM := by unfold vm0; rw [gs_ne _ _ _ rfl, gs_ne _ _ _ rfl, gs_ne _ _ _ rfl, gs_ne _ _ _ rfl]
theorem md0_1 : md0 1 = mr_bg (fun _ => 0) := by unfold md0; rw [sR_eq]
theorem md0_0 : md0 0 = zM 0 := by unfold md0; rw [sR_ne _ _ _ rfl]
theorem c2_init : Inv vm0 md0 := by
  refine ⟨0, 0, 0, by omega, by omega, by omega, ?_, ?_, ?_, ?_, ?_, fun i hi => absurd hi (by omega), ⟨fun _ => 0, fun i hi => absurd hi (by omega), fun i j _ hj => absurd hj (by omega)⟩, ?_, ?_, fun i hi => absurd hi (by omega), fun k hk => ?_⟩
  · rw [vm0_0, md0_1]; exact RM_bg _ _
  · rw [vm0_0, rs_0]; rfl
  · rw [md0_0]; rfl
  · rw [vm0_3]; rfl
  · rw [md0_0]; rfl
  · rw [vm0_7]; rfl
  · rw [md0_0]; rfl
  · rw [md0_1]
    unfold rp
    show mr_bg (fun _ => 0) k = (dA (md0 3) 0 (-1) 0 101 (mr_bg fun _ => 0) 0).1 k
    unfold dA
    rw [if_neg (fun z => absurd z.1 (by omega))]
theorem c2_setting {J : Nat → Nat → Nat → Int32} {S : Nat → Nat → Int32} (I : Inv J S) (w : Int32) : (((okR w 0 8) ∧ (mc_setting S w) 0 2 = 0 ∧ psF J w = (if mv_go (mv_in (Int32.toInt64 w) 0 8) 1 1 = 0 then 0 else mv_st (S 1) (S 0 0) (S 0 1) w) ∧ Inv J (mc_setting S w)) ∨ (¬ (okR w 0 8) ∧ (mc_setting S w) 0 2 = 1 ∧ Inv J (mc_setting S w))) := by
  have r : mc_setting S w 0 2 = mv_gf (mv_in (Int32.toInt64 w) 0 8) 1 1 := rfl
  by_cases h : okR w 0 8
  · left
    have e : mv_in (Int32.toInt64 w) 0 8 = 1 := in_L1 (by decide) (by decide) h
    refine ⟨h, by rw [r, e]; decide, ?_, inv_2 I _⟩
    rw [e, if_neg (show ¬ mv_go 1 1 1 = 0 by decide)]
    obtain ⟨k, -, hk, rfl⟩ := okR_rg (a := 0) (b := 8) (by decide) (by decide) h
    obtain ⟨t1, t2, -⟩ := inv_t I
    have rm := inv_rm I
    unfold psF mv_st tellF
    rcases (show k = 0 ∨ k = 1 ∨ k = 2 ∨ k = 3 ∨ k = 4 ∨ k = 5 ∨ k = 6 ∨ k = 7 ∨ k = 8 by omega) with rfl | rfl | rfl | rfl | rfl | rfl | rfl | rfl | rfl
    · exact rm.1 0 (by omega)
    · exact rm.1 1 (by omega)
    · exact rm.1 2 (by omega)
    · exact rm.1 3 (by omega)
    · exact rm.1 4 (by omega)
    · exact rm.1 5 (by omega)
    · exact rm.1 6 (by omega)
    · exact t1
    · exact t2
  · right
    have e : mv_in (Int32.toInt64 w) 0 8 = 0 := in_L0 (by decide) (by decide) h
    exact ⟨h, by rw [r, e]; decide, inv_2 I _⟩
theorem c2_keyer {J : Nat → Nat → Nat → Int32} {S : Nat → Nat → Int32} (I : Inv J S) (k : Int32) (w : Int32) : (((okK k) ∧ (okR w 0 3) ∧ (mc_keyer S k w) 0 2 = 0 ∧ tellK (J 0) k w = (if mv_go (mv_ik k) (mv_in (Int32.toInt64 w) 0 3) 1 = 0 then 0 else (S 1) (kx k w)) ∧ Inv J (mc_keyer S k w)) ∨ (¬ (okK k) ∧ (mc_keyer S k w) 0 2 = 1 ∧ Inv J (mc_keyer S k w)) ∨ ((okK k) ∧ ¬ (okR w 0 3) ∧ (mc_keyer S k w) 0 2 = 2 ∧ Inv J (mc_keyer S k w))) := by
  have r : mc_keyer S k w 0 2 = mv_gf (mv_ik k) (mv_in (Int32.toInt64 w) 0 3) 1 := rfl
  by_cases hk : okK k
  · by_cases h : okR w 0 3
    · left
      have e : mv_in (Int32.toInt64 w) 0 3 = 1 := in_L1 (by decide) (by decide) h
      refine ⟨hk, h, by rw [r, e, ik_1 hk]; decide, ?_, inv_2 I _⟩
      rw [e, ik_1 hk, if_neg (show ¬ mv_go 1 1 1 = 0 by decide)]
      obtain ⟨j, -, hj, rfl⟩ := okR_rg (a := 0) (b := 3) (by decide) (by decide) h
      obtain ⟨i, -, hi, rfl⟩ := okK_rg hk
      obtain ⟨c1, c2, c3, c4⟩ := (inv_rm I).2.2.1 i (by omega)
      rw [kx_k (by omega) j (by omega)]
      unfold tellK
      rcases (show j = 0 ∨ j = 1 ∨ j = 2 ∨ j = 3 by omega) with rfl | rfl | rfl | rfl
      · rw [if_pos (show nI 0 = 0 from rfl), cellF_k _ (by omega) (by decide)]; exact c1
      · rw [if_neg (by decide), if_pos (show nI 1 = 1 from rfl), cellF_k _ (by omega) (by decide)]; exact c2
      · rw [if_neg (by decide), if_neg (by decide), if_pos (show nI 2 = 2 from rfl), cellF_k _ (by omega) (by decide)]; exact c3
      · rw [if_neg (by decide), if_neg (by decide), if_neg (by decide), onF_bt, ite01a (bt01 _ _)]; exact c4
    · right; right
      have e : mv_in (Int32.toInt64 w) 0 3 = 0 := in_L0 (by decide) (by decide) h
      exact ⟨hk, h, by rw [r, e, ik_1 hk]; decide, inv_2 I _⟩
  · right; left
    refine ⟨hk, ?_, inv_2 I _⟩
    rw [r, ik_0 hk]
    rfl
theorem c2_clearText {J : Nat → Nat → Nat → Int32} {S : Nat → Nat → Int32} (I : Inv J S) : (J 7 0 0 = (S 0 8) ∧ Inv (vm_cl J) (mc_clearText S)) := by
  refine ⟨(inv_t I).2.2, ?_⟩
  obtain ⟨N, t, K, a, b, c, d, e, f, g, h, i, j, k, l, m, n⟩ := I
  exact ⟨N, t, 0, a, b, by omega, d, e, f, g, h, i, j, rfl, rfl, fun i hi => absurd hi (by omega), n⟩
