/-! level 2: carryOut, the statement -/
theorem c1_0 (J : Nat → Nat → Nat → Int32) : vc1 J 0 = J 0 ∧ vc1 J 3 = J 3 ∧ vc1 J 7 = gt_read (J 7) ∧ vc1 J 1 = gt_copy (J 1) (J 0) ∧ vc0 J 0 = J 0 ∧ vc0 J 3 = J 3 ∧ vc0 J 7 = gt_read (J 7) := by
  unfold vc1 vc0
  simp only [gs_eq, gs_ne, Nat.reduceBEq]
  exact ⟨trivial, trivial, trivial, trivial, trivial, trivial, trivial⟩
theorem cE_0 (J : Nat → Nat → Nat → Int32) (A : Int32) : vcE J A 0 = gt_copy (J 0) (J 1) ∧ vcE J A 3 0 0 = A ∧ vcE J A 3 1 = J 3 1 ∧ vcE J A 7 = J 7 := by
  unfold vcE
  simp only [gs_eq, gs_ne, sF_eq, sF_ne, upd_eq, Nat.reduceBEq]
  exact ⟨trivial, trivial, trivial, trivial⟩
theorem re0_RK {C : Nat → Nat → Int32} {T : Nat → Int32} {L : Nat} (h : TC C T L) : RK T L 0 (gt_re0 C) := by
  have e : gt_re0 C 0 0 = C 0 0 ∧ gt_re0 C 0 1 = 0 ∧ gt_re0 C 0 2 = 0 ∧ gt_re0 C 0 3 = -1 ∧ gt_re0 C 1 = C 1 := by
    unfold gt_re0
    simp only [sF_eq, sF_ne, upd_eq, upd_ne, Nat.reduceBEq]
    exact ⟨trivial, trivial, trivial, trivial, trivial⟩
  obtain ⟨a, b, c, d, e⟩ := e
  refine ⟨⟨a.trans h.1, by rw [e]; exact h.2⟩, b, c, d, Nat.zero_le _, Nat.le_refl _, fun j hj => absurd hj (by omega)⟩
theorem mfX_0 (S : Nat → Nat → Int32) {L : Nat} (h : S 0 8 = nI L) : RX S L 0 (sF S 0 9 0) := by
  unfold RX
  simp only [sF_eq, sF_ne, upd_eq, upd_ne, Nat.reduceBEq]
  exact ⟨rfl, h, trivial, trivial, trivial, trivial, trivial⟩
theorem c2_carryOut {J : Nat → Nat → Nat → Int32} {S : Nat → Nat → Int32} (I : Inv J S) : ((S 0 8) ≤ 120) ∧ (¬ (S 0 8) < 0) ∧ (¬ (S 0 1) < 0) ∧ (¬ (S 1) 3 = 0) ∧ (mfC (mfX S) = false) ∧ (mcC (mcX S) = false) ∧ (mfS S 0 1 ≤ 100) ∧ (mfS S 0 0 ≤ 5000) ∧ (lgv ((mcX S).1 3) (mfS S 0 1)) ∧ ((vcC (vcX J) = false) ∧ (vcR J) = (mcR S) ∧ Inv (vcS J) (mc_carryOut S)) := by
  have I0 := I
  have nz := inv_n0 I
  have o := inv_ok I
  obtain ⟨N, t, L, hN, ht, hL, h1, h2, h3, h4, h5, h6, ⟨τ, j1, j2⟩, h8, h9, h10, h11⟩ := I
  have H : LV (S 3) N τ t := ⟨j1, j2⟩
  have hT : tx (S 6) L := fun i hi => (h10 i hi).2
  have hC : TC (J 7) (S 6) L := ⟨h8, fun i hi => (h10 i hi).1⟩
  obtain ⟨c0, c3, c7, c1, d0, d3, d7⟩ := c1_0 J
  have hK1 : RM (gt_copy (J 1) (J 0)) (S 1) := RM_cy _ h1
  have hK7 : gt_copy (J 1) (J 0) 0 7 = nI t := by rw [cy_0 _ _ (by omega)]; exact h2
  obtain ⟨m1, m2⟩ := rd_all hT hL L 121 121 0 (gt_re0 (J 7)) (sF S 0 9 0) (by omega) (by omega) (by omega) (re0_RK hC) (mfX_0 S h9)
  have er : (lw reC reB 121 (gt_re0 (J 7), nI 0)).1 = gt_read (J 7) := rfl
  have ex : lw mfC mo_ro 121 (sF S 0 9 0) = mfX S := rfl
  rw [er, ex] at m2
  rw [ex] at m1
  rcases m2 with ⟨K, k1, k2, k3⟩ | ⟨K, k1, k2, ⟨q, hq, k3⟩, k4, k5, c, hc, k6⟩
  · -- all orders read
    have hk5 := k2.2.2.2.2.1
    have hk6 := k2.2.2.2.2.2.1
    have le : mfX S 0 8 ≤ mfX S 0 9 := by rw [k3.1, k3.2.1]; exact nI_le k1 (by omega)
    have eS : mfS S = mfX S := if_pos le
    have eR : mfR S = -1 := if_pos le
    have r3 : gt_read (J 7) 0 3 = -1 := k2.2.2.2.1
    have hQ : QR S (gt_read (J 7)) (gt_copy (J 1) (J 0)) N L (psn (S 6) L 0) (vc1 J) (sF (mfS S) 0 9 0) := by
      rw [eS]
      obtain ⟨x1, x2, x3, x4, x5, x6, x7⟩ := k3
      have f : sF (mfX S) 0 9 0 0 9 = nI 0 ∧ sF (mfX S) 0 9 0 0 8 = mfX S 0 8 ∧ sF (mfX S) 0 9 0 0 0 = mfX S 0 0 ∧ sF (mfX S) 0 9 0 0 1 = mfX S 0 1 ∧ sF (mfX S) 0 9 0 1 = mfX S 1 ∧ sF (mfX S) 0 9 0 3 = mfX S 3 ∧ sF (mfX S) 0 9 0 6 = mfX S 6 := by
        simp only [sF_eq, sF_ne, upd_eq, upd_ne, Nat.reduceBEq]
        exact ⟨rfl, trivial, trivial, trivial, trivial, trivial, trivial⟩
      obtain ⟨f9, f8, f0, f1, g1, g3, g6⟩ := f
      rw [x2] at f8
      rw [x3] at g6
      rw [x4] at f0
      rw [x5] at f1
      rw [x6] at g1
      rw [x7] at g3
      refine ⟨⟨N, t, L, hN, ht, hL, ?_, ?_, f0.trans h3, ?_, f1.trans h5, ?_, ?_, ?_, f8, ?_, ?_⟩, f9, c7, c1, g6, f8, ⟨N, Nat.le_refl _, hN, f1.trans h5⟩, fun i hi => by rw [g3]⟩
      · rw [c0, g1]; exact h1
      · rw [c0]; exact h2
      · rw [c3]; exact h4
      · rw [c3, g3]; exact h6
      · rw [g3]; exact ⟨τ, j1, j2⟩
      · rw [c7]; exact k2.1.1
      · rw [c7, g6]; exact fun i hi => ⟨k2.1.2 i hi, hT i hi⟩
      · rw [g1, g3]; exact h11
    obtain ⟨v1, v2, v3⟩ := cd_all hL k2 k1 K 0 (by omega) 61 121 (by omega) (by omega) _ _ hQ
    have ev : lw vcC vcB 61 (vc1 J, nI 0) = vcX J := rfl
    have em : lw mcC mcB 121 (sF (mfS S) 0 9 0, nI 0, 1) = mcX S := by
      unfold mcX
      rw [eR]
      rfl
    rw [ev] at v1 v3
    rw [em] at v2 v3
    have s1 : mfS S 0 1 = nI N := by rw [eS, k3.2.2.2.2.1]; exact h5
    have s0 : mfS S 0 0 = nI t := by rw [eS, k3.2.2.2.1]; exact h3
    have lg : ∀ y : Nat → Nat → Int32, (∀ i, i < 6 * N → y 3 i = S 3 i) → lgv (y 3) (mfS S 0 1) := fun y hy => by
      rw [s1]
      exact lgv_V (LV_cg H hy) hN
    rcases v3 with ⟨w1, w2, w3, p, w4⟩ | ⟨i, hi, w1, w2, w3, w5, p, w4⟩
    · have q71 : (vcX J).1 7 0 1 = nI K := by rw [w4.2.2.1]; exact k2.2.1
      have lev : (vcX J).1 7 0 1 ≤ (vcX J).2 := by rw [q71, w1]; exact nI_le (Nat.le_refl _) (by omega)
      refine ⟨nz.2.2.2.2, nz.2.2.2.1, nz.1, (okm_m o).2.2.2.2.2, m1, v2, by rw [s1]; exact nI_le (b := 100) hN (by decide), by rw [s0]; exact nI_le (b := 5000) ht (by decide), lg _ w4.2.2.2.2.2.2.2, v1, ?_, ?_⟩
      · unfold vcR mcR
        rw [r3, if_pos rfl, if_pos lev, q71, eR, if_pos rfl, w3, if_neg (by decide), w2]
      · have e1 : vcS J = (vcX J).1 := by
          unfold vcS
          rw [r3, if_pos rfl, if_pos lev]
        have e2 : mc_carryOut S = sF (mcX S).1 0 2 0 := by
          unfold mc_carryOut mcS
          rw [w3, if_neg (by decide)]
        rw [e1, e2]
        exact inv_2 w4.1 0
    · have q71 : (vcX J).1 7 0 1 = nI K := by rw [w4.2.2.1]; exact k2.2.1
      have lev : ¬ (vcX J).1 7 0 1 ≤ (vcX J).2 := by rw [q71, w1]; exact nI_ge hi (by omega)
      refine ⟨nz.2.2.2.2, nz.2.2.2.1, nz.1, (okm_m o).2.2.2.2.2, m1, v2, by rw [s1]; exact nI_le (b := 100) hN (by decide), by rw [s0]; exact nI_le (b := 5000) ht (by decide), lg _ w4.2.2.2.2.2.2.2, v1, ?_, ?_⟩
      · unfold vcR mcR
        rw [r3, if_pos rfl, if_neg lev, eR, if_pos rfl, w3, if_pos rfl, w1, w2]
      · have e1 : vcS J = vcE (vcX J).1 (J 3 0 0) := by
          unfold vcS
          rw [r3, if_pos rfl, if_neg lev, w1, w5]
        have e2 : mc_carryOut S = mo_gt (sF (sF (sF (mcX S).1 0 2 0) 0 1 (nI N)) 0 0 (nI t)) (nI t) (-1) := by
          unfold mc_carryOut mcS mc_u
          rw [w3, if_pos rfl, s1, s0]
        obtain ⟨z0, z3, z31, z7⟩ := cE_0 (vcX J).1 (J 3 0 0)
        obtain ⟨x1, x2, x3, x4, x5, x6, ⟨n, n1, n2, n3⟩, x8⟩ := w4
        obtain ⟨Nk, hNk, e3, eL⟩ := inv_LE x1
        have en : Nk = n := nI_inj (by omega) (by omega) (e3.symm.trans n3)
        rw [e1, e2]
        refine back hN ht hL H hT h11 ?_ ?_ (z3.trans h4) ?_ ?_ x5 x6 x8
        · rw [z0, x4]; exact RM_cy _ hK1
        · rw [z0, cy_0 _ _ (by omega), x4]; exact hK7
        · rw [z31]; exact fun i hi => (eL.2 i (by omega)).trans (x8 i hi)
        · rw [z7, x3]; exact k2.1
  · -- a fault
    have nle : ¬ mfX S 0 8 ≤ mfX S 0 9 := by rw [k2.1, k2.2.1]; exact nI_ge k1 (by omega)
    have eS : mfS S = mo_ro (mfX S) := if_neg nle
    have eR : mfR S = nI q := by
      unfold mfR
      rw [if_neg nle]
      exact (RX_o k2).2.2.2.2.2.2.trans k3
    have r3 : gt_read (J 7) 0 3 = nI q := k4.trans k3
    have nq : ¬ nI q = -1 := nI_ne1 (by omega)
    obtain ⟨x8, x6, x0, x1, xr1, xr3, -⟩ := RX_o k2
    have s1 : mfS S 0 1 = nI N := by rw [eS, x1]; exact h5
    have s0 : mfS S 0 0 = nI t := by rw [eS, x0]; exact h3
    have e0 : mv_eq (mfR S) (-1) = 0 := by rw [eR]; exact if_neg nq
    have em : mcX S = (sF (mfS S) 0 9 0, 0, 0) := by
      unfold mcX
      rw [e0]
      exact lw_f (if_pos rfl)
    have y3 : (mcX S).1 3 = S 3 := by rw [em, eS]; exact (sF_ne (mo_ro (mfX S)) 0 9 0 (q := 3) rfl).trans xr3
    have vs : vcC (vcX J) = false := by
      unfold vcX
      exact vc_stop c 0 (by omega) hc 61 (by omega) (vc1 J) (by rw [c7]; exact k6)
    refine ⟨nz.2.2.2.2, nz.2.2.2.1, nz.1, (okm_m o).2.2.2.2.2, m1, by rw [em]; exact if_pos rfl, by rw [s1]; exact nI_le (b := 100) hN (by decide), by rw [s0]; exact nI_le (b := 5000) ht (by decide), by rw [y3, s1]; exact lgv_V H hN, vs, ?_, ?_⟩
    · unfold vcR mcR
      rw [r3, if_neg nq, eR, if_neg nq]
    · have e1 : vcS J = vc0 J := by
        unfold vcS
        rw [r3, if_neg nq]
      have e2 : mc_carryOut S = mo_gt (sF (sF (sF (mcX S).1 0 2 0) 0 1 (nI N)) 0 0 (nI t)) (nI t) (-1) := by
        unfold mc_carryOut mcS mc_u
        rw [if_pos (show (mcX S).2.2 = 0 by rw [em]), s1, s0]
      rw [e1, e2]
      refine back hN ht hL H hT h11 ?_ ?_ ?_ ?_ ?_ ?_ ?_ ?_
      · rw [d0]; exact h1
      · rw [d0]; exact h2
      · rw [d3]; exact h4
      · rw [d3]; exact h6
      · rw [d7]; exact k5
      · rw [em, eS]; exact (sF_ne (mo_ro (mfX S)) 0 9 0 (q := 6) rfl).trans x6
      · rw [em, eS]
        show sF (mo_ro (mfX S)) 0 9 0 0 8 = nI L
        rw [sF_eq, upd_ne _ _ _ rfl]; exact x8
      · rw [y3]; exact fun i _ => rfl
