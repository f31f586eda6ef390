/-! level 2: carryOut -/
theorem do_7 (J : Nat → Nat → Nat → Int32) (q : Int32) : vm_do J q 7 = J 7 := by
  unfold vm_do
  split
  · split
    · rfl
    split
    · exact (vp_0 J _).2.2
    · rfl
  split
  · rfl
  · exact en_7 _ _ _ _ _ _
theorem vc_stop {c : Nat} : ∀ (d k : Nat), k + d = c → c ≤ 60 → ∀ f : Nat, d < f → ∀ J : Nat → Nat → Nat → Int32, J 7 0 1 = nI c → vcC (lw vcC vcB f (J, nI k)) = false := by
  intro d
  induction d with
  | zero =>
    intro k hk hc f hf J hJ
    have c1 : vcC (J, nI k) = false := by
      unfold vcC
      show (if J 7 0 1 ≤ nI k then false else if doF J (nI k) = 0 then false else true) = false
      rw [hJ, if_pos (nI_le (by omega) (by omega))]
    rw [lw_f c1]; exact c1
  | succ d ih =>
    intro k hk hc f hf J hJ
    obtain ⟨g, rfl⟩ : ∃ z, f = z + 1 := ⟨f - 1, by omega⟩
    cases c1 : vcC (J, nI k) with
    | false => rw [lw_f c1]; exact c1
    | true =>
      rw [lw_t c1]
      have b1 : vcB (J, nI k) = (vm_do J (nI k), nI (k + 1)) := by
        unfold vcB
        show (vm_do J (nI k), nI k + 1) = _
        rw [nI_1]
      rw [b1]
      exact ih (k + 1) (by omega) hc g (by omega) _ (by rw [do_7]; exact hJ)
theorem cd_all {S Cf K1 : Nat → Nat → Int32} {N0 L K : Nat} (hL : L ≤ 120) (hK : RK (S 6) L K Cf) (hKL : L ≤ psn (S 6) L K) : ∀ (d k : Nat), k + d = K → ∀ f g : Nat, d < f → d < g → ∀ (J : Nat → Nat → Nat → Int32) (y : Nat → Nat → Int32), QR S Cf K1 N0 L (psn (S 6) L k) J y → vcC (lw vcC vcB f (J, nI k)) = false ∧ mcC (lw mcC mcB g (y, nI k, 1)) = false ∧ (((lw vcC vcB f (J, nI k)).2 = nI K ∧ (lw mcC mcB g (y, nI k, 1)).2.1 = nI K ∧ (lw mcC mcB g (y, nI k, 1)).2.2 = 1 ∧ ∃ p, QR S Cf K1 N0 L p (lw vcC vcB f (J, nI k)).1 (lw mcC mcB g (y, nI k, 1)).1) ∨ (∃ i : Nat, i < K ∧ (lw vcC vcB f (J, nI k)).2 = nI i ∧ (lw mcC mcB g (y, nI k, 1)).2.1 = nI i ∧ (lw mcC mcB g (y, nI k, 1)).2.2 = 0 ∧ vm_do (lw vcC vcB f (J, nI k)).1 (nI i) = (lw vcC vcB f (J, nI k)).1 ∧ ∃ p, QR S Cf K1 N0 L p (lw vcC vcB f (J, nI k)).1 (lw mcC mcB g (y, nI k, 1)).1)) := by
  have hK2 := hK.2.2.2.2.2.1
  have hK3 := hK.2.2.2.2.1
  intro d
  induction d with
  | zero =>
    intro k hk f g hf hg J y h
    have : k = K := by omega
    subst this
    have c1 : vcC (J, nI k) = false := by
      unfold vcC
      show (if J 7 0 1 ≤ nI k then false else if doF J (nI k) = 0 then false else true) = false
      rw [h.2.2.1, hK.2.1, if_pos (nI_le (Nat.le_refl _) (by omega))]
    have c2 : mcC (y, nI k, 1) = false := by
      unfold mcC
      show (if (1 : Int32) = 0 then false else if y 0 8 ≤ y 0 9 then false else true) = false
      rw [if_neg (by decide), h.2.1, h.2.2.2.2.2.1, if_pos (nI_le hKL (by omega))]
    rw [lw_f c1, lw_f c2]
    exact ⟨c1, c2, Or.inl ⟨rfl, rfl, rfl, _, h⟩⟩
  | succ d ih =>
    intro k hk f g hf hg J y h
    obtain ⟨f', rfl⟩ : ∃ z, f = z + 1 := ⟨f - 1, by omega⟩
    obtain ⟨g', rfl⟩ : ∃ z, g = z + 1 := ⟨g - 1, by omega⟩
    obtain ⟨r1, r2, r3, w, r4, r5⟩ := hK.2.2.2.2.2.2 k (by omega)
    have e3 : nI k * 3 = nI (3 * k) := by rw [show (3 : Int32) = nI 3 from rfl, nI_muln, Nat.mul_comm]
    have w1 : oW J (nI k) = nI w := by
      unfold oW
      rw [h.2.2.1, e3, cellF_k _ (by omega) (by decide)]; exact r4
    have w2 : oA J (nI k) = Cf 2 (3 * k + 1) := by
      unfold oA
      rw [h.2.2.1, e3, show nI (3 * k) + 1 = nI (3 * k + 1) from nI_add _ 1, cellF_k _ (by omega) (by decide)]
    have w3 : oB J (nI k) = Cf 2 (3 * k + 2) := by
      unfold oB
      rw [h.2.2.1, e3, show nI (3 * k) + 2 = nI (3 * k + 2) from nI_add _ 2, cellF_k _ (by omega) (by decide)]
    have dn := or_do h r3 (by omega) w1 w2 w3 r5
    have c2 : mcC (y, nI k, 1) = true := by
      unfold mcC
      show (if (1 : Int32) = 0 then false else if y 0 8 ≤ y 0 9 then false else true) = true
      rw [if_neg (by decide), h.2.1, h.2.2.2.2.2.1, if_neg (nI_ge (by omega) (by omega))]
    have n1 : ¬ J 7 0 1 ≤ nI k := by rw [h.2.2.1, hK.2.1]; exact nI_ge (by omega) (by omega)
    have b2 : mcB (y, nI k, 1) = (mo_or (mo_ro y), nI k + nzF (mv_eq ((mo_or (mo_ro y)) 0 2) 0), mv_eq ((mo_or (mo_ro y)) 0 2) 0) := rfl
    rcases dn with ⟨d1, d2, d3⟩ | ⟨d1, d2, d3, d4⟩
    · have c1 : vcC (J, nI k) = true := by
        unfold vcC
        show (if J 7 0 1 ≤ nI k then false else if doF J (nI k) = 0 then false else true) = true
        rw [if_neg n1, if_neg d1]
      have b1 : vcB (J, nI k) = (vm_do J (nI k), nI (k + 1)) := by
        unfold vcB
        show (vm_do J (nI k), nI k + 1) = _
        rw [nI_1]
      have b3 : mcB (y, nI k, 1) = (mo_or (mo_ro y), nI (k + 1), 1) := by
        rw [b2, d2, show mv_eq 0 0 = 1 from rfl, show nzF 1 = 1 from rfl, nI_1]
      rw [lw_t c1, lw_t c2, b1, b3]
      exact ih (k + 1) (by omega) f' g' (by omega) (by omega) _ _ d3
    · have c1 : vcC (J, nI k) = false := by
        unfold vcC
        show (if J 7 0 1 ≤ nI k then false else if doF J (nI k) = 0 then false else true) = false
        rw [if_neg n1, if_pos d1]
      have b3 : mcB (y, nI k, 1) = (mo_or (mo_ro y), nI k, 0) := by
        have e : mv_eq ((mo_or (mo_ro y)) 0 2) 0 = 0 := if_neg d2
        rw [b2, e, show nzF 0 = 0 from rfl, Int32.add_zero]
      have c3 : mcC (mo_or (mo_ro y), nI k, 0) = false := by
        unfold mcC
        exact if_pos rfl
      rw [lw_f c1, lw_t c2, b3, lw_f c3]
      exact ⟨c1, c3, Or.inr ⟨k, by omega, rfl, rfl, rfl, d3, _, d4⟩⟩
theorem LV_cg {E E' : Nat → Int32} {N : Nat} {τ : Nat → Nat} {T : Nat} (H : LV E N τ T) (h : ∀ i, i < 6 * N → E' i = E i) : LV E' N τ T := by
  refine ⟨fun i hi => ?_, H.2⟩
  rw [h (6 * i) (by omega), h (6 * i + 1) (by omega), h (6 * i + 2) (by omega), h (6 * i + 3) (by omega), h (6 * i + 4) (by omega), h (6 * i + 5) (by omega)]
  exact H.1 i hi
theorem rp_cg {E E' : Nat → Int32} {N : Nat} {τ : Nat → Nat} {T : Nat} (H : LV E N τ T) (hT : T ≤ 5000) (hN : N ≤ 100) (h : ∀ i, i < 6 * N → E' i = E i) : (rp E' N (-1) T).1 = (rp E N (-1) T).1 := by
  have H2 := LV_cg H h
  rw [rp_c H2 (by omega) hN (-1) (by omega) (cnt_N H2 (Nat.le_refl _)), rp_c H (by omega) hN (-1) (by omega) (cnt_N H (Nat.le_refl _))]
  show (uA E' (-1) N T).1 = (uA E (-1) N T).1
  unfold uA
  rw [uS_cg (-1) N h]
theorem gt_f (y : Nat → Nat → Int32) (A c : Int32) : mo_gt (sF (sF (sF y 0 2 0) 0 1 A) 0 0 c) c (-1) 0 0 = c ∧ mo_gt (sF (sF (sF y 0 2 0) 0 1 A) 0 0 c) c (-1) 0 1 = A ∧ mo_gt (sF (sF (sF y 0 2 0) 0 1 A) 0 0 c) c (-1) 0 8 = y 0 8 ∧ mo_gt (sF (sF (sF y 0 2 0) 0 1 A) 0 0 c) c (-1) 1 = (gtX (y 3) A c (-1) (y 1)).1 ∧ mo_gt (sF (sF (sF y 0 2 0) 0 1 A) 0 0 c) c (-1) 3 = y 3 ∧ mo_gt (sF (sF (sF y 0 2 0) 0 1 A) 0 0 c) c (-1) 6 = y 6 := by
  unfold mo_gt
  simp only [sF_eq, sF_ne, sR_eq, sR_ne, upd_eq, upd_ne, Nat.reduceBEq]
  exact ⟨trivial, trivial, trivial, trivial, trivial, trivial⟩
/-- put back -/
theorem back {J' : Nat → Nat → Nat → Int32} {S y : Nat → Nat → Int32} {N t L : Nat} {τ : Nat → Nat} (hN : N ≤ 100) (ht : t ≤ 5000) (hL : L ≤ 120) (H : LV (S 3) N τ t) (hT : tx (S 6) L) (hr : eq_n 20 (S 1) (rp (S 3) N (-1) t).1) (r0 : RM (J' 0) (S 1)) (r7 : J' 0 0 7 = nI t) (l0 : J' 3 0 0 = nI N) (l1 : ∀ i, i < 6 * N → J' 3 1 i = S 3 i) (tc : TC (J' 7) (S 6) L) (y6 : y 6 = S 6) (y8 : y 0 8 = nI L) (y3 : ∀ i, i < 6 * N → y 3 i = S 3 i) : Inv J' (mo_gt (sF (sF (sF y 0 2 0) 0 1 (nI N)) 0 0 (nI t)) (nI t) (-1)) := by
  obtain ⟨f1, f2, f3, f4, f5, f6⟩ := gt_f y (nI N) (nI t)
  have H2 := LV_cg H y3
  have g := (gtX_eq H2 (by omega) hN (-1) ht (y 1)).1
  have rc := rp_cg H ht hN y3
  refine ⟨N, t, L, hN, ht, hL, ?_, r7, f1, l0, f2, ?_, ?_, tc.1, ?_, ?_, ?_⟩
  · rw [f4]
    exact RM_eq r0 (hr.tr (by rw [← rc]; exact g.sy))
  · rw [f5]; exact fun i hi => (l1 i hi).trans (y3 i hi).symm
  · rw [f5]; exact ⟨τ, H2.1, H2.2⟩
  · rw [f3]; exact y8
  · rw [f6, y6]; exact fun i hi => ⟨tc.2 i hi, hT i hi⟩
  · rw [f4, f5]; exact g
