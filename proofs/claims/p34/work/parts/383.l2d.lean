/-! level 2: logged acts -/
theorem uS_cg {E E' : Nat → Int32} (wo : Int32) : ∀ j : Nat, (∀ i, i < 6 * j → E' i = E i) → uS E' wo j = uS E wo j
  | 0, _ => rfl
  | j + 1, h => by
    rw [uS_s, uS_s]
    unfold uA ac
    rw [uS_cg wo j (fun i hi => h i (by omega)), h (6 * j) (by omega), h (6 * j + 1) (by omega), h (6 * j + 2) (by omega), h (6 * j + 3) (by omega), h (6 * j + 4) (by omega), h (6 * j + 5) (by omega)]
theorem la_lo (E : Nat → Int32) (n : Nat) (t w a b c d : Int32) {i : Nat} (h : i < 6 * n) : mr_la E n t w a b c d i = E i := by
  unfold mr_la
  rw [upd_ne _ _ _ (bne (by omega)), upd_ne _ _ _ (bne (by omega)), upd_ne _ _ _ (bne (by omega)), upd_ne _ _ _ (bne (by omega)), upd_ne _ _ _ (bne (by omega)), upd_ne _ _ _ (bne (by omega))]
theorem la_k (E : Nat → Int32) (n : Nat) (t w a b c d : Int32) : mr_la E n t w a b c d (6 * n) = t ∧ mr_la E n t w a b c d (6 * n + 1) = w ∧ mr_la E n t w a b c d (6 * n + 2) = a ∧ mr_la E n t w a b c d (6 * n + 3) = b ∧ mr_la E n t w a b c d (6 * n + 4) = c ∧ mr_la E n t w a b c d (6 * n + 5) = d := by
  unfold mr_la
  refine ⟨?_, ?_, ?_, ?_, ?_, ?_⟩
  · rw [upd_ne _ _ _ (bne (by omega)), upd_ne _ _ _ (bne (by omega)), upd_ne _ _ _ (bne (by omega)), upd_ne _ _ _ (bne (by omega)), upd_ne _ _ _ (bne (by omega)), upd_eq]
  · rw [upd_ne _ _ _ (bne (by omega)), upd_ne _ _ _ (bne (by omega)), upd_ne _ _ _ (bne (by omega)), upd_ne _ _ _ (bne (by omega)), upd_eq]
  · rw [upd_ne _ _ _ (bne (by omega)), upd_ne _ _ _ (bne (by omega)), upd_ne _ _ _ (bne (by omega)), upd_eq]
  · rw [upd_ne _ _ _ (bne (by omega)), upd_ne _ _ _ (bne (by omega)), upd_eq]
  · rw [upd_ne _ _ _ (bne (by omega)), upd_eq]
  · rw [upd_eq]
theorem LE_add {L : Nat → Nat → Int32} {E : Nat → Int32} {N : Nat} (h : LE L E N) (hN : N < 100) (t w a b c d : Int32) : LE (gt_ladd L t w a b c d) (mr_la E N t w a b c d) (N + 1) := by
  have e1 : gt_ladd L t w a b c d 1 = upd (upd (upd (upd (upd (upd (L 1) (N * 6) t) (N * 6 + 1) w) (N * 6 + 2) a) (N * 6 + 3) b) (N * 6 + 4) c) (N * 6 + 5) d := by
    show putF (putF (putF (putF (putF (putF (L 1) 600 (L 0 0 * 6) t) 600 (L 0 0 * 6 + 1) w) 600 (L 0 0 * 6 + 2) a) 600 (L 0 0 * 6 + 3) b) 600 (L 0 0 * 6 + 4) c) 600 (L 0 0 * 6 + 5) d = _
    rw [h.1, show nI N * 6 = nI (N * 6) from nI_muln N 6, show nI (N * 6) + 1 = nI (N * 6 + 1) from nI_add _ 1, show nI (N * 6) + 2 = nI (N * 6 + 2) from nI_add _ 2, show nI (N * 6) + 3 = nI (N * 6 + 3) from nI_add _ 3, show nI (N * 6) + 4 = nI (N * 6 + 4) from nI_add _ 4, show nI (N * 6) + 5 = nI (N * 6 + 5) from nI_add _ 5, putF_k _ _ (by omega) (by decide), putF_k _ _ (by omega) (by decide), putF_k _ _ (by omega) (by decide), putF_k _ _ (by omega) (by decide), putF_k _ _ (by omega) (by decide), putF_k _ _ (by omega) (by decide)]
  refine ⟨?_, fun i hi => ?_⟩
  · show L 0 0 + 1 = _
    rw [h.1, nI_1]
  · rw [e1]
    by_cases c1 : i < 6 * N
    · rw [la_lo _ _ _ _ _ _ _ _ c1, upd_ne _ _ _ (bne (by omega)), upd_ne _ _ _ (bne (by omega)), upd_ne _ _ _ (bne (by omega)), upd_ne _ _ _ (bne (by omega)), upd_ne _ _ _ (bne (by omega)), upd_ne _ _ _ (bne (by omega))]
      exact h.2 i c1
    · unfold mr_la
      rw [Nat.mul_comm N 6]
      simp only [upd_at]
      rcases (show i = 6 * N ∨ i = 6 * N + 1 ∨ i = 6 * N + 2 ∨ i = 6 * N + 3 ∨ i = 6 * N + 4 ∨ i = 6 * N + 5 by omega) with rfl | rfl | rfl | rfl | rfl | rfl
      · rw [if_neg (by omega), if_neg (by omega), if_neg (by omega), if_neg (by omega), if_neg (by omega), if_pos rfl, if_neg (by omega), if_neg (by omega), if_neg (by omega), if_neg (by omega), if_neg (by omega), if_pos rfl]
      · rw [if_neg (by omega), if_neg (by omega), if_neg (by omega), if_neg (by omega), if_pos rfl, if_neg (by omega), if_neg (by omega), if_neg (by omega), if_neg (by omega), if_pos rfl]
      · rw [if_neg (by omega), if_neg (by omega), if_neg (by omega), if_pos rfl, if_neg (by omega), if_neg (by omega), if_neg (by omega), if_pos rfl]
      · rw [if_neg (by omega), if_neg (by omega), if_pos rfl, if_neg (by omega), if_neg (by omega), if_pos rfl]
      · rw [if_neg (by omega), if_pos rfl, if_neg (by omega), if_pos rfl]
      · rw [if_pos rfl, if_pos rfl]
theorem LV_add {E : Nat → Int32} {N : Nat} {τ : Nat → Nat} {t : Nat} (H : LV E N τ t) {w : Nat} {a b c d : Int32} (ha : aOk w a b c d) : LV (mr_la E N (nI t) (nI w) a b c d) (N + 1) (fun i => if i < N then τ i else t) t := by
  obtain ⟨k0, k1, k2, k3, k4, k5⟩ := la_k E N (nI t) (nI w) a b c d
  refine ⟨fun i hi => ?_, fun i j hij hj => ?_⟩
  · by_cases q : i < N
    · rw [la_lo _ _ _ _ _ _ _ _ (show 6 * i < 6 * N by omega), la_lo _ _ _ _ _ _ _ _ (show 6 * i + 1 < 6 * N by omega), la_lo _ _ _ _ _ _ _ _ (show 6 * i + 2 < 6 * N by omega), la_lo _ _ _ _ _ _ _ _ (show 6 * i + 3 < 6 * N by omega), la_lo _ _ _ _ _ _ _ _ (show 6 * i + 4 < 6 * N by omega), la_lo _ _ _ _ _ _ _ _ (show 6 * i + 5 < 6 * N by omega)]
      simp only [if_pos q]
      exact H.1 i q
    · have : i = N := by omega
      subst this
      rw [k0, k1, k2, k3, k4, k5]
      simp only [if_neg q]
      exact ⟨trivial, Nat.le_refl _, w, rfl, ha⟩
  · by_cases q : j < N
    · simp only [if_pos q, if_pos (show i < N by omega)]
      exact H.2 i j hij q
    · simp only [if_neg q]
      split
      · rename_i q2
        exact (H.1 i q2).2.1
      · exact Nat.le_refl _
theorem cnt_N {E : Nat → Int32} {N : Nat} {τ : Nat → Nat} {T t : Nat} (H : LV E N τ T) (h : T ≤ t) : cnt N τ t N := ⟨Nat.le_refl _, fun i hi => by have := (H.1 i hi).2.1; omega, fun i h1 h2 => by omega⟩
/-- the replay of the lengthened log -/
theorem rp_add {E : Nat → Int32} {N : Nat} {τ : Nat → Nat} {t : Nat} (H : LV E N τ t) (ht : t ≤ 5000) (hN : N < 100) {w : Nat} {a b c d : Int32} (ha : aOk w a b c d) : (rp (mr_la E N (nI t) (nI w) a b c d) (N + 1) (-1) t).1 = mr_ds (rp E N (-1) t).1 (nI w) a b c d := by
  have H2 := LV_add H ha
  obtain ⟨k0, k1, k2, k3, k4, k5⟩ := la_k E N (nI t) (nI w) a b c d
  rw [rp_c H2 (by omega) (by omega) (-1) (by omega) (cnt_N H2 (Nat.le_refl _)), rp_c H (by omega) (by omega) (-1) (by omega) (cnt_N H (Nat.le_refl _))]
  show (uA _ (-1) (N + 1) t).1 = mr_ds (uA E (-1) N t).1 (nI w) a b c d
  have et : (if N < N then τ N else t) = t := if_neg (by omega)
  rw [uA_s H2 (by omega) (show N < N + 1 by omega) (nI_ne1 (by omega))]
  show (frk (t - if N < N then τ N else t) _).1 = _
  rw [et, Nat.sub_self]
  show ac _ N _ = _
  unfold ac
  rw [k1, k2, k3, k4, k5]
  unfold uA
  rw [uS_cg (-1) N (fun i hi => la_lo _ _ _ _ _ _ _ _ hi)]
theorem en_0 (J : Nat → Nat → Nat → Int32) (w a b c d : Int32) : vm_enact J w a b c d 0 = perfM (J 0) w a b c d := by unfold vm_enact; rw [gs_ne _ _ _ rfl, gs_eq]
theorem en_3 (J : Nat → Nat → Nat → Int32) (w a b c d : Int32) : vm_enact J w a b c d 3 = gt_ladd (J 3) (J 0 0 7) w a b c d := by unfold vm_enact; rw [gs_eq]
theorem en_7 (J : Nat → Nat → Nat → Int32) (w a b c d : Int32) : vm_enact J w a b c d 7 = J 7 := by unfold vm_enact; rw [gs_ne _ _ _ rfl, gs_ne _ _ _ rfl]
theorem lo_0 {S : Nat → Nat → Int32} {A B C : Int32} (hg : ¬ mv_go A B C = 0) (w a b c d : Int32) : mo_log S A B C w a b c d 0 0 = S 0 0 ∧ mo_log S A B C w a b c d 0 1 = S 0 1 + 1 ∧ mo_log S A B C w a b c d 0 8 = S 0 8 ∧ mo_log S A B C w a b c d 1 = mr_ds (S 1) w a b c d ∧ mo_log S A B C w a b c d 3 = mr_la (S 3) (S 0 1).toNatClampNeg (S 0 0) w a b c d ∧ mo_log S A B C w a b c d 6 = S 6 := by
  unfold mo_log
  rw [if_neg hg, if_neg hg, if_neg hg]
  simp only [sF_eq, sF_ne, sR_eq, sR_ne, upd_eq, upd_ne, Nat.reduceBEq]
  exact ⟨trivial, trivial, trivial, trivial, trivial, trivial⟩
theorem log_eq {J : Nat → Nat → Nat → Int32} {S : Nat → Nat → Int32} (I : Inv J S) {w : Nat} {a b c d A B C : Int32} (ha : aOk w a b c d) (hm : okM J (nI w)) (hg : ¬ mv_go A B C = 0) : perfR (J 0) (nI w) a b c d = mv_ds (S 1) (nI w) a b c d ∧ Inv (vm_enact J (nI w) a b c d) (mo_log S A B C (nI w) a b c d) := by
  have o := inv_ok I
  obtain ⟨N, t, K, hN, ht, hK, h1, h2, h3, h4, h5, h6, ⟨τ, j1, j2⟩, h8, h9, h10, h11⟩ := I
  have H : LV (S 3) N τ t := ⟨j1, j2⟩
  unfold okM myF at hm
  rw [ps_eq h1 o] at hm
  have hN2 : N < 100 := by
    rcases Nat.lt_or_ge N 100 with q | q
    · exact q
    · exfalso; apply hm
      rw [h4, if_neg (show ¬ nI N < 100 from fun z => by have := (nI_lt_iff (b := 100) (by omega) (by decide)).mp z; omega), if_neg (by decide)]
  have hp : ¬ mv_ps (S 1) (nI w) = 0 := fun z => hm (by rw [z, if_pos (show (0 : Int32) = 0 from rfl)]; split <;> rfl)
  obtain ⟨r1, r2, r3⟩ := RM_ds h1 o ha hp
  obtain ⟨m1, m2, m3, m4, m5, m6⟩ := lo_0 (S := S) hg (nI w) a b c d
  obtain ⟨l1, l2⟩ := LE_add (L := J 3) (E := S 3) (N := N) ⟨h4, h6⟩ hN2 (J 0 0 7) (nI w) a b c d
  rw [h5, nI_clamp (by omega), h3] at m5
  rw [h2] at l1 l2
  have q := LV_add H ha
  refine ⟨r2, N + 1, t, K, by omega, ht, hK, ?_, ?_, ?_, ?_, ?_, ?_, ?_, ?_, ?_, ?_, ?_⟩
  · rw [en_0, m4]; exact r1
  · rw [en_0, pM_oth _ _ _ _ _ _ (Or.inl rfl)]; exact h2
  · rw [m1]; exact h3
  · rw [en_3, h2]; exact l1
  · rw [m2, h5, nI_1]
  · rw [en_3, m5, h2]; exact l2
  · rw [m5]; exact ⟨_, q.1, q.2⟩
  · rw [en_7]; exact h8
  · rw [m3]; exact h9
  · rw [en_7, m6]; exact h10
  · rw [m4, m5, rp_add H ht hN2 ha]
    exact e_ds h11 _ _ _ (aOk_k ha)
theorem log_no {J : Nat → Nat → Nat → Int32} {S : Nat → Nat → Int32} (I : Inv J S) {w a b c d A B C : Int32} (hg : mv_go A B C = 0) : Inv J (mo_log S A B C w a b c d) := by
  have e : mo_log S A B C w a b c d = sF (sF (sR (sR S 1 (S 1)) 3 (S 3)) 0 1 (S 0 1)) 0 2 (mv_gf A B C) := by
    unfold mo_log
    rw [if_pos hg, if_pos hg, if_pos hg]
  rw [e]
  exact inv_cg I rfl rfl rfl rfl rfl rfl eq_n.rf rfl rfl
theorem hr_ok {J : Nat → Nat → Nat → Int32} {S : Nat → Nat → Int32} (I : Inv J S) (w : Int32) : (okM J w ↔ mv_hr (S 0 1) = 1 ∧ ¬ mv_ps (S 1) w = 0) ∧ (mv_hr (S 0 1) = 0 ∨ mv_hr (S 0 1) = 1) := by
  have e := ps_eq (inv_rm I) (inv_ok I) w
  have e2 := (inv_t I).2.1
  obtain ⟨N, hN, e3⟩ := (inv_n I).1
  unfold okM myF mv_hr
  rw [e, e2, e3]
  by_cases c : N < 100
  · rw [if_pos (show nI N < 100 from nI_lt c (by decide)), if_neg (show ¬ (100 : Int32) ≤ nI N from nI_ge (a := N) (b := 100) c (by decide)), if_pos rfl]
    refine ⟨⟨fun h => ⟨rfl, fun z => h (by rw [if_pos z])⟩, fun h z => ?_⟩, Or.inr rfl⟩
    rw [if_neg h.2] at z
    exact absurd z (by decide)
  · rw [if_neg (show ¬ nI N < 100 from fun z => c ((nI_lt_iff (b := 100) (by omega) (by decide)).mp z)), if_pos (show (100 : Int32) ≤ nI N from nI_le (a := 100) (by omega) (by omega)), if_neg (by decide)]
    exact ⟨⟨fun h => absurd rfl h, fun h => absurd h.1 (by decide)⟩, Or.inl rfl⟩
theorem ps_1 (m : Nat → Int32) {w : Int32} (h3 : ¬ w = 3) (h7 : ¬ w = 7) (h8 : ¬ w = 8) : mv_ps m w = 1 := by
  unfold mv_ps
  rw [if_neg h3, if_neg h7, if_neg h8]
theorem ps_01 (m : Nat → Int32) (w : Int32) : mv_ps m w = 0 ∨ mv_ps m w = 1 := by
  unfold mv_ps
  split
  · split
    · exact Or.inr rfl
    · exact Or.inl rfl
  split
  · split
    · exact Or.inr rfl
    · exact Or.inl rfl
  split
  · split
    · exact Or.inr rfl
    · exact Or.inl rfl
  · exact Or.inr rfl
theorem c2_program {J : Nat → Nat → Nat → Int32} {S : Nat → Nat → Int32} (I : Inv J S) (q : Int32) : (¬ (S 0 1) < 0) ∧ (((okS q) ∧ (okM J 0) ∧ (mc_program S q) 0 2 = 0 ∧ perfR (J 0) 0 q (-1) (-1) (-1) = (if mv_go (mv_is q) (mv_hr (S 0 1)) 1 = 0 then 0 else mv_ds (S 1) 0 q (-1) (-1) (-1)) ∧ Inv (vm_enact J 0 q (-1) (-1) (-1)) (mc_program S q)) ∨ (¬ (okS q) ∧ (mc_program S q) 0 2 = 1 ∧ Inv J (mc_program S q)) ∨ ((okS q) ∧ ¬ (okM J 0) ∧ (mc_program S q) 0 2 = 2 ∧ Inv J (mc_program S q))) := by
  refine ⟨(inv_n0 I).1, ?_⟩
  have r : mc_program S q 0 2 = mv_gf (mv_is q) (mv_hr (S 0 1)) 1 := rfl
  have em : mc_program S q = mo_log S (mv_is q) (mv_hr (S 0 1)) 1 0 q (-1) (-1) (-1) := rfl
  obtain ⟨hm, hr⟩ := hr_ok I 0
  by_cases h : okS q
  · have e := is_1 h
    by_cases c : okM J 0
    · left
      have e2 := (hm.mp c).1
      have hg : ¬ mv_go (mv_is q) (mv_hr (S 0 1)) 1 = 0 := by rw [e, e2]; decide
      obtain ⟨x, y⟩ := log_eq I (w := 0) (a := q) (b := -1) (c := -1) (d := -1) (Or.inl ⟨rfl, okS_rg h⟩) c hg
      refine ⟨h, c, by rw [r, e, e2]; decide, ?_, ?_⟩
      · rw [if_neg hg]; exact x
      · rw [em]; exact y
    · right; right
      have e2 : mv_hr (S 0 1) = 0 := hr.resolve_right (fun z => c (hm.mpr ⟨z, by rw [ps_1 _ (by decide) (by decide) (by decide)]; decide⟩))
      refine ⟨h, c, by rw [r, e, e2]; decide, ?_⟩
      rw [em]; exact log_no I (by rw [e, e2]; decide)
  · right; left
    have e := is_0 h
    refine ⟨h, by rw [r, e]; rfl, ?_⟩
    rw [em]; exact log_no I (by rw [e]; rfl)
