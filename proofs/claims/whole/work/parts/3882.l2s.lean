/-! level 2: reading the text -/
theorem at_t (X : Nat → Nat → Int32) : gt_at X 0 0 = X 0 0 ∧ gt_at X 1 = X 1 := by
  unfold gt_at
  rw [sF_eq, upd_ne _ _ _ rfl, sF_ne _ _ _ _ rfl]
  exact ⟨rfl, rfl⟩
theorem ms_t (X : Nat → Nat → Int32) (q : Int32) : gt_miss X q 0 0 = X 0 0 ∧ gt_miss X q 1 = X 1 := by
  unfold gt_miss
  split
  · rw [sF_eq, upd_ne _ _ _ rfl, sF_ne _ _ _ _ rfl]
    exact ⟨rfl, rfl⟩
  · exact ⟨rfl, rfl⟩
theorem semi_t (X : Nat → Nat → Int32) : gt_semi X 0 0 = X 0 0 ∧ gt_semi X 1 = X 1 := by
  unfold gt_semi
  split
  · exact at_t X
  · rw [(at_t _).1, (at_t _).2]; exact ms_t X _
theorem rdig_t (X : Nat → Nat → Int32) (hi : Int32) : gt_rdig X hi 0 0 = X 0 0 ∧ gt_rdig X hi 1 = X 1 := by
  unfold gt_rdig
  split
  · rw [(at_t _).1, (at_t _).2]; exact ms_t X _
  split
  · exact at_t X
  · rw [(at_t _).1, (at_t _).2]; exact ms_t X _
theorem rn_t (mo : Int32) : ∀ (n : Nat) (x : (Nat → Nat → Int32) × Int32 × Int32), (lw (rnC mo) rnB n x).1 0 0 = x.1 0 0 ∧ (lw (rnC mo) rnB n x).1 1 = x.1 1
  | 0, x => ⟨rfl, rfl⟩
  | n + 1, x => by
    cases hc : rnC mo x with
    | false => rw [lw_f hc]; exact ⟨rfl, rfl⟩
    | true =>
      rw [lw_t hc, (rn_t mo n (rnB x)).1, (rn_t mo n (rnB x)).2]
      exact at_t x.1
theorem rnum_t (X : Nat → Nat → Int32) (mo lo hi : Int32) : gt_rnum X mo lo hi 0 0 = X 0 0 ∧ gt_rnum X mo lo hi 1 = X 1 := by
  have e := rn_t mo 5 (X, 0, 0)
  unfold gt_rnum
  generalize lw (rnC mo) rnB 5 (X, 0, 0) = x at *
  have e2 : x.1 0 0 = X 0 0 ∧ x.1 1 = X 1 := e
  have m : ∀ q, gt_miss x.1 q 0 0 = X 0 0 ∧ gt_miss x.1 q 1 = X 1 := fun q => by rw [(ms_t _ _).1, (ms_t _ _).2]; exact e2
  unfold gt_rnE
  split
  · exact m _
  split
  · split
    · exact m _
    split
    · exact e2
    · exact m _
  · exact m _
theorem keep_f (X : Nat → Nat → Int32) (w a b : Int32) : gt_keep X w a b 0 0 = X 0 0 ∧ gt_keep X w a b 0 1 = X 0 1 + 1 ∧ gt_keep X w a b 0 2 = X 0 2 ∧ gt_keep X w a b 1 = X 1 ∧ gt_keep X w a b 2 = putF (putF (putF (X 2) 180 (X 0 1 * 3) w) 180 (X 0 1 * 3 + 1) a) 180 (X 0 1 * 3 + 2) b := by
  unfold gt_keep gt_cinc gt_kp3 gt_kp2 gt_kp1 gt_cput
  simp only [sF_eq, sF_ne, sR_eq, sR_ne, upd_eq, upd_ne, Nat.reduceBEq]
  exact ⟨trivial, trivial, trivial, trivial, trivial⟩
theorem fin_t (X : Nat → Nat → Int32) (w a b : Int32) : gt_fin w a b X 0 0 = X 0 0 ∧ gt_fin w a b X 1 = X 1 := by
  unfold gt_fin
  obtain ⟨k0, -, -, k1, -⟩ := keep_f (gt_semi X) w a b
  rw [k0, k1]; exact semi_t X
theorem ro_tx (X : Nat → Nat → Int32) : gt_ro X 0 0 = X 0 0 ∧ gt_ro X 1 = X 1 := by
  have f : ∀ (Y : Nat → Nat → Int32) (w a b : Int32), Y 0 0 = X 0 0 ∧ Y 1 = X 1 → gt_fin w a b Y 0 0 = X 0 0 ∧ gt_fin w a b Y 1 = X 1 := fun Y w a b h => by rw [(fin_t _ _ _ _).1, (fin_t _ _ _ _).2]; exact h
  have a := at_t X
  have d : ∀ hi, gt_rdig (gt_at X) hi 0 0 = X 0 0 ∧ gt_rdig (gt_at X) hi 1 = X 1 := fun hi => by rw [(rdig_t _ _).1, (rdig_t _ _).2]; exact a
  unfold gt_ro
  split
  · exact ms_t X _
  · unfold gt_ro2
    split
    · exact f _ _ _ _ (d _)
    split
    · exact f _ _ _ _ (d _)
    split
    · exact f _ _ _ _ (by rw [(rnum_t _ _ _ _).1, (rnum_t _ _ _ _).2]; exact d _)
    split
    · exact f _ _ _ _ (d _)
    split
    · exact f _ _ _ _ (by rw [(rnum_t _ _ _ _).1, (rnum_t _ _ _ _).2]; exact a)
    split
    · exact f _ _ _ _ (by rw [(rnum_t _ _ _ _).1, (rnum_t _ _ _ _).2]; exact a)
    · exact f _ _ _ _ a
theorem at_1 (X : Nat → Nat → Int32) : gt_at X 0 1 = X 0 1 := by
  unfold gt_at
  rw [sF_eq, upd_ne _ _ _ rfl]
theorem ms_1 (X : Nat → Nat → Int32) (q : Int32) : gt_miss X q 0 1 = X 0 1 := by
  unfold gt_miss
  split
  · rw [sF_eq, upd_ne _ _ _ rfl]
  · rfl
theorem semi_1 (X : Nat → Nat → Int32) : gt_semi X 0 1 = X 0 1 := by
  unfold gt_semi
  split
  · exact at_1 X
  · rw [at_1, ms_1]
theorem rdig_1 (X : Nat → Nat → Int32) (hi : Int32) : gt_rdig X hi 0 1 = X 0 1 := by
  unfold gt_rdig
  split
  · rw [at_1, ms_1]
  split
  · exact at_1 X
  · rw [at_1, ms_1]
theorem rn_1 (mo : Int32) : ∀ (n : Nat) (x : (Nat → Nat → Int32) × Int32 × Int32), (lw (rnC mo) rnB n x).1 0 1 = x.1 0 1
  | 0, x => rfl
  | n + 1, x => by
    cases hc : rnC mo x with
    | false => rw [lw_f hc]
    | true =>
      rw [lw_t hc, rn_1 mo n (rnB x)]
      exact at_1 x.1
theorem rnum_1 (X : Nat → Nat → Int32) (mo lo hi : Int32) : gt_rnum X mo lo hi 0 1 = X 0 1 := by
  have e := rn_1 mo 5 (X, 0, 0)
  unfold gt_rnum
  generalize lw (rnC mo) rnB 5 (X, 0, 0) = x at *
  have e2 : x.1 0 1 = X 0 1 := e
  unfold gt_rnE
  split
  · rw [ms_1]; exact e2
  split
  · split
    · rw [ms_1]; exact e2
    split
    · exact e2
    · rw [ms_1]; exact e2
  · rw [ms_1]; exact e2
theorem ro_c1 (X : Nat → Nat → Int32) : gt_ro X 0 1 = X 0 1 ∨ gt_ro X 0 1 = X 0 1 + 1 := by
  have f : ∀ (Y : Nat → Nat → Int32) (w a b : Int32), Y 0 1 = X 0 1 → gt_fin w a b Y 0 1 = X 0 1 ∨ gt_fin w a b Y 0 1 = X 0 1 + 1 := fun Y w a b h => by
    right
    unfold gt_fin
    rw [(keep_f (gt_semi Y) w a b).2.1, semi_1, h]
  have d : ∀ hi, gt_rdig (gt_at X) hi 0 1 = X 0 1 := fun hi => by rw [rdig_1, at_1]
  unfold gt_ro
  split
  · exact Or.inl (ms_1 X _)
  · unfold gt_ro2
    split
    · exact f _ _ _ _ (d _)
    split
    · exact f _ _ _ _ (d _)
    split
    · exact f _ _ _ _ (by rw [rnum_1]; exact d _)
    split
    · exact f _ _ _ _ (d _)
    split
    · exact f _ _ _ _ (by rw [rnum_1]; exact at_1 X)
    split
    · exact f _ _ _ _ (by rw [rnum_1]; exact at_1 X)
    · exact f _ _ _ _ (at_1 X)
theorem pC_self {C : Nat → Nat → Int32} {p : Nat} (h : C 0 2 = nI p) : pC C p = C := by
  unfold pC
  funext q
  by_cases c : q = 0
  · subst c
    rw [sF_eq]
    funext k
    rw [upd_at]
    split
    · rename_i e; rw [e, h]
    · rfl
  · rw [sF_ne _ _ _ _ (bne c)]
/-- the positions of the orders -/
def psn (T : Nat → Int32) (L : Nat) : Nat → Nat
  | 0 => 0
  | j + 1 => cl (ro_p2 T (nI L) (nI (psn T L j)))
theorem psn_s (T : Nat → Int32) (L j : Nat) : psn T L (j + 1) = cl (ro_p2 T (nI L) (nI (psn T L j))) := rfl
/-- k orders read -/
def RK (T : Nat → Int32) (L k : Nat) (C : Nat → Nat → Int32) : Prop := TC C T L ∧ C 0 1 = nI k ∧ C 0 2 = nI (psn T L k) ∧ C 0 3 = -1 ∧ psn T L k ≤ L ∧ 2 * k ≤ psn T L k ∧ ∀ j, j < k → psn T L j < L ∧ mv_ro T (nI L) (nI (psn T L j)) = 1 ∧ ro_p2 T (nI L) (nI (psn T L j)) = nI (psn T L (j + 1)) ∧ ∃ w : Nat, C 2 (3 * j) = nI w ∧ OR T L (psn T L j) w (C 2 (3 * j + 1)) (C 2 (3 * j + 2))
theorem RK_s {T : Nat → Int32} {L k : Nat} {C : Nat → Nat → Int32} (hT : tx T L) (hL : L ≤ 120) (h : RK T L k C) (hk : psn T L k < L) : (mv_ro T (nI L) (nI (psn T L k)) = 1 ∧ ro_p2 T (nI L) (nI (psn T L k)) = nI (psn T L (k + 1)) ∧ psn T L k < psn T L (k + 1) ∧ RK T L (k + 1) (gt_ro C)) ∨ (mv_ro T (nI L) (nI (psn T L k)) = 0 ∧ (∃ q : Nat, q ≤ 900 ∧ ro_p2 T (nI L) (nI (psn T L k)) = nI q) ∧ gt_ro C 0 3 = ro_p2 T (nI L) (nI (psn T L k)) ∧ TC (gt_ro C) T L) := by
  obtain ⟨h1, h2, h3, h4, h5, h6, h7⟩ := h
  have q := ro_eq h1 hT hL hk h4
  unfold RO at q
  rw [pC_self h3] at q
  rcases q with ⟨a, p2, w, x, y, b1, b2, b3, b4, b5⟩ | ⟨a, b, c⟩
  · left
    have ep : psn T L (k + 1) = p2 := by rw [psn_s, b3, cl_k (by omega)]
    rw [ep]
    obtain ⟨g2, g3, g1, g0, gr1, gr2⟩ := pC_2 C p2
    obtain ⟨k0, k1, k2, kr1, kr2⟩ := keep_f (pC C p2) (nI w) x y
    rw [g0] at k0
    rw [g1, h2] at k1
    rw [g2] at k2
    rw [gr1] at kr1
    have e3 : nI k * 3 = nI (k * 3) := nI_muln k 3
    rw [gr2, g1, h2, e3, show nI (k * 3) + 1 = nI (k * 3 + 1) from nI_add _ 1, show nI (k * 3) + 2 = nI (k * 3 + 2) from nI_add _ 2, putF_k _ _ (by omega) (by decide), putF_k _ _ (by omega) (by decide), putF_k _ _ (by omega) (by decide)] at kr2
    refine ⟨a, b3, by omega, ⟨?_, ?_⟩, ?_, ?_, ?_, ?_, ?_, fun j hj => ?_⟩
    · rw [b4, k0]; exact h1.1
    · rw [b4, kr1]; exact h1.2
    · rw [b4, k1, nI_1]
    · rw [b4, k2, ep]
    · rw [b4, keep_3, g3]; exact h4
    · omega
    · omega
    · by_cases z : j = k
      · subst z
        refine ⟨hk, a, by rw [ep]; exact b3, w, ?_, ?_⟩
        · rw [b4, kr2, upd_ne _ _ _ (bne (by omega)), upd_ne _ _ _ (bne (by omega)), Nat.mul_comm, upd_eq]
        · have e1 : gt_ro C 2 (3 * j + 1) = x := by rw [b4, kr2, upd_ne _ _ _ (bne (by omega)), Nat.mul_comm, upd_eq]
          have e2 : gt_ro C 2 (3 * j + 2) = y := by rw [b4, kr2, Nat.mul_comm, upd_eq]
          rw [e1, e2]; exact b5
      · have e : ∀ f, f < 3 → gt_ro C 2 (3 * j + f) = C 2 (3 * j + f) := fun f hf => by
          rw [b4, kr2, upd_ne _ _ _ (bne (by omega)), upd_ne _ _ _ (bne (by omega)), upd_ne _ _ _ (bne (by omega))]
        have e0 := e 0 (by omega)
        rw [Nat.add_zero] at e0
        rw [e0, e 1 (by omega), e 2 (by omega)]
        exact h7 j (by omega)
  · right
    refine ⟨a, b, c, ?_, ?_⟩
    · rw [(ro_tx C).1]; exact h1.1
    · rw [(ro_tx C).2]; exact h1.2
/-- the reference after k orders -/
def RX (S : Nat → Nat → Int32) (L k : Nat) (x : Nat → Nat → Int32) : Prop := x 0 9 = nI (psn (S 6) L k) ∧ x 0 8 = nI L ∧ x 6 = S 6 ∧ x 0 0 = S 0 0 ∧ x 0 1 = S 0 1 ∧ x 1 = S 1 ∧ x 3 = S 3
theorem RX_o {S x : Nat → Nat → Int32} {L k : Nat} (h : RX S L k x) : mo_ro x 0 8 = nI L ∧ mo_ro x 6 = S 6 ∧ mo_ro x 0 0 = S 0 0 ∧ mo_ro x 0 1 = S 0 1 ∧ mo_ro x 1 = S 1 ∧ mo_ro x 3 = S 3 ∧ mo_ro x 0 9 = ro_p2 (S 6) (nI L) (nI (psn (S 6) L k)) := by
  obtain ⟨h1, h2, h3, h4, h5, h6, h7⟩ := h
  have e0 : mo_ro x 0 0 = x 0 0 := by unfold mo_ro; simp only [sF_eq, upd_ne, Nat.reduceBEq]
  rw [ro_8, ro_r x (r := 6) rfl, e0, ro_01, ro_r x (r := 1) rfl, ro_r x (r := 3) rfl, ro_9, h1, h2, h3]
  exact ⟨rfl, rfl, h4, h5, h6, h7, rfl⟩
theorem rd_all {S : Nat → Nat → Int32} {L : Nat} (hT : tx (S 6) L) (hL : L ≤ 120) : ∀ (D f g k : Nat) (C x : Nat → Nat → Int32), L - psn (S 6) L k ≤ D → D < f → D < g → RK (S 6) L k C → RX S L k x → mfC (lw mfC mo_ro g x) = false ∧ ((∃ K : Nat, L ≤ psn (S 6) L K ∧ RK (S 6) L K (lw reC reB f (C, nI k)).1 ∧ RX S L K (lw mfC mo_ro g x)) ∨ (∃ K : Nat, psn (S 6) L K < L ∧ RX S L K (lw mfC mo_ro g x) ∧ (∃ q : Nat, q ≤ 900 ∧ ro_p2 (S 6) (nI L) (nI (psn (S 6) L K)) = nI q) ∧ (lw reC reB f (C, nI k)).1 0 3 = ro_p2 (S 6) (nI L) (nI (psn (S 6) L K)) ∧ TC (lw reC reB f (C, nI k)).1 (S 6) L ∧ ∃ c : Nat, c ≤ 60 ∧ (lw reC reB f (C, nI k)).1 0 1 = nI c)) := by
  intro D
  induction D with
  | zero =>
    intro f g k C x hD hf hg h1 h2
    have c1 : reC (C, nI k) = false := by
      unfold reC
      show (if 120 ≤ nI k then false else if C 0 0 ≤ C 0 2 then false else if C 0 3 = -1 then true else false) = false
      rw [h1.1.1, h1.2.2.1, if_pos (show nI L ≤ nI (psn (S 6) L k) from nI_le (by omega) (by have := h1.2.2.2.2.1; omega))]
      split <;> rfl
    have c2 : mfC x = false := by
      unfold mfC
      rw [h2.1, h2.2.1, if_pos (nI_le (by omega) (by have := h1.2.2.2.2.1; omega))]
    rw [lw_f c1, lw_f c2]
    exact ⟨c2, Or.inl ⟨k, by omega, h1, h2⟩⟩
  | succ D ih =>
    intro f g k C x hD hf hg h1 h2
    have hkL := h1.2.2.2.2.1
    have hk2 := h1.2.2.2.2.2.1
    by_cases z : L ≤ psn (S 6) L k
    · have c1 : reC (C, nI k) = false := by
        unfold reC
        show (if 120 ≤ nI k then false else if C 0 0 ≤ C 0 2 then false else if C 0 3 = -1 then true else false) = false
        rw [h1.1.1, h1.2.2.1, if_pos (show nI L ≤ nI (psn (S 6) L k) from nI_le z (by omega))]
        split <;> rfl
      have c2 : mfC x = false := by
        unfold mfC
        rw [h2.1, h2.2.1, if_pos (nI_le z (by omega))]
      rw [lw_f c1, lw_f c2]
      exact ⟨c2, Or.inl ⟨k, z, h1, h2⟩⟩
    · obtain ⟨f', rfl⟩ : ∃ z, f = z + 1 := ⟨f - 1, by omega⟩
      obtain ⟨g', rfl⟩ : ∃ z, g = z + 1 := ⟨g - 1, by omega⟩
      have c1 : reC (C, nI k) = true := by
        unfold reC
        show (if 120 ≤ nI k then false else if C 0 0 ≤ C 0 2 then false else if C 0 3 = -1 then true else false) = true
        rw [h1.1.1, h1.2.2.1, if_neg (show ¬ (120 : Int32) ≤ nI k from nI_ge (a := k) (b := 120) (by omega) (by decide)), if_neg (show ¬ nI L ≤ nI (psn (S 6) L k) from nI_ge (by omega) (by omega)), if_pos h1.2.2.2.1]
      have b1 : reB (C, nI k) = (gt_ro C, nI (k + 1)) := by
        unfold reB
        show (gt_ro C, nI k + 1) = _
        rw [nI_1]
      obtain ⟨o1, o2, o3, o4, o5, o6, o7⟩ := RX_o h2
      rw [lw_t c1, b1]
      rcases RK_s hT hL h1 (by omega) with ⟨a1, a2, a3, a4⟩ | ⟨a1, a2, a3, a4⟩
      · have c2 : mfC x = true := by
          unfold mfC
          rw [h2.1, h2.2.1, h2.2.2.1, if_neg (nI_ge (by omega) (by omega)), a1, if_neg (by decide)]
        rw [lw_t c2]
        exact ih f' g' (k + 1) (gt_ro C) (mo_ro x) (by omega) (by omega) (by omega) a4 ⟨o7.trans a2, o1, o2, o3, o4, o5, o6⟩
      · have c2 : mfC x = false := by
          unfold mfC
          rw [h2.1, h2.2.1, h2.2.2.1, if_neg (nI_ge (by omega) (by omega)), a1, if_pos rfl]
        obtain ⟨q, hq, eq⟩ := a2
        have c3 : reC (gt_ro C, nI (k + 1)) = false := by
          unfold reC
          show (if 120 ≤ nI (k + 1) then false else if gt_ro C 0 0 ≤ gt_ro C 0 2 then false else if gt_ro C 0 3 = -1 then true else false) = false
          rw [a3, eq, if_neg (nI_ne1 (a := q) (by omega))]
          split
          · rfl
          split <;> rfl
        rw [lw_f c2, lw_f c3]
        refine ⟨c2, Or.inr ⟨k, by omega, h2, ⟨q, hq, eq⟩, a3, a4, ?_⟩⟩
        show ∃ c : Nat, c ≤ 60 ∧ gt_ro C 0 1 = nI c
        rcases ro_c1 C with e | e
        · exact ⟨k, by omega, e.trans h1.2.1⟩
        · exact ⟨k + 1, by omega, by rw [e, h1.2.1, nI_1]⟩
