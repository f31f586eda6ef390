/-! level 2: frames, the initial state, copies -/
def fr1 (x : (Nat → Int32) × Int32) : (Nat → Int32) × Int32 := (mr_fr x.1, mv_fn x.1 x.2)
def frk : Nat → (Nat → Int32) × Int32 → (Nat → Int32) × Int32
  | 0, x => x
  | n + 1, x => fr1 (frk n x)
theorem frk_add (a : Nat) (x : (Nat → Int32) × Int32) : ∀ b : Nat, frk (a + b) x = frk b (frk a x)
  | 0 => rfl
  | b + 1 => by show fr1 (frk (a + b) x) = fr1 (frk b (frk a x)); rw [frk_add a x b]
def e56 (m n : Nat → Int32) : Prop := ∀ k, k < 20 → k ≠ 5 → k ≠ 6 → m k = n k
theorem e56_cp {m n : Nat → Int32} (h : e56 m n) : eq_n 20 (mr_cp m) (mr_cp n) := by
  intro k hk
  by_cases h5 : k = 5
  · subst h5; rw [cp_5, cp_5]
  by_cases h6 : k = 6
  · subst h6; rw [cp_6, cp_6]
  by_cases hi : ∃ i, i < 3 ∧ k = 7 + 4 * i + 3
  · obtain ⟨i, hi, rfl⟩ := hi
    rw [cp_on m hi, cp_on n hi, h 4 (by omega) (by omega) (by omega), h _ hk h5 h6]
  · have hi2 : ∀ i, i < 3 → k ≠ 7 + 4 * i + 3 := fun i q e => hi ⟨i, q, e⟩
    rw [cp_lo m h5 h6 hi2, cp_lo n h5 h6 hi2]
    by_cases h0 : k = 0
    · subst h0; rw [sw_0, sw_0, h 4 (by omega) (by omega) (by omega), h 0 (by omega) (by omega) (by omega), h 1 (by omega) (by omega) (by omega)]
    by_cases h1 : k = 1
    · subst h1; rw [sw_1, sw_1, h 4 (by omega) (by omega) (by omega), h 0 (by omega) (by omega) (by omega), h 1 (by omega) (by omega) (by omega)]
    rw [sw_ne m h0 h1, sw_ne n h0 h1, h k hk h5 h6]
theorem e56_6 (m : Nat → Int32) (v : Int32) : e56 (upd m 6 v) m := fun k _ _ h6 => upd_ne _ _ _ (bne h6)
theorem e56.tr {a b c : Nat → Int32} (h1 : e56 a b) (h2 : e56 b c) : e56 a c := fun k x y z => (h1 k x y z).trans (h2 k x y z)
theorem nI_lt_iff {a b : Nat} (ha : a < 2 ^ 31) (hb : b < 2 ^ 31) : nI a < nI b ↔ a < b := nI_ltI ha hb
theorem fr_pos {p R : Nat} (hp : p < R) (hR : R ≤ 100) : nI p * 1000 / nI R = nI (p * 1000 / R) ∧ p * 1000 / R ≤ 1000 := by
  rw [show (1000 : Int32) = nI 1000 from rfl, nI_muln, nI_div (by omega) (by omega) (by omega)]
  exact ⟨rfl, Nat.div_le_of_le_mul (by rw [Nat.mul_comm R]; omega)⟩
theorem mOk_fr {m : Nat → Int32} (o : mOk m) : mOk (mr_fr m) := by
  unfold mr_fr
  split
  · exact o
  · rename_i hne
    obtain ⟨p, -, hp, e6⟩ := o.2.2.2.2.2.2.1.resolve_left hne
    obtain ⟨R, hR1, hR2, e3⟩ := o.2.2.2.1
    have f6 : mr_f1 m 6 = nI (p + 1) := by unfold mr_f1; rw [upd_eq, e6, nI_1]
    have f3 : mr_f1 m 3 = nI R := e3
    rw [f6, f3]
    split
    · rename_i hlt
      have hlt2 : p + 1 < R := (nI_lt_iff (by omega) (by omega)).mp hlt
      obtain ⟨q1, q2⟩ := fr_pos hlt2 hR2
      rw [q1]
      have o1 : mOk (mr_f1 m) := by
        unfold mr_f1
        rw [e6, nI_1]
        exact mOk_lo o (by omega) _ ⟨by omega, by omega, by omega, by omega, by omega, fun _ => Or.inr ⟨p + 1, by omega, by omega, rfl⟩⟩
      exact mOk_lo o1 (by omega) _ ⟨by omega, by omega, by omega, by omega, fun _ => ⟨_, Nat.zero_le _, q2, rfl⟩, by omega⟩
    · exact mOk_eq (mOk_cp o) (e56_cp (e56_6 m _)).sy
theorem mOk_frk {x : (Nat → Int32) × Int32} (o : mOk x.1) : ∀ n : Nat, mOk (frk n x).1
  | 0 => o
  | n + 1 => mOk_fr (mOk_frk o n)
theorem fr1_stop {m : Nat → Int32} (r : Int32) (h : m 6 = -1) : fr1 (m, r) = (m, r) := by
  show (mr_fr m, mv_fn m r) = (m, r)
  unfold mr_fr mv_fn
  rw [if_pos h, if_pos h]
theorem frk_stop {m : Nat → Int32} (r : Int32) (h : m 6 = -1) : ∀ n : Nat, frk n (m, r) = (m, r)
  | 0 => rfl
  | n + 1 => by show fr1 (frk n (m, r)) = _; rw [frk_stop r h n, fr1_stop r h]
theorem e_frk {m n : Nat → Int32} (h : eq_n 20 m n) (r : Int32) : ∀ k : Nat, eq_n 20 (frk k (m, r)).1 (frk k (n, r)).1 ∧ (frk k (m, r)).2 = (frk k (n, r)).2
  | 0 => ⟨h, rfl⟩
  | k + 1 => by
    have q := e_frk h r k
    refine ⟨e_fr q.1, ?_⟩
    show mv_fn _ _ = mv_fn _ _
    rw [e_fn q.1, q.2]
/-- while the run goes on -/
theorem frk_run {m : Nat → Int32} (r : Int32) {p R : Nat} (hp : p ≤ 99) (hR : R ≤ 100) (e6 : m 6 = nI p) (e3 : m 3 = nI R) : ∀ k : Nat, k = 0 ∨ k < R - p → e56 (frk k (m, r)).1 m ∧ (frk k (m, r)).1 6 = nI (p + k) ∧ (k = 0 ∨ (frk k (m, r)).1 5 = nI (p + k) * 1000 / nI R) ∧ (frk k (m, r)).2 = r
  | 0, _ => ⟨fun _ _ _ _ => rfl, e6, Or.inl rfl, rfl⟩
  | k + 1, hk => by
    have hk2 : k + 1 < R - p := by omega
    obtain ⟨a, b, -, d⟩ := frk_run r hp hR e6 e3 k (by omega)
    have x3 : (frk k (m, r)).1 3 = nI R := (a 3 (by omega) (by omega) (by omega)).trans e3
    have f6 : mr_f1 (frk k (m, r)).1 6 = nI (p + (k + 1)) := by unfold mr_f1; rw [upd_eq, b, nI_1]; rfl
    have f3 : mr_f1 (frk k (m, r)).1 3 = nI R := x3
    have hne : ¬ (frk k (m, r)).1 6 = -1 := by rw [b]; exact nI_ne1 (by omega)
    have hlt : mr_f1 (frk k (m, r)).1 6 < mr_f1 (frk k (m, r)).1 3 := by rw [f6, f3]; exact nI_lt (by omega) (by omega)
    have e1 : (frk (k + 1) (m, r)).1 = upd (mr_f1 (frk k (m, r)).1) 5 (nI (p + (k + 1)) * 1000 / nI R) := by
      show mr_fr _ = _
      unfold mr_fr
      rw [if_neg hne, if_pos hlt, f6, f3]
    have e2 : (frk (k + 1) (m, r)).2 = r := by
      show mv_fn _ _ = _
      unfold mv_fn
      rw [if_neg hne, if_pos hlt]; exact d
    rw [e1, e2]
    refine ⟨fun j hj h5 h6 => ?_, ?_, Or.inr (upd_eq _ _ _), rfl⟩
    · rw [upd_ne _ _ _ (bne h5)]; unfold mr_f1; rw [upd_ne _ _ _ (bne h6)]; exact a j hj h5 h6
    · rw [upd_ne _ _ _ (bne (by omega))]; exact f6
/-- the frame that ends it -/
theorem frk_end {m : Nat → Int32} (r : Int32) {p R : Nat} (hp : p ≤ 99) (hR1 : 1 ≤ R) (hR : R ≤ 100) (e6 : m 6 = nI p) (e3 : m 3 = nI R) {d : Nat} (hd : d + 1 = R - p ∨ (d = 0 ∧ R ≤ p)) : eq_n 20 (frk (d + 1) (m, r)).1 (mr_cp m) ∧ (frk (d + 1) (m, r)).2 = r + 1 ∧ (frk (d + 1) (m, r)).1 6 = -1 := by
  obtain ⟨a, b, -, c⟩ := frk_run r hp hR e6 e3 d (by omega)
  have x3 : (frk d (m, r)).1 3 = nI R := (a 3 (by omega) (by omega) (by omega)).trans e3
  have f6 : mr_f1 (frk d (m, r)).1 6 = nI (p + (d + 1)) := by unfold mr_f1; rw [upd_eq, b, nI_1]; rfl
  have f3 : mr_f1 (frk d (m, r)).1 3 = nI R := x3
  have hne : ¬ (frk d (m, r)).1 6 = -1 := by rw [b]; exact nI_ne1 (by omega)
  have hlt : ¬ mr_f1 (frk d (m, r)).1 6 < mr_f1 (frk d (m, r)).1 3 := by rw [f6, f3, nI_lt_iff (by omega) (by omega)]; omega
  have e1 : (frk (d + 1) (m, r)).1 = mr_cp (mr_f1 (frk d (m, r)).1) := by
    show mr_fr _ = _
    unfold mr_fr
    rw [if_neg hne, if_neg hlt]
  have e2 : (frk (d + 1) (m, r)).2 = r + 1 := by
    show mv_fn _ _ = _
    unfold mv_fn
    rw [if_neg hne, if_neg hlt, c]
  rw [e1, e2]
  exact ⟨e56_cp ((e56_6 _ _).tr a), rfl, cp_6 _⟩
theorem sub_toInt {a b : Nat} (ha : a < 2 ^ 30) (hb : b < 2 ^ 30) : (nI a - nI b).toInt = (a : Int) - b := by
  rw [Int32.toInt_sub, nI_toInt (by omega), nI_toInt (by omega), Int.bmod_eq_of_le (by omega) (by omega)]
theorem gc_oth (M : Nat → Nat → Int32) {i : Nat} (hi : i = 7 ∨ i = 8) : gt_complete M 0 i = M 0 i := by
  unfold gt_complete
  split
  · unfold gt_cp2; rw [sF_eq, upd_ne _ _ _ (bne (by omega)), sF_eq, upd_ne _ _ _ (bne (by omega)), sF_eq, upd_ne _ _ _ (bne (by omega))]
  · unfold gt_cp2 gt_cp3; rw [sF_eq, upd_ne _ _ _ (bne (by omega)), sF_eq, upd_ne _ _ _ (bne (by omega)), sF_eq, upd_ne _ _ _ (bne (by omega)), sF_eq, upd_ne _ _ _ (bne (by omega)), sF_eq, upd_ne _ _ _ (bne (by omega))]
/-- letPass is frames -/
theorem lp_eq {M : Nat → Nat → Int32} {m : Nat → Int32} (h : RM M m) (o : mOk m) {n : Nat} (hn : n ≤ 5000) {r : Int32} (hr : M 0 8 = r) :
    RM (gt_letPass (nI n) M) (frk n (m, r)).1 ∧ gt_letPass (nI n) M 0 8 = (frk n (m, r)).2 ∧ gt_letPass (nI n) M 0 7 = M 0 7 + nI n := by
  unfold gt_letPass
  rcases Nat.eq_zero_or_pos n with rfl | hn0
  · rw [if_neg (show ¬ (0 : Int32) < nI 0 by decide)]
    exact ⟨h, hr, (show M 0 7 + 0 = M 0 7 from Int32.add_zero _).symm⟩
  rw [if_pos (show (0 : Int32) < nI n from nI_lt (a := 0) hn0 (by omega))]
  have h6 : M 0 6 = m 6 := h.1 6 (by omega)
  by_cases c : M 0 6 = -1
  · rw [if_pos c, frk_stop r (by rw [← h6]; exact c) n]
    exact ⟨RM_oth h (Or.inl rfl) _, hr, rfl⟩
  rw [if_neg c]
  rw [h6] at c
  obtain ⟨p, -, hp, e6⟩ := o.2.2.2.2.2.2.1.resolve_left c
  obtain ⟨R, hR1, hR2, e3⟩ := o.2.2.2.1
  have h3 : M 0 3 = m 3 := h.1 3 (by omega)
  -- the frames that are left
  obtain ⟨d, hd, ed⟩ : ∃ d : Nat, (d + 1 = R - p ∨ (d = 0 ∧ R ≤ p)) ∧ (if 1 < M 0 3 - M 0 6 then M 0 3 - M 0 6 else 1) = nI (d + 1) := by
    rw [h3, h6, e3, e6]
    have e := sub_toInt (a := R) (b := p) (by omega) (by omega)
    have t1 : ((1 : Int32)).toInt = 1 := by decide
    by_cases q : 1 < R - p
    · refine ⟨R - p - 1, Or.inl (by omega), ?_⟩
      rw [if_pos (Int32.lt_iff_toInt_lt.mpr (by rw [e, t1]; omega)), nI_sub (by omega) (by omega)]
      congr 1; omega
    · refine ⟨0, by omega, ?_⟩
      rw [if_neg (fun z => by have := Int32.lt_iff_toInt_lt.mp z; rw [e, t1] at this; omega)]
      rfl
  unfold gt_lp2
  rw [ed]
  by_cases q : n < d + 1
  · rw [if_pos (nI_lt q (by omega))]
    obtain ⟨a1, a2, a3, a4⟩ := frk_run r hp hR2 e6 e3 n (by omega)
    have e5 : (frk n (m, r)).1 5 = nI (p + n) * 1000 / nI R := a3.resolve_left (by omega)
    have key : RM (gt_lp3 (nI n) M) (upd (upd m 6 (nI (p + n))) 5 (nI (p + n) * 1000 / nI R)) := by
      unfold gt_lp3
      rw [h6, h3, e6, e3, nI_add, if_neg (fun z => absurd (show nI 1 ≤ nI R from nI_le hR1 (by omega)) (fun y => absurd (Int32.le_trans y z) (by decide)))]
      exact RM_set (RM_set (RM_oth h (Or.inl rfl) _) (by omega) _) (by omega) _
    refine ⟨RM_eq key (fun k hk => ?_), ?_, rfl⟩
    · rw [upd_at, upd_at]
      by_cases k5 : k = 5
      · subst k5; rw [if_pos rfl]; exact e5.symm
      · rw [if_neg k5]
        by_cases k6 : k = 6
        · subst k6; rw [if_pos rfl]; exact a2.symm
        · rw [if_neg k6]; exact (a1 k hk k5 k6).symm
    · rw [a4]; exact hr
  · rw [if_neg (fun z => q ((nI_lt_iff (by omega) (by omega)).mp z))]
    obtain ⟨a1, a2, a3⟩ := frk_end r hp hR1 hR2 e6 e3 hd
    have e9 : frk n (m, r) = frk (d + 1) (m, r) := by
      rw [show n = (d + 1) + (n - (d + 1)) by omega, frk_add]
      exact frk_stop _ a3 _
    rw [e9]
    refine ⟨RM_eq (RM_oth (RM_cp (RM_oth h (Or.inl rfl) _) o) (Or.inr rfl) _) a1.sy, ?_, ?_⟩
    · show gt_complete _ 0 8 + 1 = _
      rw [gc_oth _ (Or.inr rfl), a2]
      show M 0 8 + 1 = _
      rw [hr]
    · show gt_rc _ 0 7 = _
      unfold gt_rc
      rw [sF_eq, upd_ne _ _ _ rfl, gc_oth _ (Or.inl rfl)]; rfl
/-! the initial state -/
theorem rs_row (k : Nat) (hk : k < 3) (M : Nat → Nat → Int32) : gt_resetS k M 0 = M 0 ∧ gt_resetS k M 1 = upd (M 1) k (3 + nI k) ∧ gt_resetS k M 2 = upd (M 2) k 100 ∧ gt_resetS k M 3 = upd (M 3) k 25 := by
  refine ⟨rfl, ?_, ?_, ?_⟩
  · show putF (M 1) 3 (nI k) (3 + nI k) = _; exact putF_k _ _ hk (by decide)
  · show putF (M 2) 3 (nI k) 100 = _; exact putF_k _ _ hk (by decide)
  · show putF (M 3) 3 (nI k) 25 = _; exact putF_k _ _ hk (by decide)
theorem rs_3 (M : Nat → Nat → Int32) : gt_reset M = gt_resetS 2 (gt_resetS 1 (gt_resetS 0 (gt_resetI M))) := rfl
theorem rs_0 (M : Nat → Nat → Int32) : gt_reset M 0 = gt_resetI M 0 := by
  rw [rs_3, (rs_row 2 (by omega) _).1, (rs_row 1 (by omega) _).1, (rs_row 0 (by omega) _).1]
theorem rs_k (M : Nat → Nat → Int32) (k : Nat) (hk : k < 3) : gt_reset M 1 k = 3 + nI k ∧ gt_reset M 2 k = 100 ∧ gt_reset M 3 k = 25 := by
  obtain ⟨-, a1, a2, a3⟩ := rs_row 2 (by omega) (gt_resetS 1 (gt_resetS 0 (gt_resetI M)))
  obtain ⟨-, b1, b2, b3⟩ := rs_row 1 (by omega) (gt_resetS 0 (gt_resetI M))
  obtain ⟨-, c1, c2, c3⟩ := rs_row 0 (by omega) (gt_resetI M)
  rw [rs_3, a1, a2, a3, b1, b2, b3, c1, c2, c3]
  simp only [upd_at]
  rcases (show k = 0 ∨ k = 1 ∨ k = 2 by omega) with rfl | rfl | rfl <;> exact ⟨rfl, rfl, rfl⟩
theorem bgv (m : Nat → Int32) : (mr_bg m 0 = 1 ∧ mr_bg m 1 = 2 ∧ mr_bg m 2 = 0 ∧ mr_bg m 3 = 25 ∧ mr_bg m 4 = 1 ∧ mr_bg m 5 = 0 ∧ mr_bg m 6 = -1 ∧ mr_bg m 19 = 0) ∧ ∀ k, k < 3 → mr_bg m (7 + 4 * k) = 3 + nI k ∧ mr_bg m (7 + 4 * k + 1) = 100 ∧ mr_bg m (7 + 4 * k + 2) = 25 ∧ mr_bg m (7 + 4 * k + 3) = 0 := by
  rw [bg_3s]
  refine ⟨⟨?_, ?_, ?_, ?_, ?_, ?_, ?_, ?_⟩, fun k hk => ?_⟩
  iterate 8 (simp only [mr_bs, mr_bi, upd_ne, upd_eq, Nat.reduceBEq, Nat.reduceMul, Nat.reduceAdd])
  rcases (show k = 0 ∨ k = 1 ∨ k = 2 by omega) with rfl | rfl | rfl <;> (simp only [mr_bs, mr_bi, upd_ne, upd_eq, Nat.reduceBEq, Nat.reduceMul, Nat.reduceAdd]; exact ⟨trivial, trivial, trivial, trivial⟩)
theorem RM_bg (M : Nat → Nat → Int32) (m : Nat → Int32) : RM (gt_reset M) (mr_bg m) := by
  obtain ⟨⟨v0, v1, v2, v3, v4, v5, v6, v19⟩, vk⟩ := bgv m
  have e10 : gt_reset M 0 10 = 0 := by rw [rs_0]; rfl
  refine ⟨fun k hk => ?_, ?_, fun k hk => ?_, ⟨0, by omega, e10⟩⟩
  · rw [rs_0]
    rcases (show k = 0 ∨ k = 1 ∨ k = 2 ∨ k = 3 ∨ k = 4 ∨ k = 5 ∨ k = 6 by omega) with rfl | rfl | rfl | rfl | rfl | rfl | rfl
    · rw [v0]; rfl
    · rw [v1]; rfl
    · rw [v2]; rfl
    · rw [v3]; rfl
    · rw [v4]; rfl
    · rw [v5]; rfl
    · rw [v6]; rfl
  · rw [rs_0, v19]; rfl
  · obtain ⟨a, b, c, d⟩ := vk k hk
    obtain ⟨a2, b2, c2⟩ := rs_k M k hk
    rw [a, b, c, d, a2, b2, c2, e10]
    refine ⟨rfl, rfl, rfl, ?_⟩
    rcases (show k = 0 ∨ k = 1 ∨ k = 2 by omega) with rfl | rfl | rfl <;> decide
theorem mOk_bg (m : Nat → Int32) : mOk (mr_bg m) := by
  obtain ⟨⟨v0, v1, v2, v3, v4, v5, v6, v19⟩, vk⟩ := bgv m
  unfold mOk
  rw [v0, v1, v2, v3, v4, v5, v6, v19]
  refine ⟨⟨1, by omega, by omega, rfl⟩, ⟨2, by omega, by omega, rfl⟩, ⟨0, by omega, by omega, rfl⟩, ⟨25, by omega, by omega, rfl⟩, ⟨1, by omega, by omega, rfl⟩, ⟨0, by omega, by omega, rfl⟩, Or.inl rfl, fun k hk => ?_, ⟨0, by omega, rfl⟩⟩
  obtain ⟨a, b, c, d⟩ := vk k hk
  rw [a, b, c, d, show (3 : Int32) + nI k = nI (3 + k) from nI_add 3 k]
  exact ⟨⟨3 + k, by omega, by omega, rfl⟩, ⟨100, by omega, by omega, rfl⟩, ⟨25, by omega, by omega, rfl⟩, ⟨0, by omega, by omega, rfl⟩⟩
/-! copies -/
theorem cy_row (N : Nat → Nat → Int32) (k : Nat) (hk : k < 3) (M : Nat → Nat → Int32) : gt_copyS N k M 0 = M 0 ∧ gt_copyS N k M 1 = upd (M 1) k (N 1 k) ∧ gt_copyS N k M 2 = upd (M 2) k (N 2 k) ∧ gt_copyS N k M 3 = upd (M 3) k (N 3 k) := by
  refine ⟨rfl, ?_, ?_, ?_⟩
  · show putF (M 1) 3 (nI k) (cellF (N 1) 3 (nI k)) = _; rw [cellF_k _ hk (by decide)]; exact putF_k _ _ hk (by decide)
  · show putF (M 2) 3 (nI k) (cellF (N 2) 3 (nI k)) = _; rw [cellF_k _ hk (by decide)]; exact putF_k _ _ hk (by decide)
  · show putF (M 3) 3 (nI k) (cellF (N 3) 3 (nI k)) = _; rw [cellF_k _ hk (by decide)]; exact putF_k _ _ hk (by decide)
theorem cy_3 (M N : Nat → Nat → Int32) : gt_copy M N = gt_copyS N 2 (gt_copyS N 1 (gt_copyS N 0 (gt_copyI M N))) := rfl
theorem cy_0 (M N : Nat → Nat → Int32) {k : Nat} (hk : k < 11) : gt_copy M N 0 k = N 0 k := by
  rw [cy_3, (cy_row N 2 (by omega) _).1, (cy_row N 1 (by omega) _).1, (cy_row N 0 (by omega) _).1]
  rcases (show k = 0 ∨ k = 1 ∨ k = 2 ∨ k = 3 ∨ k = 4 ∨ k = 5 ∨ k = 6 ∨ k = 7 ∨ k = 8 ∨ k = 9 ∨ k = 10 by omega) with rfl | rfl | rfl | rfl | rfl | rfl | rfl | rfl | rfl | rfl | rfl <;> rfl
theorem cy_k (M N : Nat → Nat → Int32) (k : Nat) (hk : k < 3) : gt_copy M N 1 k = N 1 k ∧ gt_copy M N 2 k = N 2 k ∧ gt_copy M N 3 k = N 3 k := by
  obtain ⟨-, a1, a2, a3⟩ := cy_row N 2 (by omega) (gt_copyS N 1 (gt_copyS N 0 (gt_copyI M N)))
  obtain ⟨-, b1, b2, b3⟩ := cy_row N 1 (by omega) (gt_copyS N 0 (gt_copyI M N))
  obtain ⟨-, c1, c2, c3⟩ := cy_row N 0 (by omega) (gt_copyI M N)
  rw [cy_3, a1, a2, a3, b1, b2, b3, c1, c2, c3]
  simp only [upd_at]
  rcases (show k = 0 ∨ k = 1 ∨ k = 2 by omega) with rfl | rfl | rfl <;> exact ⟨rfl, rfl, rfl⟩
theorem RM_cy (M : Nat → Nat → Int32) {N : Nat → Nat → Int32} {m : Nat → Int32} (h : RM N m) : RM (gt_copy M N) m := by
  obtain ⟨a, b, c, d⟩ := h
  refine ⟨fun k hk => by rw [cy_0 M N (by omega)]; exact a k hk, by rw [cy_0 M N (by omega)]; exact b, fun k hk => ?_, by rw [cy_0 M N (by omega)]; exact d⟩
  obtain ⟨k1, k2, k3⟩ := cy_k M N k hk
  rw [k1, k2, k3, cy_0 M N (by omega)]
  exact c k hk
