/-! level 2: the class's replay -/
theorem RM_rows {M N : Nat → Nat → Int32} {m : Nat → Int32} (h : RM M m) (e0 : N 0 = M 0) (e1 : N 1 = M 1) (e2 : N 2 = M 2) (e3 : N 3 = M 3) : RM N m := by
  unfold RM at *
  rw [e0, e1, e2, e3]
  exact h
theorem mp_0 (r : Nat) (i v : Int32) (M : Nat → Nat → Int32) (hr : r = 1 ∨ r = 2 ∨ r = 3) : gt_mput r i v M 0 = M 0 := by
  unfold gt_mput
  rcases hr with rfl | rfl | rfl <;> rfl
/-- an act lets the time and the count of runs be -/
theorem pM_oth (M : Nat → Nat → Int32) (w a b c d : Int32) {i : Nat} (hi : i = 7 ∨ i = 8) : perfM M w a b c d 0 i = M 0 i := by
  have u : ∀ (X : Nat → Nat → Int32) (k : Nat) (v : Int32), k ≠ 7 → k ≠ 8 → sF X 0 k v 0 i = X 0 i := fun X k v h7 h8 => by rw [sF_eq, upd_ne _ _ _ (bne (by omega))]
  unfold perfM
  split
  · exact u _ _ _ (by omega) (by omega)
  split
  · exact u _ _ _ (by omega) (by omega)
  split
  · rw [u _ _ _ (by omega) (by omega), u _ _ _ (by omega) (by omega)]
  split
  · exact u _ _ _ (by omega) (by omega)
  split
  · unfold gt_setKeyer
    rw [mp_0 _ _ _ _ (by omega), mp_0 _ _ _ _ (by omega), mp_0 _ _ _ _ (by omega)]
  split
  · unfold gt_switch
    exact u _ _ _ (by omega) (by omega)
  split
  · exact gc_oth M hi
  split
  · exact u _ _ _ (by omega) (by omega)
  split
  · unfold gt_setPos
    split
    · rw [gc_oth _ hi]; exact u _ _ _ (by omega) (by omega)
    · exact u _ _ _ (by omega) (by omega)
  split
  · unfold gt_setFault
    exact u _ _ _ (by omega) (by omega)
  · rfl
/-- a Log has the acts of E -/
def LE (L : Nat → Nat → Int32) (E : Nat → Int32) (N : Nat) : Prop := L 0 0 = nI N ∧ ∀ i, i < 6 * N → L 1 i = E i
theorem lg_k {L : Nat → Nat → Int32} {E : Nat → Int32} {N : Nat} (h : LE L E N) (hN : N ≤ 100) {i : Nat} (hi : i < N) {f : Nat} (hf : f < 6) {fi : Int32} (he : fi = nI f) : lgT L (nI i) fi = E (6 * i + f) := by
  subst he
  unfold lgT
  rw [show (6 : Int32) = nI 6 from rfl, nI_muln, nI_add, cellF_k _ (by omega) (by decide), h.2 _ (by omega), Nat.mul_comm]
theorem lg_0 {L : Nat → Nat → Int32} {E : Nat → Int32} {N : Nat} (h : LE L E N) (hN : N ≤ 100) {i : Nat} (hi : i < N) : lgT L (nI i) 0 = E (6 * i) := lg_k h hN hi (f := 0) (by omega) rfl
/-- the Replay R is at the time s, after the acts below j -/
def RG (E : Nat → Int32) (wo : Int32) (R : Nat → Nat → Int32) (j s : Nat) : Prop := RM R (uA E wo j s).1 ∧ R 0 7 = nI s ∧ R 0 8 = (uA E wo j s).2 ∧ R 4 0 = nI j
theorem RG_lp {E : Nat → Int32} {N : Nat} {τ : Nat → Nat} {T : Nat} (H : LV E N τ T) (hT : T < 2 ^ 30) {wo : Int32} {R : Nat → Nat → Int32} {j s t : Nat} (h : RG E wo R j s) (hj : j ≤ N) (hs : (uS E wo j).1 ≤ s) (hst : s ≤ t) (ht : t ≤ 5000) : RG E wo (gm (gt_letPass (nI t - R 0 7) R) R) j t := by
  obtain ⟨a, b, c, d⟩ := h
  have o := uA_ok H wo hj s
  rw [b, nI_sub hst (by omega)]
  have ea := uA_add (E := E) (wo := wo) (s := s) hs (t - s)
  rw [show s + (t - s) = t by omega] at ea
  obtain ⟨x, y, z⟩ := lp_eq a o (n := t - s) (by omega) c
  refine ⟨?_, ?_, ?_, ?_⟩
  · rw [ea]
    exact RM_rows x rfl rfl rfl rfl
  · show gt_letPass (nI (t - s)) R 0 7 = nI t
    rw [z, b, nI_add]; congr 1; omega
  · show gt_letPass (nI (t - s)) R 0 8 = _
    rw [y, ea]
  · exact d
theorem RG_B {L : Nat → Nat → Int32} {E : Nat → Int32} {N : Nat} {τ : Nat → Nat} {T : Nat} (H : LV E N τ T) (hT : T ≤ 5000) (hL : LE L E N) (hN : N ≤ 100) {wo : Int32} {R : Nat → Nat → Int32} {j s : Nat} (h : RG E wo R j s) (hj : j < N) (hs : (uS E wo j).1 ≤ s) (hst : s ≤ τ j) : RG E wo (goB L wo R) (j + 1) (if nI j = wo then s else τ j) ∧ (uS E wo (j + 1)).1 ≤ (if nI j = wo then s else τ j) := by
  have e4 : R 4 0 = nI j := h.2.2.2
  have hup : ∀ X : Nat → Nat → Int32, ∀ q : Nat, X 4 0 = nI j → RM X (uA E wo (j + 1) q).1 → X 0 7 = nI q → X 0 8 = (uA E wo (j + 1) q).2 → RG E wo (gt_up X) (j + 1) q := fun X q x4 a b c => by
    refine ⟨RM_rows a rfl rfl rfl rfl, b, c, ?_⟩
    show X 4 0 + 1 = _
    rw [x4, nI_1]
  refine ⟨?_, by
    rw [uS_s]
    by_cases w : nI j = wo
    · rw [if_pos w, if_pos w]; exact hs
    · rw [if_neg w, if_neg w]
      show cl (E (6 * j)) ≤ τ j
      rw [(H.1 j hj).1, cl_k (by have := (H.1 j hj).2.1; omega)]
      exact Nat.le_refl _⟩
  unfold goB
  rw [e4]
  by_cases w : nI j = wo
  · rw [if_pos w, if_pos w]
    refine hup R s e4 ?_ h.2.1 ?_
    · rw [uA_wo E w]; exact h.1
    · rw [uA_wo E w]; exact h.2.2.1
  · rw [if_neg w, if_neg w]
    obtain ⟨eτ, hτ, wk, ew, ha⟩ := H.1 j hj
    have e0 : lgT L (R 4 0) 0 = nI (τ j) := by rw [e4, lg_0 hL hN hj]; exact eτ
    have x := RG_lp H (by omega) h (by omega) hs hst (by omega)
    have es : gt_st1 L R = gm (gt_letPass (nI (τ j) - R 0 7) R) R := by unfold gt_st1; rw [e0]
    rw [es]
    generalize gm (gt_letPass (nI (τ j) - R 0 7) R) R = X at x
    obtain ⟨x1, x2, x3, x4⟩ := x
    have o := uA_ok H wo (by omega : j ≤ N) (τ j)
    have eu : uA E wo (j + 1) (τ j) = (ac E j (uA E wo j (τ j)).1, (uA E wo j (τ j)).2) := by rw [uA_s H (by omega) hj w, Nat.sub_self]; rfl
    have er : gt_st2 L X = gm (if possF X (nI wk) = 0 then X else perfM X (nI wk) (E (6 * j + 2)) (E (6 * j + 3)) (E (6 * j + 4)) (E (6 * j + 5))) X := by
      unfold gt_st2 gt_redo
      rw [x4, lg_k hL hN hj (f := 1) (by omega) (fi := 1) rfl, lg_k hL hN hj (f := 2) (by omega) (fi := 2) rfl, lg_k hL hN hj (f := 3) (by omega) (fi := 3) rfl, lg_k hL hN hj (f := 4) (by omega) (fi := 4) rfl, lg_k hL hN hj (f := 5) (by omega) (fi := 5) rfl, ew]
    rw [er, ps_eq x1 o]
    have ea : ac E j (uA E wo j (τ j)).1 = mr_ds (uA E wo j (τ j)).1 (nI wk) (E (6 * j + 2)) (E (6 * j + 3)) (E (6 * j + 4)) (E (6 * j + 5)) := by unfold ac; rw [ew]
    by_cases p : mv_ps (uA E wo j (τ j)).1 (nI wk) = 0
    · rw [if_pos p]
      refine hup _ _ x4 ?_ x2 ?_
      · rw [eu]
        show RM _ (ac E j _)
        rw [ea, ds_no _ _ _ _ p]
        exact RM_rows x1 rfl rfl rfl rfl
      · rw [eu]; exact x3
    · rw [if_neg p]
      refine hup _ _ x4 ?_ ?_ ?_
      · rw [eu]
        show RM _ (ac E j _)
        rw [ea]
        exact RM_rows (RM_ds x1 o ha p).1 rfl rfl rfl rfl
      · show perfM X _ _ _ _ _ 0 7 = _
        rw [pM_oth _ _ _ _ _ _ (Or.inl rfl)]; exact x2
      · show perfM X _ _ _ _ _ 0 8 = _
        rw [pM_oth _ _ _ _ _ _ (Or.inr rfl), eu]; exact x3
/-- the Replay R is at the time t -/
def RT (E : Nat → Int32) (N : Nat) (τ : Nat → Nat) (wo : Int32) (R : Nat → Nat → Int32) (t : Nat) : Prop := ∃ j, RG E wo R j t ∧ cnt N τ t j
/-- or it may go on from s -/
def RF (E : Nat → Int32) (N : Nat) (τ : Nat → Nat) (wo : Int32) (R : Nat → Nat → Int32) (s : Nat) : Prop := ∃ j, RG E wo R j s ∧ j ≤ N ∧ (uS E wo j).1 ≤ s ∧ (∀ i, i < j → τ i ≤ s) ∧ ∀ i, j ≤ i → i < N → s ≤ τ i
theorem RT_RF {E : Nat → Int32} {N : Nat} {τ : Nat → Nat} {T : Nat} (H : LV E N τ T) (hT : T ≤ 5000) {wo : Int32} {R : Nat → Nat → Int32} {t : Nat} (h : RT E N τ wo R t) : RF E N τ wo R t := by
  obtain ⟨j, a, b⟩ := h
  exact ⟨j, a, b.1, uS_t H (by omega) wo j b.1 b.2.1, b.2.1, fun i h1 h2 => Nat.le_of_lt (b.2.2 i h1 h2)⟩
theorem RF_bg (E : Nat → Int32) (N : Nat) (τ : Nat → Nat) (wo : Int32) (R : Nat → Nat → Int32) : RF E N τ wo (gt_begin R) 0 := by
  refine ⟨0, ⟨?_, ?_, ?_, rfl⟩, by omega, Nat.zero_le _, fun i hi => absurd hi (by omega), fun i _ _ => Nat.zero_le _⟩
  · exact RM_rows (RM_bg R (fun _ => 0)) rfl rfl rfl rfl
  · show gt_reset R 0 7 = 0
    rw [rs_0]; rfl
  · show gt_reset R 0 8 = 0
    rw [rs_0]; rfl
theorem go_lw {L : Nat → Nat → Int32} {E : Nat → Int32} {N : Nat} {τ : Nat → Nat} {T : Nat} (H : LV E N τ T) (hT : T ≤ 5000) (hL : LE L E N) (hN : N ≤ 100) {wo : Int32} {t : Nat} (ht : t ≤ 5000) : ∀ (f : Nat) (R : Nat → Nat → Int32) (j s : Nat), RG E wo R j s → j ≤ N → N < j + f → s ≤ t → (uS E wo j).1 ≤ s → (∀ i, i < j → τ i ≤ t) → (∀ i, j ≤ i → i < N → s ≤ τ i) → ∃ k q, RG E wo (lw (goC L (nI t)) (goB L wo) f R) k q ∧ q ≤ t ∧ (uS E wo k).1 ≤ q ∧ cnt N τ t k
  | 0, R, j, s, _, h1, h2, _, _, _, _ => by omega
  | f + 1, R, j, s, h, h1, h2, h3, h0, h4, h5 => by
    have e4 : R 4 0 = nI j := h.2.2.2
    by_cases c : j < N ∧ τ j ≤ t
    · have hc : goC L (nI t) R = true := by
        unfold goC
        rw [e4, hL.1, if_neg (nI_ge c.1 (by omega)), lg_0 hL hN c.1, (H.1 j c.1).1, if_neg (fun z => by have := (nI_lt_iff (by omega) (by omega)).mp z; omega)]
      rw [lw_t hc]
      obtain ⟨q, q2⟩ := RG_B H hT hL hN h c.1 h0 (h5 j (by omega) c.1)
      refine go_lw H hT hL hN ht f _ (j + 1) _ q (by omega) (by omega) ?_ q2 (fun i hi => ?_) (fun i hi hiN => ?_)
      · split
        · exact h3
        · exact c.2
      · have hm := H.2 i j (by omega) c.1
        omega
      · have hm := H.2 j i (by omega) hiN
        have h6 := h5 j (by omega) c.1
        split
        · omega
        · exact hm
    · have hc : goC L (nI t) R = false := by
        unfold goC
        rw [e4, hL.1]
        by_cases z : j < N
        · have e := (H.1 j z).1
          have e2 := (H.1 j z).2.1
          rw [if_neg (nI_ge z (by omega)), lg_0 hL hN z, e, if_pos (nI_lt (by omega) (by omega))]
        · rw [if_pos (nI_le (by omega) (by omega))]
      rw [lw_f hc]
      refine ⟨j, s, h, h3, h0, h1, h4, fun i hi hiN => ?_⟩
      have hjN : j < N := by omega
      have := H.2 j i hi hiN
      omega
theorem go_eq {L : Nat → Nat → Int32} {E : Nat → Int32} {N : Nat} {τ : Nat → Nat} {T : Nat} (H : LV E N τ T) (hT : T ≤ 5000) (hL : LE L E N) (hN : N ≤ 100) {wo : Int32} {R : Nat → Nat → Int32} {s t : Nat} (h : RF E N τ wo R s) (hst : s ≤ t) (ht : t ≤ 5000) : RT E N τ wo (gt_goTo L (nI t) wo R) t := by
  obtain ⟨j, a, b, b2, c, d⟩ := h
  obtain ⟨k, q, x, y, z, u⟩ := go_lw H hT hL hN (wo := wo) ht 101 R j s a b (by omega) hst b2 (fun i hi => by have := c i hi; omega) d
  unfold gt_goTo gt_goE
  exact ⟨k, RG_lp H (by omega) x u.1 z y ht, u⟩
theorem RT_rp {E : Nat → Int32} {N : Nat} {τ : Nat → Nat} {T : Nat} (H : LV E N τ T) (hT : T ≤ 5000) (hN : N ≤ 100) {wo : Int32} {R : Nat → Nat → Int32} {t : Nat} (h : RT E N τ wo R t) (ht : t ≤ 5000) : RM R (rp E N wo t).1 ∧ R 0 7 = nI t ∧ R 0 8 = (rp E N wo t).2.1 ∧ R 4 0 = nI (rp E N wo t).2.2 := by
  obtain ⟨j, a, b⟩ := h
  rw [rp_c H (by omega) hN wo (by omega) b]
  exact a
