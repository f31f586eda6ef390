/-! level 2: the mixer -/
theorem fx_cp : ∀ e, e < 16 → ∀ b, b < 8 → ∀ k, k < 3 → bt (nI b ^^^ (nI e >>> ((1 : Int32) &&& 31))) k = (if el (nI e) k = 0 then bt (nI b) k else 1 - bt (nI b) k) := by decide +kernel
theorem fx_cb : ∀ e, e < 16 → ∀ b, b < 8 → ∃ c, c < 8 ∧ nI b ^^^ (nI e >>> ((1 : Int32) &&& 31)) = nI c := by decide +kernel
theorem fx_sw : ∀ b, b < 8 → ∀ a, a < 3 → ∀ k, k < 3 → bt (nI b ^^^ ((1 : Int32) <<< (nI a &&& 31))) k = (if k = a then 1 - bt (nI b) k else bt (nI b) k) := by decide +kernel
theorem fx_sb : ∀ b, b < 8 → ∀ a, a < 3 → ∃ c, c < 8 ∧ nI b ^^^ ((1 : Int32) <<< (nI a &&& 31)) = nI c := by decide +kernel
theorem sw_ne (m : Nat → Int32) {k : Nat} (h0 : k ≠ 0) (h1 : k ≠ 1) : mr_sw m k = m k := by
  unfold mr_sw
  split
  · rfl
  · rw [upd_ne _ _ _ (bne h1), upd_ne _ _ _ (bne h0)]
theorem sw_0 (m : Nat → Int32) : mr_sw m 0 = if m 4 &&& 1 = 0 then m 0 else m 1 := by
  unfold mr_sw; rw [mv_el_0]; split <;> rfl
theorem sw_1 (m : Nat → Int32) : mr_sw m 1 = if m 4 &&& 1 = 0 then m 1 else m 0 := by
  unfold mr_sw; rw [mv_el_0]; split <;> rfl
theorem cs_ne (i : Nat) (m : Nat → Int32) {k : Nat} (h : k ≠ 7 + 4 * i + 3) : mr_cs i m k = m k := upd_ne _ _ _ (bne h)
theorem cs_eq (i : Nat) (m : Nat → Int32) : mr_cs i m (7 + 4 * i + 3) = if el (m 4) i = 0 then m (7 + 4 * i + 3) else 1 - m (7 + 4 * i + 3) := by
  unfold mr_cs
  rw [upd_eq, mv_el_el]
theorem cp_lo (m : Nat → Int32) {k : Nat} (h5 : k ≠ 5) (h6 : k ≠ 6) (h : ∀ i, i < 3 → k ≠ 7 + 4 * i + 3) : mr_cp m k = mr_sw m k := by
  rw [cp_3s, upd_ne _ _ _ (bne h6), upd_ne _ _ _ (bne h5), cs_ne _ _ (h 2 (by omega)), cs_ne _ _ (h 1 (by omega)), cs_ne _ _ (h 0 (by omega))]
theorem cp_on (m : Nat → Int32) {i : Nat} (hi : i < 3) : mr_cp m (7 + 4 * i + 3) = if el (m 4) i = 0 then m (7 + 4 * i + 3) else 1 - m (7 + 4 * i + 3) := by
  have e4 : mr_sw m 4 = m 4 := sw_ne m (by omega) (by omega)
  rw [cp_3s, upd_ne _ _ _ (bne (by omega)), upd_ne _ _ _ (bne (by omega))]
  rcases (show i = 0 ∨ i = 1 ∨ i = 2 by omega) with rfl | rfl | rfl
  · rw [cs_ne _ _ (by omega), cs_ne _ _ (by omega), cs_eq, e4, sw_ne m (by omega) (by omega)]
  · rw [cs_ne _ _ (by omega), cs_eq, cs_ne _ _ (by omega), e4, cs_ne _ _ (by omega), sw_ne m (by omega) (by omega)]
  · rw [cs_eq, cs_ne _ _ (by omega), cs_ne _ _ (by omega), e4, cs_ne _ _ (by omega), cs_ne _ _ (by omega), sw_ne m (by omega) (by omega)]
theorem cp_5 (m : Nat → Int32) : mr_cp m 5 = 0 := rfl
theorem cp_6 (m : Nat → Int32) : mr_cp m 6 = -1 := rfl
theorem RM_set {M : Nat → Nat → Int32} {m : Nat → Int32} (h : RM M m) {i : Nat} (hi : i < 7) (v : Int32) : RM (sF M 0 i v) (upd m i v) := by
  obtain ⟨a, b, c, d⟩ := h
  refine ⟨fun k hk => ?_, ?_, fun k hk => ?_, ?_⟩
  · rw [sF_eq, upd_at, upd_at, a k hk]
  · rw [sF_eq, upd_ne _ _ _ (bne (by omega)), upd_ne _ _ _ (bne (by omega))]; exact b
  · rw [sF_ne _ _ _ _ rfl, sF_ne _ _ _ _ rfl, sF_ne _ _ _ _ rfl, sF_eq, upd_ne _ _ _ (bne (by omega)), upd_ne _ _ _ (bne (by omega)), upd_ne _ _ _ (bne (by omega)), upd_ne _ _ _ (bne (by omega)), upd_ne _ _ _ (bne (by omega))]
    exact c k hk
  · rw [sF_eq, upd_ne _ _ _ (bne (by omega))]; exact d
/-- fields of a Mix that the row has not -/
theorem RM_oth {M : Nat → Nat → Int32} {m : Nat → Int32} (h : RM M m) {i : Nat} (hi : i = 7 ∨ i = 8) (v : Int32) : RM (sF M 0 i v) m := by
  obtain ⟨a, b, c, d⟩ := h
  refine ⟨fun k hk => ?_, ?_, fun k hk => ?_, ?_⟩
  · rw [sF_eq, upd_ne _ _ _ (bne (by omega))]; exact a k hk
  · rw [sF_eq, upd_ne _ _ _ (bne (by omega))]; exact b
  · rw [sF_ne _ _ _ _ rfl, sF_ne _ _ _ _ rfl, sF_ne _ _ _ _ rfl, sF_eq, upd_ne _ _ _ (bne (by omega))]; exact c k hk
  · rw [sF_eq, upd_ne _ _ _ (bne (by omega))]; exact d
theorem RM_eq {M : Nat → Nat → Int32} {m n : Nat → Int32} (h : RM M m) (e : eq_n 20 m n) : RM M n := by
  obtain ⟨a, b, c, d⟩ := h
  refine ⟨fun k hk => (a k hk).trans (e k (by omega)), b.trans (e 19 (by omega)), fun k hk => ?_, d⟩
  obtain ⟨c1, c2, c3, c4⟩ := c k hk
  exact ⟨c1.trans (e _ (by omega)), c2.trans (e _ (by omega)), c3.trans (e _ (by omega)), c4.trans (e _ (by omega))⟩
theorem mOk_eq {m n : Nat → Int32} (h : mOk m) (e : eq_n 20 m n) : mOk n := by
  unfold mOk at *
  rw [← e 0 (by omega), ← e 1 (by omega), ← e 2 (by omega), ← e 3 (by omega), ← e 4 (by omega), ← e 5 (by omega), ← e 6 (by omega), ← e 19 (by omega)]
  refine ⟨h.1, h.2.1, h.2.2.1, h.2.2.2.1, h.2.2.2.2.1, h.2.2.2.2.2.1, h.2.2.2.2.2.2.1, fun k hk => ?_, h.2.2.2.2.2.2.2.2⟩
  rw [← e (7 + 4 * k) (by omega), ← e (7 + 4 * k + 1) (by omega), ← e (7 + 4 * k + 2) (by omega), ← e (7 + 4 * k + 3) (by omega)]
  exact h.2.2.2.2.2.2.2.1 k hk
theorem RM_cp {M : Nat → Nat → Int32} {m : Nat → Int32} (h : RM M m) (o : mOk m) : RM (gt_complete M) (mr_cp m) := by
  obtain ⟨e, -, he, e4⟩ := o.2.2.2.2.1
  have h4 : M 0 4 = nI e := (h.1 4 (by omega)).trans e4
  -- the background
  have hX : ∃ X : Nat → Nat → Int32, gt_complete M = gt_cp2 X ∧ X 0 0 = mr_sw m 0 ∧ X 0 1 = mr_sw m 1 ∧ (∀ k, 2 ≤ k → X 0 k = M 0 k) ∧ X 1 = M 1 ∧ X 2 = M 2 ∧ X 3 = M 3 := by
    unfold gt_complete
    rw [mbF_0, sw_0, sw_1, ← h.1 4 (by omega), ← h.1 0 (by omega), ← h.1 1 (by omega)]
    by_cases c : M 0 4 &&& 1 = 0
    · rw [if_pos c, if_pos c, if_pos c]
      exact ⟨M, rfl, rfl, rfl, fun _ _ => rfl, rfl, rfl, rfl⟩
    · rw [if_neg c, if_neg c, if_neg c]
      refine ⟨gt_cp3 M, rfl, rfl, rfl, fun k hk => ?_, rfl, rfl, rfl⟩
      unfold gt_cp3
      rw [sF_eq, upd_ne _ _ _ (bne (by omega)), sF_eq, upd_ne _ _ _ (bne (by omega))]
  obtain ⟨X, eX, x0, x1, x2, x3, x4, x5⟩ := hX
  rw [eX]
  have r0 : ∀ k, k ≠ 10 → k ≠ 5 → k ≠ 6 → gt_cp2 X 0 k = X 0 k := fun k a b c => by
    unfold gt_cp2
    rw [sF_eq, upd_ne _ _ _ (bne c), sF_eq, upd_ne _ _ _ (bne b), sF_eq, upd_ne _ _ _ (bne a)]
  have r10 : gt_cp2 X 0 10 = M 0 10 ^^^ (M 0 4 >>> ((1 : Int32) &&& 31)) := by
    show X 0 10 ^^^ (X 0 4 >>> ((1 : Int32) &&& 31)) = _
    rw [x2 10 (by omega), x2 4 (by omega)]
  obtain ⟨a, b, c, bb, hb, eb⟩ := h
  refine ⟨fun k hk => ?_, ?_, fun k hk => ?_, ?_⟩
  · rcases (show k = 0 ∨ k = 1 ∨ k = 2 ∨ k = 3 ∨ k = 4 ∨ k = 5 ∨ k = 6 by omega) with rfl | rfl | rfl | rfl | rfl | rfl | rfl
    · rw [r0 0 (by omega) (by omega) (by omega), x0, cp_lo m (by omega) (by omega) (fun i hi => by omega)]
    · rw [r0 1 (by omega) (by omega) (by omega), x1, cp_lo m (by omega) (by omega) (fun i hi => by omega)]
    · rw [r0 2 (by omega) (by omega) (by omega), x2 2 (by omega), cp_lo m (by omega) (by omega) (fun i hi => by omega), sw_ne m (by omega) (by omega)]; exact a 2 (by omega)
    · rw [r0 3 (by omega) (by omega) (by omega), x2 3 (by omega), cp_lo m (by omega) (by omega) (fun i hi => by omega), sw_ne m (by omega) (by omega)]; exact a 3 (by omega)
    · rw [r0 4 (by omega) (by omega) (by omega), x2 4 (by omega), cp_lo m (by omega) (by omega) (fun i hi => by omega), sw_ne m (by omega) (by omega)]; exact a 4 (by omega)
    · rw [cp_5]; rfl
    · rw [cp_6]; rfl
  · rw [r0 9 (by omega) (by omega) (by omega), x2 9 (by omega), cp_lo m (by omega) (by omega) (fun i hi => by omega), sw_ne m (by omega) (by omega)]; exact b
  · obtain ⟨c1, c2, c3, c4⟩ := c k hk
    rw [r10, cp_lo m (k := 7 + 4 * k) (by omega) (by omega) (fun i hi => by omega), sw_ne m (k := 7 + 4 * k) (by omega) (by omega), cp_lo m (k := 7 + 4 * k + 1) (by omega) (by omega) (fun i hi => by omega), sw_ne m (k := 7 + 4 * k + 1) (by omega) (by omega), cp_lo m (k := 7 + 4 * k + 2) (by omega) (by omega) (fun i hi => by omega), sw_ne m (k := 7 + 4 * k + 2) (by omega) (by omega), cp_on m hk, e4, ← c4, eb, h4, fx_cp e (by omega) bb hb k hk]
    exact ⟨by rw [← c1, ← x3]; rfl, by rw [← c2, ← x4]; rfl, by rw [← c3, ← x5]; rfl, rfl⟩
  · rw [r10, eb, h4]
    exact fx_cb e (by omega) bb hb
theorem rg_w {x : Int32} {a b c d : Nat} (h : rg x a b) (h1 : c ≤ a) (h2 : b ≤ d) : rg x c d := by
  obtain ⟨k, p, q, e⟩ := h
  exact ⟨k, by omega, by omega, e⟩
theorem rg_01 {x : Int32} (h : rg x 0 1) : x = 0 ∨ x = 1 := by
  obtain ⟨k, -, hk, rfl⟩ := h
  rcases (show k = 0 ∨ k = 1 by omega) with rfl | rfl
  · exact Or.inl rfl
  · exact Or.inr rfl
theorem rg_1m {x : Int32} (h : rg x 0 1) : rg (1 - x) 0 1 := by
  rcases rg_01 h with rfl | rfl
  · exact ⟨1, by omega, by omega, by decide⟩
  · exact ⟨0, by omega, by omega, by decide⟩
theorem mOk_cp {m : Nat → Int32} (o : mOk m) : mOk (mr_cp m) := by
  obtain ⟨o0, o1, o2, o3, o4, o5, o6, ok, of⟩ := o
  have l : ∀ k, k ≠ 0 → k ≠ 1 → k ≠ 5 → k ≠ 6 → (∀ i, i < 3 → k ≠ 7 + 4 * i + 3) → mr_cp m k = m k := fun k a b c d e => by rw [cp_lo m c d e, sw_ne m a b]
  unfold mOk
  rw [l 2 (by omega) (by omega) (by omega) (by omega) (fun i hi => by omega), l 3 (by omega) (by omega) (by omega) (by omega) (fun i hi => by omega), l 4 (by omega) (by omega) (by omega) (by omega) (fun i hi => by omega), l 19 (by omega) (by omega) (by omega) (by omega) (fun i hi => by omega), cp_5, cp_6, cp_lo m (k := 0) (by omega) (by omega) (fun i hi => by omega), cp_lo m (k := 1) (by omega) (by omega) (fun i hi => by omega), sw_0, sw_1]
  refine ⟨?_, ?_, o2, o3, o4, ⟨0, by omega, by omega, rfl⟩, Or.inl rfl, fun k hk => ?_, of⟩
  · split <;> assumption
  · split <;> assumption
  · obtain ⟨k1, k2, k3, k4⟩ := ok k hk
    rw [l (7 + 4 * k) (by omega) (by omega) (by omega) (by omega) (fun i hi => by omega), l (7 + 4 * k + 1) (by omega) (by omega) (by omega) (by omega) (fun i hi => by omega), l (7 + 4 * k + 2) (by omega) (by omega) (by omega) (by omega) (fun i hi => by omega), cp_on m hk]
    refine ⟨k1, k2, k3, ?_⟩
    split
    · exact k4
    · exact rg_1m k4
