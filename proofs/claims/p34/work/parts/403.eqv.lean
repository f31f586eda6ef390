/-! the second mixer's rows are the first one's, the sources called by other numbers -/
def MS (m n : Nat → Int32) : Prop := n 0 = otF (m 0) ∧ n 1 = otF (m 1) ∧ (∀ k, 2 ≤ k → k < 7 → n k = m k) ∧ (∀ j, j < 3 → n (7 + 4 * j) = otF (m (7 + 4 * j)) ∧ n (7 + 4 * j + 1) = m (7 + 4 * j + 1) ∧ n (7 + 4 * j + 2) = m (7 + 4 * j + 2) ∧ n (7 + 4 * j + 3) = m (7 + 4 * j + 3)) ∧ ∀ k, k < 10 → bt (n 19) (sg k) = bt (m 19) k
theorem ms_c {m n m' n' : Nat → Int32} (h : MS m n) (e : eq_n 20 m m') (f : eq_n 20 n n') : MS m' n' := by
  obtain ⟨h0, h1, h2, h3, h4⟩ := h
  refine ⟨?_, ?_, fun k a b => ?_, fun j hj => ⟨?_, ?_, ?_, ?_⟩, fun k hk => ?_⟩
  · rw [← f 0 (by omega), ← e 0 (by omega)]; exact h0
  · rw [← f 1 (by omega), ← e 1 (by omega)]; exact h1
  · rw [← f k (by omega), ← e k (by omega)]; exact h2 k a b
  · rw [← f _ (by omega), ← e _ (by omega)]; exact (h3 j hj).1
  · rw [← f _ (by omega), ← e _ (by omega)]; exact (h3 j hj).2.1
  · rw [← f _ (by omega), ← e _ (by omega)]; exact (h3 j hj).2.2.1
  · rw [← f _ (by omega), ← e _ (by omega)]; exact (h3 j hj).2.2.2
  · rw [← f 19 (by omega), ← e 19 (by omega)]; exact h4 k hk
theorem ms_0 {m n : Nat → Int32} (h : MS m n) (a : Int32) : MS (upd m 0 a) (upd n 0 (otF a)) := by
  obtain ⟨h0, h1, h2, h3, h4⟩ := h
  refine ⟨?_, ?_, fun k a b => ?_, fun j hj => ⟨?_, ?_, ?_, ?_⟩, fun k hk => ?_⟩
  · rw [upd_eq, upd_eq]
  · rw [upd_ne _ _ _ (bne (by omega)), upd_ne _ _ _ (bne (by omega))]; exact h1
  · rw [upd_ne _ _ _ (bne (by omega)), upd_ne _ _ _ (bne (by omega))]; exact h2 k a b
  · rw [upd_ne _ _ _ (bne (by omega)), upd_ne _ _ _ (bne (by omega))]; exact (h3 j hj).1
  · rw [upd_ne _ _ _ (bne (by omega)), upd_ne _ _ _ (bne (by omega))]; exact (h3 j hj).2.1
  · rw [upd_ne _ _ _ (bne (by omega)), upd_ne _ _ _ (bne (by omega))]; exact (h3 j hj).2.2.1
  · rw [upd_ne _ _ _ (bne (by omega)), upd_ne _ _ _ (bne (by omega))]; exact (h3 j hj).2.2.2
  · rw [upd_ne _ _ _ (bne (by omega)), upd_ne _ _ _ (bne (by omega))]; exact h4 k hk
theorem ms_1 {m n : Nat → Int32} (h : MS m n) (a : Int32) : MS (upd m 1 a) (upd n 1 (otF a)) := by
  obtain ⟨h0, h1, h2, h3, h4⟩ := h
  refine ⟨?_, ?_, fun k a b => ?_, fun j hj => ⟨?_, ?_, ?_, ?_⟩, fun k hk => ?_⟩
  · rw [upd_ne _ _ _ (bne (by omega)), upd_ne _ _ _ (bne (by omega))]; exact h0
  · rw [upd_eq, upd_eq]
  · rw [upd_ne _ _ _ (bne (by omega)), upd_ne _ _ _ (bne (by omega))]; exact h2 k a b
  · rw [upd_ne _ _ _ (bne (by omega)), upd_ne _ _ _ (bne (by omega))]; exact (h3 j hj).1
  · rw [upd_ne _ _ _ (bne (by omega)), upd_ne _ _ _ (bne (by omega))]; exact (h3 j hj).2.1
  · rw [upd_ne _ _ _ (bne (by omega)), upd_ne _ _ _ (bne (by omega))]; exact (h3 j hj).2.2.1
  · rw [upd_ne _ _ _ (bne (by omega)), upd_ne _ _ _ (bne (by omega))]; exact (h3 j hj).2.2.2
  · rw [upd_ne _ _ _ (bne (by omega)), upd_ne _ _ _ (bne (by omega))]; exact h4 k hk
theorem ms_k {m n : Nat → Int32} (h : MS m n) {i : Nat} (hi : 2 ≤ i) (hi7 : i < 7) (a : Int32) : MS (upd m i a) (upd n i a) := by
  obtain ⟨h0, h1, h2, h3, h4⟩ := h
  refine ⟨?_, ?_, fun k a b => ?_, fun j hj => ⟨?_, ?_, ?_, ?_⟩, fun k hk => ?_⟩
  · rw [upd_ne _ _ _ (bne (by omega)), upd_ne _ _ _ (bne (by omega))]; exact h0
  · rw [upd_ne _ _ _ (bne (by omega)), upd_ne _ _ _ (bne (by omega))]; exact h1
  · rw [upd_at, upd_at]; split
    · rfl
    · exact h2 k a b
  · rw [upd_ne _ _ _ (bne (by omega)), upd_ne _ _ _ (bne (by omega))]; exact (h3 j hj).1
  · rw [upd_ne _ _ _ (bne (by omega)), upd_ne _ _ _ (bne (by omega))]; exact (h3 j hj).2.1
  · rw [upd_ne _ _ _ (bne (by omega)), upd_ne _ _ _ (bne (by omega))]; exact (h3 j hj).2.2.1
  · rw [upd_ne _ _ _ (bne (by omega)), upd_ne _ _ _ (bne (by omega))]; exact (h3 j hj).2.2.2
  · rw [upd_ne _ _ _ (bne (by omega)), upd_ne _ _ _ (bne (by omega))]; exact h4 k hk
theorem ms_cp {m n : Nat → Int32} (h : MS m n) : MS (mr_cp m) (mr_cp n) := by
  obtain ⟨h0, h1, h2, h3, h4⟩ := h
  have e4 : n 4 = m 4 := h2 4 (by omega) (by omega)
  have lo : ∀ (m : Nat → Int32) {k : Nat}, k ≠ 5 → k ≠ 6 → (∀ i, i < 3 → k ≠ 7 + 4 * i + 3) → k ≠ 0 → k ≠ 1 → mr_cp m k = m k := fun m k a b c d e => (cp_lo m a b c).trans (sw_ne m d e)
  refine ⟨?_, ?_, fun k a b => ?_, fun j hj => ⟨?_, ?_, ?_, ?_⟩, fun k hk => ?_⟩
  · rw [cp_lo n (by omega) (by omega) (by omega), cp_lo m (by omega) (by omega) (by omega), sw_0, sw_0, e4]
    split
    · exact h0
    · exact h1
  · rw [cp_lo n (by omega) (by omega) (by omega), cp_lo m (by omega) (by omega) (by omega), sw_1, sw_1, e4]
    split
    · exact h1
    · exact h0
  · rcases (show k = 5 ∨ k = 6 ∨ (k ≠ 5 ∧ k ≠ 6) by omega) with rfl | rfl | ⟨u, v⟩
    · rw [cp_5, cp_5]
    · rw [cp_6, cp_6]
    · rw [lo n u v (by omega) (by omega) (by omega), lo m u v (by omega) (by omega) (by omega)]; exact h2 k a b
  · rw [lo n (by omega) (by omega) (by omega) (by omega) (by omega), lo m (by omega) (by omega) (by omega) (by omega) (by omega)]; exact (h3 j hj).1
  · rw [lo n (by omega) (by omega) (by omega) (by omega) (by omega), lo m (by omega) (by omega) (by omega) (by omega) (by omega)]; exact (h3 j hj).2.1
  · rw [lo n (by omega) (by omega) (by omega) (by omega) (by omega), lo m (by omega) (by omega) (by omega) (by omega) (by omega)]; exact (h3 j hj).2.2.1
  · rw [cp_on n hj, cp_on m hj, e4, (h3 j hj).2.2.2]
  · rw [lo n (by omega) (by omega) (by omega) (by omega) (by omega), lo m (by omega) (by omega) (by omega) (by omega) (by omega)]; exact h4 k hk
theorem ms_ps {m n : Nat → Int32} (h : MS m n) (w : Int32) : mv_ps n w = mv_ps m w := by
  unfold mv_ps mv_uw
  rw [h.2.2.1 5 (by omega) (by omega), h.2.2.1 6 (by omega) (by omega)]
theorem ms_fr {m n : Nat → Int32} (h : MS m n) : MS (mr_fr m) (mr_fr n) ∧ ∀ r, mv_fn n r = mv_fn m r := by
  have e6 : n 6 = m 6 := h.2.2.1 6 (by omega) (by omega)
  have h1 : MS (mr_f1 m) (mr_f1 n) := by
    unfold mr_f1; rw [e6]; exact ms_k h (by omega) (by omega) _
  have f6 : mr_f1 n 6 = mr_f1 m 6 := h1.2.2.1 6 (by omega) (by omega)
  have f3 : mr_f1 n 3 = mr_f1 m 3 := h1.2.2.1 3 (by omega) (by omega)
  refine ⟨?_, fun r => ?_⟩
  · unfold mr_fr
    rw [e6, f6, f3]
    split
    · exact h
    · split
      · exact ms_k h1 (by omega) (by omega) _
      · exact ms_cp h1
  · unfold mv_fn
    rw [e6, f6, f3]
theorem sg_inj : ∀ a, a < 10 → ∀ k, k < 10 → (sg k = sg a ↔ k = a) := by decide +kernel
theorem bt_or {x a k : Nat} (hx : x < 1024) (ha : a < 10) (hk : k < 10) : bt (nI x ||| ((1 : Int32) <<< (nI a &&& 31))) k = if k = a then 1 else bt (nI x) k := by
  have h2 : 2 ^ a < 1024 := Nat.lt_of_lt_of_le (Nat.pow_lt_pow_right (by decide) ha) (by decide)
  have hy : x ||| 2 ^ a < 1024 := Nat.or_lt_two_pow (n := 10) hx h2
  rw [(fx_sh a ha).1, nI_or, bt_d hk hy, bt_d hk hx]
  have t := Nat.testBit_or x (2 ^ a) k
  rw [Nat.testBit_eq_decide_div_mod_eq, Nat.testBit_eq_decide_div_mod_eq, Nat.testBit_two_pow] at t
  have c1 : (x ||| 2 ^ a) / 2 ^ k % 2 < 2 := Nat.mod_lt _ (by decide)
  have c2 : x / 2 ^ k % 2 < 2 := Nat.mod_lt _ (by decide)
  by_cases e : k = a
  · subst e
    rw [if_pos rfl]
    rw [decide_eq_true (rfl : k = k), Bool.or_true] at t
    rw [of_decide_eq_true t]; rfl
  · rw [if_neg e]
    rw [decide_eq_false (fun z : a = k => e z.symm), Bool.or_false] at t
    have t2 := decide_eq_decide.mp t
    congr 1
    omega
theorem bt_an {x a k : Nat} (hx : x < 1024) (ha : a < 10) (hk : k < 10) : bt (nI x &&& (((1 : Int32) <<< (nI a &&& 31)) ^^^ (-1))) k = if k = a then 0 else bt (nI x) k := by
  have h2 : 2 ^ a < 2 ^ 32 := Nat.pow_lt_pow_right (by decide) (by omega)
  have hy : x &&& (4294967295 - 2 ^ a) < 1024 := Nat.lt_of_le_of_lt Nat.and_le_left hx
  rw [(fx_sh a ha).2, nI_and, bt_d hk hy, bt_d hk hx]
  have t := Nat.testBit_and x (4294967295 - 2 ^ a) k
  have e9 : 4294967295 - 2 ^ a = 2 ^ 32 - (2 ^ a + 1) := by omega
  have t9 := Nat.testBit_two_pow_sub_succ h2 k
  rw [← e9, Nat.testBit_two_pow, decide_eq_true (show k < 32 by omega), Bool.true_and] at t9
  rw [t9, Nat.testBit_eq_decide_div_mod_eq, Nat.testBit_eq_decide_div_mod_eq] at t
  have c1 : (x &&& (4294967295 - 2 ^ a)) / 2 ^ k % 2 < 2 := Nat.mod_lt _ (by decide)
  have c2 : x / 2 ^ k % 2 < 2 := Nat.mod_lt _ (by decide)
  by_cases e : k = a
  · subst e
    rw [if_pos rfl]
    rw [decide_eq_true (rfl : k = k), Bool.not_true, Bool.and_false] at t
    have := of_decide_eq_false t
    rw [show (x &&& (4294967295 - 2 ^ k)) / 2 ^ k % 2 = 0 by omega]; rfl
  · rw [if_neg e]
    rw [decide_eq_false (fun z : a = k => e z.symm), Bool.not_false, Bool.and_true] at t
    have t2 := decide_eq_decide.mp t
    congr 1
    omega
theorem ms_ft {m n : Nat → Int32} (h : MS m n) (o : mOk m) (q : mOk n) {a : Nat} (ha : a < 10) (b : Int32) : MS (mr_ft m (nI a) b) (mr_ft n (otF (nI a)) b) := by
  obtain ⟨x, hx, ex⟩ := o.2.2.2.2.2.2.2.2
  obtain ⟨y, hy, ey⟩ := q.2.2.2.2.2.2.2.2
  obtain ⟨h0, h1, h2, h3, h4⟩ := h
  obtain ⟨s1, s2⟩ := ot_sg a ha
  unfold mr_ft
  refine ⟨?_, ?_, fun k a b => ?_, fun j hj => ⟨?_, ?_, ?_, ?_⟩, fun k hk => ?_⟩
  · rw [upd_ne _ _ _ (bne (by omega)), upd_ne _ _ _ (bne (by omega))]; exact h0
  · rw [upd_ne _ _ _ (bne (by omega)), upd_ne _ _ _ (bne (by omega))]; exact h1
  · rw [upd_ne _ _ _ (bne (by omega)), upd_ne _ _ _ (bne (by omega))]; exact h2 k a b
  · rw [upd_ne _ _ _ (bne (by omega)), upd_ne _ _ _ (bne (by omega))]; exact (h3 j hj).1
  · rw [upd_ne _ _ _ (bne (by omega)), upd_ne _ _ _ (bne (by omega))]; exact (h3 j hj).2.1
  · rw [upd_ne _ _ _ (bne (by omega)), upd_ne _ _ _ (bne (by omega))]; exact (h3 j hj).2.2.1
  · rw [upd_ne _ _ _ (bne (by omega)), upd_ne _ _ _ (bne (by omega))]; exact (h3 j hj).2.2.2
  · have hb := h4 k hk
    have hs := sg_inj a ha k hk
    have hk2 := (ot_sg k hk).2
    rw [upd_eq, upd_eq, s1]
    rw [ex, ey] at hb ⊢
    by_cases e : b = 1
    · rw [if_pos e, if_pos e, bt_or (by omega) s2 hk2, bt_or (by omega) ha hk, hb]
      by_cases z : k = a
      · rw [if_pos z, if_pos (hs.mpr z)]
      · rw [if_neg z, if_neg (fun y => z (hs.mp y))]
    · rw [if_neg e, if_neg e, bt_an (by omega) s2 hk2, bt_an (by omega) ha hk, hb]
      by_cases z : k = a
      · rw [if_pos z, if_pos (hs.mpr z)]
      · rw [if_neg z, if_neg (fun y => z (hs.mp y))]
theorem ms_ky {m n : Nat → Int32} (h : MS m n) {a : Nat} (ha : a < 3) (b c d : Int32) : MS (mr_ky m (nI a) b c d) (mr_ky n (nI a) (otF b) c d) := by
  obtain ⟨h0, h1, h2, h3, h4⟩ := h
  have at_ : ∀ (m : Nat → Int32) (b : Int32) (k : Nat), mr_ky m (nI a) b c d k = if k = 7 + 4 * a + 2 then d else if k = 7 + 4 * a + 1 then c else if k = 7 + 4 * a then b else m k := fun m b k => by
    unfold mr_ky
    rw [kx0 ha, kx1 ha, kx2 ha, upd_at, upd_at, upd_at]
  have c0 : ∀ (m : Nat → Int32) (b : Int32) (j : Nat), mr_ky m (nI a) b c d (7 + 4 * j) = if j = a then b else m (7 + 4 * j) := fun m b j => by
    rw [at_, if_neg (by omega), if_neg (by omega)]
    by_cases e : j = a
    · rw [if_pos (by omega), if_pos e]
    · rw [if_neg (by omega), if_neg e]
  have c1 : ∀ (m : Nat → Int32) (b : Int32) (j : Nat), mr_ky m (nI a) b c d (7 + 4 * j + 1) = if j = a then c else m (7 + 4 * j + 1) := fun m b j => by
    rw [at_, if_neg (by omega)]
    by_cases e : j = a
    · rw [if_pos (by omega), if_pos e]
    · rw [if_neg (by omega), if_neg (by omega), if_neg e]
  have c2 : ∀ (m : Nat → Int32) (b : Int32) (j : Nat), mr_ky m (nI a) b c d (7 + 4 * j + 2) = if j = a then d else m (7 + 4 * j + 2) := fun m b j => by
    rw [at_]
    by_cases e : j = a
    · rw [if_pos (by omega), if_pos e]
    · rw [if_neg (by omega), if_neg (by omega), if_neg (by omega), if_neg e]
  have cx : ∀ (m : Nat → Int32) (b : Int32) (k : Nat), k ≠ 7 + 4 * a + 2 → k ≠ 7 + 4 * a + 1 → k ≠ 7 + 4 * a → mr_ky m (nI a) b c d k = m k := fun m b k x y z => by
    rw [at_, if_neg x, if_neg y, if_neg z]
  refine ⟨?_, ?_, fun k u v => ?_, fun j hj => ⟨?_, ?_, ?_, ?_⟩, fun k hk => ?_⟩
  · rw [cx _ _ _ (by omega) (by omega) (by omega), cx _ _ _ (by omega) (by omega) (by omega)]; exact h0
  · rw [cx _ _ _ (by omega) (by omega) (by omega), cx _ _ _ (by omega) (by omega) (by omega)]; exact h1
  · rw [cx _ _ _ (by omega) (by omega) (by omega), cx _ _ _ (by omega) (by omega) (by omega)]; exact h2 k u v
  · rw [c0, c0]
    split
    · rfl
    · exact (h3 j hj).1
  · rw [c1, c1]
    split
    · rfl
    · exact (h3 j hj).2.1
  · rw [c2, c2]
    split
    · rfl
    · exact (h3 j hj).2.2.1
  · rw [cx _ _ _ (by omega) (by omega) (by omega), cx _ _ _ (by omega) (by omega) (by omega)]; exact (h3 j hj).2.2.2
  · rw [cx _ _ _ (by omega) (by omega) (by omega), cx _ _ _ (by omega) (by omega) (by omega)]; exact h4 k hk
theorem ms_tg {m n : Nat → Int32} (h : MS m n) {a : Nat} (ha : a < 3) : MS (mr_tg m (nI a)) (mr_tg n (nI a)) := by
  obtain ⟨h0, h1, h2, h3, h4⟩ := h
  refine ⟨?_, ?_, fun k u v => ?_, fun j hj => ⟨?_, ?_, ?_, ?_⟩, fun k hk => ?_⟩
  · rw [tg_at _ ha, tg_at _ ha, if_neg (by omega), if_neg (by omega)]; exact h0
  · rw [tg_at _ ha, tg_at _ ha, if_neg (by omega), if_neg (by omega)]; exact h1
  · rw [tg_at _ ha, tg_at _ ha, if_neg (by omega), if_neg (by omega)]; exact h2 k u v
  · rw [tg_at _ ha, tg_at _ ha, if_neg (by omega), if_neg (by omega)]; exact (h3 j hj).1
  · rw [tg_at _ ha, tg_at _ ha, if_neg (by omega), if_neg (by omega)]; exact (h3 j hj).2.1
  · rw [tg_at _ ha, tg_at _ ha, if_neg (by omega), if_neg (by omega)]; exact (h3 j hj).2.2.1
  · rw [tg_at _ ha, tg_at _ ha]
    by_cases e : j = a
    · rw [if_pos (by omega), if_pos (by omega), (h3 a ha).2.2.2]
    · rw [if_neg (by omega), if_neg (by omega)]; exact (h3 j hj).2.2.2
  · rw [tg_at _ ha, tg_at _ ha, if_neg (by omega), if_neg (by omega)]; exact h4 k hk
theorem ms_mv {m n : Nat → Int32} (h : MS m n) (a : Int32) : MS (mr_mv m a) (mr_mv n a) := by
  unfold mr_mv
  split
  · exact ms_cp (ms_k h (by omega) (by omega) a)
  · exact ms_k h (by omega) (by omega) a
/-- an act's arguments in the second mixer -/
def a2 (w : Nat) (a : Int32) : Int32 := if w = 0 ∨ w = 1 ∨ w = 9 then otF a else a
def b2 (w : Nat) (b : Int32) : Int32 := if w = 4 then otF b else b
theorem ms_ds {m n : Nat → Int32} (h : MS m n) (o : mOk m) (q : mOk n) {w : Nat} {a b c d : Int32} (ha : aOk w a b c d) : MS (mr_ds m (nI w) a b c d) (mr_ds n (nI w) (a2 w a) (b2 w b) c d) := by
  by_cases hp : mv_ps m (nI w) = 0
  · rw [ds_no _ _ _ _ hp, ds_no _ _ _ _ ((ms_ps h _).trans hp)]; exact h
  · have hq : ¬ mv_ps n (nI w) = 0 := by rw [ms_ps h]; exact hp
    rcases ha with ⟨rfl, h1⟩ | ⟨rfl, h1⟩ | ⟨rfl, h1, h2⟩ | ⟨rfl, h1⟩ | ⟨rfl, h1, h2, h3, h4⟩ | ⟨rfl, h1⟩ | rfl | rfl | ⟨rfl, h1⟩ | ⟨rfl, h1, h2⟩
    · rw [ds_m0 _ _ _ _ _ hp, ds_m0 _ _ _ _ _ hq]; exact ms_0 h a
    · rw [ds_m1 _ _ _ _ _ hp, ds_m1 _ _ _ _ _ hq]; exact ms_1 h a
    · rw [ds_m2 _ _ _ _ _ hp, ds_m2 _ _ _ _ _ hq]; exact ms_k (ms_k h (by omega) (by omega) a) (by omega) (by omega) b
    · rw [ds_m3 _ _ _ _ _ hp, ds_m3 _ _ _ _ _ hq]; exact ms_k h (by omega) (by omega) a
    · obtain ⟨k, -, hk, rfl⟩ := h1
      rw [ds_m4 _ _ _ _ _ hp, ds_m4 _ _ _ _ _ hq]; exact ms_ky h (by omega) b c d
    · obtain ⟨k, -, hk, rfl⟩ := h1
      rw [ds_m5 _ _ _ _ _ hp, ds_m5 _ _ _ _ _ hq]; exact ms_tg h (by omega)
    · rw [ds_m6 _ _ _ _ _ hp, ds_m6 _ _ _ _ _ hq]; exact ms_cp h
    · rw [ds_m7 _ _ _ _ _ hp, ds_m7 _ _ _ _ _ hq]; exact ms_k h (by omega) (by omega) 0
    · rw [ds_m8 _ _ _ _ _ hp, ds_m8 _ _ _ _ _ hq]; exact ms_mv h a
    · obtain ⟨k, -, hk, rfl⟩ := h1
      rw [ds_m9 _ _ _ _ _ hp, ds_m9 _ _ _ _ _ hq]; exact ms_ft h o q (by omega) b
