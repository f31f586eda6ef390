/-! the shares of the second mixer -/
def PS (s u : Nat → Int32) : Prop := ∀ k, k < 10 → u (sg k) = s k
theorem z_1 (k : Nat) (s : Nat → Int32) : mr_z k s = upd s k 0 := rfl
theorem z_at (s : Nat → Int32) (k : Nat) : ∀ j : Nat, it mr_z j s k = if k < j then 0 else s k
  | 0 => rfl
  | j + 1 => by
    rw [it_s, z_1, upd_at, z_at s k j]
    by_cases e : k = j
    · rw [if_pos e, if_pos (by omega)]
    · rw [if_neg e]
      by_cases f : k < j
      · rw [if_pos f, if_pos (by omega)]
      · rw [if_neg f, if_neg (by omega)]
theorem ps_z (s u : Nat → Int32) : PS (it mr_z 10 s) (it mr_z 10 u) := fun k hk => by
  rw [z_at, z_at, if_pos hk, if_pos (ot_sg k hk).2]
theorem ps_ad {s u : Nat → Int32} (h : PS s u) {a : Nat} (ha : a < 10) (v : Int32) : PS (mr_ad s a v) (mr_ad u (sg a) v) := fun k hk => by
  unfold mr_ad
  rw [upd_at, upd_at, h a ha]
  have z := sg_inj a ha k hk
  by_cases e : k = a
  · rw [if_pos e, if_pos (z.mpr e)]
  · rw [if_neg e, if_neg (fun y => e (z.mp y)), h k hk]
theorem ms_p {m n : Nat → Int32} (h : MS m n) (o : mOk m) : (∃ p, p < 10 ∧ cl (m 0) = p ∧ cl (n 0) = sg p) ∧ (∃ p, p < 10 ∧ cl (m 1) = p ∧ cl (n 1) = sg p) ∧ ∀ j, j < 3 → ∃ p, p < 10 ∧ cl (m (7 + 4 * j)) = p ∧ cl (n (7 + 4 * j)) = sg p := by
  have key : ∀ {x y : Int32}, rg x 0 9 → y = otF x → ∃ p, p < 10 ∧ cl x = p ∧ cl y = sg p := by
    rintro x y ⟨k, -, hk, rfl⟩ rfl
    have h10 : k < 10 := by omega
    refine ⟨k, h10, cl_k (by omega), ?_⟩
    rw [(ot_sg k h10).1]
    exact cl_k (by have := (ot_sg k h10).2; omega)
  exact ⟨key o.1 h.1, key o.2.1 h.2.1, fun j hj => key (o.2.2.2.2.2.2.2.1 j hj).1 (h.2.2.2.1 j hj).1⟩
theorem ps_sb {m n s u : Nat → Int32} (h : MS m n) (o : mOk m) (e : PS s u) : PS (mr_sb m s) (mr_sb n u) := by
  obtain ⟨⟨p, hp, p1, p2⟩, ⟨q, hq, q1, q2⟩, -⟩ := ms_p h o
  have e2 : n 2 = m 2 := h.2.2.1 2 (by omega) (by omega)
  have e4 : n 4 = m 4 := h.2.2.1 4 (by omega) (by omega)
  have e5 : n 5 = m 5 := h.2.2.1 5 (by omega) (by omega)
  unfold mr_sb
  rw [mv_el_0, mv_el_0, e4, e2, e5, p1, p2, q1, q2]
  split
  · exact ps_ad e hp _
  · split
    · split
      · exact ps_ad (ps_ad (a := 0) e (by omega) _) hq _
      · exact ps_ad (a := 0) (ps_ad e hp _) (by omega) _
    · exact ps_ad (ps_ad e hp _) hq _
def tkx (c x : Int32) : Int32 := Int64.toInt32 (Int32.toInt64 x * Int32.toInt64 c / 10000)
def sm (f : Nat → Int32) : Nat → Int32
  | 0 => 0
  | n + 1 => sm f n + f n
theorem ts_1 (c : Int32) (n : Nat) (x : (Nat → Int32) × Int32) : mr_ts c n x = (upd x.1 n (x.1 n - tkx c (x.1 n)), x.2 + tkx c (x.1 n)) := rfl
theorem ta_at (c : Int32) (s : Nat → Int32) : ∀ n : Nat, (∀ k, (it (mr_ts c) n (s, 0)).1 k = if k < n then s k - tkx c (s k) else s k) ∧ (it (mr_ts c) n (s, 0)).2 = sm (fun k => tkx c (s k)) n
  | 0 => ⟨fun k => rfl, rfl⟩
  | n + 1 => by
    obtain ⟨h1, h2⟩ := ta_at c s n
    have hn : (it (mr_ts c) n (s, 0)).1 n = s n := by rw [h1 n, if_neg (by omega)]
    rw [it_s, ts_1]
    refine ⟨fun k => ?_, ?_⟩
    · show upd (it (mr_ts c) n (s, 0)).1 n _ k = _
      rw [upd_at, h1 k, hn]
      by_cases z : k = n
      · subst z; rw [if_pos rfl, if_pos (by omega)]
      · rw [if_neg z]
        by_cases y : k < n
        · rw [if_pos y, if_pos (by omega)]
        · rw [if_neg y, if_neg (by omega)]
    · show (it (mr_ts c) n (s, 0)).2 + _ = sm _ n + _
      rw [h2, hn]
theorem sm_p {s u : Nat → Int32} (h : PS s u) (f : Int32 → Int32) : sm (fun k => f (u k)) 10 = sm (fun k => f (s k)) 10 := by
  have h0 : u 0 = s 0 := h 0 (by omega)
  have h1 : u 2 = s 1 := h 1 (by omega)
  have h2 : u 3 = s 2 := h 2 (by omega)
  have h3 : u 4 = s 3 := h 3 (by omega)
  have h4 : u 5 = s 4 := h 4 (by omega)
  have h5 : u 6 = s 5 := h 5 (by omega)
  have h6 : u 7 = s 6 := h 6 (by omega)
  have h7 : u 8 = s 7 := h 7 (by omega)
  have h8 : u 9 = s 8 := h 8 (by omega)
  have h9 : u 1 = s 9 := h 9 (by omega)
  show 0 + f (u 0) + f (u 1) + f (u 2) + f (u 3) + f (u 4) + f (u 5) + f (u 6) + f (u 7) + f (u 8) + f (u 9) = 0 + f (s 0) + f (s 1) + f (s 2) + f (s 3) + f (s 4) + f (s 5) + f (s 6) + f (s 7) + f (s 8) + f (s 9)
  rw [h0, h1, h2, h3, h4, h5, h6, h7, h8, h9]
  ac_rfl
theorem ps_cv {m n s u : Nat → Int32} (h : MS m n) (o : mOk m) (e : PS s u) {j : Nat} (hj : j < 3) (c : Int32) : PS (mr_cv m (nI j) c s) (mr_cv n (nI j) c u) := by
  obtain ⟨p, hp, p1, p2⟩ := (ms_p h o).2.2 j hj
  unfold mr_cv mr_ta
  rw [kx0 hj, p1, p2]
  have hs : ∀ k, k < 10 → (it (mr_ts c) 10 (u, 0)).1 (sg k) = (it (mr_ts c) 10 (s, 0)).1 k := fun k hk => by
    rw [(ta_at c u 10).1, (ta_at c s 10).1, if_pos hk, if_pos (ot_sg k hk).2, e k hk]
  intro k hk
  rw [upd_at, upd_at, hs p hp, (ta_at c u 10).2, (ta_at c s 10).2, sm_p e (tkx c)]
  have z := sg_inj p hp k hk
  by_cases y : k = p
  · rw [if_pos y, if_pos (z.mpr y)]
  · rw [if_neg y, if_neg (fun x => y (z.mp x)), hs k hk]
theorem ms_co {m n : Nat → Int32} (h : MS m n) {j : Nat} (hj : j < 3) : mv_co n (nI j) (n 5) = mv_co m (nI j) (m 5) := by
  obtain ⟨-, a, b, c⟩ := h.2.2.2.1 j hj
  unfold mv_co
  rw [mv_el_el, mv_el_el, kx1 hj, kx2 hj, kx3 hj, a, b, c, h.2.2.1 4 (by omega) (by omega), h.2.2.1 5 (by omega) (by omega)]
theorem ps_ls {m n : Nat → Int32} (h : MS m n) (o : mOk m) (s u : Nat → Int32) : PS (mr_ls m s) (mr_ls n u) := by
  unfold mr_ls
  refine it_r (R := fun _ s u => PS s u) (n := 3) (fun k hk s u e => ?_) (ps_sb h o (ps_z s u)) 3 (by omega)
  show PS (mr_cv m (nI k) (mv_co m (nI k) (m 5)) s) (mr_cv n (nI k) (mv_co n (nI k) (n 5)) u)
  rw [ms_co h hk]
  exact ps_cv h o e hk _
/-! which sources are red -/
theorem rd_ps {s u : Nat → Int32} (h : PS s u) {k : Nat} (hk : k < 10) : bt (mv_rd u) (sg k) = bt (mv_rd s) k := by
  rw [rd_bt u (ot_sg k hk).2, rd_bt s hk, h k hk]
theorem sg_sur : ∀ k, k < 10 → ∃ j, j < 10 ∧ sg j = k := by decide +kernel
theorem rd_b {s u : Nat → Int32} (h : ∀ k, k < 10 → bt (mv_rd s) k = bt (mv_rd u) k) : mv_rd s = mv_rd u := by
  obtain ⟨b, hb, eb, -⟩ := rd_n s 10 (by omega)
  obtain ⟨d, hd, ed, -⟩ := rd_n u 10 (by omega)
  have e1 : mv_rd s = nI b := eb
  have e2 : mv_rd u = nI d := ed
  rw [e1, e2] at h ⊢
  have : b = d := by
    apply Nat.eq_of_testBit_eq
    intro i
    by_cases hi : i < 10
    · have q := h i hi
      rw [bt_d hi (by omega), bt_d hi (by omega)] at q
      have q2 := nI_inj (by have := Nat.mod_lt (b / 2 ^ i) (show 0 < 2 by decide); omega) (by have := Nat.mod_lt (d / 2 ^ i) (show 0 < 2 by decide); omega) q
      rw [Nat.testBit_eq_decide_div_mod_eq, Nat.testBit_eq_decide_div_mod_eq, q2]
    · rw [Nat.testBit_lt_two_pow (Nat.lt_of_lt_of_le hb (Nat.pow_le_pow_right (by decide) (by omega))), Nat.testBit_lt_two_pow (Nat.lt_of_lt_of_le hd (Nat.pow_le_pow_right (by decide) (by omega)))]
  rw [this]
theorem rd_iff {s u s' u' : Nat → Int32} (h : PS s u) (h' : PS s' u') : mv_rd u = mv_rd u' ↔ mv_rd s = mv_rd s' := by
  refine ⟨fun e => rd_b fun k hk => ?_, fun e => rd_b fun k hk => ?_⟩
  · rw [← rd_ps h hk, ← rd_ps h' hk, e]
  · obtain ⟨j, hj, rfl⟩ := sg_sur k hk
    rw [rd_ps h hj, rd_ps h' hj, e]
theorem rd_m1 (s : Nat → Int32) : ¬ mv_rd s = -1 := by
  obtain ⟨b, hb, eb, -⟩ := rd_n s 10 (by omega)
  rw [show mv_rd s = nI b from eb]
  exact nI_ne1 (by omega)
