def mfC (x : Nat → Nat → Int32) : Bool := if x 0 8 ≤ x 0 9 then false else if mv_ro (x 6) (x 0 8) (x 0 9) = 0 then false else true
def mfX (S : Nat → Nat → Int32) : Nat → Nat → Int32 := lw mfC mo_ro 121 (sF S 0 9 0)
def mfS (S : Nat → Nat → Int32) : Nat → Nat → Int32 := if mfX S 0 8 ≤ mfX S 0 9 then mfX S else mo_ro (mfX S)
def mfR (S : Nat → Nat → Int32) : Int32 := if mfX S 0 8 ≤ mfX S 0 9 then -1 else mo_ro (mfX S) 0 9
def roI (x : Nat → Nat → Int32) : Prop := ¬ x 0 9 < 0 ∧ x 0 9 ≤ x 0 8 ∧ x 0 8 ≤ 120
theorem ro_in {T : Nat → Int32} {L p : Int32} (hL : L ≤ 120) (h0 : ¬ p < 0) (hp : p ≤ L) : ¬ ro_p2 T L p < 0 ∧ ro_p2 T L p ≤ L := by
  have h1 : ¬ ro_p1 T L p < 0 ∧ ro_p1 T L p ≤ L := by
    unfold ro_p1 ro_c
    have q : ∀ k : Int32, mv_he T L p = k → ¬ k = -1 → ¬ p + 1 < 0 ∧ p + 1 ≤ L := fun k e hk => he_n hL h0 e hk
    split
    · rename_i e; exact q _ e (by decide)
    · split
      · rename_i e; have := q _ e (by decide); exact rp_in _ _ hL this.1 this.2
      · split
        · rename_i e; exact q _ e (by decide)
        · split
          · rename_i e
            have h2 := q _ e (by decide)
            have h3 := fp_in (T := T) 2 hL h2.1 h2.2
            unfold ro_kp
            split
            · exact h3
            · exact rp_in _ _ hL h3.1 h3.2
          · split
            · rename_i e; have := q _ e (by decide); exact fp_in _ hL this.1 this.2
            · split
              · rename_i e; have := q _ e (by decide); exact fp_in _ hL this.1 this.2
              · split
                · rename_i e; have := q _ e (by decide); exact fp_in _ hL this.1 this.2
                · split
                  · rename_i e; have := q _ e (by decide); exact rp_in _ _ hL this.1 this.2
                  · rw [show p + 1 - 1 = p from Int32.add_sub_cancel p 1]; exact ⟨h0, hp⟩
  unfold ro_p2 nzF
  split
  · exact h1
  · split
    · rw [Int32.add_zero]; exact h1
    · rename_i q
      have q2 : mv_he T L (ro_p1 T L p) = 59 := by
        unfold mv_eq at q
        by_cases e : mv_he T L (ro_p1 T L p) = 59
        · exact e
        · rw [if_neg e] at q; exact absurd rfl q
      exact rd_p1 (T := T) hL h1.1 (he_lt q2 (by decide))
theorem ro_8 (S : Nat → Nat → Int32) : mo_ro S 0 8 = S 0 8 := by unfold mo_ro; simp only [sF_eq, upd_ne, Nat.reduceBEq]
theorem ro_9 (S : Nat → Nat → Int32) : mo_ro S 0 9 = ro_p2 (S 6) (S 0 8) (S 0 9) := by unfold mo_ro; simp only [sF_eq, upd_eq]
theorem ro_01 (S : Nat → Nat → Int32) : mo_ro S 0 1 = S 0 1 := by unfold mo_ro; simp only [sF_eq, upd_ne, Nat.reduceBEq]
theorem ro_r (S : Nat → Nat → Int32) {r : Nat} (h : (r == 0) = false) : mo_ro S r = S r := by unfold mo_ro; simp only [sF_ne _ _ _ _ h]
theorem roI_ro {x : Nat → Nat → Int32} (h : roI x) : roI (mo_ro x) := by
  unfold roI
  rw [ro_8, ro_9]
  have q := ro_in (T := x 6) h.2.2 h.1 h.2.1
  exact ⟨q.1, q.2, h.2.2⟩
def mcC (x : (Nat → Nat → Int32) × Int32 × Int32) : Bool := if x.2.2 = 0 then false else if x.1 0 8 ≤ x.1 0 9 then false else true
def mcG (x : (Nat → Nat → Int32) × Int32 × Int32) : Int32 := mv_eq ((mo_or (mo_ro x.1)) 0 2) 0
def mcB (x : (Nat → Nat → Int32) × Int32 × Int32) : (Nat → Nat → Int32) × Int32 × Int32 := (mo_or (mo_ro x.1), x.2.1 + nzF (mcG x), mcG x)
def mcX (S : Nat → Nat → Int32) : (Nat → Nat → Int32) × Int32 × Int32 := lw mcC mcB 121 (sF (mfS S) 0 9 0, 0, mv_eq (mfR S) (-1))
def mo_gt (U : Nat → Nat → Int32) (T wo : Int32) : Nat → Nat → Int32 := sF (sF (sR U 1 (gtX (U 3) (U 0 1) T wo (U 1)).1) 0 3 (gtX (U 3) (U 0 1) T wo (U 1)).2.1) 0 4 (gtX (U 3) (U 0 1) T wo (U 1)).2.2.1
def mc_u (S : Nat → Nat → Int32) : Nat → Nat → Int32 := sF (sF (sF (mcX S).1 0 2 0) 0 1 (mfS S 0 1)) 0 0 (mfS S 0 0)
def mcS (S : Nat → Nat → Int32) : Nat → Nat → Int32 := if (mcX S).2.2 = 0 then mo_gt (mc_u S) (mfS S 0 0) (-1) else sF (mcX S).1 0 2 0
def mcR (S : Nat → Nat → Int32) : Int32 := if mfR S = -1 then (if (mcX S).2.2 = 0 then -1000 - (mcX S).2.1 else (mcX S).2.1) else -10 - mfR S
def mcI (x : (Nat → Nat → Int32) × Int32 × Int32) : Prop := roI x.1 ∧ ¬ x.1 0 1 < 0 ∧ ¬ x.1 1 3 = 0
theorem log_in {S : Nat → Nat → Int32} {A B C w a b c d : Int32} (h1 : ¬ S 0 1 < 0) (h2 : ¬ S 1 3 = 0) (hn : ¬ mv_go A B C = 0 → vp_in (S 0 1) 100) (hb : ¬ mv_go A B C = 0 → ¬ mr_ds (S 1) w a b c d 3 = 0) : (mo_log S A B C w a b c d 0 8 = S 0 8 ∧ mo_log S A B C w a b c d 0 9 = S 0 9) ∧ ¬ mo_log S A B C w a b c d 0 1 < 0 ∧ ¬ mo_log S A B C w a b c d 1 3 = 0 := by
  unfold mo_log
  simp only [sF_eq, sF_ne, sR_eq, sR_ne, upd_eq, upd_ne, Nat.reduceBEq, true_and]
  by_cases g : mv_go A B C = 0
  · rw [if_pos g, if_pos g]; exact ⟨h1, h2⟩
  · rw [if_neg g, if_neg g]
    refine ⟨?_, hb g⟩
    obtain ⟨j, hj, e⟩ := vp_in_of (hn g) (by decide)
    rw [e, nI_1]; exact nI_pos (by omega)
theorem mv_3 {m : Nat → Int32} (h : ¬ m 3 = 0) (a : Int32) : ¬ mr_mv m a 3 = 0 := by
  unfold mr_mv
  split
  · rw [cp_3, upd_ne _ _ _ rfl]; exact h
  · rw [upd_ne _ _ _ rfl]; exact h
theorem ds_3 {m : Nat → Int32} {w a b c d : Int32} (h : ¬ m 3 = 0) (hw : w = 0 ∨ w = 1 ∨ w = 3 ∨ w = 6 ∨ w = 7 ∨ w = 8) : ¬ mr_ds m w a b c d 3 = 0 := by
  unfold mr_ds
  split
  · exact h
  · rcases hw with rfl | rfl | rfl | rfl | rfl | rfl
    · rw [if_pos rfl, upd_ne _ _ _ rfl]; exact h
    · rw [if_neg (by decide), if_pos rfl, upd_ne _ _ _ rfl]; exact h
    · rw [if_neg (by decide), if_neg (by decide), if_neg (by decide), if_pos rfl, upd_ne _ _ _ rfl]; exact h
    · rw [if_neg (by decide), if_neg (by decide), if_neg (by decide), if_neg (by decide), if_neg (by decide), if_neg (by decide), if_pos rfl, cp_3]; exact h
    · rw [if_neg (by decide), if_neg (by decide), if_neg (by decide), if_neg (by decide), if_neg (by decide), if_neg (by decide), if_neg (by decide), if_pos rfl, upd_ne _ _ _ rfl]; exact h
    · rw [if_neg (by decide), if_neg (by decide), if_neg (by decide), if_neg (by decide), if_neg (by decide), if_neg (by decide), if_neg (by decide), if_neg (by decide), if_pos rfl]; exact mv_3 h a
theorem ds_32 {m : Nat → Int32} {a b c d : Int32} (h : ¬ m 3 = 0) (hb : ¬ b = 0) : ¬ mr_ds m 2 a b c d 3 = 0 := by
  unfold mr_ds
  split
  · exact h
  · rw [if_neg (by decide), if_neg (by decide), if_pos rfl, upd_eq]; exact hb
theorem in_ge1 {v : Int32} {hi : Int64} (h : ¬ mv_in (Int32.toInt64 v) 1 hi = 0) : ¬ v = 0 := fun e => h (by
  subst e
  unfold mv_in
  exact if_pos (by decide))
theorem ps_3 (fr : Int32) : ∀ (n : Nat) (x : (Nat → Int32) × Int32 × Int32 × Int32), (lw (psC fr) psB n x).1 3 = x.1 3
  | 0, x => rfl
  | n + 1, x => by
    cases hc : psC fr x with
    | false => rw [lw_f hc]
    | true => rw [lw_t hc, ps_3 fr n]; exact fr_3 x.1
theorem or_in {S : Nat → Nat → Int32} (h1 : ¬ S 0 1 < 0) (h2 : ¬ S 1 3 = 0) : (mo_or S 0 8 = S 0 8 ∧ mo_or S 0 9 = S 0 9) ∧ ¬ mo_or S 0 1 < 0 ∧ ¬ mo_or S 1 3 = 0 := by
  unfold mo_or
  split
  · exact log_in h1 h2 (fun g => hr_n h1 (an_1 (go_a g))) (fun _ => ds_3 h2 (by decide))
  · split
    · exact log_in h1 h2 (fun g => hr_n h1 (an_1 (go_b g))) (fun _ => ds_3 h2 (by decide))
    · split
      · exact log_in h1 h2 (fun g => hr_n h1 (go_a g)) (fun _ => ds_3 h2 (by decide))
      · split
        · exact log_in h1 h2 (fun g => hr_n h1 (go_b g)) (fun g => ds_32 h2 (in_ge1 (an_2 (go_a g))))
        · split
          · exact log_in h1 h2 (fun g => hr_n h1 (an_1 (go_b g))) (fun _ => ds_3 h2 (by decide))
          · split
            · exact log_in h1 h2 (fun g => hr_n h1 (go_b g)) (fun _ => ds_3 h2 (by decide))
            · split
              · exact log_in h1 h2 (fun g => hr_n h1 (go_b g)) (fun _ => ds_3 h2 (by decide))
              · unfold mo_pass
                simp only [sF_eq, sF_ne, sR_eq, sR_ne, upd_eq, upd_ne, Nat.reduceBEq, true_and]
                refine ⟨h1, ?_⟩
                split
                · exact h2
                · unfold psX; rw [ps_3]; exact h2
theorem mcI_B {x : (Nat → Nat → Int32) × Int32 × Int32} (h : mcI x) : mcI (mcB x) := by
  have h1 : ¬ mo_ro x.1 0 1 < 0 := by rw [ro_01]; exact h.2.1
  have h2 : ¬ mo_ro x.1 1 3 = 0 := by rw [ro_r _ rfl]; exact h.2.2
  have q := or_in h1 h2
  have r := roI_ro h.1
  refine ⟨?_, q.2⟩
  show roI (mo_or (mo_ro x.1))
  unfold roI
  rw [q.1.1, q.1.2]
  exact r
theorem mf_all : ∀ (n : Nat) (x : Nat → Nat → Int32), roI x → roI (lw mfC mo_ro n x) ∧ lw mfC mo_ro n x 0 1 = x 0 1 ∧ lw mfC mo_ro n x 1 = x 1
  | 0, x, h => ⟨h, rfl, rfl⟩
  | n + 1, x, h => by
    cases hc : mfC x with
    | false => rw [lw_f hc]; exact ⟨h, rfl, rfl⟩
    | true =>
      rw [lw_t hc]
      have q := mf_all n (mo_ro x) (roI_ro h)
      rw [ro_01, ro_r x (r := 1) rfl] at q
      exact q
theorem mc_0 {S : Nat → Nat → Int32} (g : Int32) (hl : S 0 8 ≤ 120) (hln : ¬ S 0 8 < 0) (hn : ¬ S 0 1 < 0) (hr : ¬ S 1 3 = 0) : mcI (sF (mfS S) 0 9 0, 0, g) := by
  have h0 : roI (sF S 0 9 0) := by
    unfold roI
    simp only [sF_eq, upd_eq, upd_ne, Nat.reduceBEq]
    exact ⟨by decide, Int32.not_lt.mp hln, hl⟩
  have q := mf_all 121 (sF S 0 9 0) h0
  simp only [sF_eq, sF_ne, upd_ne, Nat.reduceBEq] at q
  have q2 : roI (mfS S) ∧ mfS S 0 1 = S 0 1 ∧ mfS S 1 = S 1 := by
    unfold mfS
    split
    · exact q
    · rw [ro_01, ro_r _ (r := 1) rfl]; exact ⟨roI_ro q.1, q.2⟩
  have h8 : ¬ mfS S 0 8 < 0 := fun e => q2.1.1 (Int32.lt_of_le_of_lt q2.1.2.1 e)
  refine ⟨?_, ?_, ?_⟩
  · show roI (sF (mfS S) 0 9 0)
    unfold roI
    simp only [sF_eq, upd_eq, upd_ne, Nat.reduceBEq]
    exact ⟨by decide, Int32.not_lt.mp h8, q2.1.2.2⟩
  · show ¬ (sF (mfS S) 0 9 0) 0 1 < 0
    simp only [sF_eq, upd_ne, Nat.reduceBEq]
    rw [q2.2.1]; exact hn
  · show ¬ (sF (mfS S) 0 9 0) 1 3 = 0
    simp only [sF_ne, Nat.reduceBEq]
    rw [q2.2.2]; exact hr
theorem mf_0 {S : Nat → Nat → Int32} (hl : S 0 8 ≤ 120) (hln : ¬ S 0 8 < 0) : roI (sF S 0 9 0) := by
  unfold roI
  simp only [sF_eq, upd_eq, upd_ne, Nat.reduceBEq]
  exact ⟨by decide, Int32.not_lt.mp hln, hl⟩
def hd1 (m : Nat → Int32) (c n : Int32) (k : Nat) (h : Int64) : Int64 := 31 * h + Int32.toInt64 (mv_st m c n (nI k))
def hd2 (m : Nat → Int32) (k : Nat) (h : Int64) : Int64 := 31 * h + Int32.toInt64 (m (7 + k))
abbrev d4 : Type := (Nat → Int32) × (Nat → Int32) × (Nat → Int32) × Int64
def hd3 (k : Nat) (x : d4) : d4 := (mr_t1 x.1 x.2.1 (mr_ls x.1 (mr_ls x.1 x.2.2.1)) (nI k), mr_t2 x.1 x.2.1 (mr_ls x.1 (mr_ls x.1 x.2.2.1)) (nI k), mr_t4 x.1 (mr_ls x.1 (mr_ls x.1 x.2.2.1)) (nI k), 31 * (31 * (31 * x.2.2.2 + Int32.toInt64 (mv_sh x.1 (mr_ls x.1 x.2.2.1) (nI k) 0)) + Int32.toInt64 (mv_sh x.1 (mr_ls x.1 (mr_ls x.1 x.2.2.1)) (nI k) 1)) + Int32.toInt64 (mv_ty x.1 (mr_ls x.1 (mr_ls x.1 x.2.2.1)) (nI k)))
def hd4C (n : Int32) (x : Int64 × Int32) : Bool := if n ≤ x.2 then false else true
def hd4B (E : Nat → Int32) (x : Int64 × Int32) : Int64 × Int32 := (31 * (31 * (31 * (31 * x.1 + Int32.toInt64 (E (6 * cl x.2))) + Int32.toInt64 (E (6 * cl x.2 + 1))) + Int32.toInt64 (E (6 * cl x.2 + 2))) + Int32.toInt64 (E (6 * cl x.2 + 3)), x.2 + 1)
def hd4X (E : Nat → Int32) (n : Int32) (h : Int64) : Int64 × Int32 := lw (hd4C n) (hd4B E) 101 (h, 0)
def hd0 (m : Nat → Int32) (c n L : Int32) : Int64 := it (hd2 m) 12 (it (hd1 m c n) 9 (31 * 3253 + Int32.toInt64 L))
def hd3X (m a s : Nat → Int32) (c n L : Int32) (k : Nat) : d4 := it hd3 k (m, a, s, hd0 m c n L)
theorem hd4_c {n : Int32} {x : Int64 × Int32} (h : hd4C n x = true) : ¬ n ≤ x.2 := fun e => by unfold hd4C at h; rw [if_pos e] at h; cases h
theorem hd4_stop (E : Nat → Int32) {n : Int32} (h : Int64) (hn : n ≤ 100) : hd4C n (hd4X E n h) = false := by
  refine lw_stop (fun x => ¬ x.2 < 0) (fun x => 100 - x.2.toNatClampNeg) ?_ ?_ 101 _ (show ¬ (0 : Int32) < 0 by decide) (by show 100 - _ < 101; omega)
  · intro x hx hc
    obtain ⟨j, hj, -, e⟩ := da_x hn hx (hd4_c hc)
    show ¬ x.2 + 1 < 0
    rw [e, nI_1]; exact nI_pos (by omega)
  · intro x hx hc
    obtain ⟨j, hj, -, e⟩ := da_x hn hx (hd4_c hc)
    show 100 - (x.2 + 1).toNatClampNeg < 100 - x.2.toNatClampNeg
    rw [e, nI_1, nI_clamp (by omega), nI_clamp (by omega)]; omega
theorem hd4_1 {n : Int32} {E : Nat → Int32} {x : Int64 × Int32} (hn : n ≤ 100) (hx : ¬ x.2 < 0) (h2 : ¬ n ≤ x.2) : ¬ (hd4B E x).2 < 0 := by
  obtain ⟨j, hj, -, e⟩ := da_x hn hx h2
  show ¬ x.2 + 1 < 0
  rw [e, nI_1]; exact nI_pos (by omega)
theorem ly_k (m : Nat → Int32) : ∀ (n : Nat) (a : Nat → Int32) (k : Nat), it (mr_c1 m) n a k = if k < n then m k else a k
  | 0, a, k => by rw [it_0, if_neg (by omega)]
  | n + 1, a, k => by
    rw [it_s]
    show upd (it (mr_c1 m) n a) n (m n) k = _
    unfold upd
    split
    · rename_i e; subst e; rw [if_pos (by omega)]
    · rename_i e
      rw [ly_k m n a k]
      by_cases h : k < n
      · rw [if_pos h, if_pos (by omega)]
      · rw [if_neg h, if_neg (by omega)]
theorem tb_k (m a : Nat → Int32) {k : Nat} (h : k < 20) : mr_tb m a k = m k := by
  unfold mr_tb mr_ly
  rw [ly_k, if_pos h, ly_k, if_pos h]
theorem okm_eq {m m' : Nat → Int32} (h : ∀ k, k < 20 → m' k = m k) (o : okm m) : okm m' := by
  unfold okm
  rw [h 0 (by omega), h 1 (by omega), h 7 (by omega), h 11 (by omega), h 15 (by omega), h 3 (by omega)]
  exact o
theorem okm_t1 {m : Nat → Int32} (a s : Nat → Int32) (q : Int32) (o : okm m) : okm (mr_t1 m a s q) := by
  unfold mr_t1
  split
  · exact o
  · exact okm_eq (fun k h => tb_k m a h) o
theorem hd3_ok {m a s : Nat → Int32} {c n L : Int32} {k : Nat} (h : okm (hd3X m a s c n L k).1) : okm (hd3X m a s c n L (k + 1)).1 := by
  unfold hd3X at h ⊢
  rw [it_s]
  exact okm_t1 _ _ _ h
theorem k7_in {i : Nat} (h : i < 12) : vp_in (7 + nI i) 20 ∧ (7 + nI i).toNatClampNeg = 7 + i := by
  rw [show 7 + nI i = nI (7 + i) from nI_add 7 i, nI_clamp (by omega)]
  exact ⟨vp_in_nI (by omega) (by decide), rfl⟩
