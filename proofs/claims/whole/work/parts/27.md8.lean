def mfC (x : Nat → Nat → Int32) : Bool := if x 0 8 ≤ x 0 9 then false else if mv_ro (x 6) (x 0 8) (x 0 9) = 0 then false else true
def mfX (S : Nat → Nat → Int32) : Nat → Nat → Int32 := lw mfC mo_ro 121 (sF S 0 9 0)
def mfS (S : Nat → Nat → Int32) : Nat → Nat → Int32 := if mfX S 0 8 ≤ mfX S 0 9 then mfX S else mo_ro (mfX S)
def mfR (S : Nat → Nat → Int32) : Int32 := if mfX S 0 8 ≤ mfX S 0 9 then -1 else mo_ro (mfX S) 0 9
def roI (x : Nat → Nat → Int32) : Prop := ¬ x 0 9 < 0 ∧ x 0 9 ≤ x 0 8 ∧ x 0 8 ≤ 120
theorem ro_in {T : Nat → Int32} {L p : Int32} (hL : L ≤ 120) (h0 : ¬ p < 0) (hp : p ≤ L) : ¬ ro_p2 T L p < 0 ∧ ro_p2 T L p ≤ L := by
  have h1 : ¬ ro_p1 T L p < 0 ∧ ro_p1 T L p ≤ L := by
    unfold ro_p1 ro_c
    have q : ∀ k : Int32, mv_he T L p = k → ¬ k = -1 → ¬ p + 1 < 0 ∧ p + 1 ≤ L := fun k e hk => he_n hL h0 e hk
    split
    · rename_i e; exact q _ e (by decide)
    · split
      · rename_i e; have := q _ e (by decide); exact rp_in _ _ hL this.1 this.2
      · split
        · rename_i e; exact q _ e (by decide)
        · split
          · rename_i e
            have h2 := q _ e (by decide)
            have h3 := fp_in (T := T) 2 hL h2.1 h2.2
            unfold ro_kp
            split
            · exact h3
            · exact rp_in _ _ hL h3.1 h3.2
          · split
            · rename_i e; have := q _ e (by decide); exact fp_in _ hL this.1 this.2
            · split
              · rename_i e; have := q _ e (by decide); exact fp_in _ hL this.1 this.2
              · split
                · rename_i e; have := q _ e (by decide); exact fp_in _ hL this.1 this.2
                · split
                  · rename_i e; have := q _ e (by decide); exact rp_in _ _ hL this.1 this.2
                  · rw [show p + 1 - 1 = p from Int32.add_sub_cancel p 1]; exact ⟨h0, hp⟩
  unfold ro_p2 nzF
  split
  · exact h1
  · split
    · rw [Int32.add_zero]; exact h1
    · rename_i q
      have q2 : mv_he T L (ro_p1 T L p) = 59 := by
        unfold mv_eq at q
        by_cases e : mv_he T L (ro_p1 T L p) = 59
        · exact e
        · rw [if_neg e] at q; exact absurd rfl q
      exact rd_p1 (T := T) hL h1.1 (he_lt q2 (by decide))
theorem ro_8 (S : Nat → Nat → Int32) : mo_ro S 0 8 = S 0 8 := by unfold mo_ro; simp only [sF_eq, upd_ne, Nat.reduceBEq]
theorem ro_9 (S : Nat → Nat → Int32) : mo_ro S 0 9 = ro_p2 (S 6) (S 0 8) (S 0 9) := by unfold mo_ro; simp only [sF_eq, upd_eq]
theorem ro_01 (S : Nat → Nat → Int32) : mo_ro S 0 1 = S 0 1 := by unfold mo_ro; simp only [sF_eq, upd_ne, Nat.reduceBEq]
theorem ro_r (S : Nat → Nat → Int32) {r : Nat} (h : (r == 0) = false) : mo_ro S r = S r := by unfold mo_ro; simp only [sF_ne _ _ _ _ h]
theorem roI_ro {x : Nat → Nat → Int32} (h : roI x) : roI (mo_ro x) := by
  unfold roI
  rw [ro_8, ro_9]
  have q := ro_in (T := x 6) h.2.2 h.1 h.2.1
  exact ⟨q.1, q.2, h.2.2⟩
def mcC (x : (Nat → Nat → Int32) × Int32 × Int32) : Bool := if x.2.2 = 0 then false else if x.1 0 8 ≤ x.1 0 9 then false else true
def mcG (x : (Nat → Nat → Int32) × Int32 × Int32) : Int32 := mv_eq ((mo_or (mo_ro x.1)) 0 2) 0
def mcB (x : (Nat → Nat → Int32) × Int32 × Int32) : (Nat → Nat → Int32) × Int32 × Int32 := (mo_or (mo_ro x.1), x.2.1 + nzF (mcG x), mcG x)
def mcX (S : Nat → Nat → Int32) : (Nat → Nat → Int32) × Int32 × Int32 := lw mcC mcB 121 (sF (mfS S) 0 9 0, 0, mv_eq (mfR S) (-1))
def mo_gt (U : Nat → Nat → Int32) (T wo : Int32) : Nat → Nat → Int32 := sF (sF (sR U 1 (gtX (U 3) (U 0 1) T wo (U 1)).1) 0 3 (gtX (U 3) (U 0 1) T wo (U 1)).2.1) 0 4 (gtX (U 3) (U 0 1) T wo (U 1)).2.2.1
def mc_u (S : Nat → Nat → Int32) : Nat → Nat → Int32 := sF (sF (sF (mcX S).1 0 2 0) 0 1 (mfS S 0 1)) 0 0 (mfS S 0 0)
def mcS (S : Nat → Nat → Int32) : Nat → Nat → Int32 := if (mcX S).2.2 = 0 then mo_gt (mc_u S) (mfS S 0 0) (-1) else sF (mcX S).1 0 2 0
def mcR (S : Nat → Nat → Int32) : Int32 := if mfR S = -1 then (if (mcX S).2.2 = 0 then -1000 - (mcX S).2.1 else (mcX S).2.1) else -10 - mfR S
def mcI (x : (Nat → Nat → Int32) × Int32 × Int32) : Prop := roI x.1 ∧ ¬ x.1 0 1 < 0 ∧ ¬ x.1 1 3 = 0
theorem log_in {S : Nat → Nat → Int32} {A B C w a b c d : Int32} (h1 : ¬ S 0 1 < 0) (h2 : ¬ S 1 3 = 0) (hn : ¬ mv_go A B C = 0 → vp_in (S 0 1) 100) (hb : ¬ mv_go A B C = 0 → ¬ mr_ds (S 1) w a b c d 3 = 0) : (mo_log S A B C w a b c d 0 8 = S 0 8 ∧ mo_log S A B C w a b c d 0 9 = S 0 9) ∧ ¬ mo_log S A B C w a b c d 0 1 < 0 ∧ ¬ mo_log S A B C w a b c d 1 3 = 0 := by
  unfold mo_log
  simp only [sF_eq, sF_ne, sR_eq, sR_ne, upd_eq, upd_ne, Nat.reduceBEq, true_and]
  by_cases g : mv_go A B C = 0
  · rw [if_pos g, if_pos g]; exact ⟨h1, h2⟩
  · rw [if_neg g, if_neg g]
    refine ⟨?_, hb g⟩
    obtain ⟨j, hj, e⟩ := vp_in_of (hn g) (by decide)
    rw [e, nI_1]; exact nI_pos (by omega)
theorem mv_3 {m : Nat → Int32} (h : ¬ m 3 = 0) (a : Int32) : ¬ mr_mv m a 3 = 0 := by
  unfold mr_mv
  split
  · rw [cp_3, upd_ne _ _ _ rfl]; exact h
  · rw [upd_ne _ _ _ rfl]; exact h
theorem ds_3 {m : Nat → Int32} {w a b c d : Int32} (h : ¬ m 3 = 0) (hw : w = 0 ∨ w = 1 ∨ w = 3 ∨ w = 6 ∨ w = 7 ∨ w = 8) : ¬ mr_ds m w a b c d 3 = 0 := by
  unfold mr_ds
  split
  · exact h
  · rcases hw with rfl | rfl | rfl | rfl | rfl | rfl
    · rw [if_pos rfl, upd_ne _ _ _ rfl]; exact h
    · rw [if_neg (by decide), if_pos rfl, upd_ne _ _ _ rfl]; exact h
    · rw [if_neg (by decide), if_neg (by decide), if_neg (by decide), if_pos rfl, upd_ne _ _ _ rfl]; exact h
    · rw [if_neg (by decide), if_neg (by decide), if_neg (by decide), if_neg (by decide), if_neg (by decide), if_neg (by decide), if_pos rfl, cp_3]; exact h
    · rw [if_neg (by decide), if_neg (by decide), if_neg (by decide), if_neg (by decide), if_neg (by decide), if_neg (by decide), if_neg (by decide), if_pos rfl, upd_ne _ _ _ rfl]; exact h
    · rw [if_neg (by decide), if_neg (by decide), if_neg (by decide), if_neg (by decide), if_neg (by decide), if_neg (by decide), if_neg (by decide), if_neg (by decide), if_pos rfl]; exact mv_3 h a
theorem ds_32 {m : Nat → Int32} {a b c d : Int32} (h : ¬ m 3 = 0) (hb : ¬ b = 0) : ¬ mr_ds m 2 a b c d 3 = 0 := by
  unfold mr_ds
  split
  · exact h
  · rw [if_neg (by decide), if_neg (by decide), if_pos rfl, upd_eq]; exact hb
theorem in_ge1 {v : Int32} {hi : Int64} (h : ¬ mv_in (Int32.toInt64 v) 1 hi = 0) : ¬ v = 0 := fun e => h (by
  subst e
  unfold mv_in
  exact if_pos (by decide))
theorem ps_3 (fr : Int32) : ∀ (n : Nat) (x : (Nat → Int32) × Int32 × Int32 × Int32), (lw (psC fr) psB n x).1 3 = x.1 3
  | 0, x => rfl
  | n + 1, x => by
    cases hc : psC fr x with
    | false => rw [lw_f hc]
    | true => rw [lw_t hc, ps_3 fr n]; exact fr_3 x.1
theorem or_in {S : Nat → Nat → Int32} (h1 : ¬ S 0 1 < 0) (h2 : ¬ S 1 3 = 0) : (mo_or S 0 8 = S 0 8 ∧ mo_or S 0 9 = S 0 9) ∧ ¬ mo_or S 0 1 < 0 ∧ ¬ mo_or S 1 3 = 0 := by
  unfold mo_or
  split
  · exact log_in h1 h2 (fun g => hr_n h1 (an_1 (go_a g))) (fun _ => ds_3 h2 (by decide))
  · split
    · exact log_in h1 h2 (fun g => hr_n h1 (an_1 (go_b g))) (fun _ => ds_3 h2 (by decide))
    · split
      · exact log_in h1 h2 (fun g => hr_n h1 (go_a g)) (fun _ => ds_3 h2 (by decide))
      · split
        · exact log_in h1 h2 (fun g => hr_n h1 (go_b g)) (fun g => ds_32 h2 (in_ge1 (an_2 (go_a g))))
        · split
          · exact log_in h1 h2 (fun g => hr_n h1 (an_1 (go_b g))) (fun _ => ds_3 h2 (by decide))
          · split
            · exact log_in h1 h2 (fun g => hr_n h1 (go_b g)) (fun _ => ds_3 h2 (by decide))
            · split
              · exact log_in h1 h2 (fun g => hr_n h1 (go_b g)) (fun _ => ds_3 h2 (by decide))
              · unfold mo_pass
                simp only [sF_eq, sF_ne, sR_eq, sR_ne, upd_eq, upd_ne, Nat.reduceBEq, true_and]
                refine ⟨h1, ?_⟩
                split
                · exact h2
                · unfold psX; rw [ps_3]; exact h2
theorem mcI_B {x : (Nat → Nat → Int32) × Int32 × Int32} (h : mcI x) : mcI (mcB x) := by
  have h1 : ¬ mo_ro x.1 0 1 < 0 := by rw [ro_01]; exact h.2.1
  have h2 : ¬ mo_ro x.1 1 3 = 0 := by rw [ro_r _ rfl]; exact h.2.2
  have q := or_in h1 h2
  have r := roI_ro h.1
  refine ⟨?_, q.2⟩
  show roI (mo_or (mo_ro x.1))
  unfold roI
  rw [q.1.1, q.1.2]
  exact r
theorem mf_all : ∀ (n : Nat) (x : Nat → Nat → Int32), roI x → roI (lw mfC mo_ro n x) ∧ lw mfC mo_ro n x 0 1 = x 0 1 ∧ lw mfC mo_ro n x 1 = x 1
  | 0, x, h => ⟨h, rfl, rfl⟩
  | n + 1, x, h => by
    cases hc : mfC x with
    | false => rw [lw_f hc]; exact ⟨h, rfl, rfl⟩
    | true =>
      rw [lw_t hc]
      have q := mf_all n (mo_ro x) (roI_ro h)
      rw [ro_01, ro_r x (r := 1) rfl] at q
      exact q
theorem mc_0 {S : Nat → Nat → Int32} (g : Int32) (hl : S 0 8 ≤ 120) (hln : ¬ S 0 8 < 0) (hn : ¬ S 0 1 < 0) (hr : ¬ S 1 3 = 0) : mcI (sF (mfS S) 0 9 0, 0, g) := by
  have h0 : roI (sF S 0 9 0) := by
    unfold roI
    simp only [sF_eq, upd_eq, upd_ne, Nat.reduceBEq]
    exact ⟨by decide, Int32.not_lt.mp hln, hl⟩
  have q := mf_all 121 (sF S 0 9 0) h0
  simp only [sF_eq, sF_ne, upd_ne, Nat.reduceBEq] at q
  have q2 : roI (mfS S) ∧ mfS S 0 1 = S 0 1 ∧ mfS S 1 = S 1 := by
    unfold mfS
    split
    · exact q
    · rw [ro_01, ro_r _ (r := 1) rfl]; exact ⟨roI_ro q.1, q.2⟩
  have h8 : ¬ mfS S 0 8 < 0 := fun e => q2.1.1 (Int32.lt_of_le_of_lt q2.1.2.1 e)
  refine ⟨?_, ?_, ?_⟩
  · show roI (sF (mfS S) 0 9 0)
    unfold roI
    simp only [sF_eq, upd_eq, upd_ne, Nat.reduceBEq]
    exact ⟨by decide, Int32.not_lt.mp h8, q2.1.2.2⟩
  · show ¬ (sF (mfS S) 0 9 0) 0 1 < 0
    simp only [sF_eq, upd_ne, Nat.reduceBEq]
    rw [q2.2.1]; exact hn
  · show ¬ (sF (mfS S) 0 9 0) 1 3 = 0
    simp only [sF_ne, Nat.reduceBEq]
    rw [q2.2.2]; exact hr
theorem mf_0 {S : Nat → Nat → Int32} (hl : S 0 8 ≤ 120) (hln : ¬ S 0 8 < 0) : roI (sF S 0 9 0) := by
  unfold roI
  simp only [sF_eq, upd_eq, upd_ne, Nat.reduceBEq]
  exact ⟨by decide, Int32.not_lt.mp hln, hl⟩
def hd1 (m : Nat → Int32) (c n : Int32) (k : Nat) (h : Int64) : Int64 := 31 * h + Int32.toInt64 (mv_st m c n (nI k))
def hd2 (m : Nat → Int32) (k : Nat) (h : Int64) : Int64 := 31 * h + Int32.toInt64 (m (7 + k))
abbrev d4 : Type := (Nat → Int32) × (Nat → Int32) × (Nat → Int32) × Int64
def hd3 (k : Nat) (x : d4) : d4 := (mr_t1 x.1 x.2.1 (mr_ls x.1 (mr_ls x.1 x.2.2.1)) (nI k), mr_t2 x.1 x.2.1 (mr_ls x.1 (mr_ls x.1 x.2.2.1)) (nI k), mr_t4 x.1 (mr_ls x.1 (mr_ls x.1 x.2.2.1)) (nI k), 31 * (31 * (31 * x.2.2.2 + Int32.toInt64 (mv_sh x.1 (mr_ls x.1 x.2.2.1) (nI k) 0)) + Int32.toInt64 (mv_sh x.1 (mr_ls x.1 (mr_ls x.1 x.2.2.1)) (nI k) 1)) + Int32.toInt64 (mv_ty x.1 (mr_ls x.1 (mr_ls x.1 x.2.2.1)) (nI k)))
def hd4C (n : Int32) (x : Int64 × Int32) : Bool := if n ≤ x.2 then false else true
def hd4B (E : Nat → Int32) (x : Int64 × Int32) : Int64 × Int32 := (31 * (31 * (31 * (31 * x.1 + Int32.toInt64 (E (6 * cl x.2))) + Int32.toInt64 (E (6 * cl x.2 + 1))) + Int32.toInt64 (E (6 * cl x.2 + 2))) + Int32.toInt64 (E (6 * cl x.2 + 3)), x.2 + 1)
def hd4X (E : Nat → Int32) (n : Int32) (h : Int64) : Int64 × Int32 := lw (hd4C n) (hd4B E) 101 (h, 0)
def hd0 (m : Nat → Int32) (c n L : Int32) : Int64 := it (hd2 m) 12 (it (hd1 m c n) 9 (31 * 3253 + Int32.toInt64 L))
def hd3X (m a s : Nat → Int32) (c n L : Int32) (k : Nat) : d4 := it hd3 k (m, a, s, hd0 m c n L)
theorem hd4_c {n : Int32} {x : Int64 × Int32} (h : hd4C n x = true) : ¬ n ≤ x.2 := fun e => by unfold hd4C at h; rw [if_pos e] at h; cases h
theorem hd4_stop (E : Nat → Int32) {n : Int32} (h : Int64) (hn : n ≤ 100) : hd4C n (hd4X E n h) = false := by
  refine lw_stop (fun x => ¬ x.2 < 0) (fun x => 100 - x.2.toNatClampNeg) ?_ ?_ 101 _ (show ¬ (0 : Int32) < 0 by decide) (by show 100 - _ < 101; omega)
  · intro x hx hc
    obtain ⟨j, hj, -, e⟩ := da_x hn hx (hd4_c hc)
    show ¬ x.2 + 1 < 0
    rw [e, nI_1]; exact nI_pos (by omega)
  · intro x hx hc
    obtain ⟨j, hj, -, e⟩ := da_x hn hx (hd4_c hc)
    show 100 - (x.2 + 1).toNatClampNeg < 100 - x.2.toNatClampNeg
    rw [e, nI_1, nI_clamp (by omega), nI_clamp (by omega)]; omega
theorem hd4_1 {n : Int32} {E : Nat → Int32} {x : Int64 × Int32} (hn : n ≤ 100) (hx : ¬ x.2 < 0) (h2 : ¬ n ≤ x.2) : ¬ (hd4B E x).2 < 0 := by
  obtain ⟨j, hj, -, e⟩ := da_x hn hx h2
  show ¬ x.2 + 1 < 0
  rw [e, nI_1]; exact nI_pos (by omega)
theorem ly_k (m : Nat → Int32) : ∀ (n : Nat) (a : Nat → Int32) (k : Nat), it (mr_c1 m) n a k = if k < n then m k else a k
  | 0, a, k => by rw [it_0, if_neg (by omega)]
  | n + 1, a, k => by
    rw [it_s]
    show upd (it (mr_c1 m) n a) n (m n) k = _
    unfold upd
    split
    · rename_i e; subst e; rw [if_pos (by omega)]
    · rename_i e
      rw [ly_k m n a k]
      by_cases h : k < n
      · rw [if_pos h, if_pos (by omega)]
      · rw [if_neg h, if_neg (by omega)]
theorem tb_k (m a : Nat → Int32) {k : Nat} (h : k < 20) : mr_tb m a k = m k := by
  unfold mr_tb mr_ly
  rw [ly_k, if_pos h, ly_k, if_pos h]
theorem okm_eq {m m' : Nat → Int32} (h : ∀ k, k < 20 → m' k = m k) (o : okm m) : okm m' := by
  unfold okm
  rw [h 0 (by omega), h 1 (by omega), h 7 (by omega), h 11 (by omega), h 15 (by omega), h 3 (by omega)]
  exact o
theorem okm_t1 {m : Nat → Int32} (a s : Nat → Int32) (q : Int32) (o : okm m) : okm (mr_t1 m a s q) := by
  unfold mr_t1
  split
  · exact o
  · exact okm_eq (fun k h => tb_k m a h) o
theorem hd3_ok {m a s : Nat → Int32} {c n L : Int32} {k : Nat} (h : okm (hd3X m a s c n L k).1) : okm (hd3X m a s c n L (k + 1)).1 := by
  unfold hd3X at h ⊢
  rw [it_s]
  exact okm_t1 _ _ _ h
theorem k7_in {i : Nat} (h : i < 12) : vp_in (7 + nI i) 20 ∧ (7 + nI i).toNatClampNeg = 7 + i := by
  rw [show 7 + nI i = nI (7 + i) from nI_add 7 i, nI_clamp (by omega)]
  exact ⟨vp_in_nI (by omega) (by decide), rfl⟩
set_option maxHeartbeats 4000000 in
set_option maxRecDepth 100000 in
theorem k_X6_faultOf (l : Launch) (D : va_G) {cI : ClassId} {tys : List (ClassId × FieldType)} (ht0 : tys[0]? = some (cI, .int)) (aS : Nat → Nat) (S : Nat → Nat → Int32) (h_l : (S 0 8) ≤ 120) (h_ln : ¬ (S 0 8) < 0) (h_fs : mfC (mfX S) = false) (sz : Nat) : kI l yX6_faultOf cX6_faultOf 1 (some .int) { frames := 3, cells := 0, slots := 0, locals := 71 } D tys [.ref (aS 0)] (wMd cI aS S) (wMd cI aS (mfS S)) (mfR S) 0 0 sz := by
  refine y_enterI (cc := cX6_faultOf) (maxL := 1) (ret := (some .int)) (own := RX6) (by decide) rfl (lv0 := [(0, .ref (aS 0))]) rfl (Nat.le_of_ble_eq_true rfl) ?_
  intro p e s m args below meth c A Z hr hlk _
  have L5 : ∀ (n : Nat) (x : (Nat → Nat → Int32)), roI x → mfC (lw mfC mo_ro n x) = false → lw mfC mo_ro n x = (lw mfC mo_ro 121 (sF S 0 9 0)) → Yy p l e { frames := 3, cells := 0, slots := 0, locals := 71 } s m args below meth c (QI D tys A (wMd cI aS (mfS S)) (mfR S) below args s 0 0) D A 1 0 0 (wMd cI aS x) [(0, .ref (aS 0))] [] 5 := by
    intro n; induction n with
    | zero =>
      intro x hI hc hx
      refine y_aload_n Z dX6_faultOf_5 0 rfl rfl ?_
      refine y_get (C := RX6) (T := TX6) (N := 19) Z 6 inlX6 rfl 0 rfl 15 (by decide) fl_RX6_187 rfl dX6_faultOf_6 ?_
      refine y_aload_n Z dX6_faultOf_9 0 rfl rfl ?_
      refine y_get (C := RX6) (T := TX6) (N := 19) Z 6 inlX6 rfl 0 rfl 14 (by decide) fl_RX6_184 rfl dX6_faultOf_10 ?_
      refine y_icmp_ge (tgt := 28) Z dX6_faultOf_13 (by decide) (fun h1 => ?_) (fun h2 => ?_)
      · have hb : mfC x = false := by simp only [mfC, h1, ↓reduceIte]
        have ex : x = (lw mfC mo_ro 121 (sF S 0 9 0)) := by rw [← hx, lw_f hb]
        refine y_iconst (v := -1) Z dX6_faultOf_28 (by decide) ?_
        exact y_retI Z hr hlk dX6_faultOf_29 (by subst ex; first | (simp only [mfR, mfS, mfX, h1, if_true, if_false, not_false_eq_true, not_true_eq_false, ↓reduceIte]; done) | (simp only [mfR, mfS, mfX, h1, if_true, if_false, not_false_eq_true, not_true_eq_false, ↓reduceIte, wMix, wLog, wPic, wRep, wScr, wVM, wMd, sR_eq, sR_ne, sF_eq, sF_ne, upd_eq, upd_ne, gs_eq, gs_ne, gm_4, gm_ne, Nat.reduceBEq]; done) | (with_reducible rfl) | contradiction | (simp only [mfR, mfS, mfX, h1, if_true, if_false, not_false_eq_true, not_true_eq_false, ↓reduceIte]; rfl) | rfl) (by subst ex; first | (simp only [mfR, mfS, mfX, h1, if_true, if_false, not_false_eq_true, not_true_eq_false, ↓reduceIte]; done) | (simp only [mfR, mfS, mfX, h1, if_true, if_false, not_false_eq_true, not_true_eq_false, ↓reduceIte, wMix, wLog, wPic, wRep, wScr, wVM, wMd, sR_eq, sR_ne, sF_eq, sF_ne, upd_eq, upd_ne, gs_eq, gs_ne, gm_4, gm_ne, Nat.reduceBEq]; done) | (with_reducible rfl) | contradiction | (simp only [mfR, mfS, mfX, h1, if_true, if_false, not_false_eq_true, not_true_eq_false, ↓reduceIte]; rfl) | rfl)
      · refine y_aload_n Z dX6_faultOf_16 0 rfl rfl ?_
        refine y_VIw Z (k_X6_readsOrder l D ht0 aS x hI.2.2 hI.1) (y_cwV 0 Z ml_RX6_240 im_X6_readsOrder se_X6_readsOrder in_X6 co_X6_readsOrder rfl rfl hd_X6_readsOrder ⟨Nat.le_of_ble_eq_true rfl, Nat.le_of_ble_eq_true rfl⟩) List.nil List.nil (by simp only [List.nil_append, List.append_nil, wMix, wLog, wPic, wRep, wScr, wVM, wMd, sR_eq, sR_ne, sF_eq, sF_ne, upd_eq, upd_ne, gs_eq, gs_ne, gm_4, gm_ne, Nat.reduceBEq]) 6 0 rfl rfl rfl rfl (Nat.le_of_ble_eq_true rfl) dX6_faultOf_17 ⟨Nat.le_of_ble_eq_true rfl, Nat.le_of_ble_eq_true rfl⟩ (wMd cI aS (mo_ro x)) (by simp only [List.nil_append, List.append_nil, wMix, wLog, wPic, wRep, wScr, wVM, wMd, sR_eq, sR_ne, sF_eq, sF_ne, upd_eq, upd_ne, gs_eq, gs_ne, gm_4, gm_ne, Nat.reduceBEq]) ?_
        refine y_eq rfl rfl (st' := [.int (mv_ro (x 6) (x 0 8) (x 0 9))]) (by first | with_reducible rfl | simp only [wMix, wLog, wPic, wRep, wScr, wVM, wMd, sR_eq, sR_ne, sF_eq, sF_ne, upd_eq, upd_ne, gs_eq, gs_ne, gm_4, gm_ne, Nat.reduceBEq]) ?_
        refine y_if_ne (tgt := 5) Z dX6_faultOf_20 (by decide) (fun h3 => ?_) (fun h4 => ?_)
        · exact absurd (show mfC x = true by simp only [mfC, h2, h3, ↓reduceIte]) (by rw [show mfC x = false from hc]; decide)
        · have hb : mfC x = false := by simp only [mfC, h2, eq_true h4, ↓reduceIte]
          have ex : x = (lw mfC mo_ro 121 (sF S 0 9 0)) := by rw [← hx, lw_f hb]
          refine y_aload_n Z dX6_faultOf_23 0 rfl rfl ?_
          refine y_get (C := RX6) (T := TX6) (N := 19) Z 6 inlX6 rfl 0 rfl 15 (by decide) fl_RX6_187 rfl dX6_faultOf_24 ?_
          exact y_retI Z hr hlk dX6_faultOf_27 (by subst ex; first | (simp only [mfR, mfS, mfX, h2, eq_true h4, if_true, if_false, not_false_eq_true, not_true_eq_false, ↓reduceIte]; done) | (simp only [mfR, mfS, mfX, h2, eq_true h4, if_true, if_false, not_false_eq_true, not_true_eq_false, ↓reduceIte, wMix, wLog, wPic, wRep, wScr, wVM, wMd, sR_eq, sR_ne, sF_eq, sF_ne, upd_eq, upd_ne, gs_eq, gs_ne, gm_4, gm_ne, Nat.reduceBEq]; done) | (with_reducible rfl) | contradiction | (simp only [mfR, mfS, mfX, h2, eq_true h4, if_true, if_false, not_false_eq_true, not_true_eq_false, ↓reduceIte]; rfl) | rfl) (by subst ex; first | (simp only [mfR, mfS, mfX, h2, eq_true h4, if_true, if_false, not_false_eq_true, not_true_eq_false, ↓reduceIte]; done) | (simp only [mfR, mfS, mfX, h2, eq_true h4, if_true, if_false, not_false_eq_true, not_true_eq_false, ↓reduceIte, wMix, wLog, wPic, wRep, wScr, wVM, wMd, sR_eq, sR_ne, sF_eq, sF_ne, upd_eq, upd_ne, gs_eq, gs_ne, gm_4, gm_ne, Nat.reduceBEq]; done) | (with_reducible rfl) | contradiction | (simp only [mfR, mfS, mfX, h2, eq_true h4, if_true, if_false, not_false_eq_true, not_true_eq_false, ↓reduceIte]; rfl) | rfl)
    | succ n ih =>
      intro x hI hc hx
      refine y_aload_n Z dX6_faultOf_5 0 rfl rfl ?_
      refine y_get (C := RX6) (T := TX6) (N := 19) Z 6 inlX6 rfl 0 rfl 15 (by decide) fl_RX6_187 rfl dX6_faultOf_6 ?_
      refine y_aload_n Z dX6_faultOf_9 0 rfl rfl ?_
      refine y_get (C := RX6) (T := TX6) (N := 19) Z 6 inlX6 rfl 0 rfl 14 (by decide) fl_RX6_184 rfl dX6_faultOf_10 ?_
      refine y_icmp_ge (tgt := 28) Z dX6_faultOf_13 (by decide) (fun h5 => ?_) (fun h6 => ?_)
      · have hb : mfC x = false := by simp only [mfC, h5, ↓reduceIte]
        have ex : x = (lw mfC mo_ro 121 (sF S 0 9 0)) := by rw [← hx, lw_f hb]
        refine y_iconst (v := -1) Z dX6_faultOf_28 (by decide) ?_
        exact y_retI Z hr hlk dX6_faultOf_29 (by subst ex; first | (simp only [mfR, mfS, mfX, h5, if_true, if_false, not_false_eq_true, not_true_eq_false, ↓reduceIte]; done) | (simp only [mfR, mfS, mfX, h5, if_true, if_false, not_false_eq_true, not_true_eq_false, ↓reduceIte, wMix, wLog, wPic, wRep, wScr, wVM, wMd, sR_eq, sR_ne, sF_eq, sF_ne, upd_eq, upd_ne, gs_eq, gs_ne, gm_4, gm_ne, Nat.reduceBEq]; done) | (with_reducible rfl) | contradiction | (simp only [mfR, mfS, mfX, h5, if_true, if_false, not_false_eq_true, not_true_eq_false, ↓reduceIte]; rfl) | rfl) (by subst ex; first | (simp only [mfR, mfS, mfX, h5, if_true, if_false, not_false_eq_true, not_true_eq_false, ↓reduceIte]; done) | (simp only [mfR, mfS, mfX, h5, if_true, if_false, not_false_eq_true, not_true_eq_false, ↓reduceIte, wMix, wLog, wPic, wRep, wScr, wVM, wMd, sR_eq, sR_ne, sF_eq, sF_ne, upd_eq, upd_ne, gs_eq, gs_ne, gm_4, gm_ne, Nat.reduceBEq]; done) | (with_reducible rfl) | contradiction | (simp only [mfR, mfS, mfX, h5, if_true, if_false, not_false_eq_true, not_true_eq_false, ↓reduceIte]; rfl) | rfl)
      · refine y_aload_n Z dX6_faultOf_16 0 rfl rfl ?_
        refine y_VIw Z (k_X6_readsOrder l D ht0 aS x hI.2.2 hI.1) (y_cwV 0 Z ml_RX6_240 im_X6_readsOrder se_X6_readsOrder in_X6 co_X6_readsOrder rfl rfl hd_X6_readsOrder ⟨Nat.le_of_ble_eq_true rfl, Nat.le_of_ble_eq_true rfl⟩) List.nil List.nil (by simp only [List.nil_append, List.append_nil, wMix, wLog, wPic, wRep, wScr, wVM, wMd, sR_eq, sR_ne, sF_eq, sF_ne, upd_eq, upd_ne, gs_eq, gs_ne, gm_4, gm_ne, Nat.reduceBEq]) 6 0 rfl rfl rfl rfl (Nat.le_of_ble_eq_true rfl) dX6_faultOf_17 ⟨Nat.le_of_ble_eq_true rfl, Nat.le_of_ble_eq_true rfl⟩ (wMd cI aS (mo_ro x)) (by simp only [List.nil_append, List.append_nil, wMix, wLog, wPic, wRep, wScr, wVM, wMd, sR_eq, sR_ne, sF_eq, sF_ne, upd_eq, upd_ne, gs_eq, gs_ne, gm_4, gm_ne, Nat.reduceBEq]) ?_
        refine y_eq rfl rfl (st' := [.int (mv_ro (x 6) (x 0 8) (x 0 9))]) (by first | with_reducible rfl | simp only [wMix, wLog, wPic, wRep, wScr, wVM, wMd, sR_eq, sR_ne, sF_eq, sF_ne, upd_eq, upd_ne, gs_eq, gs_ne, gm_4, gm_ne, Nat.reduceBEq]) ?_
        refine y_if_ne (tgt := 5) Z dX6_faultOf_20 (by decide) (fun h7 => ?_) (fun h8 => ?_)
        · have hb : mfC x = true := by simp only [mfC, h6, h7, ↓reduceIte]
          refine y_eq (ws' := (wMd cI aS (mo_ro x))) (lv' := [(0, .ref (aS 0))]) (st' := []) (by first | (simp only [h6, h7, if_true, if_false, not_false_eq_true, not_true_eq_false, ↓reduceIte]; done) | (simp only [h6, h7, if_true, if_false, not_false_eq_true, not_true_eq_false, ↓reduceIte, wMix, wLog, wPic, wRep, wScr, wVM, wMd, sR_eq, sR_ne, sF_eq, sF_ne, upd_eq, upd_ne, gs_eq, gs_ne, gm_4, gm_ne, Nat.reduceBEq]; done) | (with_reducible rfl) | contradiction | (simp only [h6, h7, if_true, if_false, not_false_eq_true, not_true_eq_false, ↓reduceIte]; rfl) | rfl) (by first | (simp only [h6, h7, if_true, if_false, not_false_eq_true, not_true_eq_false, ↓reduceIte]; done) | (simp only [h6, h7, if_true, if_false, not_false_eq_true, not_true_eq_false, ↓reduceIte, wMix, wLog, wPic, wRep, wScr, wVM, wMd, sR_eq, sR_ne, sF_eq, sF_ne, upd_eq, upd_ne, gs_eq, gs_ne, gm_4, gm_ne, Nat.reduceBEq]; done) | (with_reducible rfl) | contradiction | (simp only [h6, h7, if_true, if_false, not_false_eq_true, not_true_eq_false, ↓reduceIte]; rfl) | rfl) rfl ?_
          exact ih _ (roI_ro hI) (by rw [lw_t hb] at hc; exact hc) (by rw [lw_t hb] at hx; exact hx)
        · have hb : mfC x = false := by simp only [mfC, h6, eq_true h8, ↓reduceIte]
          have ex : x = (lw mfC mo_ro 121 (sF S 0 9 0)) := by rw [← hx, lw_f hb]
          refine y_aload_n Z dX6_faultOf_23 0 rfl rfl ?_
          refine y_get (C := RX6) (T := TX6) (N := 19) Z 6 inlX6 rfl 0 rfl 15 (by decide) fl_RX6_187 rfl dX6_faultOf_24 ?_
          exact y_retI Z hr hlk dX6_faultOf_27 (by subst ex; first | (simp only [mfR, mfS, mfX, h6, eq_true h8, if_true, if_false, not_false_eq_true, not_true_eq_false, ↓reduceIte]; done) | (simp only [mfR, mfS, mfX, h6, eq_true h8, if_true, if_false, not_false_eq_true, not_true_eq_false, ↓reduceIte, wMix, wLog, wPic, wRep, wScr, wVM, wMd, sR_eq, sR_ne, sF_eq, sF_ne, upd_eq, upd_ne, gs_eq, gs_ne, gm_4, gm_ne, Nat.reduceBEq]; done) | (with_reducible rfl) | contradiction | (simp only [mfR, mfS, mfX, h6, eq_true h8, if_true, if_false, not_false_eq_true, not_true_eq_false, ↓reduceIte]; rfl) | rfl) (by subst ex; first | (simp only [mfR, mfS, mfX, h6, eq_true h8, if_true, if_false, not_false_eq_true, not_true_eq_false, ↓reduceIte]; done) | (simp only [mfR, mfS, mfX, h6, eq_true h8, if_true, if_false, not_false_eq_true, not_true_eq_false, ↓reduceIte, wMix, wLog, wPic, wRep, wScr, wVM, wMd, sR_eq, sR_ne, sF_eq, sF_ne, upd_eq, upd_ne, gs_eq, gs_ne, gm_4, gm_ne, Nat.reduceBEq]; done) | (with_reducible rfl) | contradiction | (simp only [mfR, mfS, mfX, h6, eq_true h8, if_true, if_false, not_false_eq_true, not_true_eq_false, ↓reduceIte]; rfl) | rfl)
  refine y_aload_n Z dX6_faultOf_0 0 rfl rfl ?_
  refine y_iconst (v := 0) Z dX6_faultOf_1 (by decide) ?_
  refine y_put (C := RX6) (T := TX6) (N := 19) Z 6 inlX6 rfl tyX6 tyX6_ok nmX6 0 rfl 15 (by decide) fl_RX6_187 rfl rfl rfl (Nat.le_of_ble_eq_true rfl) (wMdR cI aS (S 0 0) (S 0 1) (S 0 2) (S 0 3) (S 0 4) (S 0 5) (S 0 6) (S 0 7) (S 0 8) 0 (S 0 10) (S 0 11) (S 0 12) (S 1) (S 2) (S 3) (S 4) (S 5) (S 6)) rfl dX6_faultOf_2 ?_
  refine y_eq (ws' := (wMd cI aS (sF S 0 9 0))) (lv' := [(0, .ref (aS 0))]) (st' := []) (by first | (with_reducible rfl) | (simp only [wMix, wLog, wPic, wRep, wScr, wVM, wMd, sR_eq, sR_ne, sF_eq, sF_ne, upd_eq, upd_ne, gs_eq, gs_ne, gm_4, gm_ne, Nat.reduceBEq]; done) | rfl) (by first | (with_reducible rfl) | (simp only [wMix, wLog, wPic, wRep, wScr, wVM, wMd, sR_eq, sR_ne, sF_eq, sF_ne, upd_eq, upd_ne, gs_eq, gs_ne, gm_4, gm_ne, Nat.reduceBEq]; done) | rfl) rfl ?_
  exact L5 121 (sF S 0 9 0) (mf_0 h_l h_ln) h_fs rfl
set_option maxHeartbeats 4000000 in
set_option maxRecDepth 100000 in
theorem k_X6_carryOut (l : Launch) (D : va_G) {cI : ClassId} {tys : List (ClassId × FieldType)} (ht0 : tys[0]? = some (cI, .int)) (aS : Nat → Nat) (S : Nat → Nat → Int32) (h_l : (S 0 8) ≤ 120) (h_ln : ¬ (S 0 8) < 0) (h_nn : ¬ (S 0 1) < 0) (h_r : ¬ (S 1) 3 = 0) (h_fs : mfC (mfX S) = false) (h_cs : mcC (mcX S) = false) (h_n2 : mfS S 0 1 ≤ 100) (h_c2 : mfS S 0 0 ≤ 5000) (h_v2 : lgv ((mcX S).1 3) (mfS S 0 1)) (sz : Nat) : kI l yX6_carryOut cX6_carryOut 7 (some .int) { frames := 7, cells := 0, slots := 0, locals := 160 } D tys [.ref (aS 0)] (wMd cI aS S) (wMd cI aS (mcS S)) (mcR S) 0 0 sz := by
  refine y_enterI (cc := cX6_carryOut) (maxL := 7) (ret := (some .int)) (own := RX6) (by decide) rfl (lv0 := [(0, .ref (aS 0))]) rfl (Nat.le_of_ble_eq_true rfl) ?_
  intro p e s m args below meth c A Z hr hlk _
  have L35 : ∀ (n : Nat) (x : (Nat → Nat → Int32) × Int32 × Int32), mcI x → mcC (lw mcC mcB n x) = false → lw mcC mcB n x = (lw mcC mcB 121 (sF (mfS S) 0 9 0, 0, mv_eq (mfR S) (-1))) → Yy p l e { frames := 7, cells := 0, slots := 0, locals := 160 } s m args below meth c (QI D tys A (wMd cI aS (mcS S)) (mcR S) below args s 0 0) D A 7 0 0 (wMd cI aS x.1) [(0, .ref (aS 0)), (1, .int (mfR S)), (2, .int (mfS S 0 1)), (3, .int (mfS S 0 0)), (4, .int x.2.1), (5, .int x.2.2)] [] 35 := by
    intro n; induction n with
    | zero =>
      intro x hI hc hx
      refine y_iload Z dX6_carryOut_35 5 rfl ?_
      refine y_if_eq (tgt := 81) Z dX6_carryOut_37 (by decide) (fun h1 => ?_) (fun h2 => ?_)
      · have hb : mcC x = false := by simp only [mcC, eq_true h1, ↓reduceIte]
        have ex : x = (lw mcC mcB 121 (sF (mfS S) 0 9 0, 0, mv_eq (mfR S) (-1))) := by rw [← hx, lw_f hb]
        refine y_aload_n Z dX6_carryOut_81 0 rfl rfl ?_
        refine y_iconst (v := 0) Z dX6_carryOut_82 (by decide) ?_
        refine y_put (C := RX6) (T := TX6) (N := 19) Z 6 inlX6 rfl tyX6 tyX6_ok nmX6 0 rfl 5 (by decide) fl_RX6_31 rfl rfl rfl (Nat.le_of_ble_eq_true rfl) (wMdR cI aS (x.1 0 0) (x.1 0 1) 0 (x.1 0 3) (x.1 0 4) (x.1 0 5) (x.1 0 6) (x.1 0 7) (x.1 0 8) (x.1 0 9) (x.1 0 10) (x.1 0 11) (x.1 0 12) (x.1 1) (x.1 2) (x.1 3) (x.1 4) (x.1 5) (x.1 6)) rfl dX6_carryOut_83 ?_
        refine y_iload Z dX6_carryOut_86 5 rfl ?_
        refine y_if_ne (tgt := 110) Z dX6_carryOut_88 (by decide) (fun h3 => ?_) (fun h4 => ?_)
        · exact absurd h1 h3
        · refine y_aload_n Z dX6_carryOut_91 0 rfl rfl ?_
          refine y_iload_n Z dX6_carryOut_92 2 rfl rfl ?_
          refine y_put (C := RX6) (T := TX6) (N := 19) Z 6 inlX6 rfl tyX6 tyX6_ok nmX6 0 rfl 4 (by decide) fl_RX6_68 rfl rfl rfl (Nat.le_of_ble_eq_true rfl) (wMdR cI aS (x.1 0 0) (mfS S 0 1) 0 (x.1 0 3) (x.1 0 4) (x.1 0 5) (x.1 0 6) (x.1 0 7) (x.1 0 8) (x.1 0 9) (x.1 0 10) (x.1 0 11) (x.1 0 12) (x.1 1) (x.1 2) (x.1 3) (x.1 4) (x.1 5) (x.1 6)) rfl dX6_carryOut_93 ?_
          refine y_aload_n Z dX6_carryOut_96 0 rfl rfl ?_
          refine y_iload_n Z dX6_carryOut_97 3 rfl rfl ?_
          refine y_put (C := RX6) (T := TX6) (N := 19) Z 6 inlX6 rfl tyX6 tyX6_ok nmX6 0 rfl 2 (by decide) fl_RX6_71 rfl rfl rfl (Nat.le_of_ble_eq_true rfl) (wMdR cI aS (mfS S 0 0) (mfS S 0 1) 0 (x.1 0 3) (x.1 0 4) (x.1 0 5) (x.1 0 6) (x.1 0 7) (x.1 0 8) (x.1 0 9) (x.1 0 10) (x.1 0 11) (x.1 0 12) (x.1 1) (x.1 2) (x.1 3) (x.1 4) (x.1 5) (x.1 6)) rfl dX6_carryOut_98 ?_
          refine y_aload_n Z dX6_carryOut_101 0 rfl rfl ?_
          refine y_aload_n Z dX6_carryOut_102 0 rfl rfl ?_
          refine y_get (C := RX6) (T := TX6) (N := 19) Z 6 inlX6 rfl 0 rfl 2 (by decide) fl_RX6_71 rfl dX6_carryOut_103 ?_
          refine y_iconst (v := -1) Z dX6_carryOut_106 (by decide) ?_
          refine y_VVw Z (k_X6_goesTo l D ht0 aS (sF (sF (sF x.1 0 2 0) 0 1 (mfS S 0 1)) 0 0 (mfS S 0 0)) (mfS S 0 0) (-1) (by first | (simp only [sR_eq, sR_ne, sF_eq, sF_ne, upd_eq, upd_ne, Nat.reduceBEq]; exact h_n2) | exact h_n2) (by subst ex; simp only [sR_eq, sR_ne, sF_eq, sF_ne, upd_eq, upd_ne, Nat.reduceBEq]; exact h_v2) (by first | (simp only [sR_eq, sR_ne, sF_eq, sF_ne, upd_eq, upd_ne, Nat.reduceBEq]; exact h_c2) | exact h_c2)) (y_cwV 2 Z ml_RX6_161 im_X6_goesTo se_X6_goesTo in_X6 co_X6_goesTo rfl rfl hd_X6_goesTo ⟨Nat.le_of_ble_eq_true rfl, Nat.le_of_ble_eq_true rfl⟩) List.nil List.nil (by simp only [List.nil_append, List.append_nil, wMix, wLog, wPic, wRep, wScr, wVM, wMd, sR_eq, sR_ne, sF_eq, sF_ne, upd_eq, upd_ne, gs_eq, gs_ne, gm_4, gm_ne, Nat.reduceBEq]) 6 0 rfl rfl rfl rfl (Nat.le_of_ble_eq_true rfl) dX6_carryOut_107 ⟨Nat.le_of_ble_eq_true rfl, Nat.le_of_ble_eq_true rfl⟩ (wMdR cI aS (mfS S 0 0) (mfS S 0 1) 0 ((gtX (x.1 3) (mfS S 0 1) (mfS S 0 0) (-1) (x.1 1)).2.1) ((gtX (x.1 3) (mfS S 0 1) (mfS S 0 0) (-1) (x.1 1)).2.2.1) (x.1 0 5) (x.1 0 6) (x.1 0 7) (x.1 0 8) (x.1 0 9) (x.1 0 10) (x.1 0 11) (x.1 0 12) ((gtX (x.1 3) (mfS S 0 1) (mfS S 0 0) (-1) (x.1 1)).1) (x.1 2) (x.1 3) (x.1 4) (x.1 5) (x.1 6)) (by simp only [List.nil_append, List.append_nil, wMix, wLog, wPic, wRep, wScr, wVM, wMd, sR_eq, sR_ne, sF_eq, sF_ne, upd_eq, upd_ne, gs_eq, gs_ne, gm_4, gm_ne, Nat.reduceBEq]) ?_
          refine y_iload_n Z dX6_carryOut_110 1 rfl rfl ?_
          refine y_iconst (v := -1) Z dX6_carryOut_111 (by decide) ?_
          refine y_icmp_eq (tgt := 122) Z dX6_carryOut_112 (by decide) (fun h5 => ?_) (fun h6 => ?_)
          · refine y_iload Z dX6_carryOut_122 5 rfl ?_
            refine y_if_eq (tgt := 132) Z dX6_carryOut_124 (by decide) (fun h7 => ?_) (fun h8 => ?_)
            · refine y_sipush (v := -1000) Z dX6_carryOut_132 (by decide) ?_
              refine y_iload Z dX6_carryOut_135 4 rfl ?_
              refine y_isub Z dX6_carryOut_137 ?_
              exact y_retI Z hr hlk dX6_carryOut_138 (by subst ex; first | (simp only [mcR, mcS, mcX, mo_gt, mc_u, eq_true h1, eq_true h4, eq_true h5, eq_true h7, if_true, if_false, not_false_eq_true, not_true_eq_false, ↓reduceIte]; done) | (simp only [mcR, mcS, mcX, mo_gt, mc_u, eq_true h1, eq_true h4, eq_true h5, eq_true h7, if_true, if_false, not_false_eq_true, not_true_eq_false, ↓reduceIte, wMix, wLog, wPic, wRep, wScr, wVM, wMd, sR_eq, sR_ne, sF_eq, sF_ne, upd_eq, upd_ne, gs_eq, gs_ne, gm_4, gm_ne, Nat.reduceBEq]; done) | (with_reducible rfl) | contradiction | (simp only [mcR, mcS, mcX, mo_gt, mc_u, eq_true h1, eq_true h4, eq_true h5, eq_true h7, if_true, if_false, not_false_eq_true, not_true_eq_false, ↓reduceIte]; rfl) | rfl) (by subst ex; first | (simp only [mcR, mcS, mcX, mo_gt, mc_u, eq_true h1, eq_true h4, eq_true h5, eq_true h7, if_true, if_false, not_false_eq_true, not_true_eq_false, ↓reduceIte]; done) | (simp only [mcR, mcS, mcX, mo_gt, mc_u, eq_true h1, eq_true h4, eq_true h5, eq_true h7, if_true, if_false, not_false_eq_true, not_true_eq_false, ↓reduceIte, wMix, wLog, wPic, wRep, wScr, wVM, wMd, sR_eq, sR_ne, sF_eq, sF_ne, upd_eq, upd_ne, gs_eq, gs_ne, gm_4, gm_ne, Nat.reduceBEq]; done) | (with_reducible rfl) | contradiction | (simp only [mcR, mcS, mcX, mo_gt, mc_u, eq_true h1, eq_true h4, eq_true h5, eq_true h7, if_true, if_false, not_false_eq_true, not_true_eq_false, ↓reduceIte]; rfl) | rfl)
            · exact absurd h1 h8
          · refine y_bipush (v := -10) Z dX6_carryOut_115 (by decide) ?_
            refine y_iload_n Z dX6_carryOut_117 1 rfl rfl ?_
            refine y_isub Z dX6_carryOut_118 ?_
            refine y_goto (tgt := 138) Z dX6_carryOut_119 (by decide) ?_
            exact y_retI Z hr hlk dX6_carryOut_138 (by subst ex; first | (simp only [mcR, mcS, mcX, mo_gt, mc_u, eq_true h1, eq_true h4, h6, if_true, if_false, not_false_eq_true, not_true_eq_false, ↓reduceIte]; done) | (simp only [mcR, mcS, mcX, mo_gt, mc_u, eq_true h1, eq_true h4, h6, if_true, if_false, not_false_eq_true, not_true_eq_false, ↓reduceIte, wMix, wLog, wPic, wRep, wScr, wVM, wMd, sR_eq, sR_ne, sF_eq, sF_ne, upd_eq, upd_ne, gs_eq, gs_ne, gm_4, gm_ne, Nat.reduceBEq]; done) | (with_reducible rfl) | contradiction | (simp only [mcR, mcS, mcX, mo_gt, mc_u, eq_true h1, eq_true h4, h6, if_true, if_false, not_false_eq_true, not_true_eq_false, ↓reduceIte]; rfl) | rfl) (by subst ex; first | (simp only [mcR, mcS, mcX, mo_gt, mc_u, eq_true h1, eq_true h4, h6, if_true, if_false, not_false_eq_true, not_true_eq_false, ↓reduceIte]; done) | (simp only [mcR, mcS, mcX, mo_gt, mc_u, eq_true h1, eq_true h4, h6, if_true, if_false, not_false_eq_true, not_true_eq_false, ↓reduceIte, wMix, wLog, wPic, wRep, wScr, wVM, wMd, sR_eq, sR_ne, sF_eq, sF_ne, upd_eq, upd_ne, gs_eq, gs_ne, gm_4, gm_ne, Nat.reduceBEq]; done) | (with_reducible rfl) | contradiction | (simp only [mcR, mcS, mcX, mo_gt, mc_u, eq_true h1, eq_true h4, h6, if_true, if_false, not_false_eq_true, not_true_eq_false, ↓reduceIte]; rfl) | rfl)
      · refine y_aload_n Z dX6_carryOut_40 0 rfl rfl ?_
        refine y_get (C := RX6) (T := TX6) (N := 19) Z 6 inlX6 rfl 0 rfl 15 (by decide) fl_RX6_187 rfl dX6_carryOut_41 ?_
        refine y_aload_n Z dX6_carryOut_44 0 rfl rfl ?_
        refine y_get (C := RX6) (T := TX6) (N := 19) Z 6 inlX6 rfl 0 rfl 14 (by decide) fl_RX6_184 rfl dX6_carryOut_45 ?_
        refine y_icmp_ge (tgt := 81) Z dX6_carryOut_48 (by decide) (fun h9 => ?_) (fun h10 => ?_)
        · have hb : mcC x = false := by simp only [mcC, h2, h9, ↓reduceIte]
          have ex : x = (lw mcC mcB 121 (sF (mfS S) 0 9 0, 0, mv_eq (mfR S) (-1))) := by rw [← hx, lw_f hb]
          refine y_aload_n Z dX6_carryOut_81 0 rfl rfl ?_
          refine y_iconst (v := 0) Z dX6_carryOut_82 (by decide) ?_
          refine y_put (C := RX6) (T := TX6) (N := 19) Z 6 inlX6 rfl tyX6 tyX6_ok nmX6 0 rfl 5 (by decide) fl_RX6_31 rfl rfl rfl (Nat.le_of_ble_eq_true rfl) (wMdR cI aS (x.1 0 0) (x.1 0 1) 0 (x.1 0 3) (x.1 0 4) (x.1 0 5) (x.1 0 6) (x.1 0 7) (x.1 0 8) (x.1 0 9) (x.1 0 10) (x.1 0 11) (x.1 0 12) (x.1 1) (x.1 2) (x.1 3) (x.1 4) (x.1 5) (x.1 6)) rfl dX6_carryOut_83 ?_
          refine y_iload Z dX6_carryOut_86 5 rfl ?_
          refine y_if_ne (tgt := 110) Z dX6_carryOut_88 (by decide) (fun h11 => ?_) (fun h12 => ?_)
          · refine y_iload_n Z dX6_carryOut_110 1 rfl rfl ?_
            refine y_iconst (v := -1) Z dX6_carryOut_111 (by decide) ?_
            refine y_icmp_eq (tgt := 122) Z dX6_carryOut_112 (by decide) (fun h13 => ?_) (fun h14 => ?_)
            · refine y_iload Z dX6_carryOut_122 5 rfl ?_
              refine y_if_eq (tgt := 132) Z dX6_carryOut_124 (by decide) (fun h15 => ?_) (fun h16 => ?_)
              · exact absurd h15 h2
              · refine y_iload Z dX6_carryOut_127 4 rfl ?_
                refine y_goto (tgt := 138) Z dX6_carryOut_129 (by decide) ?_
                exact y_retI Z hr hlk dX6_carryOut_138 (by subst ex; first | (simp only [mcR, mcS, mcX, mo_gt, mc_u, h2, h9, h11, eq_true h13, h16, if_true, if_false, not_false_eq_true, not_true_eq_false, ↓reduceIte]; done) | (simp only [mcR, mcS, mcX, mo_gt, mc_u, h2, h9, h11, eq_true h13, h16, if_true, if_false, not_false_eq_true, not_true_eq_false, ↓reduceIte, wMix, wLog, wPic, wRep, wScr, wVM, wMd, sR_eq, sR_ne, sF_eq, sF_ne, upd_eq, upd_ne, gs_eq, gs_ne, gm_4, gm_ne, Nat.reduceBEq]; done) | (with_reducible rfl) | contradiction | (simp only [mcR, mcS, mcX, mo_gt, mc_u, h2, h9, h11, eq_true h13, h16, if_true, if_false, not_false_eq_true, not_true_eq_false, ↓reduceIte]; rfl) | rfl) (by subst ex; first | (simp only [mcR, mcS, mcX, mo_gt, mc_u, h2, h9, h11, eq_true h13, h16, if_true, if_false, not_false_eq_true, not_true_eq_false, ↓reduceIte]; done) | (simp only [mcR, mcS, mcX, mo_gt, mc_u, h2, h9, h11, eq_true h13, h16, if_true, if_false, not_false_eq_true, not_true_eq_false, ↓reduceIte, wMix, wLog, wPic, wRep, wScr, wVM, wMd, sR_eq, sR_ne, sF_eq, sF_ne, upd_eq, upd_ne, gs_eq, gs_ne, gm_4, gm_ne, Nat.reduceBEq]; done) | (with_reducible rfl) | contradiction | (simp only [mcR, mcS, mcX, mo_gt, mc_u, h2, h9, h11, eq_true h13, h16, if_true, if_false, not_false_eq_true, not_true_eq_false, ↓reduceIte]; rfl) | rfl)
            · refine y_bipush (v := -10) Z dX6_carryOut_115 (by decide) ?_
              refine y_iload_n Z dX6_carryOut_117 1 rfl rfl ?_
              refine y_isub Z dX6_carryOut_118 ?_
              refine y_goto (tgt := 138) Z dX6_carryOut_119 (by decide) ?_
              exact y_retI Z hr hlk dX6_carryOut_138 (by subst ex; first | (simp only [mcR, mcS, mcX, mo_gt, mc_u, h2, h9, h11, h14, if_true, if_false, not_false_eq_true, not_true_eq_false, ↓reduceIte]; done) | (simp only [mcR, mcS, mcX, mo_gt, mc_u, h2, h9, h11, h14, if_true, if_false, not_false_eq_true, not_true_eq_false, ↓reduceIte, wMix, wLog, wPic, wRep, wScr, wVM, wMd, sR_eq, sR_ne, sF_eq, sF_ne, upd_eq, upd_ne, gs_eq, gs_ne, gm_4, gm_ne, Nat.reduceBEq]; done) | (with_reducible rfl) | contradiction | (simp only [mcR, mcS, mcX, mo_gt, mc_u, h2, h9, h11, h14, if_true, if_false, not_false_eq_true, not_true_eq_false, ↓reduceIte]; rfl) | rfl) (by subst ex; first | (simp only [mcR, mcS, mcX, mo_gt, mc_u, h2, h9, h11, h14, if_true, if_false, not_false_eq_true, not_true_eq_false, ↓reduceIte]; done) | (simp only [mcR, mcS, mcX, mo_gt, mc_u, h2, h9, h11, h14, if_true, if_false, not_false_eq_true, not_true_eq_false, ↓reduceIte, wMix, wLog, wPic, wRep, wScr, wVM, wMd, sR_eq, sR_ne, sF_eq, sF_ne, upd_eq, upd_ne, gs_eq, gs_ne, gm_4, gm_ne, Nat.reduceBEq]; done) | (with_reducible rfl) | contradiction | (simp only [mcR, mcS, mcX, mo_gt, mc_u, h2, h9, h11, h14, if_true, if_false, not_false_eq_true, not_true_eq_false, ↓reduceIte]; rfl) | rfl)
          · exact absurd h12 h2
        · exact absurd (show mcC x = true by simp only [mcC, h2, h10, ↓reduceIte]) (by rw [show mcC x = false from hc]; decide)
    | succ n ih =>
      intro x hI hc hx
      refine y_iload Z dX6_carryOut_35 5 rfl ?_
      refine y_if_eq (tgt := 81) Z dX6_carryOut_37 (by decide) (fun h17 => ?_) (fun h18 => ?_)
      · have hb : mcC x = false := by simp only [mcC, eq_true h17, ↓reduceIte]
        have ex : x = (lw mcC mcB 121 (sF (mfS S) 0 9 0, 0, mv_eq (mfR S) (-1))) := by rw [← hx, lw_f hb]
        refine y_aload_n Z dX6_carryOut_81 0 rfl rfl ?_
        refine y_iconst (v := 0) Z dX6_carryOut_82 (by decide) ?_
        refine y_put (C := RX6) (T := TX6) (N := 19) Z 6 inlX6 rfl tyX6 tyX6_ok nmX6 0 rfl 5 (by decide) fl_RX6_31 rfl rfl rfl (Nat.le_of_ble_eq_true rfl) (wMdR cI aS (x.1 0 0) (x.1 0 1) 0 (x.1 0 3) (x.1 0 4) (x.1 0 5) (x.1 0 6) (x.1 0 7) (x.1 0 8) (x.1 0 9) (x.1 0 10) (x.1 0 11) (x.1 0 12) (x.1 1) (x.1 2) (x.1 3) (x.1 4) (x.1 5) (x.1 6)) rfl dX6_carryOut_83 ?_
        refine y_iload Z dX6_carryOut_86 5 rfl ?_
        refine y_if_ne (tgt := 110) Z dX6_carryOut_88 (by decide) (fun h19 => ?_) (fun h20 => ?_)
        · exact absurd h17 h19
        · refine y_aload_n Z dX6_carryOut_91 0 rfl rfl ?_
          refine y_iload_n Z dX6_carryOut_92 2 rfl rfl ?_
          refine y_put (C := RX6) (T := TX6) (N := 19) Z 6 inlX6 rfl tyX6 tyX6_ok nmX6 0 rfl 4 (by decide) fl_RX6_68 rfl rfl rfl (Nat.le_of_ble_eq_true rfl) (wMdR cI aS (x.1 0 0) (mfS S 0 1) 0 (x.1 0 3) (x.1 0 4) (x.1 0 5) (x.1 0 6) (x.1 0 7) (x.1 0 8) (x.1 0 9) (x.1 0 10) (x.1 0 11) (x.1 0 12) (x.1 1) (x.1 2) (x.1 3) (x.1 4) (x.1 5) (x.1 6)) rfl dX6_carryOut_93 ?_
          refine y_aload_n Z dX6_carryOut_96 0 rfl rfl ?_
          refine y_iload_n Z dX6_carryOut_97 3 rfl rfl ?_
          refine y_put (C := RX6) (T := TX6) (N := 19) Z 6 inlX6 rfl tyX6 tyX6_ok nmX6 0 rfl 2 (by decide) fl_RX6_71 rfl rfl rfl (Nat.le_of_ble_eq_true rfl) (wMdR cI aS (mfS S 0 0) (mfS S 0 1) 0 (x.1 0 3) (x.1 0 4) (x.1 0 5) (x.1 0 6) (x.1 0 7) (x.1 0 8) (x.1 0 9) (x.1 0 10) (x.1 0 11) (x.1 0 12) (x.1 1) (x.1 2) (x.1 3) (x.1 4) (x.1 5) (x.1 6)) rfl dX6_carryOut_98 ?_
          refine y_aload_n Z dX6_carryOut_101 0 rfl rfl ?_
          refine y_aload_n Z dX6_carryOut_102 0 rfl rfl ?_
          refine y_get (C := RX6) (T := TX6) (N := 19) Z 6 inlX6 rfl 0 rfl 2 (by decide) fl_RX6_71 rfl dX6_carryOut_103 ?_
          refine y_iconst (v := -1) Z dX6_carryOut_106 (by decide) ?_
          refine y_VVw Z (k_X6_goesTo l D ht0 aS (sF (sF (sF x.1 0 2 0) 0 1 (mfS S 0 1)) 0 0 (mfS S 0 0)) (mfS S 0 0) (-1) (by first | (simp only [sR_eq, sR_ne, sF_eq, sF_ne, upd_eq, upd_ne, Nat.reduceBEq]; exact h_n2) | exact h_n2) (by subst ex; simp only [sR_eq, sR_ne, sF_eq, sF_ne, upd_eq, upd_ne, Nat.reduceBEq]; exact h_v2) (by first | (simp only [sR_eq, sR_ne, sF_eq, sF_ne, upd_eq, upd_ne, Nat.reduceBEq]; exact h_c2) | exact h_c2)) (y_cwV 2 Z ml_RX6_161 im_X6_goesTo se_X6_goesTo in_X6 co_X6_goesTo rfl rfl hd_X6_goesTo ⟨Nat.le_of_ble_eq_true rfl, Nat.le_of_ble_eq_true rfl⟩) List.nil List.nil (by simp only [List.nil_append, List.append_nil, wMix, wLog, wPic, wRep, wScr, wVM, wMd, sR_eq, sR_ne, sF_eq, sF_ne, upd_eq, upd_ne, gs_eq, gs_ne, gm_4, gm_ne, Nat.reduceBEq]) 6 0 rfl rfl rfl rfl (Nat.le_of_ble_eq_true rfl) dX6_carryOut_107 ⟨Nat.le_of_ble_eq_true rfl, Nat.le_of_ble_eq_true rfl⟩ (wMdR cI aS (mfS S 0 0) (mfS S 0 1) 0 ((gtX (x.1 3) (mfS S 0 1) (mfS S 0 0) (-1) (x.1 1)).2.1) ((gtX (x.1 3) (mfS S 0 1) (mfS S 0 0) (-1) (x.1 1)).2.2.1) (x.1 0 5) (x.1 0 6) (x.1 0 7) (x.1 0 8) (x.1 0 9) (x.1 0 10) (x.1 0 11) (x.1 0 12) ((gtX (x.1 3) (mfS S 0 1) (mfS S 0 0) (-1) (x.1 1)).1) (x.1 2) (x.1 3) (x.1 4) (x.1 5) (x.1 6)) (by simp only [List.nil_append, List.append_nil, wMix, wLog, wPic, wRep, wScr, wVM, wMd, sR_eq, sR_ne, sF_eq, sF_ne, upd_eq, upd_ne, gs_eq, gs_ne, gm_4, gm_ne, Nat.reduceBEq]) ?_
          refine y_iload_n Z dX6_carryOut_110 1 rfl rfl ?_
          refine y_iconst (v := -1) Z dX6_carryOut_111 (by decide) ?_
          refine y_icmp_eq (tgt := 122) Z dX6_carryOut_112 (by decide) (fun h21 => ?_) (fun h22 => ?_)
          · refine y_iload Z dX6_carryOut_122 5 rfl ?_
            refine y_if_eq (tgt := 132) Z dX6_carryOut_124 (by decide) (fun h23 => ?_) (fun h24 => ?_)
            · refine y_sipush (v := -1000) Z dX6_carryOut_132 (by decide) ?_
              refine y_iload Z dX6_carryOut_135 4 rfl ?_
              refine y_isub Z dX6_carryOut_137 ?_
              exact y_retI Z hr hlk dX6_carryOut_138 (by subst ex; first | (simp only [mcR, mcS, mcX, mo_gt, mc_u, eq_true h17, eq_true h20, eq_true h21, eq_true h23, if_true, if_false, not_false_eq_true, not_true_eq_false, ↓reduceIte]; done) | (simp only [mcR, mcS, mcX, mo_gt, mc_u, eq_true h17, eq_true h20, eq_true h21, eq_true h23, if_true, if_false, not_false_eq_true, not_true_eq_false, ↓reduceIte, wMix, wLog, wPic, wRep, wScr, wVM, wMd, sR_eq, sR_ne, sF_eq, sF_ne, upd_eq, upd_ne, gs_eq, gs_ne, gm_4, gm_ne, Nat.reduceBEq]; done) | (with_reducible rfl) | contradiction | (simp only [mcR, mcS, mcX, mo_gt, mc_u, eq_true h17, eq_true h20, eq_true h21, eq_true h23, if_true, if_false, not_false_eq_true, not_true_eq_false, ↓reduceIte]; rfl) | rfl) (by subst ex; first | (simp only [mcR, mcS, mcX, mo_gt, mc_u, eq_true h17, eq_true h20, eq_true h21, eq_true h23, if_true, if_false, not_false_eq_true, not_true_eq_false, ↓reduceIte]; done) | (simp only [mcR, mcS, mcX, mo_gt, mc_u, eq_true h17, eq_true h20, eq_true h21, eq_true h23, if_true, if_false, not_false_eq_true, not_true_eq_false, ↓reduceIte, wMix, wLog, wPic, wRep, wScr, wVM, wMd, sR_eq, sR_ne, sF_eq, sF_ne, upd_eq, upd_ne, gs_eq, gs_ne, gm_4, gm_ne, Nat.reduceBEq]; done) | (with_reducible rfl) | contradiction | (simp only [mcR, mcS, mcX, mo_gt, mc_u, eq_true h17, eq_true h20, eq_true h21, eq_true h23, if_true, if_false, not_false_eq_true, not_true_eq_false, ↓reduceIte]; rfl) | rfl)
            · exact absurd h17 h24
          · refine y_bipush (v := -10) Z dX6_carryOut_115 (by decide) ?_
            refine y_iload_n Z dX6_carryOut_117 1 rfl rfl ?_
            refine y_isub Z dX6_carryOut_118 ?_
            refine y_goto (tgt := 138) Z dX6_carryOut_119 (by decide) ?_
            exact y_retI Z hr hlk dX6_carryOut_138 (by subst ex; first | (simp only [mcR, mcS, mcX, mo_gt, mc_u, eq_true h17, eq_true h20, h22, if_true, if_false, not_false_eq_true, not_true_eq_false, ↓reduceIte]; done) | (simp only [mcR, mcS, mcX, mo_gt, mc_u, eq_true h17, eq_true h20, h22, if_true, if_false, not_false_eq_true, not_true_eq_false, ↓reduceIte, wMix, wLog, wPic, wRep, wScr, wVM, wMd, sR_eq, sR_ne, sF_eq, sF_ne, upd_eq, upd_ne, gs_eq, gs_ne, gm_4, gm_ne, Nat.reduceBEq]; done) | (with_reducible rfl) | contradiction | (simp only [mcR, mcS, mcX, mo_gt, mc_u, eq_true h17, eq_true h20, h22, if_true, if_false, not_false_eq_true, not_true_eq_false, ↓reduceIte]; rfl) | rfl) (by subst ex; first | (simp only [mcR, mcS, mcX, mo_gt, mc_u, eq_true h17, eq_true h20, h22, if_true, if_false, not_false_eq_true, not_true_eq_false, ↓reduceIte]; done) | (simp only [mcR, mcS, mcX, mo_gt, mc_u, eq_true h17, eq_true h20, h22, if_true, if_false, not_false_eq_true, not_true_eq_false, ↓reduceIte, wMix, wLog, wPic, wRep, wScr, wVM, wMd, sR_eq, sR_ne, sF_eq, sF_ne, upd_eq, upd_ne, gs_eq, gs_ne, gm_4, gm_ne, Nat.reduceBEq]; done) | (with_reducible rfl) | contradiction | (simp only [mcR, mcS, mcX, mo_gt, mc_u, eq_true h17, eq_true h20, h22, if_true, if_false, not_false_eq_true, not_true_eq_false, ↓reduceIte]; rfl) | rfl)
      · refine y_aload_n Z dX6_carryOut_40 0 rfl rfl ?_
        refine y_get (C := RX6) (T := TX6) (N := 19) Z 6 inlX6 rfl 0 rfl 15 (by decide) fl_RX6_187 rfl dX6_carryOut_41 ?_
        refine y_aload_n Z dX6_carryOut_44 0 rfl rfl ?_
        refine y_get (C := RX6) (T := TX6) (N := 19) Z 6 inlX6 rfl 0 rfl 14 (by decide) fl_RX6_184 rfl dX6_carryOut_45 ?_
        refine y_icmp_ge (tgt := 81) Z dX6_carryOut_48 (by decide) (fun h25 => ?_) (fun h26 => ?_)
        · have hb : mcC x = false := by simp only [mcC, h18, h25, ↓reduceIte]
          have ex : x = (lw mcC mcB 121 (sF (mfS S) 0 9 0, 0, mv_eq (mfR S) (-1))) := by rw [← hx, lw_f hb]
          refine y_aload_n Z dX6_carryOut_81 0 rfl rfl ?_
          refine y_iconst (v := 0) Z dX6_carryOut_82 (by decide) ?_
          refine y_put (C := RX6) (T := TX6) (N := 19) Z 6 inlX6 rfl tyX6 tyX6_ok nmX6 0 rfl 5 (by decide) fl_RX6_31 rfl rfl rfl (Nat.le_of_ble_eq_true rfl) (wMdR cI aS (x.1 0 0) (x.1 0 1) 0 (x.1 0 3) (x.1 0 4) (x.1 0 5) (x.1 0 6) (x.1 0 7) (x.1 0 8) (x.1 0 9) (x.1 0 10) (x.1 0 11) (x.1 0 12) (x.1 1) (x.1 2) (x.1 3) (x.1 4) (x.1 5) (x.1 6)) rfl dX6_carryOut_83 ?_
          refine y_iload Z dX6_carryOut_86 5 rfl ?_
          refine y_if_ne (tgt := 110) Z dX6_carryOut_88 (by decide) (fun h27 => ?_) (fun h28 => ?_)
          · refine y_iload_n Z dX6_carryOut_110 1 rfl rfl ?_
            refine y_iconst (v := -1) Z dX6_carryOut_111 (by decide) ?_
            refine y_icmp_eq (tgt := 122) Z dX6_carryOut_112 (by decide) (fun h29 => ?_) (fun h30 => ?_)
            · refine y_iload Z dX6_carryOut_122 5 rfl ?_
              refine y_if_eq (tgt := 132) Z dX6_carryOut_124 (by decide) (fun h31 => ?_) (fun h32 => ?_)
              · exact absurd h31 h18
              · refine y_iload Z dX6_carryOut_127 4 rfl ?_
                refine y_goto (tgt := 138) Z dX6_carryOut_129 (by decide) ?_
                exact y_retI Z hr hlk dX6_carryOut_138 (by subst ex; first | (simp only [mcR, mcS, mcX, mo_gt, mc_u, h18, h25, h27, eq_true h29, h32, if_true, if_false, not_false_eq_true, not_true_eq_false, ↓reduceIte]; done) | (simp only [mcR, mcS, mcX, mo_gt, mc_u, h18, h25, h27, eq_true h29, h32, if_true, if_false, not_false_eq_true, not_true_eq_false, ↓reduceIte, wMix, wLog, wPic, wRep, wScr, wVM, wMd, sR_eq, sR_ne, sF_eq, sF_ne, upd_eq, upd_ne, gs_eq, gs_ne, gm_4, gm_ne, Nat.reduceBEq]; done) | (with_reducible rfl) | contradiction | (simp only [mcR, mcS, mcX, mo_gt, mc_u, h18, h25, h27, eq_true h29, h32, if_true, if_false, not_false_eq_true, not_true_eq_false, ↓reduceIte]; rfl) | rfl) (by subst ex; first | (simp only [mcR, mcS, mcX, mo_gt, mc_u, h18, h25, h27, eq_true h29, h32, if_true, if_false, not_false_eq_true, not_true_eq_false, ↓reduceIte]; done) | (simp only [mcR, mcS, mcX, mo_gt, mc_u, h18, h25, h27, eq_true h29, h32, if_true, if_false, not_false_eq_true, not_true_eq_false, ↓reduceIte, wMix, wLog, wPic, wRep, wScr, wVM, wMd, sR_eq, sR_ne, sF_eq, sF_ne, upd_eq, upd_ne, gs_eq, gs_ne, gm_4, gm_ne, Nat.reduceBEq]; done) | (with_reducible rfl) | contradiction | (simp only [mcR, mcS, mcX, mo_gt, mc_u, h18, h25, h27, eq_true h29, h32, if_true, if_false, not_false_eq_true, not_true_eq_false, ↓reduceIte]; rfl) | rfl)
            · refine y_bipush (v := -10) Z dX6_carryOut_115 (by decide) ?_
              refine y_iload_n Z dX6_carryOut_117 1 rfl rfl ?_
              refine y_isub Z dX6_carryOut_118 ?_
              refine y_goto (tgt := 138) Z dX6_carryOut_119 (by decide) ?_
              exact y_retI Z hr hlk dX6_carryOut_138 (by subst ex; first | (simp only [mcR, mcS, mcX, mo_gt, mc_u, h18, h25, h27, h30, if_true, if_false, not_false_eq_true, not_true_eq_false, ↓reduceIte]; done) | (simp only [mcR, mcS, mcX, mo_gt, mc_u, h18, h25, h27, h30, if_true, if_false, not_false_eq_true, not_true_eq_false, ↓reduceIte, wMix, wLog, wPic, wRep, wScr, wVM, wMd, sR_eq, sR_ne, sF_eq, sF_ne, upd_eq, upd_ne, gs_eq, gs_ne, gm_4, gm_ne, Nat.reduceBEq]; done) | (with_reducible rfl) | contradiction | (simp only [mcR, mcS, mcX, mo_gt, mc_u, h18, h25, h27, h30, if_true, if_false, not_false_eq_true, not_true_eq_false, ↓reduceIte]; rfl) | rfl) (by subst ex; first | (simp only [mcR, mcS, mcX, mo_gt, mc_u, h18, h25, h27, h30, if_true, if_false, not_false_eq_true, not_true_eq_false, ↓reduceIte]; done) | (simp only [mcR, mcS, mcX, mo_gt, mc_u, h18, h25, h27, h30, if_true, if_false, not_false_eq_true, not_true_eq_false, ↓reduceIte, wMix, wLog, wPic, wRep, wScr, wVM, wMd, sR_eq, sR_ne, sF_eq, sF_ne, upd_eq, upd_ne, gs_eq, gs_ne, gm_4, gm_ne, Nat.reduceBEq]; done) | (with_reducible rfl) | contradiction | (simp only [mcR, mcS, mcX, mo_gt, mc_u, h18, h25, h27, h30, if_true, if_false, not_false_eq_true, not_true_eq_false, ↓reduceIte]; rfl) | rfl)
          · exact absurd h28 h18
        · have hb : mcC x = true := by simp only [mcC, h18, h26, ↓reduceIte]
          refine y_aload_n Z dX6_carryOut_51 0 rfl rfl ?_
          refine y_VIw Z (k_X6_readsOrder l D ht0 aS x.1 hI.1.2.2 hI.1.1) (y_cwV 0 Z ml_RX6_240 im_X6_readsOrder se_X6_readsOrder in_X6 co_X6_readsOrder rfl rfl hd_X6_readsOrder ⟨Nat.le_of_ble_eq_true rfl, Nat.le_of_ble_eq_true rfl⟩) List.nil List.nil (by simp only [List.nil_append, List.append_nil, wMix, wLog, wPic, wRep, wScr, wVM, wMd, sR_eq, sR_ne, sF_eq, sF_ne, upd_eq, upd_ne, gs_eq, gs_ne, gm_4, gm_ne, Nat.reduceBEq]) 6 0 rfl rfl rfl rfl (Nat.le_of_ble_eq_true rfl) dX6_carryOut_52 ⟨Nat.le_of_ble_eq_true rfl, Nat.le_of_ble_eq_true rfl⟩ (wMd cI aS (mo_ro x.1)) (by simp only [List.nil_append, List.append_nil, wMix, wLog, wPic, wRep, wScr, wVM, wMd, sR_eq, sR_ne, sF_eq, sF_ne, upd_eq, upd_ne, gs_eq, gs_ne, gm_4, gm_ne, Nat.reduceBEq]) ?_
          refine y_eq rfl rfl (st' := [.int (mv_ro (x.1 6) (x.1 0 8) (x.1 0 9))]) (by first | with_reducible rfl | simp only [wMix, wLog, wPic, wRep, wScr, wVM, wMd, sR_eq, sR_ne, sF_eq, sF_ne, upd_eq, upd_ne, gs_eq, gs_ne, gm_4, gm_ne, Nat.reduceBEq]) ?_
          refine y_istore Z [(6, .int (mv_ro (x.1 6) (x.1 0 8) (x.1 0 9))), (0, .ref (aS 0)), (1, .int (mfR S)), (2, .int (mfS S 0 1)), (3, .int (mfS S 0 0)), (4, .int x.2.1), (5, .int x.2.2)] dX6_carryOut_55 (by decide) rfl ?_
          refine y_aload_n Z dX6_carryOut_57 1 rfl rfl ?_
          refine y_VIw Z (k_X6_orders l D ht0 aS (mo_ro x.1) (by rw [ro_01]; exact hI.2.1) (by rw [ro_r _ rfl]; exact hI.2.2)) (y_cwV 0 Z ml_RX6_246 im_X6_orders se_X6_orders in_X6 co_X6_orders rfl rfl hd_X6_orders ⟨Nat.le_of_ble_eq_true rfl, Nat.le_of_ble_eq_true rfl⟩) List.nil List.nil (by simp only [List.nil_append, List.append_nil, wMix, wLog, wPic, wRep, wScr, wVM, wMd, sR_eq, sR_ne, sF_eq, sF_ne, upd_eq, upd_ne, gs_eq, gs_ne, gm_4, gm_ne, Nat.reduceBEq]) 6 0 rfl rfl rfl rfl (Nat.le_of_ble_eq_true rfl) dX6_carryOut_58 ⟨Nat.le_of_ble_eq_true rfl, Nat.le_of_ble_eq_true rfl⟩ (wMd cI aS (mo_or (mo_ro x.1))) (by simp only [List.nil_append, List.append_nil, wMix, wLog, wPic, wRep, wScr, wVM, wMd, sR_eq, sR_ne, sF_eq, sF_ne, upd_eq, upd_ne, gs_eq, gs_ne, gm_4, gm_ne, Nat.reduceBEq]) ?_
          refine y_eq rfl rfl (st' := [.int (mv_eq ((mo_or (mo_ro x.1)) 0 2) 0)]) (by first | with_reducible rfl | simp only [wMix, wLog, wPic, wRep, wScr, wVM, wMd, sR_eq, sR_ne, sF_eq, sF_ne, upd_eq, upd_ne, gs_eq, gs_ne, gm_4, gm_ne, Nat.reduceBEq]) ?_
          refine y_istore Z [(5, .int (mv_eq ((mo_or (mo_ro x.1)) 0 2) 0)), (6, .int (mv_ro (x.1 6) (x.1 0 8) (x.1 0 9))), (0, .ref (aS 0)), (1, .int (mfR S)), (2, .int (mfS S 0 1)), (3, .int (mfS S 0 0)), (4, .int x.2.1)] dX6_carryOut_61 (by decide) rfl ?_
          refine y_iload Z dX6_carryOut_63 6 rfl ?_
          have hJ33 : Yy p l e { frames := 7, cells := 0, slots := 0, locals := 160 } s m args below meth c (QI D tys A (wMd cI aS (mcS S)) (mcR S) below args s 0 0) D A 7 0 0 (wMd cI aS (mo_or (mo_ro x.1))) [(5, .int (mv_eq ((mo_or (mo_ro x.1)) 0 2) 0)), (6, .int (mv_ro (x.1 6) (x.1 0 8) (x.1 0 9))), (0, .ref (aS 0)), (1, .int (mfR S)), (2, .int (mfS S 0 1)), (3, .int (mfS S 0 0)), (4, .int x.2.1)] [.int (nzF (mv_eq ((mo_or (mo_ro x.1)) 0 2) 0)), .int x.2.1] 75 := by
            refine y_iadd Z dX6_carryOut_75 ?_
            refine y_istore Z [(4, .int (x.2.1 + (nzF (mv_eq ((mo_or (mo_ro x.1)) 0 2) 0)))), (5, .int (mv_eq ((mo_or (mo_ro x.1)) 0 2) 0)), (6, .int (mv_ro (x.1 6) (x.1 0 8) (x.1 0 9))), (0, .ref (aS 0)), (1, .int (mfR S)), (2, .int (mfS S 0 1)), (3, .int (mfS S 0 0))] dX6_carryOut_76 (by decide) rfl ?_
            refine y_goto (tgt := 35) Z dX6_carryOut_78 (by decide) ?_
            refine y_lv [3, 4, 5, 6, 0, 1] (lv' := [(0, .ref (aS 0)), (1, .int (mfR S)), (2, .int (mfS S 0 1)), (3, .int (mfS S 0 0)), (4, .int (x.2.1 + (nzF (mv_eq ((mo_or (mo_ro x.1)) 0 2) 0)))), (5, .int (mv_eq ((mo_or (mo_ro x.1)) 0 2) 0))]) rfl ?_
            refine y_eq (ws' := (wMd cI aS ((mcB x).1))) (lv' := [(0, .ref (aS 0)), (1, .int (mfR S)), (2, .int (mfS S 0 1)), (3, .int (mfS S 0 0)), (4, .int ((mcB x).2.1)), (5, .int ((mcB x).2.2))]) (st' := []) (by first | (simp only [mcB, mcG, h18, h26, if_true, if_false, not_false_eq_true, not_true_eq_false, ↓reduceIte]; done) | (simp only [mcB, mcG, h18, h26, if_true, if_false, not_false_eq_true, not_true_eq_false, ↓reduceIte, wMix, wLog, wPic, wRep, wScr, wVM, wMd, sR_eq, sR_ne, sF_eq, sF_ne, upd_eq, upd_ne, gs_eq, gs_ne, gm_4, gm_ne, Nat.reduceBEq]; done) | (with_reducible rfl) | contradiction | (simp only [mcB, mcG, h18, h26, if_true, if_false, not_false_eq_true, not_true_eq_false, ↓reduceIte]; rfl) | rfl) (by first | (simp only [mcB, mcG, h18, h26, if_true, if_false, not_false_eq_true, not_true_eq_false, ↓reduceIte]; done) | (simp only [mcB, mcG, h18, h26, if_true, if_false, not_false_eq_true, not_true_eq_false, ↓reduceIte, wMix, wLog, wPic, wRep, wScr, wVM, wMd, sR_eq, sR_ne, sF_eq, sF_ne, upd_eq, upd_ne, gs_eq, gs_ne, gm_4, gm_ne, Nat.reduceBEq]; done) | (with_reducible rfl) | contradiction | (simp only [mcB, mcG, h18, h26, if_true, if_false, not_false_eq_true, not_true_eq_false, ↓reduceIte]; rfl) | rfl) rfl ?_
            exact ih _ (mcI_B hI) (by rw [lw_t hb] at hc; exact hc) (by rw [lw_t hb] at hx; exact hx)
          refine y_iload Z dX6_carryOut_65 0 rfl ?_
          refine y_if_eq (tgt := 74) Z dX6_carryOut_67 (by decide) (fun h34 => ?_) (fun h35 => ?_)
          · refine y_iconst (v := 0) Z dX6_carryOut_74 (by decide) ?_
            exact y_eq rfl rfl (st' := [.int (nzF (mv_eq ((mo_or (mo_ro x.1)) 0 2) 0)), .int x.2.1]) (by first | (simp only [nzF, h18, h26, eq_true h34, if_true, if_false, not_false_eq_true, not_true_eq_false, ↓reduceIte]; done) | (simp only [nzF, h18, h26, eq_true h34, if_true, if_false, not_false_eq_true, not_true_eq_false, ↓reduceIte, wMix, wLog, wPic, wRep, wScr, wVM, wMd, sR_eq, sR_ne, sF_eq, sF_ne, upd_eq, upd_ne, gs_eq, gs_ne, gm_4, gm_ne, Nat.reduceBEq]; done) | (with_reducible rfl) | contradiction | (simp only [nzF, h18, h26, eq_true h34, if_true, if_false, not_false_eq_true, not_true_eq_false, ↓reduceIte]; rfl) | rfl) hJ33
          · refine y_iconst (v := 1) Z dX6_carryOut_70 (by decide) ?_
            refine y_goto (tgt := 75) Z dX6_carryOut_71 (by decide) ?_
            exact y_eq rfl rfl (st' := [.int (nzF (mv_eq ((mo_or (mo_ro x.1)) 0 2) 0)), .int x.2.1]) (by first | (simp only [nzF, h18, h26, h35, if_true, if_false, not_false_eq_true, not_true_eq_false, ↓reduceIte]; done) | (simp only [nzF, h18, h26, h35, if_true, if_false, not_false_eq_true, not_true_eq_false, ↓reduceIte, wMix, wLog, wPic, wRep, wScr, wVM, wMd, sR_eq, sR_ne, sF_eq, sF_ne, upd_eq, upd_ne, gs_eq, gs_ne, gm_4, gm_ne, Nat.reduceBEq]; done) | (with_reducible rfl) | contradiction | (simp only [nzF, h18, h26, h35, if_true, if_false, not_false_eq_true, not_true_eq_false, ↓reduceIte]; rfl) | rfl) hJ33
  refine y_aload_n Z dX6_carryOut_0 0 rfl rfl ?_
  refine y_VIw Z (k_X6_faultOf l D ht0 aS S h_l h_ln h_fs) (y_cwV 0 Z ml_RX6_243 im_X6_faultOf se_X6_faultOf in_X6 co_X6_faultOf rfl rfl hd_X6_faultOf ⟨Nat.le_of_ble_eq_true rfl, Nat.le_of_ble_eq_true rfl⟩) List.nil List.nil (by simp only [List.nil_append, List.append_nil, wMix, wLog, wPic, wRep, wScr, wVM, wMd, sR_eq, sR_ne, sF_eq, sF_ne, upd_eq, upd_ne, gs_eq, gs_ne, gm_4, gm_ne, Nat.reduceBEq]) 6 0 rfl rfl rfl rfl (Nat.le_of_ble_eq_true rfl) dX6_carryOut_1 ⟨Nat.le_of_ble_eq_true rfl, Nat.le_of_ble_eq_true rfl⟩ (wMd cI aS (mfS S)) (by simp only [List.nil_append, List.append_nil, wMix, wLog, wPic, wRep, wScr, wVM, wMd, sR_eq, sR_ne, sF_eq, sF_ne, upd_eq, upd_ne, gs_eq, gs_ne, gm_4, gm_ne, Nat.reduceBEq]) ?_
  refine y_eq rfl rfl (st' := [.int (mfR S)]) (by first | with_reducible rfl | simp only [wMix, wLog, wPic, wRep, wScr, wVM, wMd, sR_eq, sR_ne, sF_eq, sF_ne, upd_eq, upd_ne, gs_eq, gs_ne, gm_4, gm_ne, Nat.reduceBEq]) ?_
  refine y_istore_n Z [(1, .int (mfR S)), (0, .ref (aS 0))] dX6_carryOut_4 rfl (by decide) rfl ?_
  refine y_aload_n Z dX6_carryOut_5 1 rfl rfl ?_
  refine y_get (C := RX6) (T := TX6) (N := 19) Z 6 inlX6 rfl 0 rfl 4 (by decide) fl_RX6_68 rfl dX6_carryOut_6 ?_
  refine y_istore_n Z [(2, .int ((mfS S) 0 1)), (1, .int (mfR S)), (0, .ref (aS 0))] dX6_carryOut_9 rfl (by decide) rfl ?_
  refine y_aload_n Z dX6_carryOut_10 2 rfl rfl ?_
  refine y_get (C := RX6) (T := TX6) (N := 19) Z 6 inlX6 rfl 0 rfl 2 (by decide) fl_RX6_71 rfl dX6_carryOut_11 ?_
  refine y_istore_n Z [(3, .int ((mfS S) 0 0)), (2, .int ((mfS S) 0 1)), (1, .int (mfR S)), (0, .ref (aS 0))] dX6_carryOut_14 rfl (by decide) rfl ?_
  refine y_aload_n Z dX6_carryOut_15 3 rfl rfl ?_
  refine y_iconst (v := 0) Z dX6_carryOut_16 (by decide) ?_
  refine y_put (C := RX6) (T := TX6) (N := 19) Z 6 inlX6 rfl tyX6 tyX6_ok nmX6 0 rfl 15 (by decide) fl_RX6_187 rfl rfl rfl (Nat.le_of_ble_eq_true rfl) (wMdR cI aS ((mfS S) 0 0) ((mfS S) 0 1) ((mfS S) 0 2) ((mfS S) 0 3) ((mfS S) 0 4) ((mfS S) 0 5) ((mfS S) 0 6) ((mfS S) 0 7) ((mfS S) 0 8) 0 ((mfS S) 0 10) ((mfS S) 0 11) ((mfS S) 0 12) ((mfS S) 1) ((mfS S) 2) ((mfS S) 3) ((mfS S) 4) ((mfS S) 5) ((mfS S) 6)) rfl dX6_carryOut_17 ?_
  refine y_iconst (v := 0) Z dX6_carryOut_20 (by decide) ?_
  refine y_istore Z [(4, .int 0), (3, .int ((mfS S) 0 0)), (2, .int ((mfS S) 0 1)), (1, .int (mfR S)), (0, .ref (aS 0))] dX6_carryOut_21 (by decide) rfl ?_
  have hJ36 : Yy p l e { frames := 7, cells := 0, slots := 0, locals := 160 } s m args below meth c (QI D tys A (wMd cI aS (mcS S)) (mcR S) below args s 0 0) D A 7 0 0 (wMdR cI aS ((mfS S) 0 0) ((mfS S) 0 1) ((mfS S) 0 2) ((mfS S) 0 3) ((mfS S) 0 4) ((mfS S) 0 5) ((mfS S) 0 6) ((mfS S) 0 7) ((mfS S) 0 8) 0 ((mfS S) 0 10) ((mfS S) 0 11) ((mfS S) 0 12) ((mfS S) 1) ((mfS S) 2) ((mfS S) 3) ((mfS S) 4) ((mfS S) 5) ((mfS S) 6)) [(4, .int 0), (3, .int ((mfS S) 0 0)), (2, .int ((mfS S) 0 1)), (1, .int (mfR S)), (0, .ref (aS 0))] [.int (mv_eq (mfR S) (-1))] 33 := by
    refine y_istore Z [(5, .int (mv_eq (mfR S) (-1))), (4, .int 0), (3, .int ((mfS S) 0 0)), (2, .int ((mfS S) 0 1)), (1, .int (mfR S)), (0, .ref (aS 0))] dX6_carryOut_33 (by decide) rfl ?_
    refine y_lv [5, 4, 3, 2, 1, 0] (lv' := [(0, .ref (aS 0)), (1, .int (mfR S)), (2, .int ((mfS S) 0 1)), (3, .int ((mfS S) 0 0)), (4, .int 0), (5, .int (mv_eq (mfR S) (-1)))]) rfl ?_
    refine y_eq (ws' := (wMd cI aS ((sF (mfS S) 0 9 0, 0, mv_eq (mfR S) (-1)).1))) (lv' := [(0, .ref (aS 0)), (1, .int (mfR S)), (2, .int (mfS S 0 1)), (3, .int (mfS S 0 0)), (4, .int ((sF (mfS S) 0 9 0, 0, mv_eq (mfR S) (-1)).2.1)), (5, .int ((sF (mfS S) 0 9 0, 0, mv_eq (mfR S) (-1)).2.2))]) (st' := []) (by first | (with_reducible rfl) | (simp only [wMix, wLog, wPic, wRep, wScr, wVM, wMd, sR_eq, sR_ne, sF_eq, sF_ne, upd_eq, upd_ne, gs_eq, gs_ne, gm_4, gm_ne, Nat.reduceBEq]; done) | rfl) (by first | (with_reducible rfl) | (simp only [wMix, wLog, wPic, wRep, wScr, wVM, wMd, sR_eq, sR_ne, sF_eq, sF_ne, upd_eq, upd_ne, gs_eq, gs_ne, gm_4, gm_ne, Nat.reduceBEq]; done) | rfl) rfl ?_
    exact L35 121 (sF (mfS S) 0 9 0, 0, mv_eq (mfR S) (-1)) (mc_0 _ h_l h_ln h_nn h_r) h_cs rfl
  refine y_iload_n Z dX6_carryOut_23 3 rfl rfl ?_
  refine y_iconst (v := -1) Z dX6_carryOut_24 (by decide) ?_
  refine y_icmp_ne (tgt := 32) Z dX6_carryOut_25 (by decide) (fun h37 => ?_) (fun h38 => ?_)
  · refine y_iconst (v := 0) Z dX6_carryOut_32 (by decide) ?_
    exact y_eq rfl rfl (st' := [.int (mv_eq (mfR S) (-1))]) (by first | (simp only [mv_eq, h37, if_true, if_false, not_false_eq_true, not_true_eq_false, ↓reduceIte]; done) | (simp only [mv_eq, h37, if_true, if_false, not_false_eq_true, not_true_eq_false, ↓reduceIte, wMix, wLog, wPic, wRep, wScr, wVM, wMd, sR_eq, sR_ne, sF_eq, sF_ne, upd_eq, upd_ne, gs_eq, gs_ne, gm_4, gm_ne, Nat.reduceBEq]; done) | (with_reducible rfl) | contradiction | (simp only [mv_eq, h37, if_true, if_false, not_false_eq_true, not_true_eq_false, ↓reduceIte]; rfl) | rfl) hJ36
  · refine y_iconst (v := 1) Z dX6_carryOut_28 (by decide) ?_
    refine y_goto (tgt := 33) Z dX6_carryOut_29 (by decide) ?_
    exact y_eq rfl rfl (st' := [.int (mv_eq (mfR S) (-1))]) (by first | (simp only [mv_eq, eq_true h38, if_true, if_false, not_false_eq_true, not_true_eq_false, ↓reduceIte]; done) | (simp only [mv_eq, eq_true h38, if_true, if_false, not_false_eq_true, not_true_eq_false, ↓reduceIte, wMix, wLog, wPic, wRep, wScr, wVM, wMd, sR_eq, sR_ne, sF_eq, sF_ne, upd_eq, upd_ne, gs_eq, gs_ne, gm_4, gm_ne, Nat.reduceBEq]; done) | (with_reducible rfl) | contradiction | (simp only [mv_eq, eq_true h38, if_true, if_false, not_false_eq_true, not_true_eq_false, ↓reduceIte]; rfl) | rfl) hJ36
set_option maxHeartbeats 4000000 in
set_option maxRecDepth 100000 in
theorem k_X6_digest (l : Launch) (D : va_G) {cI : ClassId} {tys : List (ClassId × FieldType)} (ht0 : tys[0]? = some (cI, .int)) (aS : Nat → Nat) (S : Nat → Nat → Int32) (h_n : (S 0 1) ≤ 100) (h_o : okm (S 1)) (sz : Nat) : kL l yX6_digest cX6_digest 5 (some .long) { frames := 6, cells := 0, slots := 0, locals := 133 } D tys [.ref (aS 0)] (wMd cI aS S) (wMdR cI aS (S 0 0) (S 0 1) 0 (S 0 3) (S 0 4) (S 0 5) (S 0 6) (S 0 7) (S 0 8) (S 0 9) (S 0 10) (S 0 11) (S 0 12) ((hd3X (S 1) (S 2) (S 4) (S 0 0) (S 0 1) (S 0 8) 10).1) ((hd3X (S 1) (S 2) (S 4) (S 0 0) (S 0 1) (S 0 8) 10).2.1) (S 3) ((hd3X (S 1) (S 2) (S 4) (S 0 0) (S 0 1) (S 0 8) 10).2.2.1) (S 5) (S 6)) ((hd4X (S 3) (S 0 1) (hd3X (S 1) (S 2) (S 4) (S 0 0) (S 0 1) (S 0 8) 10).2.2.2).1) 0 0 sz := by
  refine y_enterL (cc := cX6_digest) (maxL := 5) (ret := (some .long)) (own := RX6) (by decide) rfl (lv0 := [(0, .ref (aS 0))]) rfl (Nat.le_of_ble_eq_true rfl) ?_
  intro p e s m args below meth c A Z hr hlk _
  have L120 : ∀ (n : Nat) (x : Int64 × Int32), ¬ x.2 < 0 → (hd4C (S 0 1)) (lw (hd4C (S 0 1)) (hd4B (S 3)) n x) = false → lw (hd4C (S 0 1)) (hd4B (S 3)) n x = (lw (hd4C (S 0 1)) (hd4B (S 3)) 101 ((hd3X (S 1) (S 2) (S 4) (S 0 0) (S 0 1) (S 0 8) 10).2.2.2, 0)) → Yy p l e { frames := 6, cells := 0, slots := 0, locals := 133 } s m args below meth c (QL D tys A (wMdR cI aS (S 0 0) (S 0 1) 0 (S 0 3) (S 0 4) (S 0 5) (S 0 6) (S 0 7) (S 0 8) (S 0 9) (S 0 10) (S 0 11) (S 0 12) ((hd3X (S 1) (S 2) (S 4) (S 0 0) (S 0 1) (S 0 8) 10).1) ((hd3X (S 1) (S 2) (S 4) (S 0 0) (S 0 1) (S 0 8) 10).2.1) (S 3) ((hd3X (S 1) (S 2) (S 4) (S 0 0) (S 0 1) (S 0 8) 10).2.2.1) (S 5) (S 6)) ((hd4X (S 3) (S 0 1) (hd3X (S 1) (S 2) (S 4) (S 0 0) (S 0 1) (S 0 8) 10).2.2.2).1) below args s 0 0) D A 5 0 0 (wMdR cI aS (S 0 0) (S 0 1) 0 (S 0 3) (S 0 4) (S 0 5) (S 0 6) (S 0 7) (S 0 8) (S 0 9) (S 0 10) (S 0 11) (S 0 12) ((hd3X (S 1) (S 2) (S 4) (S 0 0) (S 0 1) (S 0 8) 10).1) ((hd3X (S 1) (S 2) (S 4) (S 0 0) (S 0 1) (S 0 8) 10).2.1) (S 3) ((hd3X (S 1) (S 2) (S 4) (S 0 0) (S 0 1) (S 0 8) 10).2.2.1) (S 5) (S 6)) [(0, .ref (aS 0)), (1, .long x.1), (3, .int x.2)] [] 120 := by
    intro n; induction n with
    | zero =>
      intro x hI hc hx
      refine y_iload_n Z dX6_digest_120 2 rfl rfl ?_
      refine y_aload_n Z dX6_digest_121 0 rfl rfl ?_
      refine y_get (C := RX6) (T := TX6) (N := 19) Z 6 inlX6 rfl 0 rfl 4 (by decide) fl_RX6_68 rfl dX6_digest_122 ?_
      refine y_icmp_ge (tgt := 167) Z dX6_digest_125 (by decide) (fun h1 => ?_) (fun h2 => ?_)
      · have hb : (hd4C (S 0 1)) x = false := by simp only [hd4C, h1, ↓reduceIte]
        have ex : x = (lw (hd4C (S 0 1)) (hd4B (S 3)) 101 ((hd3X (S 1) (S 2) (S 4) (S 0 0) (S 0 1) (S 0 8) 10).2.2.2, 0)) := by rw [← hx, lw_f hb]
        refine y_lload_n Z dX6_digest_167 1 rfl rfl ?_
        exact y_retL Z hr hlk dX6_digest_168 (by subst ex; first | (simp only [hd4X, h1, if_true, if_false, not_false_eq_true, not_true_eq_false, ↓reduceIte]; done) | (simp only [hd4X, h1, if_true, if_false, not_false_eq_true, not_true_eq_false, ↓reduceIte, wMix, wLog, wPic, wRep, wScr, wVM, wMd, sR_eq, sR_ne, sF_eq, sF_ne, upd_eq, upd_ne, gs_eq, gs_ne, gm_4, gm_ne, Nat.reduceBEq]; done) | (with_reducible rfl) | contradiction | (simp only [hd4X, h1, if_true, if_false, not_false_eq_true, not_true_eq_false, ↓reduceIte]; rfl) | rfl) (by subst ex; first | (simp only [hd4X, h1, if_true, if_false, not_false_eq_true, not_true_eq_false, ↓reduceIte]; done) | (simp only [hd4X, h1, if_true, if_false, not_false_eq_true, not_true_eq_false, ↓reduceIte, wMix, wLog, wPic, wRep, wScr, wVM, wMd, sR_eq, sR_ne, sF_eq, sF_ne, upd_eq, upd_ne, gs_eq, gs_ne, gm_4, gm_ne, Nat.reduceBEq]; done) | (with_reducible rfl) | contradiction | (simp only [hd4X, h1, if_true, if_false, not_false_eq_true, not_true_eq_false, ↓reduceIte]; rfl) | rfl)
      · exact absurd (show (hd4C (S 0 1)) x = true by simp only [hd4C, h2, ↓reduceIte]) (by rw [show (hd4C (S 0 1)) x = false from hc]; decide)
    | succ n ih =>
      intro x hI hc hx
      refine y_iload_n Z dX6_digest_120 2 rfl rfl ?_
      refine y_aload_n Z dX6_digest_121 0 rfl rfl ?_
      refine y_get (C := RX6) (T := TX6) (N := 19) Z 6 inlX6 rfl 0 rfl 4 (by decide) fl_RX6_68 rfl dX6_digest_122 ?_
      refine y_icmp_ge (tgt := 167) Z dX6_digest_125 (by decide) (fun h3 => ?_) (fun h4 => ?_)
      · have hb : (hd4C (S 0 1)) x = false := by simp only [hd4C, h3, ↓reduceIte]
        have ex : x = (lw (hd4C (S 0 1)) (hd4B (S 3)) 101 ((hd3X (S 1) (S 2) (S 4) (S 0 0) (S 0 1) (S 0 8) 10).2.2.2, 0)) := by rw [← hx, lw_f hb]
        refine y_lload_n Z dX6_digest_167 1 rfl rfl ?_
        exact y_retL Z hr hlk dX6_digest_168 (by subst ex; first | (simp only [hd4X, h3, if_true, if_false, not_false_eq_true, not_true_eq_false, ↓reduceIte]; done) | (simp only [hd4X, h3, if_true, if_false, not_false_eq_true, not_true_eq_false, ↓reduceIte, wMix, wLog, wPic, wRep, wScr, wVM, wMd, sR_eq, sR_ne, sF_eq, sF_ne, upd_eq, upd_ne, gs_eq, gs_ne, gm_4, gm_ne, Nat.reduceBEq]; done) | (with_reducible rfl) | contradiction | (simp only [hd4X, h3, if_true, if_false, not_false_eq_true, not_true_eq_false, ↓reduceIte]; rfl) | rfl) (by subst ex; first | (simp only [hd4X, h3, if_true, if_false, not_false_eq_true, not_true_eq_false, ↓reduceIte]; done) | (simp only [hd4X, h3, if_true, if_false, not_false_eq_true, not_true_eq_false, ↓reduceIte, wMix, wLog, wPic, wRep, wScr, wVM, wMd, sR_eq, sR_ne, sF_eq, sF_ne, upd_eq, upd_ne, gs_eq, gs_ne, gm_4, gm_ne, Nat.reduceBEq]; done) | (with_reducible rfl) | contradiction | (simp only [hd4X, h3, if_true, if_false, not_false_eq_true, not_true_eq_false, ↓reduceIte]; rfl) | rfl)
      · have hb : (hd4C (S 0 1)) x = true := by simp only [hd4C, h4, ↓reduceIte]
        refine y_iconst (v := 0) Z dX6_digest_128 (by decide) ?_
        refine y_istore Z [(4, .int 0), (0, .ref (aS 0)), (1, .long x.1), (3, .int x.2)] dX6_digest_129 (by decide) rfl ?_
        refine y_iload Z dX6_digest_131 0 rfl ?_
        refine y_iconst (v := 4) Z dX6_digest_133 (by decide) ?_
        refine y_icmp_ge (tgt := 161) Z dX6_digest_134 (by decide) (fun h5 => ?_) (fun h6 => ?_)
        · exact absurd (show (4 : Int32) ≤ 0 from h5) (by decide)
        · refine y_lload_n Z dX6_digest_137 2 rfl rfl ?_
          refine y_aload_n Z dX6_digest_138 1 rfl rfl ?_
          refine y_get (C := RX6) (T := TX6) (N := 19) Z 6 inlX6 rfl 0 rfl 3 (by decide) fl_RX6_16 rfl dX6_digest_139 ?_
          refine y_bipush (v := 6) Z dX6_digest_142 (by decide) ?_
          refine y_iload_n Z dX6_digest_144 3 rfl rfl ?_
          refine y_imul Z dX6_digest_145 ?_
          refine y_iload Z dX6_digest_146 0 rfl ?_
          refine y_iadd Z dX6_digest_148 ?_
          refine y_iald Z 3 0 rfl ht0 (ix6 (da_in h_n hI (by assumption)) 0 (by decide)).1 (6 * cl x.2 + 0) (ix6 (da_in h_n hI (by assumption)) 0 (by decide)).2 dX6_digest_149 ?_
          refine y_i2l Z dX6_digest_150 ?_
          refine y_SL Z (k_X6_sums l D ht0 x.1 (Int32.toInt64 (S 3 (6 * cl x.2 + 0)))) (y_cwS 2 Z ml_RX6_253 st_X6_sums in_X6 co_X6_sums rfl rfl hs_X6_sums ⟨Nat.le_of_ble_eq_true rfl, Nat.le_of_ble_eq_true rfl⟩) [] rfl (by decide) rfl rfl (Nat.le_of_ble_eq_true rfl) dX6_digest_151 ⟨Nat.le_of_ble_eq_true rfl, Nat.le_of_ble_eq_true rfl⟩ [] rfl rfl (wMdR cI aS (S 0 0) (S 0 1) 0 (S 0 3) (S 0 4) (S 0 5) (S 0 6) (S 0 7) (S 0 8) (S 0 9) (S 0 10) (S 0 11) (S 0 12) ((hd3X (S 1) (S 2) (S 4) (S 0 0) (S 0 1) (S 0 8) 10).1) ((hd3X (S 1) (S 2) (S 4) (S 0 0) (S 0 1) (S 0 8) 10).2.1) (S 3) ((hd3X (S 1) (S 2) (S 4) (S 0 0) (S 0 1) (S 0 8) 10).2.2.1) (S 5) (S 6)) rfl ?_
          refine y_lstore_n Z [(1, .long (31 * x.1 + (Int32.toInt64 (S 3 (6 * cl x.2 + 0))))), (4, .int 0), (0, .ref (aS 0)), (3, .int x.2)] dX6_digest_154 rfl (by decide) rfl ?_
          refine y_iinc Z [(4, .int 1), (1, .long (31 * x.1 + (Int32.toInt64 (S 3 (6 * cl x.2 + 0))))), (0, .ref (aS 0)), (3, .int x.2)] dX6_digest_155 1 rfl (by decide) (by decide) rfl ?_
          refine y_goto (tgt := 131) Z dX6_digest_158 (by decide) ?_
          refine y_iload Z dX6_digest_131 0 rfl ?_
          refine y_iconst (v := 4) Z dX6_digest_133 (by decide) ?_
          refine y_icmp_ge (tgt := 161) Z dX6_digest_134 (by decide) (fun h7 => ?_) (fun h8 => ?_)
          · exact absurd (show (4 : Int32) ≤ 1 from h7) (by decide)
          · refine y_lload_n Z dX6_digest_137 1 rfl rfl ?_
            refine y_aload_n Z dX6_digest_138 2 rfl rfl ?_
            refine y_get (C := RX6) (T := TX6) (N := 19) Z 6 inlX6 rfl 0 rfl 3 (by decide) fl_RX6_16 rfl dX6_digest_139 ?_
            refine y_bipush (v := 6) Z dX6_digest_142 (by decide) ?_
            refine y_iload_n Z dX6_digest_144 3 rfl rfl ?_
            refine y_imul Z dX6_digest_145 ?_
            refine y_iload Z dX6_digest_146 0 rfl ?_
            refine y_iadd Z dX6_digest_148 ?_
            refine y_iald Z 3 0 rfl ht0 (ix6 (da_in h_n hI (by assumption)) 1 (by decide)).1 (6 * cl x.2 + 1) (ix6 (da_in h_n hI (by assumption)) 1 (by decide)).2 dX6_digest_149 ?_
            refine y_i2l Z dX6_digest_150 ?_
            refine y_SL Z (k_X6_sums l D ht0 (31 * x.1 + (Int32.toInt64 (S 3 (6 * cl x.2 + 0)))) (Int32.toInt64 (S 3 (6 * cl x.2 + 1)))) (y_cwS 2 Z ml_RX6_253 st_X6_sums in_X6 co_X6_sums rfl rfl hs_X6_sums ⟨Nat.le_of_ble_eq_true rfl, Nat.le_of_ble_eq_true rfl⟩) [] rfl (by decide) rfl rfl (Nat.le_of_ble_eq_true rfl) dX6_digest_151 ⟨Nat.le_of_ble_eq_true rfl, Nat.le_of_ble_eq_true rfl⟩ [] rfl rfl (wMdR cI aS (S 0 0) (S 0 1) 0 (S 0 3) (S 0 4) (S 0 5) (S 0 6) (S 0 7) (S 0 8) (S 0 9) (S 0 10) (S 0 11) (S 0 12) ((hd3X (S 1) (S 2) (S 4) (S 0 0) (S 0 1) (S 0 8) 10).1) ((hd3X (S 1) (S 2) (S 4) (S 0 0) (S 0 1) (S 0 8) 10).2.1) (S 3) ((hd3X (S 1) (S 2) (S 4) (S 0 0) (S 0 1) (S 0 8) 10).2.2.1) (S 5) (S 6)) rfl ?_
            refine y_lstore_n Z [(1, .long (31 * (31 * x.1 + (Int32.toInt64 (S 3 (6 * cl x.2 + 0)))) + (Int32.toInt64 (S 3 (6 * cl x.2 + 1))))), (4, .int 1), (0, .ref (aS 0)), (3, .int x.2)] dX6_digest_154 rfl (by decide) rfl ?_
            refine y_iinc Z [(4, .int 2), (1, .long (31 * (31 * x.1 + (Int32.toInt64 (S 3 (6 * cl x.2 + 0)))) + (Int32.toInt64 (S 3 (6 * cl x.2 + 1))))), (0, .ref (aS 0)), (3, .int x.2)] dX6_digest_155 1 rfl (by decide) (by decide) rfl ?_
            refine y_goto (tgt := 131) Z dX6_digest_158 (by decide) ?_
            refine y_iload Z dX6_digest_131 0 rfl ?_
            refine y_iconst (v := 4) Z dX6_digest_133 (by decide) ?_
            refine y_icmp_ge (tgt := 161) Z dX6_digest_134 (by decide) (fun h9 => ?_) (fun h10 => ?_)
            · exact absurd (show (4 : Int32) ≤ 2 from h9) (by decide)
            · refine y_lload_n Z dX6_digest_137 1 rfl rfl ?_
              refine y_aload_n Z dX6_digest_138 2 rfl rfl ?_
              refine y_get (C := RX6) (T := TX6) (N := 19) Z 6 inlX6 rfl 0 rfl 3 (by decide) fl_RX6_16 rfl dX6_digest_139 ?_
              refine y_bipush (v := 6) Z dX6_digest_142 (by decide) ?_
              refine y_iload_n Z dX6_digest_144 3 rfl rfl ?_
              refine y_imul Z dX6_digest_145 ?_
              refine y_iload Z dX6_digest_146 0 rfl ?_
              refine y_iadd Z dX6_digest_148 ?_
              refine y_iald Z 3 0 rfl ht0 (ix6 (da_in h_n hI (by assumption)) 2 (by decide)).1 (6 * cl x.2 + 2) (ix6 (da_in h_n hI (by assumption)) 2 (by decide)).2 dX6_digest_149 ?_
              refine y_i2l Z dX6_digest_150 ?_
              refine y_SL Z (k_X6_sums l D ht0 (31 * (31 * x.1 + (Int32.toInt64 (S 3 (6 * cl x.2 + 0)))) + (Int32.toInt64 (S 3 (6 * cl x.2 + 1)))) (Int32.toInt64 (S 3 (6 * cl x.2 + 2)))) (y_cwS 2 Z ml_RX6_253 st_X6_sums in_X6 co_X6_sums rfl rfl hs_X6_sums ⟨Nat.le_of_ble_eq_true rfl, Nat.le_of_ble_eq_true rfl⟩) [] rfl (by decide) rfl rfl (Nat.le_of_ble_eq_true rfl) dX6_digest_151 ⟨Nat.le_of_ble_eq_true rfl, Nat.le_of_ble_eq_true rfl⟩ [] rfl rfl (wMdR cI aS (S 0 0) (S 0 1) 0 (S 0 3) (S 0 4) (S 0 5) (S 0 6) (S 0 7) (S 0 8) (S 0 9) (S 0 10) (S 0 11) (S 0 12) ((hd3X (S 1) (S 2) (S 4) (S 0 0) (S 0 1) (S 0 8) 10).1) ((hd3X (S 1) (S 2) (S 4) (S 0 0) (S 0 1) (S 0 8) 10).2.1) (S 3) ((hd3X (S 1) (S 2) (S 4) (S 0 0) (S 0 1) (S 0 8) 10).2.2.1) (S 5) (S 6)) rfl ?_
              refine y_lstore_n Z [(1, .long (31 * (31 * (31 * x.1 + (Int32.toInt64 (S 3 (6 * cl x.2 + 0)))) + (Int32.toInt64 (S 3 (6 * cl x.2 + 1)))) + (Int32.toInt64 (S 3 (6 * cl x.2 + 2))))), (4, .int 2), (0, .ref (aS 0)), (3, .int x.2)] dX6_digest_154 rfl (by decide) rfl ?_
              refine y_iinc Z [(4, .int 3), (1, .long (31 * (31 * (31 * x.1 + (Int32.toInt64 (S 3 (6 * cl x.2 + 0)))) + (Int32.toInt64 (S 3 (6 * cl x.2 + 1)))) + (Int32.toInt64 (S 3 (6 * cl x.2 + 2))))), (0, .ref (aS 0)), (3, .int x.2)] dX6_digest_155 1 rfl (by decide) (by decide) rfl ?_
              refine y_goto (tgt := 131) Z dX6_digest_158 (by decide) ?_
              refine y_iload Z dX6_digest_131 0 rfl ?_
              refine y_iconst (v := 4) Z dX6_digest_133 (by decide) ?_
              refine y_icmp_ge (tgt := 161) Z dX6_digest_134 (by decide) (fun h11 => ?_) (fun h12 => ?_)
              · exact absurd (show (4 : Int32) ≤ 3 from h11) (by decide)
              · refine y_lload_n Z dX6_digest_137 1 rfl rfl ?_
                refine y_aload_n Z dX6_digest_138 2 rfl rfl ?_
                refine y_get (C := RX6) (T := TX6) (N := 19) Z 6 inlX6 rfl 0 rfl 3 (by decide) fl_RX6_16 rfl dX6_digest_139 ?_
                refine y_bipush (v := 6) Z dX6_digest_142 (by decide) ?_
                refine y_iload_n Z dX6_digest_144 3 rfl rfl ?_
                refine y_imul Z dX6_digest_145 ?_
                refine y_iload Z dX6_digest_146 0 rfl ?_
                refine y_iadd Z dX6_digest_148 ?_
                refine y_iald Z 3 0 rfl ht0 (ix6 (da_in h_n hI (by assumption)) 3 (by decide)).1 (6 * cl x.2 + 3) (ix6 (da_in h_n hI (by assumption)) 3 (by decide)).2 dX6_digest_149 ?_
                refine y_i2l Z dX6_digest_150 ?_
                refine y_SL Z (k_X6_sums l D ht0 (31 * (31 * (31 * x.1 + (Int32.toInt64 (S 3 (6 * cl x.2 + 0)))) + (Int32.toInt64 (S 3 (6 * cl x.2 + 1)))) + (Int32.toInt64 (S 3 (6 * cl x.2 + 2)))) (Int32.toInt64 (S 3 (6 * cl x.2 + 3)))) (y_cwS 2 Z ml_RX6_253 st_X6_sums in_X6 co_X6_sums rfl rfl hs_X6_sums ⟨Nat.le_of_ble_eq_true rfl, Nat.le_of_ble_eq_true rfl⟩) [] rfl (by decide) rfl rfl (Nat.le_of_ble_eq_true rfl) dX6_digest_151 ⟨Nat.le_of_ble_eq_true rfl, Nat.le_of_ble_eq_true rfl⟩ [] rfl rfl (wMdR cI aS (S 0 0) (S 0 1) 0 (S 0 3) (S 0 4) (S 0 5) (S 0 6) (S 0 7) (S 0 8) (S 0 9) (S 0 10) (S 0 11) (S 0 12) ((hd3X (S 1) (S 2) (S 4) (S 0 0) (S 0 1) (S 0 8) 10).1) ((hd3X (S 1) (S 2) (S 4) (S 0 0) (S 0 1) (S 0 8) 10).2.1) (S 3) ((hd3X (S 1) (S 2) (S 4) (S 0 0) (S 0 1) (S 0 8) 10).2.2.1) (S 5) (S 6)) rfl ?_
                refine y_lstore_n Z [(1, .long (31 * (31 * (31 * (31 * x.1 + (Int32.toInt64 (S 3 (6 * cl x.2 + 0)))) + (Int32.toInt64 (S 3 (6 * cl x.2 + 1)))) + (Int32.toInt64 (S 3 (6 * cl x.2 + 2)))) + (Int32.toInt64 (S 3 (6 * cl x.2 + 3))))), (4, .int 3), (0, .ref (aS 0)), (3, .int x.2)] dX6_digest_154 rfl (by decide) rfl ?_
                refine y_iinc Z [(4, .int 4), (1, .long (31 * (31 * (31 * (31 * x.1 + (Int32.toInt64 (S 3 (6 * cl x.2 + 0)))) + (Int32.toInt64 (S 3 (6 * cl x.2 + 1)))) + (Int32.toInt64 (S 3 (6 * cl x.2 + 2)))) + (Int32.toInt64 (S 3 (6 * cl x.2 + 3))))), (0, .ref (aS 0)), (3, .int x.2)] dX6_digest_155 1 rfl (by decide) (by decide) rfl ?_
                refine y_goto (tgt := 131) Z dX6_digest_158 (by decide) ?_
                refine y_iload Z dX6_digest_131 0 rfl ?_
                refine y_iconst (v := 4) Z dX6_digest_133 (by decide) ?_
                refine y_icmp_ge (tgt := 161) Z dX6_digest_134 (by decide) (fun h13 => ?_) (fun h14 => ?_)
                · refine y_iinc Z [(3, .int (x.2 + 1)), (4, .int 4), (1, .long (31 * (31 * (31 * (31 * x.1 + (Int32.toInt64 (S 3 (6 * cl x.2 + 0)))) + (Int32.toInt64 (S 3 (6 * cl x.2 + 1)))) + (Int32.toInt64 (S 3 (6 * cl x.2 + 2)))) + (Int32.toInt64 (S 3 (6 * cl x.2 + 3))))), (0, .ref (aS 0))] dX6_digest_161 3 rfl rfl (by decide) rfl ?_
                  refine y_goto (tgt := 120) Z dX6_digest_164 (by decide) ?_
                  refine y_lv [3, 2, 0] (lv' := [(0, .ref (aS 0)), (1, .long (31 * (31 * (31 * (31 * x.1 + (Int32.toInt64 (S 3 (6 * cl x.2 + 0)))) + (Int32.toInt64 (S 3 (6 * cl x.2 + 1)))) + (Int32.toInt64 (S 3 (6 * cl x.2 + 2)))) + (Int32.toInt64 (S 3 (6 * cl x.2 + 3))))), (3, .int (x.2 + 1))]) rfl ?_
                  refine y_eq (ws' := (wMdR cI aS (S 0 0) (S 0 1) 0 (S 0 3) (S 0 4) (S 0 5) (S 0 6) (S 0 7) (S 0 8) (S 0 9) (S 0 10) (S 0 11) (S 0 12) ((hd3X (S 1) (S 2) (S 4) (S 0 0) (S 0 1) (S 0 8) 10).1) ((hd3X (S 1) (S 2) (S 4) (S 0 0) (S 0 1) (S 0 8) 10).2.1) (S 3) ((hd3X (S 1) (S 2) (S 4) (S 0 0) (S 0 1) (S 0 8) 10).2.2.1) (S 5) (S 6))) (lv' := [(0, .ref (aS 0)), (1, .long (((hd4B (S 3)) x).1)), (3, .int (((hd4B (S 3)) x).2))]) (st' := []) (by first | (simp only [hd4B, h4, if_true, if_false, not_false_eq_true, not_true_eq_false, ↓reduceIte]; done) | (simp only [hd4B, h4, if_true, if_false, not_false_eq_true, not_true_eq_false, ↓reduceIte, wMix, wLog, wPic, wRep, wScr, wVM, wMd, sR_eq, sR_ne, sF_eq, sF_ne, upd_eq, upd_ne, gs_eq, gs_ne, gm_4, gm_ne, Nat.reduceBEq]; done) | (with_reducible rfl) | contradiction | (simp only [hd4B, h4, if_true, if_false, not_false_eq_true, not_true_eq_false, ↓reduceIte]; rfl) | rfl) (by first | (simp only [hd4B, h4, if_true, if_false, not_false_eq_true, not_true_eq_false, ↓reduceIte]; done) | (simp only [hd4B, h4, if_true, if_false, not_false_eq_true, not_true_eq_false, ↓reduceIte, wMix, wLog, wPic, wRep, wScr, wVM, wMd, sR_eq, sR_ne, sF_eq, sF_ne, upd_eq, upd_ne, gs_eq, gs_ne, gm_4, gm_ne, Nat.reduceBEq]; done) | (with_reducible rfl) | contradiction | (simp only [hd4B, h4, if_true, if_false, not_false_eq_true, not_true_eq_false, ↓reduceIte]; rfl) | rfl) rfl ?_
                  exact ih _ (hd4_1 h_n hI (hd4_c hb)) (by rw [lw_t hb] at hc; exact hc) (by rw [lw_t hb] at hx; exact hx)
                · exact absurd (show ¬ (4 : Int32) ≤ 4 from h14) (by decide)
  have L73 : ∀ (n i : Nat), okm (hd3X (S 1) (S 2) (S 4) (S 0 0) (S 0 1) (S 0 8) i).1 → i + n = 10 → Yy p l e { frames := 6, cells := 0, slots := 0, locals := 133 } s m args below meth c (QL D tys A (wMdR cI aS (S 0 0) (S 0 1) 0 (S 0 3) (S 0 4) (S 0 5) (S 0 6) (S 0 7) (S 0 8) (S 0 9) (S 0 10) (S 0 11) (S 0 12) ((hd3X (S 1) (S 2) (S 4) (S 0 0) (S 0 1) (S 0 8) 10).1) ((hd3X (S 1) (S 2) (S 4) (S 0 0) (S 0 1) (S 0 8) 10).2.1) (S 3) ((hd3X (S 1) (S 2) (S 4) (S 0 0) (S 0 1) (S 0 8) 10).2.2.1) (S 5) (S 6)) ((hd4X (S 3) (S 0 1) (hd3X (S 1) (S 2) (S 4) (S 0 0) (S 0 1) (S 0 8) 10).2.2.2).1) below args s 0 0) D A 5 0 0 (wMdR cI aS (S 0 0) (S 0 1) 0 (S 0 3) (S 0 4) (S 0 5) (S 0 6) (S 0 7) (S 0 8) (S 0 9) (S 0 10) (S 0 11) (S 0 12) ((hd3X (S 1) (S 2) (S 4) (S 0 0) (S 0 1) (S 0 8) i).1) ((hd3X (S 1) (S 2) (S 4) (S 0 0) (S 0 1) (S 0 8) i).2.1) (S 3) ((hd3X (S 1) (S 2) (S 4) (S 0 0) (S 0 1) (S 0 8) i).2.2.1) (S 5) (S 6)) [(0, .ref (aS 0)), (1, .long ((hd3X (S 1) (S 2) (S 4) (S 0 0) (S 0 1) (S 0 8) i).2.2.2)), (3, .int (nI i))] [] 73 := by
    intro n; induction n with
    | zero =>
      intro i hI hi
      have hi : i = 10 := by omega
      subst hi
      refine y_iload_n Z dX6_digest_73 2 rfl rfl ?_
      refine y_bipush (v := 10) Z dX6_digest_74 (by decide) ?_
      refine y_icmp_ge (tgt := 118) Z dX6_digest_76 (by decide) (fun h15 => ?_) (fun h16 => ?_)
      · refine y_iconst (v := 0) Z dX6_digest_118 (by decide) ?_
        refine y_istore_n Z [(3, .int 0), (0, .ref (aS 0)), (1, .long ((hd3X (S 1) (S 2) (S 4) (S 0 0) (S 0 1) (S 0 8) 10).2.2.2))] dX6_digest_119 rfl (by decide) rfl ?_
        refine y_lv [1, 2, 0] (lv' := [(0, .ref (aS 0)), (1, .long ((hd3X (S 1) (S 2) (S 4) (S 0 0) (S 0 1) (S 0 8) 10).2.2.2)), (3, .int 0)]) rfl ?_
        exact L120 101 ((hd3X (S 1) (S 2) (S 4) (S 0 0) (S 0 1) (S 0 8) 10).2.2.2, 0) (show ¬ (0 : Int32) < 0 by decide) (hd4_stop _ _ h_n) rfl
      · exact absurd (nI_le (a := 10) (b := 10) (by omega) (by decide)) h16
    | succ n ih =>
      intro i hI hi
      refine y_iload_n Z dX6_digest_73 2 rfl rfl ?_
      refine y_bipush (v := 10) Z dX6_digest_74 (by decide) ?_
      refine y_icmp_ge (tgt := 118) Z dX6_digest_76 (by decide) (fun h17 => ?_) (fun h18 => ?_)
      · exact absurd h17 (nI_ge (a := i) (b := 10) (by omega) (by decide))
      · refine y_lload_n Z dX6_digest_79 1 rfl rfl ?_
        refine y_aload_n Z dX6_digest_80 0 rfl rfl ?_
        refine y_iload_n Z dX6_digest_81 2 rfl rfl ?_
        refine y_iconst (v := 0) Z dX6_digest_82 (by decide) ?_
        refine y_VIw Z (k_X6_shareOf l D ht0 aS (sF (sR (sR (sR S 1 ((hd3X (S 1) (S 2) (S 4) (S 0 0) (S 0 1) (S 0 8) i).1)) 2 ((hd3X (S 1) (S 2) (S 4) (S 0 0) (S 0 1) (S 0 8) i).2.1)) 4 ((hd3X (S 1) (S 2) (S 4) (S 0 0) (S 0 1) (S 0 8) i).2.2.1)) 0 2 0) (nI i) 0 (by first | exact hI | (simp only [sR_eq, sR_ne, sF_eq, sF_ne, upd_eq, upd_ne, Nat.reduceBEq]; exact hI)) (vp_in_nI (by omega) (by decide))) (y_cwV 2 Z ml_RX6_134 im_X6_shareOf se_X6_shareOf in_X6 co_X6_shareOf rfl rfl hd_X6_shareOf ⟨Nat.le_of_ble_eq_true rfl, Nat.le_of_ble_eq_true rfl⟩) List.nil List.nil (by simp only [List.nil_append, List.append_nil, wMix, wLog, wPic, wRep, wScr, wVM, wMd, sR_eq, sR_ne, sF_eq, sF_ne, upd_eq, upd_ne, gs_eq, gs_ne, gm_4, gm_ne, Nat.reduceBEq]) 6 0 rfl rfl rfl rfl (Nat.le_of_ble_eq_true rfl) dX6_digest_83 ⟨Nat.le_of_ble_eq_true rfl, Nat.le_of_ble_eq_true rfl⟩ (wMdR cI aS (S 0 0) (S 0 1) 0 (S 0 3) (S 0 4) (S 0 5) (S 0 6) (S 0 7) (S 0 8) (S 0 9) (S 0 10) (S 0 11) (S 0 12) ((hd3X (S 1) (S 2) (S 4) (S 0 0) (S 0 1) (S 0 8) i).1) ((hd3X (S 1) (S 2) (S 4) (S 0 0) (S 0 1) (S 0 8) i).2.1) (S 3) (mr_ls ((hd3X (S 1) (S 2) (S 4) (S 0 0) (S 0 1) (S 0 8) i).1) ((hd3X (S 1) (S 2) (S 4) (S 0 0) (S 0 1) (S 0 8) i).2.2.1)) (S 5) (S 6)) (by simp only [List.nil_append, List.append_nil, wMix, wLog, wPic, wRep, wScr, wVM, wMd, sR_eq, sR_ne, sF_eq, sF_ne, upd_eq, upd_ne, gs_eq, gs_ne, gm_4, gm_ne, Nat.reduceBEq]) ?_
        refine y_eq rfl rfl (st' := [.int (mv_sh ((hd3X (S 1) (S 2) (S 4) (S 0 0) (S 0 1) (S 0 8) i).1) (mr_ls ((hd3X (S 1) (S 2) (S 4) (S 0 0) (S 0 1) (S 0 8) i).1) ((hd3X (S 1) (S 2) (S 4) (S 0 0) (S 0 1) (S 0 8) i).2.2.1)) (nI i) 0), .long ((hd3X (S 1) (S 2) (S 4) (S 0 0) (S 0 1) (S 0 8) i).2.2.2)]) (by first | with_reducible rfl | simp only [wMix, wLog, wPic, wRep, wScr, wVM, wMd, sR_eq, sR_ne, sF_eq, sF_ne, upd_eq, upd_ne, gs_eq, gs_ne, gm_4, gm_ne, Nat.reduceBEq]) ?_
        refine y_i2l Z dX6_digest_86 ?_
        refine y_SL Z (k_X6_sums l D ht0 ((hd3X (S 1) (S 2) (S 4) (S 0 0) (S 0 1) (S 0 8) i).2.2.2) (Int32.toInt64 (mv_sh ((hd3X (S 1) (S 2) (S 4) (S 0 0) (S 0 1) (S 0 8) i).1) (mr_ls ((hd3X (S 1) (S 2) (S 4) (S 0 0) (S 0 1) (S 0 8) i).1) ((hd3X (S 1) (S 2) (S 4) (S 0 0) (S 0 1) (S 0 8) i).2.2.1)) (nI i) 0))) (y_cwS 2 Z ml_RX6_253 st_X6_sums in_X6 co_X6_sums rfl rfl hs_X6_sums ⟨Nat.le_of_ble_eq_true rfl, Nat.le_of_ble_eq_true rfl⟩) [] rfl (by decide) rfl rfl (Nat.le_of_ble_eq_true rfl) dX6_digest_87 ⟨Nat.le_of_ble_eq_true rfl, Nat.le_of_ble_eq_true rfl⟩ [] rfl rfl (wMdR cI aS (S 0 0) (S 0 1) 0 (S 0 3) (S 0 4) (S 0 5) (S 0 6) (S 0 7) (S 0 8) (S 0 9) (S 0 10) (S 0 11) (S 0 12) ((hd3X (S 1) (S 2) (S 4) (S 0 0) (S 0 1) (S 0 8) i).1) ((hd3X (S 1) (S 2) (S 4) (S 0 0) (S 0 1) (S 0 8) i).2.1) (S 3) (mr_ls ((hd3X (S 1) (S 2) (S 4) (S 0 0) (S 0 1) (S 0 8) i).1) ((hd3X (S 1) (S 2) (S 4) (S 0 0) (S 0 1) (S 0 8) i).2.2.1)) (S 5) (S 6)) rfl ?_
        refine y_aload_n Z dX6_digest_90 0 rfl rfl ?_
        refine y_iload_n Z dX6_digest_91 2 rfl rfl ?_
        refine y_iconst (v := 1) Z dX6_digest_92 (by decide) ?_
        refine y_VIw Z (k_X6_shareOf l D ht0 aS (sR (sF (sR (sR S 1 ((hd3X (S 1) (S 2) (S 4) (S 0 0) (S 0 1) (S 0 8) i).1)) 2 ((hd3X (S 1) (S 2) (S 4) (S 0 0) (S 0 1) (S 0 8) i).2.1)) 0 2 0) 4 (mr_ls ((hd3X (S 1) (S 2) (S 4) (S 0 0) (S 0 1) (S 0 8) i).1) ((hd3X (S 1) (S 2) (S 4) (S 0 0) (S 0 1) (S 0 8) i).2.2.1))) (nI i) 1 (by first | exact hI | (simp only [sR_eq, sR_ne, sF_eq, sF_ne, upd_eq, upd_ne, Nat.reduceBEq]; exact hI)) (vp_in_nI (by omega) (by decide))) (y_cwV 2 Z ml_RX6_134 im_X6_shareOf se_X6_shareOf in_X6 co_X6_shareOf rfl rfl hd_X6_shareOf ⟨Nat.le_of_ble_eq_true rfl, Nat.le_of_ble_eq_true rfl⟩) List.nil List.nil (by simp only [List.nil_append, List.append_nil, wMix, wLog, wPic, wRep, wScr, wVM, wMd, sR_eq, sR_ne, sF_eq, sF_ne, upd_eq, upd_ne, gs_eq, gs_ne, gm_4, gm_ne, Nat.reduceBEq]) 6 0 rfl rfl rfl rfl (Nat.le_of_ble_eq_true rfl) dX6_digest_93 ⟨Nat.le_of_ble_eq_true rfl, Nat.le_of_ble_eq_true rfl⟩ (wMdR cI aS (S 0 0) (S 0 1) 0 (S 0 3) (S 0 4) (S 0 5) (S 0 6) (S 0 7) (S 0 8) (S 0 9) (S 0 10) (S 0 11) (S 0 12) ((hd3X (S 1) (S 2) (S 4) (S 0 0) (S 0 1) (S 0 8) i).1) ((hd3X (S 1) (S 2) (S 4) (S 0 0) (S 0 1) (S 0 8) i).2.1) (S 3) (mr_ls ((hd3X (S 1) (S 2) (S 4) (S 0 0) (S 0 1) (S 0 8) i).1) (mr_ls ((hd3X (S 1) (S 2) (S 4) (S 0 0) (S 0 1) (S 0 8) i).1) ((hd3X (S 1) (S 2) (S 4) (S 0 0) (S 0 1) (S 0 8) i).2.2.1))) (S 5) (S 6)) (by simp only [List.nil_append, List.append_nil, wMix, wLog, wPic, wRep, wScr, wVM, wMd, sR_eq, sR_ne, sF_eq, sF_ne, upd_eq, upd_ne, gs_eq, gs_ne, gm_4, gm_ne, Nat.reduceBEq]) ?_
        refine y_eq rfl rfl (st' := [.int (mv_sh ((hd3X (S 1) (S 2) (S 4) (S 0 0) (S 0 1) (S 0 8) i).1) (mr_ls ((hd3X (S 1) (S 2) (S 4) (S 0 0) (S 0 1) (S 0 8) i).1) (mr_ls ((hd3X (S 1) (S 2) (S 4) (S 0 0) (S 0 1) (S 0 8) i).1) ((hd3X (S 1) (S 2) (S 4) (S 0 0) (S 0 1) (S 0 8) i).2.2.1))) (nI i) 1), .long (31 * ((hd3X (S 1) (S 2) (S 4) (S 0 0) (S 0 1) (S 0 8) i).2.2.2) + (Int32.toInt64 (mv_sh ((hd3X (S 1) (S 2) (S 4) (S 0 0) (S 0 1) (S 0 8) i).1) (mr_ls ((hd3X (S 1) (S 2) (S 4) (S 0 0) (S 0 1) (S 0 8) i).1) ((hd3X (S 1) (S 2) (S 4) (S 0 0) (S 0 1) (S 0 8) i).2.2.1)) (nI i) 0)))]) (by first | with_reducible rfl | simp only [wMix, wLog, wPic, wRep, wScr, wVM, wMd, sR_eq, sR_ne, sF_eq, sF_ne, upd_eq, upd_ne, gs_eq, gs_ne, gm_4, gm_ne, Nat.reduceBEq]) ?_
        refine y_i2l Z dX6_digest_96 ?_
        refine y_SL Z (k_X6_sums l D ht0 (31 * ((hd3X (S 1) (S 2) (S 4) (S 0 0) (S 0 1) (S 0 8) i).2.2.2) + (Int32.toInt64 (mv_sh ((hd3X (S 1) (S 2) (S 4) (S 0 0) (S 0 1) (S 0 8) i).1) (mr_ls ((hd3X (S 1) (S 2) (S 4) (S 0 0) (S 0 1) (S 0 8) i).1) ((hd3X (S 1) (S 2) (S 4) (S 0 0) (S 0 1) (S 0 8) i).2.2.1)) (nI i) 0))) (Int32.toInt64 (mv_sh ((hd3X (S 1) (S 2) (S 4) (S 0 0) (S 0 1) (S 0 8) i).1) (mr_ls ((hd3X (S 1) (S 2) (S 4) (S 0 0) (S 0 1) (S 0 8) i).1) (mr_ls ((hd3X (S 1) (S 2) (S 4) (S 0 0) (S 0 1) (S 0 8) i).1) ((hd3X (S 1) (S 2) (S 4) (S 0 0) (S 0 1) (S 0 8) i).2.2.1))) (nI i) 1))) (y_cwS 2 Z ml_RX6_253 st_X6_sums in_X6 co_X6_sums rfl rfl hs_X6_sums ⟨Nat.le_of_ble_eq_true rfl, Nat.le_of_ble_eq_true rfl⟩) [] rfl (by decide) rfl rfl (Nat.le_of_ble_eq_true rfl) dX6_digest_97 ⟨Nat.le_of_ble_eq_true rfl, Nat.le_of_ble_eq_true rfl⟩ [] rfl rfl (wMdR cI aS (S 0 0) (S 0 1) 0 (S 0 3) (S 0 4) (S 0 5) (S 0 6) (S 0 7) (S 0 8) (S 0 9) (S 0 10) (S 0 11) (S 0 12) ((hd3X (S 1) (S 2) (S 4) (S 0 0) (S 0 1) (S 0 8) i).1) ((hd3X (S 1) (S 2) (S 4) (S 0 0) (S 0 1) (S 0 8) i).2.1) (S 3) (mr_ls ((hd3X (S 1) (S 2) (S 4) (S 0 0) (S 0 1) (S 0 8) i).1) (mr_ls ((hd3X (S 1) (S 2) (S 4) (S 0 0) (S 0 1) (S 0 8) i).1) ((hd3X (S 1) (S 2) (S 4) (S 0 0) (S 0 1) (S 0 8) i).2.2.1))) (S 5) (S 6)) rfl ?_
        refine y_lstore_n Z [(1, .long (31 * (31 * ((hd3X (S 1) (S 2) (S 4) (S 0 0) (S 0 1) (S 0 8) i).2.2.2) + (Int32.toInt64 (mv_sh ((hd3X (S 1) (S 2) (S 4) (S 0 0) (S 0 1) (S 0 8) i).1) (mr_ls ((hd3X (S 1) (S 2) (S 4) (S 0 0) (S 0 1) (S 0 8) i).1) ((hd3X (S 1) (S 2) (S 4) (S 0 0) (S 0 1) (S 0 8) i).2.2.1)) (nI i) 0))) + (Int32.toInt64 (mv_sh ((hd3X (S 1) (S 2) (S 4) (S 0 0) (S 0 1) (S 0 8) i).1) (mr_ls ((hd3X (S 1) (S 2) (S 4) (S 0 0) (S 0 1) (S 0 8) i).1) (mr_ls ((hd3X (S 1) (S 2) (S 4) (S 0 0) (S 0 1) (S 0 8) i).1) ((hd3X (S 1) (S 2) (S 4) (S 0 0) (S 0 1) (S 0 8) i).2.2.1))) (nI i) 1)))), (0, .ref (aS 0)), (3, .int (nI i))] dX6_digest_100 rfl (by decide) rfl ?_
        refine y_lload_n Z dX6_digest_101 0 rfl rfl ?_
        refine y_aload_n Z dX6_digest_102 1 rfl rfl ?_
        refine y_iload_n Z dX6_digest_103 2 rfl rfl ?_
        refine y_VIw Z (k_X6_tallyOf l D ht0 aS (sR (sF (sR (sR S 1 ((hd3X (S 1) (S 2) (S 4) (S 0 0) (S 0 1) (S 0 8) i).1)) 2 ((hd3X (S 1) (S 2) (S 4) (S 0 0) (S 0 1) (S 0 8) i).2.1)) 0 2 0) 4 (mr_ls ((hd3X (S 1) (S 2) (S 4) (S 0 0) (S 0 1) (S 0 8) i).1) (mr_ls ((hd3X (S 1) (S 2) (S 4) (S 0 0) (S 0 1) (S 0 8) i).1) ((hd3X (S 1) (S 2) (S 4) (S 0 0) (S 0 1) (S 0 8) i).2.2.1)))) (nI i) (by first | exact hI | (simp only [sR_eq, sR_ne, sF_eq, sF_ne, upd_eq, upd_ne, Nat.reduceBEq]; exact hI))) (y_cwV 1 Z ml_RX6_138 im_X6_tallyOf se_X6_tallyOf in_X6 co_X6_tallyOf rfl rfl hd_X6_tallyOf ⟨Nat.le_of_ble_eq_true rfl, Nat.le_of_ble_eq_true rfl⟩) List.nil List.nil (by simp only [List.nil_append, List.append_nil, wMix, wLog, wPic, wRep, wScr, wVM, wMd, sR_eq, sR_ne, sF_eq, sF_ne, upd_eq, upd_ne, gs_eq, gs_ne, gm_4, gm_ne, Nat.reduceBEq]) 6 0 rfl rfl rfl rfl (Nat.le_of_ble_eq_true rfl) dX6_digest_104 ⟨Nat.le_of_ble_eq_true rfl, Nat.le_of_ble_eq_true rfl⟩ (wMdR cI aS (S 0 0) (S 0 1) 0 (S 0 3) (S 0 4) (S 0 5) (S 0 6) (S 0 7) (S 0 8) (S 0 9) (S 0 10) (S 0 11) (S 0 12) (mr_t1 ((hd3X (S 1) (S 2) (S 4) (S 0 0) (S 0 1) (S 0 8) i).1) ((hd3X (S 1) (S 2) (S 4) (S 0 0) (S 0 1) (S 0 8) i).2.1) (mr_ls ((hd3X (S 1) (S 2) (S 4) (S 0 0) (S 0 1) (S 0 8) i).1) (mr_ls ((hd3X (S 1) (S 2) (S 4) (S 0 0) (S 0 1) (S 0 8) i).1) ((hd3X (S 1) (S 2) (S 4) (S 0 0) (S 0 1) (S 0 8) i).2.2.1))) (nI i)) (mr_t2 ((hd3X (S 1) (S 2) (S 4) (S 0 0) (S 0 1) (S 0 8) i).1) ((hd3X (S 1) (S 2) (S 4) (S 0 0) (S 0 1) (S 0 8) i).2.1) (mr_ls ((hd3X (S 1) (S 2) (S 4) (S 0 0) (S 0 1) (S 0 8) i).1) (mr_ls ((hd3X (S 1) (S 2) (S 4) (S 0 0) (S 0 1) (S 0 8) i).1) ((hd3X (S 1) (S 2) (S 4) (S 0 0) (S 0 1) (S 0 8) i).2.2.1))) (nI i)) (S 3) (mr_t4 ((hd3X (S 1) (S 2) (S 4) (S 0 0) (S 0 1) (S 0 8) i).1) (mr_ls ((hd3X (S 1) (S 2) (S 4) (S 0 0) (S 0 1) (S 0 8) i).1) (mr_ls ((hd3X (S 1) (S 2) (S 4) (S 0 0) (S 0 1) (S 0 8) i).1) ((hd3X (S 1) (S 2) (S 4) (S 0 0) (S 0 1) (S 0 8) i).2.2.1))) (nI i)) (S 5) (S 6)) (by simp only [List.nil_append, List.append_nil, wMix, wLog, wPic, wRep, wScr, wVM, wMd, sR_eq, sR_ne, sF_eq, sF_ne, upd_eq, upd_ne, gs_eq, gs_ne, gm_4, gm_ne, Nat.reduceBEq]) ?_
        refine y_eq rfl rfl (st' := [.int (mv_ty ((hd3X (S 1) (S 2) (S 4) (S 0 0) (S 0 1) (S 0 8) i).1) (mr_ls ((hd3X (S 1) (S 2) (S 4) (S 0 0) (S 0 1) (S 0 8) i).1) (mr_ls ((hd3X (S 1) (S 2) (S 4) (S 0 0) (S 0 1) (S 0 8) i).1) ((hd3X (S 1) (S 2) (S 4) (S 0 0) (S 0 1) (S 0 8) i).2.2.1))) (nI i)), .long (31 * (31 * ((hd3X (S 1) (S 2) (S 4) (S 0 0) (S 0 1) (S 0 8) i).2.2.2) + (Int32.toInt64 (mv_sh ((hd3X (S 1) (S 2) (S 4) (S 0 0) (S 0 1) (S 0 8) i).1) (mr_ls ((hd3X (S 1) (S 2) (S 4) (S 0 0) (S 0 1) (S 0 8) i).1) ((hd3X (S 1) (S 2) (S 4) (S 0 0) (S 0 1) (S 0 8) i).2.2.1)) (nI i) 0))) + (Int32.toInt64 (mv_sh ((hd3X (S 1) (S 2) (S 4) (S 0 0) (S 0 1) (S 0 8) i).1) (mr_ls ((hd3X (S 1) (S 2) (S 4) (S 0 0) (S 0 1) (S 0 8) i).1) (mr_ls ((hd3X (S 1) (S 2) (S 4) (S 0 0) (S 0 1) (S 0 8) i).1) ((hd3X (S 1) (S 2) (S 4) (S 0 0) (S 0 1) (S 0 8) i).2.2.1))) (nI i) 1)))]) (by first | with_reducible rfl | simp only [wMix, wLog, wPic, wRep, wScr, wVM, wMd, sR_eq, sR_ne, sF_eq, sF_ne, upd_eq, upd_ne, gs_eq, gs_ne, gm_4, gm_ne, Nat.reduceBEq]) ?_
        refine y_i2l Z dX6_digest_107 ?_
        refine y_SL Z (k_X6_sums l D ht0 (31 * (31 * ((hd3X (S 1) (S 2) (S 4) (S 0 0) (S 0 1) (S 0 8) i).2.2.2) + (Int32.toInt64 (mv_sh ((hd3X (S 1) (S 2) (S 4) (S 0 0) (S 0 1) (S 0 8) i).1) (mr_ls ((hd3X (S 1) (S 2) (S 4) (S 0 0) (S 0 1) (S 0 8) i).1) ((hd3X (S 1) (S 2) (S 4) (S 0 0) (S 0 1) (S 0 8) i).2.2.1)) (nI i) 0))) + (Int32.toInt64 (mv_sh ((hd3X (S 1) (S 2) (S 4) (S 0 0) (S 0 1) (S 0 8) i).1) (mr_ls ((hd3X (S 1) (S 2) (S 4) (S 0 0) (S 0 1) (S 0 8) i).1) (mr_ls ((hd3X (S 1) (S 2) (S 4) (S 0 0) (S 0 1) (S 0 8) i).1) ((hd3X (S 1) (S 2) (S 4) (S 0 0) (S 0 1) (S 0 8) i).2.2.1))) (nI i) 1))) (Int32.toInt64 (mv_ty ((hd3X (S 1) (S 2) (S 4) (S 0 0) (S 0 1) (S 0 8) i).1) (mr_ls ((hd3X (S 1) (S 2) (S 4) (S 0 0) (S 0 1) (S 0 8) i).1) (mr_ls ((hd3X (S 1) (S 2) (S 4) (S 0 0) (S 0 1) (S 0 8) i).1) ((hd3X (S 1) (S 2) (S 4) (S 0 0) (S 0 1) (S 0 8) i).2.2.1))) (nI i)))) (y_cwS 2 Z ml_RX6_253 st_X6_sums in_X6 co_X6_sums rfl rfl hs_X6_sums ⟨Nat.le_of_ble_eq_true rfl, Nat.le_of_ble_eq_true rfl⟩) [] rfl (by decide) rfl rfl (Nat.le_of_ble_eq_true rfl) dX6_digest_108 ⟨Nat.le_of_ble_eq_true rfl, Nat.le_of_ble_eq_true rfl⟩ [] rfl rfl (wMdR cI aS (S 0 0) (S 0 1) 0 (S 0 3) (S 0 4) (S 0 5) (S 0 6) (S 0 7) (S 0 8) (S 0 9) (S 0 10) (S 0 11) (S 0 12) (mr_t1 ((hd3X (S 1) (S 2) (S 4) (S 0 0) (S 0 1) (S 0 8) i).1) ((hd3X (S 1) (S 2) (S 4) (S 0 0) (S 0 1) (S 0 8) i).2.1) (mr_ls ((hd3X (S 1) (S 2) (S 4) (S 0 0) (S 0 1) (S 0 8) i).1) (mr_ls ((hd3X (S 1) (S 2) (S 4) (S 0 0) (S 0 1) (S 0 8) i).1) ((hd3X (S 1) (S 2) (S 4) (S 0 0) (S 0 1) (S 0 8) i).2.2.1))) (nI i)) (mr_t2 ((hd3X (S 1) (S 2) (S 4) (S 0 0) (S 0 1) (S 0 8) i).1) ((hd3X (S 1) (S 2) (S 4) (S 0 0) (S 0 1) (S 0 8) i).2.1) (mr_ls ((hd3X (S 1) (S 2) (S 4) (S 0 0) (S 0 1) (S 0 8) i).1) (mr_ls ((hd3X (S 1) (S 2) (S 4) (S 0 0) (S 0 1) (S 0 8) i).1) ((hd3X (S 1) (S 2) (S 4) (S 0 0) (S 0 1) (S 0 8) i).2.2.1))) (nI i)) (S 3) (mr_t4 ((hd3X (S 1) (S 2) (S 4) (S 0 0) (S 0 1) (S 0 8) i).1) (mr_ls ((hd3X (S 1) (S 2) (S 4) (S 0 0) (S 0 1) (S 0 8) i).1) (mr_ls ((hd3X (S 1) (S 2) (S 4) (S 0 0) (S 0 1) (S 0 8) i).1) ((hd3X (S 1) (S 2) (S 4) (S 0 0) (S 0 1) (S 0 8) i).2.2.1))) (nI i)) (S 5) (S 6)) rfl ?_
        refine y_lstore_n Z [(1, .long (31 * (31 * (31 * ((hd3X (S 1) (S 2) (S 4) (S 0 0) (S 0 1) (S 0 8) i).2.2.2) + (Int32.toInt64 (mv_sh ((hd3X (S 1) (S 2) (S 4) (S 0 0) (S 0 1) (S 0 8) i).1) (mr_ls ((hd3X (S 1) (S 2) (S 4) (S 0 0) (S 0 1) (S 0 8) i).1) ((hd3X (S 1) (S 2) (S 4) (S 0 0) (S 0 1) (S 0 8) i).2.2.1)) (nI i) 0))) + (Int32.toInt64 (mv_sh ((hd3X (S 1) (S 2) (S 4) (S 0 0) (S 0 1) (S 0 8) i).1) (mr_ls ((hd3X (S 1) (S 2) (S 4) (S 0 0) (S 0 1) (S 0 8) i).1) (mr_ls ((hd3X (S 1) (S 2) (S 4) (S 0 0) (S 0 1) (S 0 8) i).1) ((hd3X (S 1) (S 2) (S 4) (S 0 0) (S 0 1) (S 0 8) i).2.2.1))) (nI i) 1))) + (Int32.toInt64 (mv_ty ((hd3X (S 1) (S 2) (S 4) (S 0 0) (S 0 1) (S 0 8) i).1) (mr_ls ((hd3X (S 1) (S 2) (S 4) (S 0 0) (S 0 1) (S 0 8) i).1) (mr_ls ((hd3X (S 1) (S 2) (S 4) (S 0 0) (S 0 1) (S 0 8) i).1) ((hd3X (S 1) (S 2) (S 4) (S 0 0) (S 0 1) (S 0 8) i).2.2.1))) (nI i))))), (0, .ref (aS 0)), (3, .int (nI i))] dX6_digest_111 rfl (by decide) rfl ?_
        refine y_iinc Z [(3, .int (nI (i + 1))), (1, .long (31 * (31 * (31 * ((hd3X (S 1) (S 2) (S 4) (S 0 0) (S 0 1) (S 0 8) i).2.2.2) + (Int32.toInt64 (mv_sh ((hd3X (S 1) (S 2) (S 4) (S 0 0) (S 0 1) (S 0 8) i).1) (mr_ls ((hd3X (S 1) (S 2) (S 4) (S 0 0) (S 0 1) (S 0 8) i).1) ((hd3X (S 1) (S 2) (S 4) (S 0 0) (S 0 1) (S 0 8) i).2.2.1)) (nI i) 0))) + (Int32.toInt64 (mv_sh ((hd3X (S 1) (S 2) (S 4) (S 0 0) (S 0 1) (S 0 8) i).1) (mr_ls ((hd3X (S 1) (S 2) (S 4) (S 0 0) (S 0 1) (S 0 8) i).1) (mr_ls ((hd3X (S 1) (S 2) (S 4) (S 0 0) (S 0 1) (S 0 8) i).1) ((hd3X (S 1) (S 2) (S 4) (S 0 0) (S 0 1) (S 0 8) i).2.2.1))) (nI i) 1))) + (Int32.toInt64 (mv_ty ((hd3X (S 1) (S 2) (S 4) (S 0 0) (S 0 1) (S 0 8) i).1) (mr_ls ((hd3X (S 1) (S 2) (S 4) (S 0 0) (S 0 1) (S 0 8) i).1) (mr_ls ((hd3X (S 1) (S 2) (S 4) (S 0 0) (S 0 1) (S 0 8) i).1) ((hd3X (S 1) (S 2) (S 4) (S 0 0) (S 0 1) (S 0 8) i).2.2.1))) (nI i))))), (0, .ref (aS 0))] dX6_digest_112 2 rfl (nI_1 _) (by decide) rfl ?_
        refine y_goto (tgt := 73) Z dX6_digest_115 (by decide) ?_
        refine y_lv [2, 1, 0] (lv' := [(0, .ref (aS 0)), (1, .long (31 * (31 * (31 * ((hd3X (S 1) (S 2) (S 4) (S 0 0) (S 0 1) (S 0 8) i).2.2.2) + (Int32.toInt64 (mv_sh ((hd3X (S 1) (S 2) (S 4) (S 0 0) (S 0 1) (S 0 8) i).1) (mr_ls ((hd3X (S 1) (S 2) (S 4) (S 0 0) (S 0 1) (S 0 8) i).1) ((hd3X (S 1) (S 2) (S 4) (S 0 0) (S 0 1) (S 0 8) i).2.2.1)) (nI i) 0))) + (Int32.toInt64 (mv_sh ((hd3X (S 1) (S 2) (S 4) (S 0 0) (S 0 1) (S 0 8) i).1) (mr_ls ((hd3X (S 1) (S 2) (S 4) (S 0 0) (S 0 1) (S 0 8) i).1) (mr_ls ((hd3X (S 1) (S 2) (S 4) (S 0 0) (S 0 1) (S 0 8) i).1) ((hd3X (S 1) (S 2) (S 4) (S 0 0) (S 0 1) (S 0 8) i).2.2.1))) (nI i) 1))) + (Int32.toInt64 (mv_ty ((hd3X (S 1) (S 2) (S 4) (S 0 0) (S 0 1) (S 0 8) i).1) (mr_ls ((hd3X (S 1) (S 2) (S 4) (S 0 0) (S 0 1) (S 0 8) i).1) (mr_ls ((hd3X (S 1) (S 2) (S 4) (S 0 0) (S 0 1) (S 0 8) i).1) ((hd3X (S 1) (S 2) (S 4) (S 0 0) (S 0 1) (S 0 8) i).2.2.1))) (nI i))))), (3, .int (nI (i + 1)))]) rfl ?_
        refine y_eq (ws' := (wMdR cI aS (S 0 0) (S 0 1) 0 (S 0 3) (S 0 4) (S 0 5) (S 0 6) (S 0 7) (S 0 8) (S 0 9) (S 0 10) (S 0 11) (S 0 12) ((hd3X (S 1) (S 2) (S 4) (S 0 0) (S 0 1) (S 0 8) (i + 1)).1) ((hd3X (S 1) (S 2) (S 4) (S 0 0) (S 0 1) (S 0 8) (i + 1)).2.1) (S 3) ((hd3X (S 1) (S 2) (S 4) (S 0 0) (S 0 1) (S 0 8) (i + 1)).2.2.1) (S 5) (S 6))) (lv' := [(0, .ref (aS 0)), (1, .long ((hd3X (S 1) (S 2) (S 4) (S 0 0) (S 0 1) (S 0 8) (i + 1)).2.2.2)), (3, .int (nI (i + 1)))]) (st' := []) (by first | (simp only [it_s, hd3X, hd3, h18, if_true, if_false, not_false_eq_true, not_true_eq_false, ↓reduceIte]; done) | (simp only [it_s, hd3X, hd3, h18, if_true, if_false, not_false_eq_true, not_true_eq_false, ↓reduceIte, wMix, wLog, wPic, wRep, wScr, wVM, wMd, sR_eq, sR_ne, sF_eq, sF_ne, upd_eq, upd_ne, gs_eq, gs_ne, gm_4, gm_ne, Nat.reduceBEq]; done) | (with_reducible rfl) | contradiction | (simp only [it_s, hd3X, hd3, h18, if_true, if_false, not_false_eq_true, not_true_eq_false, ↓reduceIte]; rfl) | rfl) (by first | (simp only [it_s, hd3X, hd3, h18, if_true, if_false, not_false_eq_true, not_true_eq_false, ↓reduceIte]; done) | (simp only [it_s, hd3X, hd3, h18, if_true, if_false, not_false_eq_true, not_true_eq_false, ↓reduceIte, wMix, wLog, wPic, wRep, wScr, wVM, wMd, sR_eq, sR_ne, sF_eq, sF_ne, upd_eq, upd_ne, gs_eq, gs_ne, gm_4, gm_ne, Nat.reduceBEq]; done) | (with_reducible rfl) | contradiction | (simp only [it_s, hd3X, hd3, h18, if_true, if_false, not_false_eq_true, not_true_eq_false, ↓reduceIte]; rfl) | rfl) rfl ?_
        exact ih (i + 1) (hd3_ok hI) (by omega)
  have L44 : ∀ (n i : Nat), i + n = 12 → Yy p l e { frames := 6, cells := 0, slots := 0, locals := 133 } s m args below meth c (QL D tys A (wMdR cI aS (S 0 0) (S 0 1) 0 (S 0 3) (S 0 4) (S 0 5) (S 0 6) (S 0 7) (S 0 8) (S 0 9) (S 0 10) (S 0 11) (S 0 12) ((hd3X (S 1) (S 2) (S 4) (S 0 0) (S 0 1) (S 0 8) 10).1) ((hd3X (S 1) (S 2) (S 4) (S 0 0) (S 0 1) (S 0 8) 10).2.1) (S 3) ((hd3X (S 1) (S 2) (S 4) (S 0 0) (S 0 1) (S 0 8) 10).2.2.1) (S 5) (S 6)) ((hd4X (S 3) (S 0 1) (hd3X (S 1) (S 2) (S 4) (S 0 0) (S 0 1) (S 0 8) 10).2.2.2).1) below args s 0 0) D A 5 0 0 (wMdR cI aS (S 0 0) (S 0 1) 0 (S 0 3) (S 0 4) (S 0 5) (S 0 6) (S 0 7) (S 0 8) (S 0 9) (S 0 10) (S 0 11) (S 0 12) (S 1) (S 2) (S 3) (S 4) (S 5) (S 6)) [(0, .ref (aS 0)), (1, .long (it (hd2 (S 1)) i (it (hd1 (S 1) (S 0 0) (S 0 1)) 9 (31 * 3253 + Int32.toInt64 (S 0 8))))), (3, .int (nI i))] [] 44 := by
    intro n; induction n with
    | zero =>
      intro i hi
      have hi : i = 12 := by omega
      subst hi
      refine y_iload_n Z dX6_digest_44 2 rfl rfl ?_
      refine y_bipush (v := 12) Z dX6_digest_45 (by decide) ?_
      refine y_icmp_ge (tgt := 71) Z dX6_digest_47 (by decide) (fun h19 => ?_) (fun h20 => ?_)
      · refine y_iconst (v := 0) Z dX6_digest_71 (by decide) ?_
        refine y_istore_n Z [(3, .int 0), (0, .ref (aS 0)), (1, .long (it (hd2 (S 1)) 12 (it (hd1 (S 1) (S 0 0) (S 0 1)) 9 (31 * 3253 + Int32.toInt64 (S 0 8)))))] dX6_digest_72 rfl (by decide) rfl ?_
        refine y_lv [1, 2, 0] (lv' := [(0, .ref (aS 0)), (1, .long (it (hd2 (S 1)) 12 (it (hd1 (S 1) (S 0 0) (S 0 1)) 9 (31 * 3253 + Int32.toInt64 (S 0 8))))), (3, .int 0)]) rfl ?_
        exact L73 10 0 h_o (by omega)
      · exact absurd (nI_le (a := 12) (b := 12) (by omega) (by decide)) h20
    | succ n ih =>
      intro i hi
      refine y_iload_n Z dX6_digest_44 2 rfl rfl ?_
      refine y_bipush (v := 12) Z dX6_digest_45 (by decide) ?_
      refine y_icmp_ge (tgt := 71) Z dX6_digest_47 (by decide) (fun h21 => ?_) (fun h22 => ?_)
      · exact absurd h21 (nI_ge (a := i) (b := 12) (by omega) (by decide))
      · refine y_lload_n Z dX6_digest_50 1 rfl rfl ?_
        refine y_aload_n Z dX6_digest_51 0 rfl rfl ?_
        refine y_get (C := RX6) (T := TX6) (N := 19) Z 6 inlX6 rfl 0 rfl 0 (by decide) fl_RX6_7 rfl dX6_digest_52 ?_
        refine y_bipush (v := 7) Z dX6_digest_55 (by decide) ?_
        refine y_iload_n Z dX6_digest_57 2 rfl rfl ?_
        refine y_iadd Z dX6_digest_58 ?_
        refine y_iald Z 1 0 rfl ht0 (k7_in (by omega)).1 (7 + i) (k7_in (by omega)).2 dX6_digest_59 ?_
        refine y_i2l Z dX6_digest_60 ?_
        refine y_SL Z (k_X6_sums l D ht0 (it (hd2 (S 1)) i (it (hd1 (S 1) (S 0 0) (S 0 1)) 9 (31 * 3253 + Int32.toInt64 (S 0 8)))) (Int32.toInt64 (S 1 (7 + i)))) (y_cwS 2 Z ml_RX6_253 st_X6_sums in_X6 co_X6_sums rfl rfl hs_X6_sums ⟨Nat.le_of_ble_eq_true rfl, Nat.le_of_ble_eq_true rfl⟩) [] rfl (by decide) rfl rfl (Nat.le_of_ble_eq_true rfl) dX6_digest_61 ⟨Nat.le_of_ble_eq_true rfl, Nat.le_of_ble_eq_true rfl⟩ [] rfl rfl (wMdR cI aS (S 0 0) (S 0 1) 0 (S 0 3) (S 0 4) (S 0 5) (S 0 6) (S 0 7) (S 0 8) (S 0 9) (S 0 10) (S 0 11) (S 0 12) (S 1) (S 2) (S 3) (S 4) (S 5) (S 6)) rfl ?_
        refine y_lstore_n Z [(1, .long (31 * (it (hd2 (S 1)) i (it (hd1 (S 1) (S 0 0) (S 0 1)) 9 (31 * 3253 + Int32.toInt64 (S 0 8)))) + (Int32.toInt64 (S 1 (7 + i))))), (0, .ref (aS 0)), (3, .int (nI i))] dX6_digest_64 rfl (by decide) rfl ?_
        refine y_iinc Z [(3, .int (nI (i + 1))), (1, .long (31 * (it (hd2 (S 1)) i (it (hd1 (S 1) (S 0 0) (S 0 1)) 9 (31 * 3253 + Int32.toInt64 (S 0 8)))) + (Int32.toInt64 (S 1 (7 + i))))), (0, .ref (aS 0))] dX6_digest_65 2 rfl (nI_1 _) (by decide) rfl ?_
        refine y_goto (tgt := 44) Z dX6_digest_68 (by decide) ?_
        refine y_lv [2, 1, 0] (lv' := [(0, .ref (aS 0)), (1, .long (31 * (it (hd2 (S 1)) i (it (hd1 (S 1) (S 0 0) (S 0 1)) 9 (31 * 3253 + Int32.toInt64 (S 0 8)))) + (Int32.toInt64 (S 1 (7 + i))))), (3, .int (nI (i + 1)))]) rfl ?_
        refine y_eq (ws' := (wMdR cI aS (S 0 0) (S 0 1) 0 (S 0 3) (S 0 4) (S 0 5) (S 0 6) (S 0 7) (S 0 8) (S 0 9) (S 0 10) (S 0 11) (S 0 12) (S 1) (S 2) (S 3) (S 4) (S 5) (S 6))) (lv' := [(0, .ref (aS 0)), (1, .long (it (hd2 (S 1)) (i + 1) (it (hd1 (S 1) (S 0 0) (S 0 1)) 9 (31 * 3253 + Int32.toInt64 (S 0 8))))), (3, .int (nI (i + 1)))]) (st' := []) (by first | (simp only [it_s, hd2, h22, if_true, if_false, not_false_eq_true, not_true_eq_false, ↓reduceIte]; done) | (simp only [it_s, hd2, h22, if_true, if_false, not_false_eq_true, not_true_eq_false, ↓reduceIte, wMix, wLog, wPic, wRep, wScr, wVM, wMd, sR_eq, sR_ne, sF_eq, sF_ne, upd_eq, upd_ne, gs_eq, gs_ne, gm_4, gm_ne, Nat.reduceBEq]; done) | (with_reducible rfl) | contradiction | (simp only [it_s, hd2, h22, if_true, if_false, not_false_eq_true, not_true_eq_false, ↓reduceIte]; rfl) | rfl) (by first | (simp only [it_s, hd2, h22, if_true, if_false, not_false_eq_true, not_true_eq_false, ↓reduceIte]; done) | (simp only [it_s, hd2, h22, if_true, if_false, not_false_eq_true, not_true_eq_false, ↓reduceIte, wMix, wLog, wPic, wRep, wScr, wVM, wMd, sR_eq, sR_ne, sF_eq, sF_ne, upd_eq, upd_ne, gs_eq, gs_ne, gm_4, gm_ne, Nat.reduceBEq]; done) | (with_reducible rfl) | contradiction | (simp only [it_s, hd2, h22, if_true, if_false, not_false_eq_true, not_true_eq_false, ↓reduceIte]; rfl) | rfl) rfl ?_
        exact ih (i + 1)  (by omega)
  have L19 : ∀ (n i : Nat), i + n = 9 → Yy p l e { frames := 6, cells := 0, slots := 0, locals := 133 } s m args below meth c (QL D tys A (wMdR cI aS (S 0 0) (S 0 1) 0 (S 0 3) (S 0 4) (S 0 5) (S 0 6) (S 0 7) (S 0 8) (S 0 9) (S 0 10) (S 0 11) (S 0 12) ((hd3X (S 1) (S 2) (S 4) (S 0 0) (S 0 1) (S 0 8) 10).1) ((hd3X (S 1) (S 2) (S 4) (S 0 0) (S 0 1) (S 0 8) 10).2.1) (S 3) ((hd3X (S 1) (S 2) (S 4) (S 0 0) (S 0 1) (S 0 8) 10).2.2.1) (S 5) (S 6)) ((hd4X (S 3) (S 0 1) (hd3X (S 1) (S 2) (S 4) (S 0 0) (S 0 1) (S 0 8) 10).2.2.2).1) below args s 0 0) D A 5 0 0 (wMdR cI aS (S 0 0) (S 0 1) 0 (S 0 3) (S 0 4) (S 0 5) (S 0 6) (S 0 7) (S 0 8) (S 0 9) (S 0 10) (S 0 11) (S 0 12) (S 1) (S 2) (S 3) (S 4) (S 5) (S 6)) [(0, .ref (aS 0)), (1, .long (it (hd1 (S 1) (S 0 0) (S 0 1)) i (31 * 3253 + Int32.toInt64 (S 0 8)))), (3, .int (nI i))] [] 19 := by
    intro n; induction n with
    | zero =>
      intro i hi
      have hi : i = 9 := by omega
      subst hi
      refine y_iload_n Z dX6_digest_19 2 rfl rfl ?_
      refine y_bipush (v := 9) Z dX6_digest_20 (by decide) ?_
      refine y_icmp_ge (tgt := 42) Z dX6_digest_22 (by decide) (fun h23 => ?_) (fun h24 => ?_)
      · refine y_iconst (v := 0) Z dX6_digest_42 (by decide) ?_
        refine y_istore_n Z [(3, .int 0), (0, .ref (aS 0)), (1, .long (it (hd1 (S 1) (S 0 0) (S 0 1)) 9 (31 * 3253 + Int32.toInt64 (S 0 8))))] dX6_digest_43 rfl (by decide) rfl ?_
        refine y_lv [1, 2, 0] (lv' := [(0, .ref (aS 0)), (1, .long (it (hd1 (S 1) (S 0 0) (S 0 1)) 9 (31 * 3253 + Int32.toInt64 (S 0 8)))), (3, .int 0)]) rfl ?_
        refine y_eq (ws' := (wMdR cI aS (S 0 0) (S 0 1) 0 (S 0 3) (S 0 4) (S 0 5) (S 0 6) (S 0 7) (S 0 8) (S 0 9) (S 0 10) (S 0 11) (S 0 12) (S 1) (S 2) (S 3) (S 4) (S 5) (S 6))) (lv' := [(0, .ref (aS 0)), (1, .long (it (hd2 (S 1)) 0 (it (hd1 (S 1) (S 0 0) (S 0 1)) 9 (31 * 3253 + Int32.toInt64 (S 0 8))))), (3, .int (nI 0))]) (st' := []) (by first | (simp only [it_0, if_true, if_false, not_false_eq_true, not_true_eq_false, ↓reduceIte]; done) | (simp only [it_0, if_true, if_false, not_false_eq_true, not_true_eq_false, ↓reduceIte, wMix, wLog, wPic, wRep, wScr, wVM, wMd, sR_eq, sR_ne, sF_eq, sF_ne, upd_eq, upd_ne, gs_eq, gs_ne, gm_4, gm_ne, Nat.reduceBEq]; done) | (with_reducible rfl) | contradiction | (simp only [it_0, if_true, if_false, not_false_eq_true, not_true_eq_false, ↓reduceIte]; rfl) | rfl) (by first | (simp only [it_0, if_true, if_false, not_false_eq_true, not_true_eq_false, ↓reduceIte]; done) | (simp only [it_0, if_true, if_false, not_false_eq_true, not_true_eq_false, ↓reduceIte, wMix, wLog, wPic, wRep, wScr, wVM, wMd, sR_eq, sR_ne, sF_eq, sF_ne, upd_eq, upd_ne, gs_eq, gs_ne, gm_4, gm_ne, Nat.reduceBEq]; done) | (with_reducible rfl) | contradiction | (simp only [it_0, if_true, if_false, not_false_eq_true, not_true_eq_false, ↓reduceIte]; rfl) | rfl) rfl ?_
        exact L44 12 0  (by omega)
      · exact absurd (nI_le (a := 9) (b := 9) (by omega) (by decide)) h24
    | succ n ih =>
      intro i hi
      refine y_iload_n Z dX6_digest_19 2 rfl rfl ?_
      refine y_bipush (v := 9) Z dX6_digest_20 (by decide) ?_
      refine y_icmp_ge (tgt := 42) Z dX6_digest_22 (by decide) (fun h25 => ?_) (fun h26 => ?_)
      · exact absurd h25 (nI_ge (a := i) (b := 9) (by omega) (by decide))
      · refine y_lload_n Z dX6_digest_25 1 rfl rfl ?_
        refine y_aload_n Z dX6_digest_26 0 rfl rfl ?_
        refine y_iload_n Z dX6_digest_27 2 rfl rfl ?_
        refine y_VIw Z (k_X6_settingOf l D ht0 aS (sF S 0 2 0) (nI i) (nI_pos (by omega))) (y_cwV 1 Z ml_RX6_145 im_X6_settingOf se_X6_settingOf in_X6 co_X6_settingOf rfl rfl hd_X6_settingOf ⟨Nat.le_of_ble_eq_true rfl, Nat.le_of_ble_eq_true rfl⟩) List.nil List.nil (by simp only [List.nil_append, List.append_nil, wMix, wLog, wPic, wRep, wScr, wVM, wMd, sR_eq, sR_ne, sF_eq, sF_ne, upd_eq, upd_ne, gs_eq, gs_ne, gm_4, gm_ne, Nat.reduceBEq]) 6 0 rfl rfl rfl rfl (Nat.le_of_ble_eq_true rfl) dX6_digest_28 ⟨Nat.le_of_ble_eq_true rfl, Nat.le_of_ble_eq_true rfl⟩ (wMdR cI aS (S 0 0) (S 0 1) 0 (S 0 3) (S 0 4) (S 0 5) (S 0 6) (S 0 7) (S 0 8) (S 0 9) (S 0 10) (S 0 11) (S 0 12) (S 1) (S 2) (S 3) (S 4) (S 5) (S 6)) (by simp only [List.nil_append, List.append_nil, wMix, wLog, wPic, wRep, wScr, wVM, wMd, sR_eq, sR_ne, sF_eq, sF_ne, upd_eq, upd_ne, gs_eq, gs_ne, gm_4, gm_ne, Nat.reduceBEq]) ?_
        refine y_eq rfl rfl (st' := [.int (mv_st (S 1) (S 0 0) (S 0 1) (nI i)), .long (it (hd1 (S 1) (S 0 0) (S 0 1)) i (31 * 3253 + Int32.toInt64 (S 0 8)))]) (by first | with_reducible rfl | simp only [wMix, wLog, wPic, wRep, wScr, wVM, wMd, sR_eq, sR_ne, sF_eq, sF_ne, upd_eq, upd_ne, gs_eq, gs_ne, gm_4, gm_ne, Nat.reduceBEq]) ?_
        refine y_i2l Z dX6_digest_31 ?_
        refine y_SL Z (k_X6_sums l D ht0 (it (hd1 (S 1) (S 0 0) (S 0 1)) i (31 * 3253 + Int32.toInt64 (S 0 8))) (Int32.toInt64 (mv_st (S 1) (S 0 0) (S 0 1) (nI i)))) (y_cwS 2 Z ml_RX6_253 st_X6_sums in_X6 co_X6_sums rfl rfl hs_X6_sums ⟨Nat.le_of_ble_eq_true rfl, Nat.le_of_ble_eq_true rfl⟩) [] rfl (by decide) rfl rfl (Nat.le_of_ble_eq_true rfl) dX6_digest_32 ⟨Nat.le_of_ble_eq_true rfl, Nat.le_of_ble_eq_true rfl⟩ [] rfl rfl (wMdR cI aS (S 0 0) (S 0 1) 0 (S 0 3) (S 0 4) (S 0 5) (S 0 6) (S 0 7) (S 0 8) (S 0 9) (S 0 10) (S 0 11) (S 0 12) (S 1) (S 2) (S 3) (S 4) (S 5) (S 6)) rfl ?_
        refine y_lstore_n Z [(1, .long (31 * (it (hd1 (S 1) (S 0 0) (S 0 1)) i (31 * 3253 + Int32.toInt64 (S 0 8))) + (Int32.toInt64 (mv_st (S 1) (S 0 0) (S 0 1) (nI i))))), (0, .ref (aS 0)), (3, .int (nI i))] dX6_digest_35 rfl (by decide) rfl ?_
        refine y_iinc Z [(3, .int (nI (i + 1))), (1, .long (31 * (it (hd1 (S 1) (S 0 0) (S 0 1)) i (31 * 3253 + Int32.toInt64 (S 0 8))) + (Int32.toInt64 (mv_st (S 1) (S 0 0) (S 0 1) (nI i))))), (0, .ref (aS 0))] dX6_digest_36 2 rfl (nI_1 _) (by decide) rfl ?_
        refine y_goto (tgt := 19) Z dX6_digest_39 (by decide) ?_
        refine y_lv [2, 1, 0] (lv' := [(0, .ref (aS 0)), (1, .long (31 * (it (hd1 (S 1) (S 0 0) (S 0 1)) i (31 * 3253 + Int32.toInt64 (S 0 8))) + (Int32.toInt64 (mv_st (S 1) (S 0 0) (S 0 1) (nI i))))), (3, .int (nI (i + 1)))]) rfl ?_
        refine y_eq (ws' := (wMdR cI aS (S 0 0) (S 0 1) 0 (S 0 3) (S 0 4) (S 0 5) (S 0 6) (S 0 7) (S 0 8) (S 0 9) (S 0 10) (S 0 11) (S 0 12) (S 1) (S 2) (S 3) (S 4) (S 5) (S 6))) (lv' := [(0, .ref (aS 0)), (1, .long (it (hd1 (S 1) (S 0 0) (S 0 1)) (i + 1) (31 * 3253 + Int32.toInt64 (S 0 8)))), (3, .int (nI (i + 1)))]) (st' := []) (by first | (simp only [it_s, hd1, h26, if_true, if_false, not_false_eq_true, not_true_eq_false, ↓reduceIte]; done) | (simp only [it_s, hd1, h26, if_true, if_false, not_false_eq_true, not_true_eq_false, ↓reduceIte, wMix, wLog, wPic, wRep, wScr, wVM, wMd, sR_eq, sR_ne, sF_eq, sF_ne, upd_eq, upd_ne, gs_eq, gs_ne, gm_4, gm_ne, Nat.reduceBEq]; done) | (with_reducible rfl) | contradiction | (simp only [it_s, hd1, h26, if_true, if_false, not_false_eq_true, not_true_eq_false, ↓reduceIte]; rfl) | rfl) (by first | (simp only [it_s, hd1, h26, if_true, if_false, not_false_eq_true, not_true_eq_false, ↓reduceIte]; done) | (simp only [it_s, hd1, h26, if_true, if_false, not_false_eq_true, not_true_eq_false, ↓reduceIte, wMix, wLog, wPic, wRep, wScr, wVM, wMd, sR_eq, sR_ne, sF_eq, sF_ne, upd_eq, upd_ne, gs_eq, gs_ne, gm_4, gm_ne, Nat.reduceBEq]; done) | (with_reducible rfl) | contradiction | (simp only [it_s, hd1, h26, if_true, if_false, not_false_eq_true, not_true_eq_false, ↓reduceIte]; rfl) | rfl) rfl ?_
        exact ih (i + 1)  (by omega)
  refine y_aload_n Z dX6_digest_0 0 rfl rfl ?_
  refine y_iconst (v := 0) Z dX6_digest_1 (by decide) ?_
  refine y_put (C := RX6) (T := TX6) (N := 19) Z 6 inlX6 rfl tyX6 tyX6_ok nmX6 0 rfl 5 (by decide) fl_RX6_31 rfl rfl rfl (Nat.le_of_ble_eq_true rfl) (wMdR cI aS (S 0 0) (S 0 1) 0 (S 0 3) (S 0 4) (S 0 5) (S 0 6) (S 0 7) (S 0 8) (S 0 9) (S 0 10) (S 0 11) (S 0 12) (S 1) (S 2) (S 3) (S 4) (S 5) (S 6)) rfl dX6_digest_2 ?_
  refine y_ldc2 Z (3253) ct_RX6_251 dX6_digest_5 ?_
  refine y_aload_n Z dX6_digest_8 0 rfl rfl ?_
  refine y_get (C := RX6) (T := TX6) (N := 19) Z 6 inlX6 rfl 0 rfl 14 (by decide) fl_RX6_184 rfl dX6_digest_9 ?_
  refine y_i2l Z dX6_digest_12 ?_
  refine y_SL Z (k_X6_sums l D ht0 3253 (Int32.toInt64 (S 0 8))) (y_cwS 2 Z ml_RX6_253 st_X6_sums in_X6 co_X6_sums rfl rfl hs_X6_sums ⟨Nat.le_of_ble_eq_true rfl, Nat.le_of_ble_eq_true rfl⟩) [] rfl (by decide) rfl rfl (Nat.le_of_ble_eq_true rfl) dX6_digest_13 ⟨Nat.le_of_ble_eq_true rfl, Nat.le_of_ble_eq_true rfl⟩ [] rfl rfl (wMdR cI aS (S 0 0) (S 0 1) 0 (S 0 3) (S 0 4) (S 0 5) (S 0 6) (S 0 7) (S 0 8) (S 0 9) (S 0 10) (S 0 11) (S 0 12) (S 1) (S 2) (S 3) (S 4) (S 5) (S 6)) rfl ?_
  refine y_lstore_n Z [(1, .long (31 * 3253 + (Int32.toInt64 (S 0 8)))), (0, .ref (aS 0))] dX6_digest_16 rfl (by decide) rfl ?_
  refine y_iconst (v := 0) Z dX6_digest_17 (by decide) ?_
  refine y_istore_n Z [(3, .int 0), (1, .long (31 * 3253 + (Int32.toInt64 (S 0 8)))), (0, .ref (aS 0))] dX6_digest_18 rfl (by decide) rfl ?_
  refine y_lv [2, 1, 0] (lv' := [(0, .ref (aS 0)), (1, .long (31 * 3253 + (Int32.toInt64 (S 0 8)))), (3, .int 0)]) rfl ?_
  refine y_eq (ws' := (wMdR cI aS (S 0 0) (S 0 1) 0 (S 0 3) (S 0 4) (S 0 5) (S 0 6) (S 0 7) (S 0 8) (S 0 9) (S 0 10) (S 0 11) (S 0 12) (S 1) (S 2) (S 3) (S 4) (S 5) (S 6))) (lv' := [(0, .ref (aS 0)), (1, .long (it (hd1 (S 1) (S 0 0) (S 0 1)) 0 (31 * 3253 + Int32.toInt64 (S 0 8)))), (3, .int (nI 0))]) (st' := []) (by first | (simp only [it_0, if_true, if_false, not_false_eq_true, not_true_eq_false, ↓reduceIte]; done) | (simp only [it_0, if_true, if_false, not_false_eq_true, not_true_eq_false, ↓reduceIte, wMix, wLog, wPic, wRep, wScr, wVM, wMd, sR_eq, sR_ne, sF_eq, sF_ne, upd_eq, upd_ne, gs_eq, gs_ne, gm_4, gm_ne, Nat.reduceBEq]; done) | (with_reducible rfl) | contradiction | (simp only [it_0, if_true, if_false, not_false_eq_true, not_true_eq_false, ↓reduceIte]; rfl) | rfl) (by first | (simp only [it_0, if_true, if_false, not_false_eq_true, not_true_eq_false, ↓reduceIte]; done) | (simp only [it_0, if_true, if_false, not_false_eq_true, not_true_eq_false, ↓reduceIte, wMix, wLog, wPic, wRep, wScr, wVM, wMd, sR_eq, sR_ne, sF_eq, sF_ne, upd_eq, upd_ne, gs_eq, gs_ne, gm_4, gm_ne, Nat.reduceBEq]; done) | (with_reducible rfl) | contradiction | (simp only [it_0, if_true, if_false, not_false_eq_true, not_true_eq_false, ↓reduceIte]; rfl) | rfl) rfl ?_
  exact L19 9 0  (by omega)
