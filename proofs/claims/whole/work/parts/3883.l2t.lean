/-! level 2: carrying out -/
theorem lo_k (S : Nat → Nat → Int32) (A B C w a b c d : Int32) : mo_log S A B C w a b c d 0 9 = S 0 9 ∧ mo_log S A B C w a b c d 0 8 = S 0 8 ∧ mo_log S A B C w a b c d 6 = S 6 ∧ mo_log S A B C w a b c d 0 1 = (if mv_go A B C = 0 then S 0 1 else S 0 1 + 1) ∧ mo_log S A B C w a b c d 3 = (if mv_go A B C = 0 then S 3 else mr_la (S 3) (S 0 1).toNatClampNeg (S 0 0) w a b c d) ∧ mo_log S A B C w a b c d 0 2 = mv_gf A B C := by
  unfold mo_log
  simp only [sF_eq, sF_ne, sR_eq, sR_ne, upd_eq, upd_ne, Nat.reduceBEq]
  exact ⟨trivial, trivial, trivial, trivial, trivial, trivial⟩
theorem po_k (S : Nat → Nat → Int32) (fr : Int32) : mo_pass S fr 0 9 = S 0 9 ∧ mo_pass S fr 0 8 = S 0 8 ∧ mo_pass S fr 6 = S 6 ∧ mo_pass S fr 0 1 = S 0 1 ∧ mo_pass S fr 3 = S 3 ∧ mo_pass S fr 0 2 = mv_gf (mv_in (Int32.toInt64 fr) 0 500) (mv_ps2 (S 0 0) fr) 1 := by
  unfold mo_pass
  simp only [sF_eq, sF_ne, sR_eq, sR_ne, upd_eq, upd_ne, Nat.reduceBEq]
  exact ⟨trivial, trivial, trivial, trivial, trivial, trivial⟩
/-- the two sides with the script Cf and the kept Mix K1 -/
def QR (S : Nat → Nat → Int32) (Cf K1 : Nat → Nat → Int32) (N0 L p : Nat) (J : Nat → Nat → Nat → Int32) (y : Nat → Nat → Int32) : Prop := Inv J y ∧ y 0 9 = nI p ∧ J 7 = Cf ∧ J 1 = K1 ∧ y 6 = S 6 ∧ y 0 8 = nI L ∧ (∃ n : Nat, N0 ≤ n ∧ n ≤ 100 ∧ y 0 1 = nI n) ∧ ∀ i, i < 6 * N0 → y 3 i = S 3 i
theorem QR_log {S Cf K1 : Nat → Nat → Int32} {N0 L p : Nat} {J : Nat → Nat → Nat → Int32} {y : Nat → Nat → Int32} (h : QR S Cf K1 N0 L p J y) {w : Nat} {a b A B C : Int32} (ha : aOk w a b (-1) (-1)) (h1 : okM J (nI w) → mv_gf A B C = 0 ∧ ¬ mv_go A B C = 0) (h0 : ¬ okM J (nI w) → ¬ mv_gf A B C = 0 ∧ mv_go A B C = 0) : (¬ myF J (nI w) = 0 ∧ mo_log y A B C (nI w) a b (-1) (-1) 0 2 = 0 ∧ QR S Cf K1 N0 L p (vm_enact J (nI w) a b (-1) (-1)) (mo_log y A B C (nI w) a b (-1) (-1))) ∨ (myF J (nI w) = 0 ∧ ¬ mo_log y A B C (nI w) a b (-1) (-1) 0 2 = 0 ∧ QR S Cf K1 N0 L p J (mo_log y A B C (nI w) a b (-1) (-1))) := by
  obtain ⟨I, q1, q2, q3, q4, q5, ⟨n, n1, n2, n3⟩, q7⟩ := h
  obtain ⟨k1, k2, k3, k4, k5, k6⟩ := lo_k y A B C (nI w) a b (-1) (-1)
  by_cases c : okM J (nI w)
  · left
    obtain ⟨g1, g2⟩ := h1 c
    obtain ⟨-, I2⟩ := log_eq I (c := -1) (d := -1) ha c g2
    rw [if_neg g2] at k4 k5
    have hn : n < 100 := by
      have := (hr_ok I (nI w)).1.mp c
      have e := this.1
      rw [n3] at e
      rcases Nat.lt_or_ge n 100 with z | z
      · exact z
      · unfold mv_hr at e
        rw [if_pos (show (100 : Int32) ≤ nI n from nI_le (a := 100) z (by omega))] at e
        exact absurd e (by decide)
    refine ⟨c, k6.trans g1, I2, k1.trans q1, (en_7 _ _ _ _ _ _).trans q2, ?_, k3.trans q4, k2.trans q5, ⟨n + 1, by omega, by omega, by rw [k4, n3, nI_1]⟩, fun i hi => ?_⟩
    · unfold vm_enact
      rw [gs_ne _ _ _ rfl, gs_ne _ _ _ rfl]; exact q3
    · rw [k5, n3, nI_clamp (by omega), la_lo _ _ _ _ _ _ _ _ (by omega)]
      exact q7 i hi
  · right
    obtain ⟨g1, g2⟩ := h0 c
    rw [if_pos g2] at k4 k5
    have c2 : myF J (nI w) = 0 := Decidable.byContradiction (fun z => c z)
    refine ⟨c2, fun z => g1 (k6.symm.trans z), log_no I g2, k1.trans q1, q2, q3, k3.trans q4, k2.trans q5, ⟨n, n1, n2, k4.trans n3⟩, fun i hi => ?_⟩
    rw [k5]; exact q7 i hi
theorem QR_o {S Cf K1 : Nat → Nat → Int32} {N0 L p : Nat} {J : Nat → Nat → Nat → Int32} {y : Nat → Nat → Int32} (h : QR S Cf K1 N0 L p J y) {p2 : Nat} (hp : ro_p2 (S 6) (nI L) (nI p) = nI p2) : QR S Cf K1 N0 L p2 J (mo_ro y) ∧ mo_ro y 0 11 = mv_he (S 6) (nI L) (nI p) ∧ mo_ro y 0 12 = ro_fi (S 6) (nI L) (nI p) ∧ mo_ro y 0 10 = ro_nu (S 6) (nI L) (nI p) (y 0 10) := by
  obtain ⟨I, q1, q2, q3, q4, q5, ⟨n, n1, n2, n3⟩, q7⟩ := h
  have e : ∀ i, i ≠ 9 → i ≠ 10 → i ≠ 11 → i ≠ 12 → mo_ro y 0 i = y 0 i := fun i a b c d => by
    unfold mo_ro
    rw [sF_eq, upd_ne _ _ _ (bne a), sF_eq, upd_ne _ _ _ (bne b), sF_eq, upd_ne _ _ _ (bne d), sF_eq, upd_ne _ _ _ (bne c)]
  have r1 := ro_r y (r := 1) rfl
  have r3 := ro_r y (r := 3) rfl
  have r6 := ro_r y (r := 6) rfl
  refine ⟨⟨inv_cg I rfl rfl rfl (e 0 (by omega) (by omega) (by omega) (by omega)) (ro_01 y) (ro_8 y) (by rw [r1]; exact eq_n.rf) r3 r6, ?_, q2, q3, r6.trans q4, (ro_8 y).trans q5, ⟨n, n1, n2, (ro_01 y).trans n3⟩, fun i hi => by rw [r3]; exact q7 i hi⟩, ?_, ?_, ?_⟩
  · rw [ro_9, q4, q5, q1]; exact hp
  · unfold mo_ro
    rw [sF_eq, upd_ne _ _ _ rfl, sF_eq, upd_ne _ _ _ rfl, sF_eq, upd_ne _ _ _ rfl, sF_eq, upd_eq, q4, q5, q1]
  · unfold mo_ro
    rw [sF_eq, upd_ne _ _ _ rfl, sF_eq, upd_ne _ _ _ rfl, sF_eq, upd_eq, q4, q5, q1]
  · unfold mo_ro
    rw [sF_eq, upd_ne _ _ _ rfl, sF_eq, upd_eq, q4, q5, q1]
/-- one order done -/
def DN (S Cf K1 : Nat → Nat → Int32) (N0 L p2 : Nat) (J J' : Nat → Nat → Nat → Int32) (d : Int32) (z : Nat → Nat → Int32) : Prop := (¬ d = 0 ∧ z 0 2 = 0 ∧ QR S Cf K1 N0 L p2 J' z) ∨ (d = 0 ∧ ¬ z 0 2 = 0 ∧ J' = J ∧ QR S Cf K1 N0 L p2 J z)
theorem dn_log {S Cf K1 : Nat → Nat → Int32} {N0 L p : Nat} {J : Nat → Nat → Nat → Int32} {y : Nat → Nat → Int32} (h : QR S Cf K1 N0 L p J y) {q : Int32} {w : Nat} {a b A B C : Int32} (hw : w < 10) (e1 : oW J q = nI w) (e2 : oA J q = a) (e3 : oB J q = b) (ha : aOk w a b (-1) (-1)) (h1 : okM J (nI w) → mv_gf A B C = 0 ∧ ¬ mv_go A B C = 0) (h0 : ¬ okM J (nI w) → ¬ mv_gf A B C = 0 ∧ mv_go A B C = 0) : DN S Cf K1 N0 L p J (vm_do J q) (doF J q) (mo_log y A B C (nI w) a b (-1) (-1)) := by
  have n10 : ¬ nI w = 10 := fun z => by have := nI_inj (a := w) (b := 10) (by omega) (by decide) z; omega
  unfold DN vm_do doF
  rw [e1, if_neg n10, if_neg n10, e2, e3]
  rcases QR_log h ha h1 h0 with ⟨c, d, e⟩ | ⟨c, d, e⟩
  · left
    rw [if_neg c, if_neg c]
    exact ⟨by decide, d, e⟩
  · right
    rw [if_pos c, if_pos c]
    exact ⟨rfl, d, rfl, e⟩
theorem dn_pass {S Cf K1 : Nat → Nat → Int32} {N0 L p : Nat} {J : Nat → Nat → Nat → Int32} {y : Nat → Nat → Int32} (h : QR S Cf K1 N0 L p J y) {q a : Int32} (e1 : oW J q = nI 10) (e2 : oA J q = a) (ha : okR a 0 999) : DN S Cf K1 N0 L p J (vm_do J q) (doF J q) (mo_pass y a) := by
  obtain ⟨I, q1, q2, q3, q4, q5, q6, q7⟩ := h
  obtain ⟨k1, k2, k3, k4, k5, k6⟩ := po_k y a
  have et := (inv_t I).1
  unfold DN vm_do doF
  rw [e1, if_pos (show nI 10 = 10 from rfl), if_pos (show nI 10 = 10 from rfl), e2]
  have keep : ∀ J', Inv J' (mo_pass y a) → J' 7 = Cf → J' 1 = K1 → QR S Cf K1 N0 L p J' (mo_pass y a) := fun J' I2 j7 j1 => ⟨I2, k1.trans q1, j7, j1, k3.trans q4, k2.trans q5, by rw [k4]; exact q6, fun i hi => by rw [k5]; exact q7 i hi⟩
  by_cases c : 500 < a
  · right
    have hn : ¬ okR a 0 500 := fun z => by
      have x := Int32.lt_iff_toInt_lt.mp c
      have y := i_le.mp z.2
      omega
    have e0 : mv_in (Int32.toInt64 a) 0 500 = 0 := in_L0 (by decide) (by decide) hn
    rw [if_pos c, if_pos c, k6, e0]
    exact ⟨rfl, by rw [gf_1]; decide, rfl, keep J (pass_no I (by unfold mv_pg; rw [e0]; rfl)) q2 q3⟩
  · have hy : okR a 0 500 := ⟨ha.1, by
      rw [i_le]
      have x := i_nlt.mp c
      omega⟩
    have e0 : mv_in (Int32.toInt64 a) 0 500 = 1 := in_L1 (by decide) (by decide) hy
    rw [if_neg c, if_neg c]
    by_cases hP : J 0 0 7 + a ≤ 5000
    · left
      have e1 : mv_ps2 (y 0 0) a = 1 := by
        unfold mv_ps2
        rw [et] at hP
        rw [e0, if_neg (by decide), if_neg (fun z => by
          have x := Int32.lt_iff_toInt_lt.mp z
          have w := i_le.mp hP
          omega)]
      have hg : ¬ mv_pg (y 0 0) a = 0 := by unfold mv_pg; rw [e0, e1]; decide
      obtain ⟨v1, v2, v3⟩ := vp_0 J a
      rw [if_pos hP, if_pos hP, k6, e0, e1]
      refine ⟨by decide, by decide, keep _ (pass_eq I hy hP hg).2 (v3.trans q2) ?_⟩
      unfold vm_pass
      rw [gs_ne _ _ _ rfl]; exact q3
    · right
      have e1 : mv_ps2 (y 0 0) a = 0 := by
        unfold mv_ps2
        rw [et, i_le] at hP
        rw [e0, if_neg (by decide), if_pos (by rw [Int32.lt_iff_toInt_lt]; omega)]
      rw [if_neg hP, if_neg hP, k6, e0, e1]
      exact ⟨rfl, by decide, rfl, keep J (pass_no I (by unfold mv_pg; rw [e0, e1]; decide)) q2 q3⟩
theorem g_hr {J : Nat → Nat → Nat → Int32} {y : Nat → Nat → Int32} (I : Inv J y) {w : Int32} (h3 : ¬ w = 3) (h7 : ¬ w = 7) (h8 : ¬ w = 8) : (okM J w → mv_hr (y 0 1) = 1) ∧ (¬ okM J w → mv_hr (y 0 1) = 0) := ⟨fun c => (hm_1 I c).1, fun c => (hm_0 I c).2 h3 h7 h8⟩
theorem okR_w {a : Int32} {n m : Nat} (hn : n ≤ m) (hm : m < 2 ^ 31) (h : rg a 0 n) : okR a 0 (nI m) := by
  obtain ⟨k, -, hk, rfl⟩ := h
  exact ⟨nI_pos (by omega), nI_le (by omega) (by omega)⟩
theorem or_do {S Cf K1 : Nat → Nat → Int32} {N0 L p p2 : Nat} {J : Nat → Nat → Nat → Int32} {y : Nat → Nat → Int32} (h : QR S Cf K1 N0 L p J y) (hp : ro_p2 (S 6) (nI L) (nI p) = nI p2) (hp0 : p ≤ 900) {q : Int32} {w : Nat} {a b : Int32} (e1 : oW J q = nI w) (e2 : oA J q = a) (e3 : oB J q = b) (ho : OR (S 6) L p w a b) : DN S Cf K1 N0 L p2 J (vm_do J q) (doF J q) (mo_or (mo_ro y)) := by
  obtain ⟨h2, l1, l2, l3⟩ := QR_o h hp
  have I := h2.1
  generalize mo_ro y = x at *
  unfold mo_or
  unfold ro_fi at l2
  unfold ro_nu at l3
  rcases ho with ⟨c, rfl, rfl, rfl⟩ | ⟨c, rfl, ea, rfl, ok⟩ | ⟨c, rfl, rfl, rfl⟩ | ⟨c, rfl, ea, ra, eb, ok⟩ | ⟨c, rfl, ea, ra, rfl⟩ | ⟨c, rfl, ea, ra, rfl⟩ | ⟨c, rfl, ea, ra, rfl⟩ | ⟨c, rfl, ea, rfl, ok⟩
  · rw [l1, c, if_pos rfl]
    refine dn_log h2 (w := 7) (by omega) e1 e2 e3 (Or.inr (Or.inr (Or.inr (Or.inr (Or.inr (Or.inr (Or.inr (Or.inl rfl)))))))) (fun m => ?_) (fun m => ?_)
    · rw [show nI 7 = 7 from rfl] at m
      rw [(hm_1 I m).2.2]; decide
    · rw [show nI 7 = 7 from rfl] at m
      rw [(hm_0 I m).1]; decide
  · rw [c, rc_98, ← ea] at l3
    rw [l1, c, if_neg (by decide), if_pos rfl, l3]
    have g : mv_in (Int32.toInt64 a) 0 1000 = 1 := in_L1 (by decide) (by decide) ok
    refine dn_log h2 (w := 8) (by omega) e1 e2 e3 (Or.inr (Or.inr (Or.inr (Or.inr (Or.inr (Or.inr (Or.inr (Or.inr (Or.inl ⟨rfl, okR_rg (a := 0) (b := 1000) (by decide) (by decide) ok⟩))))))))) (fun m => ?_) (fun m => ?_)
    · rw [show nI 8 = 8 from rfl] at m
      rw [g, (hm_1 I m).2.2]; decide
    · rw [show nI 8 = 8 from rfl] at m
      rw [g, (hm_0 I m).1]; decide
  · rw [l1, c, if_neg (by decide), if_neg (by decide), if_pos rfl]
    refine dn_log h2 (w := 6) (by omega) e1 e2 e3 (Or.inr (Or.inr (Or.inr (Or.inr (Or.inr (Or.inr (Or.inl rfl))))))) (fun m => ?_) (fun m => ?_)
    · rw [(g_hr I (by decide) (by decide) (by decide)).1 m]; decide
    · rw [(g_hr I (by decide) (by decide) (by decide)).2 m]; decide
  · have hf : mv_fg (S 6) (nI L) (nI p + 1) 2 = a := ea.symm
    have hfn : ¬ a = -1 := by
      obtain ⟨k, -, hk, rfl⟩ := ra
      exact nI_ne1 (by omega)
    rw [c, rc_107, hf] at l2
    rw [c, rc_107] at l3
    unfold ro_kn at l3
    rw [hf, if_neg hfn, ← eb] at l3
    rw [l1, c, if_neg (by decide), if_neg (by decide), if_neg (by decide), if_pos rfl, l2, l3]
    have g1 : mv_in (Int32.toInt64 a) 0 2 = 1 := in_L1 (by decide) (by decide) (okR_w (m := 2) (by omega) (by decide) ra)
    have g2 : mv_in (Int32.toInt64 b) 1 100 = 1 := in_L1 (by decide) (by decide) ok
    refine dn_log h2 (w := 2) (by omega) e1 e2 e3 (Or.inr (Or.inr (Or.inl ⟨rfl, ra, okR_rg (a := 1) (b := 100) (by decide) (by decide) ok⟩))) (fun m => ?_) (fun m => ?_)
    · rw [g1, g2, (g_hr I (by decide) (by decide) (by decide)).1 m]; decide
    · rw [g1, g2, (g_hr I (by decide) (by decide) (by decide)).2 m]; decide
  · rw [c, rc_110, ← ea] at l2
    rw [l1, c, if_neg (by decide), if_neg (by decide), if_neg (by decide), if_neg (by decide), if_pos rfl, l2]
    have g : mv_in (Int32.toInt64 a) 0 15 = 1 := in_L1 (by decide) (by decide) (okR_w (m := 15) (by omega) (by decide) ra)
    refine dn_log h2 (w := 3) (by omega) e1 e2 e3 (Or.inr (Or.inr (Or.inr (Or.inl ⟨rfl, rg_w ra (by omega) (by omega)⟩)))) (fun m => ?_) (fun m => ?_)
    · rw [show nI 3 = 3 from rfl] at m
      rw [g, (hm_1 I m).2.2]; decide
    · rw [show nI 3 = 3 from rfl] at m
      rw [g, (hm_0 I m).1]; decide
  · rw [c, rc_112, ← ea] at l2
    rw [l1, c, if_neg (by decide), if_neg (by decide), if_neg (by decide), if_neg (by decide), if_neg (by decide), if_pos rfl, l2]
    have g : mv_is a = 1 := is_1 ((okS_R a).mpr (okR_w (m := 9) (by omega) (by decide) ra))
    refine dn_log h2 (w := 0) (by omega) e1 e2 e3 (Or.inl ⟨rfl, ra⟩) (fun m => ?_) (fun m => ?_)
    · rw [g, (g_hr I (by decide) (by decide) (by decide)).1 m]; decide
    · rw [g, (g_hr I (by decide) (by decide) (by decide)).2 m]; decide
  · rw [c, rc_118, ← ea] at l2
    rw [l1, c, if_neg (by decide), if_neg (by decide), if_neg (by decide), if_neg (by decide), if_neg (by decide), if_neg (by decide), if_pos rfl, l2]
    have g : mv_is a = 1 := is_1 ((okS_R a).mpr (okR_w (m := 9) (by omega) (by decide) ra))
    refine dn_log h2 (w := 1) (by omega) e1 e2 e3 (Or.inr (Or.inl ⟨rfl, ra⟩)) (fun m => ?_) (fun m => ?_)
    · rw [g, (g_hr I (by decide) (by decide) (by decide)).1 m]; decide
    · rw [g, (g_hr I (by decide) (by decide) (by decide)).2 m]; decide
  · rw [c, rc_119, ← ea] at l3
    rw [l1, c, if_neg (by decide), if_neg (by decide), if_neg (by decide), if_neg (by decide), if_neg (by decide), if_neg (by decide), if_neg (by decide), l3]
    exact dn_pass h2 e1 e2 ok
