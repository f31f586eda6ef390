/-! level 2: one order -/
theorem rc_97 (a b cc k n p v w d : Int32) : ro_c 97 a b cc k n p v w d = a := by
  unfold ro_c
  rw [if_pos rfl]
theorem rc_98 (a b cc k n p v w d : Int32) : ro_c 98 a b cc k n p v w d = b := by
  unfold ro_c
  rw [if_neg (by decide), if_pos rfl]
theorem rc_99 (a b cc k n p v w d : Int32) : ro_c 99 a b cc k n p v w d = cc := by
  unfold ro_c
  rw [if_neg (by decide), if_neg (by decide), if_pos rfl]
theorem rc_107 (a b cc k n p v w d : Int32) : ro_c 107 a b cc k n p v w d = k := by
  unfold ro_c
  rw [if_neg (by decide), if_neg (by decide), if_neg (by decide), if_pos rfl]
theorem rc_110 (a b cc k n p v w d : Int32) : ro_c 110 a b cc k n p v w d = n := by
  unfold ro_c
  rw [if_neg (by decide), if_neg (by decide), if_neg (by decide), if_neg (by decide), if_pos rfl]
theorem rc_112 (a b cc k n p v w d : Int32) : ro_c 112 a b cc k n p v w d = p := by
  unfold ro_c
  rw [if_neg (by decide), if_neg (by decide), if_neg (by decide), if_neg (by decide), if_neg (by decide), if_pos rfl]
theorem rc_118 (a b cc k n p v w d : Int32) : ro_c 118 a b cc k n p v w d = v := by
  unfold ro_c
  rw [if_neg (by decide), if_neg (by decide), if_neg (by decide), if_neg (by decide), if_neg (by decide), if_neg (by decide), if_pos rfl]
theorem rc_119 (a b cc k n p v w d : Int32) : ro_c 119 a b cc k n p v w d = w := by
  unfold ro_c
  rw [if_neg (by decide), if_neg (by decide), if_neg (by decide), if_neg (by decide), if_neg (by decide), if_neg (by decide), if_neg (by decide), if_pos rfl]
theorem rc_x {x : Int32} (h : ¬ x = 97 ∧ ¬ x = 98 ∧ ¬ x = 99 ∧ ¬ x = 107 ∧ ¬ x = 110 ∧ ¬ x = 112 ∧ ¬ x = 118 ∧ ¬ x = 119) (a b cc k n p v w d : Int32) : ro_c x a b cc k n p v w d = d := by
  unfold ro_c
  obtain ⟨h97, h98, h99, h107, h110, h112, h118, h119⟩ := h
  rw [if_neg h97, if_neg h98, if_neg h99, if_neg h107, if_neg h110, if_neg h112, if_neg h118, if_neg h119]
theorem of_x {x : Int32} (h : ¬ x = 97 ∧ ¬ x = 98 ∧ ¬ x = 99 ∧ ¬ x = 107 ∧ ¬ x = 110 ∧ ¬ x = 112 ∧ ¬ x = 118 ∧ ¬ x = 119) : ordF x = -1 := by
  unfold ordF
  obtain ⟨h97, h98, h99, h107, h110, h112, h118, h119⟩ := h
  rw [if_neg h97, if_neg h98, if_neg h99, if_neg h107, if_neg h110, if_neg h112, if_neg h118, if_neg h119]
theorem of_97 : ordF 97 = 7 := by decide
theorem of_98 : ordF 98 = 8 := by decide
theorem of_99 : ordF 99 = 6 := by decide
theorem of_107 : ordF 107 = 2 := by decide
theorem of_110 : ordF 110 = 3 := by decide
theorem of_112 : ordF 112 = 0 := by decide
theorem of_118 : ordF 118 = 1 := by decide
theorem of_119 : ordF 119 = 10 := by decide
theorem r2_0 (C : Nat → Nat → Int32) : gt_ro2 0 C = gt_fin 0 (dgF C (C 0 2)) (-1) (gt_rdig C 9) := by
  unfold gt_ro2
  rw [if_pos rfl]
theorem r2_1 (C : Nat → Nat → Int32) : gt_ro2 1 C = gt_fin 1 (dgF C (C 0 2)) (-1) (gt_rdig C 9) := by
  unfold gt_ro2
  rw [if_neg (by decide), if_pos rfl]
theorem r2_2 (C : Nat → Nat → Int32) : gt_ro2 2 C = gt_fin 2 (dgF C (C 0 2)) (rnX (gt_rdig C 2) 3).2.1 (gt_rnum (gt_rdig C 2) 3 1 100) := by
  unfold gt_ro2
  rw [if_neg (by decide), if_neg (by decide), if_pos rfl]
theorem r2_3 (C : Nat → Nat → Int32) : gt_ro2 3 C = gt_fin 3 (dgF C (C 0 2)) (-1) (gt_rdig C 7) := by
  unfold gt_ro2
  rw [if_neg (by decide), if_neg (by decide), if_neg (by decide), if_pos rfl]
theorem r2_8 (C : Nat → Nat → Int32) : gt_ro2 8 C = gt_fin 8 (rnX C 4).2.1 (-1) (gt_rnum C 4 0 1000) := by
  unfold gt_ro2
  rw [if_neg (by decide), if_neg (by decide), if_neg (by decide), if_neg (by decide), if_pos rfl]
theorem r2_10 (C : Nat → Nat → Int32) : gt_ro2 10 C = gt_fin 10 (rnX C 3).2.1 (-1) (gt_rnum C 3 0 999) := by
  unfold gt_ro2
  rw [if_neg (by decide), if_neg (by decide), if_neg (by decide), if_neg (by decide), if_neg (by decide), if_pos rfl]
theorem r2_6 (C : Nat → Nat → Int32) : gt_ro2 6 C = gt_fin 6 (-1) (-1) C := by
  unfold gt_ro2
  rw [if_neg (by decide), if_neg (by decide), if_neg (by decide), if_neg (by decide), if_neg (by decide), if_neg (by decide)]
theorem r2_7 (C : Nat → Nat → Int32) : gt_ro2 7 C = gt_fin 7 (-1) (-1) C := by
  unfold gt_ro2
  rw [if_neg (by decide), if_neg (by decide), if_neg (by decide), if_neg (by decide), if_neg (by decide), if_neg (by decide)]
/-- the order at the position p -/
def OR (T : Nat → Int32) (L p w : Nat) (a b : Int32) : Prop :=
  (mv_he T (nI L) (nI p) = 97 ∧ w = 7 ∧ a = -1 ∧ b = -1) ∨
  (mv_he T (nI L) (nI p) = 98 ∧ w = 8 ∧ a = (rdX T (nI L) (nI p + 1) 4).1 ∧ b = -1 ∧ okR a 0 1000) ∨
  (mv_he T (nI L) (nI p) = 99 ∧ w = 6 ∧ a = -1 ∧ b = -1) ∨
  (mv_he T (nI L) (nI p) = 107 ∧ w = 2 ∧ a = mv_fg T (nI L) (nI p + 1) 2 ∧ rg a 0 2 ∧ b = (rdX T (nI L) (mv_fp T (nI L) (nI p + 1) 2) 3).1 ∧ okR b 1 100) ∨
  (mv_he T (nI L) (nI p) = 110 ∧ w = 3 ∧ a = mv_fg T (nI L) (nI p + 1) 7 ∧ rg a 0 7 ∧ b = -1) ∨
  (mv_he T (nI L) (nI p) = 112 ∧ w = 0 ∧ a = mv_fg T (nI L) (nI p + 1) 9 ∧ rg a 0 9 ∧ b = -1) ∨
  (mv_he T (nI L) (nI p) = 118 ∧ w = 1 ∧ a = mv_fg T (nI L) (nI p + 1) 9 ∧ rg a 0 9 ∧ b = -1) ∨
  (mv_he T (nI L) (nI p) = 119 ∧ w = 10 ∧ a = (rdX T (nI L) (nI p + 1) 3).1 ∧ b = -1 ∧ okR a 0 999)
/-- what reading an order comes to -/
def RO (C : Nat → Nat → Int32) (T : Nat → Int32) (L p : Nat) : Prop := (mv_ro T (nI L) (nI p) = 1 ∧ ∃ (p2 w : Nat) (a b : Int32), p + 2 ≤ p2 ∧ p2 ≤ L ∧ ro_p2 T (nI L) (nI p) = nI p2 ∧ gt_ro (pC C p) = gt_keep (pC C p2) (nI w) a b ∧ OR T L p w a b) ∨ (mv_ro T (nI L) (nI p) = 0 ∧ (∃ q : Nat, q ≤ 900 ∧ ro_p2 T (nI L) (nI p) = nI q) ∧ gt_ro (pC C p) 0 3 = ro_p2 T (nI L) (nI p))
theorem ro_y {C : Nat → Nat → Int32} {T : Nat → Int32} {L p : Nat} (h : TC C T L) (hL : L ≤ 120) (h3 : C 0 3 = -1) {p1 w : Nat} {a b : Int32} (hp1 : p + 1 ≤ p1) (hp : p1 ≤ 800) (g : ro_gd T (nI L) (nI p) = 1) (e1 : ro_p1 T (nI L) (nI p) = nI p1) (er : gt_ro (pC C p) = gt_fin (nI w) a b (pC C p1)) (ho : OR T L p w a b) : RO C T L p := by
  unfold RO mv_ro ro_p2
  rw [g, e1, er, if_neg (show ¬ (1 : Int32) = 0 by decide), if_neg (show ¬ (1 : Int32) = 0 by decide)]
  unfold gt_fin
  rcases semi_eq h hL (p := p1) (by omega) h3 with ⟨s1, s2, s3⟩ | ⟨s1, s2⟩
  · left
    rw [s1, s3, if_neg (show ¬ (1 : Int32) = 0 by decide)]
    refine ⟨rfl, p1 + 1, w, a, b, by omega, by omega, ?_, rfl, ho⟩
    show nI p1 + 1 = _
    rw [nI_1]
  · right
    rw [s1, keep_3, s2, if_pos rfl]
    exact ⟨rfl, ⟨p1, by omega, Int32.add_zero _⟩, (Int32.add_zero _).symm⟩
theorem ro_n {C : Nat → Nat → Int32} {T : Nat → Int32} {L p : Nat} {q : Nat} (hq : q ≤ 900) (g : ro_gd T (nI L) (nI p) = 0) (e1 : ro_p1 T (nI L) (nI p) = nI q) (er : gt_ro (pC C p) 0 3 = nI q) : RO C T L p := by
  unfold RO mv_ro ro_p2
  rw [g, e1, er, if_pos rfl, if_pos rfl]
  exact Or.inr ⟨rfl, ⟨q, hq, rfl⟩, rfl⟩
theorem ro_fn {C X : Nat → Nat → Int32} {T : Nat → Int32} {L p : Nat} {q : Nat} {w a b : Int32} (hq : q ≤ 900) (g : ro_gd T (nI L) (nI p) = 0) (e1 : ro_p1 T (nI L) (nI p) = nI q) (er : gt_ro (pC C p) = gt_fin w a b X) (ex : X 0 3 = nI q) : RO C T L p := by
  refine ro_n hq g e1 ?_
  rw [er, fin_3 (by rw [ex]; exact nI_ne1 (by omega)), ex]
theorem nn_1 {d : Nat} (hd : d < 100) : mv_nn (nI d) = 1 := by
  unfold mv_nn
  rw [if_neg (nI_ne1 (a := d) (by omega))]
theorem ro_eq {C : Nat → Nat → Int32} {T : Nat → Int32} {L : Nat} (h : TC C T L) (hT : tx T L) (hL : L ≤ 120) {p : Nat} (hp : p < L) (h3 : C 0 3 = -1) : RO C T L p := by
  have e2 := (pC_2 C p).1
  have e3 : pC C p 0 3 = -1 := (pC_2 C p).2.1.trans h3
  have es := sg_he (pC_T h p) hL (p := p) (by omega)
  have f2 := (pC_2 C (p + 1)).1
  have n1 : nI p + 1 = nI (p + 1) := nI_1 p
  have er : ¬ ordF (mv_he T (nI L) (nI p)) = -1 → gt_ro (pC C p) = gt_ro2 (ordF (mv_he T (nI L) (nI p))) (pC C (p + 1)) := fun hn => by
    unfold gt_ro
    rw [e2, es, if_neg hn, pC_at]
  have eg : ro_gd T (nI L) (nI p) = ro_c (mv_he T (nI L) (nI p)) 1 (mv_rr T (nI L) (nI p + 1) 4 0 1000) 1 (ro_kg T (nI L) (nI p)) (mv_nn (mv_fg T (nI L) (nI p + 1) 7)) (mv_nn (mv_fg T (nI L) (nI p + 1) 9)) (mv_nn (mv_fg T (nI L) (nI p + 1) 9)) (mv_rr T (nI L) (nI p + 1) 3 0 999) 0 := rfl
  have ep : ro_p1 T (nI L) (nI p) = ro_c (mv_he T (nI L) (nI p)) (nI p + 1) (mv_rp T (nI L) (nI p + 1) 4 0 1000) (nI p + 1) (ro_kp T (nI L) (nI p)) (mv_fp T (nI L) (nI p + 1) 7) (mv_fp T (nI L) (nI p + 1) 9) (mv_fp T (nI L) (nI p + 1) 9) (mv_rp T (nI L) (nI p + 1) 3 0 999) (nI p + 1 - 1) := rfl
  by_cases c97 : mv_he T (nI L) (nI p) = 97
  · rw [c97, rc_97] at eg ep
    rw [c97, of_97, r2_7] at er
    exact ro_y h hL h3 (p1 := p + 1) (w := 7) (by omega) (by omega) eg (ep.trans n1) (er (by decide)) (Or.inl ⟨c97, rfl, rfl, rfl⟩)
  by_cases c98 : mv_he T (nI L) (nI p) = 98
  · rw [c98, rc_98] at eg ep
    rw [c98, of_98, r2_8] at er
    have q := rnum_eq h hT hL (b := p + 1) (f := 4) (by omega) (by omega) h3 (lo := 0) (hi := 1000)
    rw [show nI 4 = 4 from rfl, ← n1] at q
    rcases q with ⟨q1, ⟨z, hz, q2, q3⟩, q4, q5⟩ | ⟨q1, ⟨z, hz, q2⟩, q3⟩
    · refine ro_y h hL h3 (p1 := p + 1 + z) (w := 8) (a := (rdX T (nI L) (nI p + 1) 4).1) (b := -1) (by omega) (by omega) (eg.trans q1) (ep.trans q3) ?_ (Or.inr (Or.inl ⟨c98, rfl, rfl, rfl, q5⟩))
      rw [er (by decide), q4, q2]
      rfl
    · exact ro_fn (q := z) (by omega) (eg.trans q1) (ep.trans q2) (er (by decide)) (q3.trans q2)
  by_cases c99 : mv_he T (nI L) (nI p) = 99
  · rw [c99, rc_99] at eg ep
    rw [c99, of_99, r2_6] at er
    exact ro_y h hL h3 (p1 := p + 1) (w := 6) (by omega) (by omega) eg (ep.trans n1) (er (by decide)) (Or.inr (Or.inr (Or.inl ⟨c99, rfl, rfl, rfl⟩)))
  by_cases c107 : mv_he T (nI L) (nI p) = 107
  · rw [c107, rc_107] at eg ep
    rw [c107, of_107, r2_2, f2] at er
    have q := rdig_eq h hT hL (p := p + 1) (mo := 2) (by omega) (by omega) h3
    rw [show nI 2 = 2 from rfl, ← n1] at q
    rw [← n1] at er
    rcases q with ⟨q1, q2, ⟨z, hz, q3, q4⟩, q5⟩ | ⟨q1, q2, q3, q4⟩
    · have hz1 : ¬ nI z = -1 := nI_ne1 (by omega)
      unfold ro_kg at eg
      unfold ro_kp at ep
      rw [q3, if_neg hz1, q5] at eg ep
      have r := rnum_eq h hT hL (b := p + 1 + 1) (f := 3) (by omega) (by omega) h3 (lo := 1) (hi := 100)
      rw [show nI 3 = 3 from rfl] at r
      rcases r with ⟨r1, ⟨y, hy, r2, r3⟩, r4, r5⟩ | ⟨r1, ⟨y, hy, r2⟩, r3⟩
      · rw [r1, if_neg (by decide)] at eg
        refine ro_y h hL h3 (p1 := p + 1 + 1 + y) (w := 2) (a := nI z) (b := (rdX T (nI L) (nI (p + 1 + 1)) 3).1) (by omega) (by omega) eg (ep.trans r3) ?_ (Or.inr (Or.inr (Or.inr (Or.inl ⟨c107, rfl, q3.symm, ⟨z, Nat.zero_le _, hz, rfl⟩, by rw [q5], r5⟩))))
        rw [er (by decide), q4, q2, r4, r2]
        rfl
      · rw [r1, if_pos rfl] at eg
        refine ro_fn (q := y) (by omega) eg (ep.trans r2) (er (by decide)) ?_
        rw [q2]
        exact r3.trans r2
    · unfold ro_kg at eg
      unfold ro_kp at ep
      rw [q2, if_pos rfl] at eg ep
      refine ro_fn (q := p + 1) (by omega) eg (by rw [ep, q3, n1]) (er (by decide)) ?_
      rw [rnum_3 (by rw [q4, n1]; exact nI_ne1 (by omega)), q4, n1]
  by_cases c110 : mv_he T (nI L) (nI p) = 110
  · rw [c110, rc_110] at eg ep
    rw [c110, of_110, r2_3, f2] at er
    have q := rdig_eq h hT hL (p := p + 1) (mo := 7) (by omega) (by omega) h3
    rw [show nI 7 = 7 from rfl, ← n1] at q
    rw [← n1] at er
    rcases q with ⟨q1, q2, ⟨z, hz, q3, q4⟩, q5⟩ | ⟨q1, q2, q3, q4⟩
    · refine ro_y h hL h3 (p1 := p + 1 + 1) (w := 3) (a := nI z) (b := -1) (by omega) (by omega) (by rw [eg, q3, nn_1 (by omega)]) (ep.trans q5) ?_ (Or.inr (Or.inr (Or.inr (Or.inr (Or.inl ⟨c110, rfl, q3.symm, ⟨z, Nat.zero_le _, hz, rfl⟩, rfl⟩)))))
      rw [er (by decide), q4, q2]
      rfl
    · exact ro_fn (q := p + 1) (by omega) (by rw [eg, q2]; decide) (by rw [ep, q3, n1]) (er (by decide)) (q4.trans n1)
  by_cases c112 : mv_he T (nI L) (nI p) = 112
  · rw [c112, rc_112] at eg ep
    rw [c112, of_112, r2_0, f2] at er
    have q := rdig_eq h hT hL (p := p + 1) (mo := 9) (by omega) (by omega) h3
    rw [show nI 9 = 9 from rfl, ← n1] at q
    rw [← n1] at er
    rcases q with ⟨q1, q2, ⟨z, hz, q3, q4⟩, q5⟩ | ⟨q1, q2, q3, q4⟩
    · refine ro_y h hL h3 (p1 := p + 1 + 1) (w := 0) (a := nI z) (b := -1) (by omega) (by omega) (by rw [eg, q3, nn_1 (by omega)]) (ep.trans q5) ?_ (Or.inr (Or.inr (Or.inr (Or.inr (Or.inr (Or.inl ⟨c112, rfl, q3.symm, ⟨z, Nat.zero_le _, hz, rfl⟩, rfl⟩))))))
      rw [er (by decide), q4, q2]
      rfl
    · exact ro_fn (q := p + 1) (by omega) (by rw [eg, q2]; decide) (by rw [ep, q3, n1]) (er (by decide)) (q4.trans n1)
  by_cases c118 : mv_he T (nI L) (nI p) = 118
  · rw [c118, rc_118] at eg ep
    rw [c118, of_118, r2_1, f2] at er
    have q := rdig_eq h hT hL (p := p + 1) (mo := 9) (by omega) (by omega) h3
    rw [show nI 9 = 9 from rfl, ← n1] at q
    rw [← n1] at er
    rcases q with ⟨q1, q2, ⟨z, hz, q3, q4⟩, q5⟩ | ⟨q1, q2, q3, q4⟩
    · refine ro_y h hL h3 (p1 := p + 1 + 1) (w := 1) (a := nI z) (b := -1) (by omega) (by omega) (by rw [eg, q3, nn_1 (by omega)]) (ep.trans q5) ?_ (Or.inr (Or.inr (Or.inr (Or.inr (Or.inr (Or.inr (Or.inl ⟨c118, rfl, q3.symm, ⟨z, Nat.zero_le _, hz, rfl⟩, rfl⟩)))))))
      rw [er (by decide), q4, q2]
      rfl
    · exact ro_fn (q := p + 1) (by omega) (by rw [eg, q2]; decide) (by rw [ep, q3, n1]) (er (by decide)) (q4.trans n1)
  by_cases c119 : mv_he T (nI L) (nI p) = 119
  · rw [c119, rc_119] at eg ep
    rw [c119, of_119, r2_10] at er
    have q := rnum_eq h hT hL (b := p + 1) (f := 3) (by omega) (by omega) h3 (lo := 0) (hi := 999)
    rw [show nI 3 = 3 from rfl, ← n1] at q
    rcases q with ⟨q1, ⟨z, hz, q2, q3⟩, q4, q5⟩ | ⟨q1, ⟨z, hz, q2⟩, q3⟩
    · refine ro_y h hL h3 (p1 := p + 1 + z) (w := 10) (a := (rdX T (nI L) (nI p + 1) 3).1) (b := -1) (by omega) (by omega) (eg.trans q1) (ep.trans q3) ?_ (Or.inr (Or.inr (Or.inr (Or.inr (Or.inr (Or.inr (Or.inr ⟨c119, rfl, rfl, rfl, q5⟩)))))))
      rw [er (by decide), q4, q2]
      rfl
    · exact ro_fn (q := z) (by omega) (eg.trans q1) (ep.trans q2) (er (by decide)) (q3.trans q2)
  have hx : ¬ mv_he T (nI L) (nI p) = 97 ∧ ¬ mv_he T (nI L) (nI p) = 98 ∧ ¬ mv_he T (nI L) (nI p) = 99 ∧ ¬ mv_he T (nI L) (nI p) = 107 ∧ ¬ mv_he T (nI L) (nI p) = 110 ∧ ¬ mv_he T (nI L) (nI p) = 112 ∧ ¬ mv_he T (nI L) (nI p) = 118 ∧ ¬ mv_he T (nI L) (nI p) = 119 := ⟨c97, c98, c99, c107, c110, c112, c118, c119⟩
  rw [rc_x hx] at eg ep
  refine ro_n (q := p) (by omega) eg ?_ ?_
  · rw [ep, n1, show (1 : Int32) = nI 1 from rfl, nI_sub (by omega) (by omega)]; rfl
  · unfold gt_ro
    rw [e2, es, of_x hx, if_pos rfl, ms_3 e3]
