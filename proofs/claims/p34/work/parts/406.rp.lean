/-! what the two logs give at each time -/
theorem fa_q {E : Nat → Int32} {N : Nat} {τ : Nat → Nat} {T : Nat} (H : LV E N τ T) (h5 : 5 ≤ N) (A : FA E) (m : Nat → Int32) : mr_ds m (E 1) (E 2) (E 3) (E 4) (E 5) = mr_ds m (nI 0) (nI 1) (-1) (-1) (-1) ∧ mr_ds m (E 7) (E 8) (E 9) (E 10) (E 11) = mr_ds m (nI 1) (nI 2) (-1) (-1) (-1) ∧ mr_ds m (E 13) (E 14) (E 15) (E 16) (E 17) = mr_ds m (nI 4) (nI 0) (nI 3) 100 25 ∧ mr_ds m (E 19) (E 20) (E 21) (E 22) (E 23) = mr_ds m (nI 4) (nI 1) (nI 4) 100 25 ∧ mr_ds m (E 25) (E 26) (E 27) (E 28) (E 29) = mr_ds m (nI 4) (nI 2) (nI 5) 100 25 := by
  obtain ⟨a0, a1, a2, a3, a4, a5⟩ := A
  obtain ⟨b1, b2, b3, b4, b5⟩ := a5 0 (by omega)
  obtain ⟨c1, c2, c3, c4, c5⟩ := a5 1 (by omega)
  obtain ⟨d1, d2, d3, d4, d5⟩ := a5 2 (by omega)
  refine ⟨?_, ?_, ?_, ?_, ?_⟩
  · rw [show E 1 = nI 0 from a1, show E 2 = nI 1 from a2]; rfl
  · rw [show E 7 = nI 1 from a3, show E 8 = nI 2 from a4]; rfl
  · rw [show E 13 = nI 4 from b1, show E 14 = nI 0 from b2, show E 15 = nI 3 from b3, show E 16 = 100 from b4, show E 17 = 25 from b5]
  · rw [show E 19 = nI 4 from c1, show E 20 = nI 1 from c2, show E 21 = nI 4 from c3, show E 22 = 100 from c4, show E 23 = 25 from c5]
  · rw [show E 25 = nI 4 from d1, show E 26 = nI 2 from d2, show E 27 = nI 5 from d3, show E 28 = 100 from d4, show E 29 = 25 from d5]
theorem fa_p {E F : Nat → Int32} {N : Nat} (h5 : 5 ≤ N) (S : SG E F N) (A : FA E) (m : Nat → Int32) : mr_ds m (F 1) (F 2) (F 3) (F 4) (F 5) = mr_ds m (nI 0) (nI 2) (-1) (-1) (-1) ∧ mr_ds m (F 7) (F 8) (F 9) (F 10) (F 11) = mr_ds m (nI 1) (nI 3) (-1) (-1) (-1) ∧ mr_ds m (F 13) (F 14) (F 15) (F 16) (F 17) = mr_ds m (nI 4) (nI 0) (nI 4) 100 25 ∧ mr_ds m (F 19) (F 20) (F 21) (F 22) (F 23) = mr_ds m (nI 4) (nI 1) (nI 5) 100 25 ∧ mr_ds m (F 25) (F 26) (F 27) (F 28) (F 29) = mr_ds m (nI 4) (nI 2) (nI 6) 100 25 := by
  obtain ⟨a0, a1, a2, a3, a4, a5⟩ := A
  obtain ⟨b1, b2, b3, b4, b5⟩ := a5 0 (by omega)
  obtain ⟨c1, c2, c3, c4, c5⟩ := a5 1 (by omega)
  obtain ⟨d1, d2, d3, d4, d5⟩ := a5 2 (by omega)
  obtain ⟨-, e1, e2, -⟩ := sg_w S (i := 0) (w := 0) (by omega) a1 (by omega)
  obtain ⟨-, f1, f2, -⟩ := sg_w S (i := 1) (w := 1) (by omega) a3 (by omega)
  obtain ⟨-, g1, g2, g3, g4, g5⟩ := sg_w S (i := 2) (w := 4) (by omega) b1 (by omega)
  obtain ⟨-, h1, h2, h3, h4, h5⟩ := sg_w S (i := 3) (w := 4) (by omega) c1 (by omega)
  obtain ⟨-, i1, i2, i3, i4, i5⟩ := sg_w S (i := 4) (w := 4) (by omega) d1 (by omega)
  refine ⟨?_, ?_, ?_, ?_, ?_⟩
  · rw [show F 1 = nI 0 from e1, show F 2 = nI 2 from e2.trans (by rw [show E (6 * 0 + 2) = nI 1 from a2]; decide)]; rfl
  · rw [show F 7 = nI 1 from f1, show F 8 = nI 3 from f2.trans (by rw [show E (6 * 1 + 2) = nI 2 from a4]; decide)]; rfl
  · rw [show F 13 = nI 4 from g1, show F 14 = nI 0 from g2.trans (by rw [show E (6 * 2 + 2) = nI 0 from b2]; decide), show F 15 = nI 4 from g3.trans (by rw [show E (6 * 2 + 3) = nI 3 from b3]; decide), show F 16 = 100 from g4.trans b4, show F 17 = 25 from g5.trans b5]
  · rw [show F 19 = nI 4 from h1, show F 20 = nI 1 from h2.trans (by rw [show E (6 * 3 + 2) = nI 1 from c2]; decide), show F 21 = nI 5 from h3.trans (by rw [show E (6 * 3 + 3) = nI 4 from c3]; decide), show F 22 = 100 from h4.trans c4, show F 23 = 25 from h5.trans c5]
  · rw [show F 25 = nI 4 from i1, show F 26 = nI 2 from i2.trans (by rw [show E (6 * 4 + 2) = nI 2 from d2]; decide), show F 27 = nI 6 from i3.trans (by rw [show E (6 * 4 + 3) = nI 5 from d3]; decide), show F 28 = 100 from i4.trans d4, show F 29 = 25 from i5.trans d5]
theorem m5_v (m : Nat → Int32) (a b x y z : Int32) : m5 m a b x y z = mr_ky (mr_ky (mr_ky (upd (upd m 0 a) 1 b) (nI 0) x 100 25) (nI 1) y 100 25) (nI 2) z 100 25 := by
  have p0 : ∀ m : Nat → Int32, ¬ mv_ps m (nI 0) = 0 := fun m => by rw [ps_1 m (by decide) (by decide) (by decide)]; decide
  have p1 : ∀ m : Nat → Int32, ¬ mv_ps m (nI 1) = 0 := fun m => by rw [ps_1 m (by decide) (by decide) (by decide)]; decide
  have p4 : ∀ m : Nat → Int32, ¬ mv_ps m (nI 4) = 0 := fun m => by rw [ps_1 m (by decide) (by decide) (by decide)]; decide
  unfold m5
  rw [ds_m4 _ _ _ _ _ (p4 _), ds_m4 _ _ _ _ _ (p4 _), ds_m4 _ _ _ _ _ (p4 _), ds_m1 _ _ _ _ _ (p1 _), ds_m0 _ _ _ _ _ (p0 _)]
theorem m5_s (m n : Nat → Int32) : MS (m5 (mr_bg m) (nI 1) (nI 2) (nI 3) (nI 4) (nI 5)) (m5 (mr_bg n) (nI 2) (nI 3) (nI 4) (nI 5) (nI 6)) := by
  rw [m5_v, m5_v]
  obtain ⟨⟨a0, a1, a2, a3, a4, a5, a6, a19⟩, ak⟩ := bgv m
  obtain ⟨⟨b0, b1, b2, b3, b4, b5, b6, b19⟩, bk⟩ := bgv n
  have ky : ∀ (m : Nat → Int32) {j : Nat} (hj : j < 3) (b c d : Int32) (k : Nat), mr_ky m (nI j) b c d k = if k = 7 + 4 * j + 2 then d else if k = 7 + 4 * j + 1 then c else if k = 7 + 4 * j then b else m k := fun m j hj b c d k => by
    unfold mr_ky
    rw [kx0 hj, kx1 hj, kx2 hj, upd_at, upd_at, upd_at]
  have v : ∀ (m : Nat → Int32) (a b x y z : Int32) (k : Nat), mr_ky (mr_ky (mr_ky (upd (upd m 0 a) 1 b) (nI 0) x 100 25) (nI 1) y 100 25) (nI 2) z 100 25 k = if k = 17 then 25 else if k = 16 then 100 else if k = 15 then z else if k = 13 then 25 else if k = 12 then 100 else if k = 11 then y else if k = 9 then 25 else if k = 8 then 100 else if k = 7 then x else if k = 1 then b else if k = 0 then a else m k := fun m a b x y z k => by
    rw [ky _ (j := 2) (by omega), ky _ (j := 1) (by omega), ky _ (j := 0) (by omega), upd_at, upd_at]
  refine ⟨?_, ?_, fun k u w => ?_, fun j hj => ?_, fun k hk => ?_⟩
  · rw [v, v]; show nI 2 = otF (nI 1); decide
  · rw [v, v]; show nI 3 = otF (nI 2); decide
  · rw [v, v]
    rcases (show k = 2 ∨ k = 3 ∨ k = 4 ∨ k = 5 ∨ k = 6 by omega) with rfl | rfl | rfl | rfl | rfl
    · simp only [show ∀ q : Nat, q ≠ 2 → (2 = q) = False from fun q h => eq_false fun e => h e.symm, ne_eq, Nat.reduceEqDiff, not_false_eq_true, if_false]; exact b2.trans a2.symm
    · simp only [show ∀ q : Nat, q ≠ 3 → (3 = q) = False from fun q h => eq_false fun e => h e.symm, ne_eq, Nat.reduceEqDiff, not_false_eq_true, if_false]; exact b3.trans a3.symm
    · simp only [show ∀ q : Nat, q ≠ 4 → (4 = q) = False from fun q h => eq_false fun e => h e.symm, ne_eq, Nat.reduceEqDiff, not_false_eq_true, if_false]; exact b4.trans a4.symm
    · simp only [show ∀ q : Nat, q ≠ 5 → (5 = q) = False from fun q h => eq_false fun e => h e.symm, ne_eq, Nat.reduceEqDiff, not_false_eq_true, if_false]; exact b5.trans a5.symm
    · simp only [show ∀ q : Nat, q ≠ 6 → (6 = q) = False from fun q h => eq_false fun e => h e.symm, ne_eq, Nat.reduceEqDiff, not_false_eq_true, if_false]; exact b6.trans a6.symm
  · have on : ∀ j, j < 3 → mr_bg n (7 + 4 * j + 3) = mr_bg m (7 + 4 * j + 3) := fun j hj => (bk j hj).2.2.2.trans (ak j hj).2.2.2.symm
    have o0 := on 0 (by omega)
    have o1 := on 1 (by omega)
    have o2 := on 2 (by omega)
    rcases (show j = 0 ∨ j = 1 ∨ j = 2 by omega) with rfl | rfl | rfl
    · refine ⟨by rw [v, v]; show nI 4 = otF (nI 3); decide, by rw [v, v]; rfl, by rw [v, v]; rfl, ?_⟩
      rw [v, v]; exact o0
    · refine ⟨by rw [v, v]; show nI 5 = otF (nI 4); decide, by rw [v, v]; rfl, by rw [v, v]; rfl, ?_⟩
      rw [v, v]; exact o1
    · refine ⟨by rw [v, v]; show nI 6 = otF (nI 5); decide, by rw [v, v]; rfl, by rw [v, v]; rfl, ?_⟩
      rw [v, v]; exact o2
  · have e1 := v (mr_bg m) (nI 1) (nI 2) (nI 3) (nI 4) (nI 5) 19
    have e2 := v (mr_bg n) (nI 2) (nI 3) (nI 4) (nI 5) (nI 6) 19
    rw [e1, e2]
    show bt (mr_bg n 19) (sg k) = bt (mr_bg m 19) k
    rw [a19, b19]
    exact (show ∀ k, k < 10 → bt 0 (sg k) = bt 0 k by decide +kernel) k hk
theorem m5_ok (m : Nat → Int32) {a b x y z : Nat} (ha : a ≤ 9) (hb : b ≤ 9) (hx : x ≤ 9) (hy : y ≤ 9) (hz : z ≤ 9) : mOk (m5 (mr_bg m) (nI a) (nI b) (nI x) (nI y) (nI z)) := by
  have r : ∀ {k : Nat}, k ≤ 9 → rg (nI k) 0 9 := fun {k} h => ⟨k, by omega, h, rfl⟩
  have k4 : ∀ {j q : Nat}, j ≤ 2 → q ≤ 9 → aOk 4 (nI j) (nI q) 100 25 := fun {j q} hj hq => Or.inr (Or.inr (Or.inr (Or.inr (Or.inl ⟨rfl, ⟨j, by omega, hj, rfl⟩, r hq, ⟨100, by omega, by omega, rfl⟩, ⟨25, by omega, by omega, rfl⟩⟩))))
  unfold m5
  exact mOk_ds (mOk_ds (mOk_ds (mOk_ds (mOk_ds (mOk_bg m) (w := 0) (Or.inl ⟨rfl, r ha⟩)) (w := 1) (Or.inr (Or.inl ⟨rfl, r hb⟩))) (k4 (by omega) hx)) (k4 (by omega) hy)) (k4 (by omega) hz)
theorem rp_e {E F : Nat → Int32} {N : Nat} {τ τ' : Nat → Nat} {T : Nat} (H : LV E N τ T) (H' : LV F N τ' T) (hN : N ≤ 100) (h5 : 5 ≤ N) (S : SG E F N) (A : FA E) : ∀ t : Nat, MS (rp E N (-1) t).1 (rp F N (-1) t).1 ∧ (rp F N (-1) t).2 = (rp E N (-1) t).2 ∧ mOk (rp E N (-1) t).1 ∧ mOk (rp F N (-1) t).1
  | 0 => by
    have z : ∀ i, i < 5 → E (6 * i) = nI 0 := A.1
    have z' : ∀ i, i < 5 → F (6 * i) = nI 0 := fun i hi => ((S i (by omega)).1).trans (z i hi)
    have e1 := dA_5 h5 z (fun m => (fa_q H h5 A m).1) (fun m => (fa_q H h5 A m).2.1) (fun m => (fa_q H h5 A m).2.2.1) (fun m => (fa_q H h5 A m).2.2.2.1) (fun m => (fa_q H h5 A m).2.2.2.2) 96 (mr_bg (fun _ => 0))
    have e2 := dA_5 h5 z' (fun m => (fa_p h5 S A m).1) (fun m => (fa_p h5 S A m).2.1) (fun m => (fa_p h5 S A m).2.2.1) (fun m => (fa_p h5 S A m).2.2.2.1) (fun m => (fa_p h5 S A m).2.2.2.2) 96 (mr_bg (fun _ => 0))
    have q := dA_e H H' hN S 0 96 _ _ 5 (m5_s (fun _ => 0) (fun _ => 0)) (m5_ok (fun _ => 0) (by omega) (by omega) (by omega) (by omega) (by omega)) (m5_ok (fun _ => 0) (by omega) (by omega) (by omega) (by omega) (by omega))
    rw [← e1, ← e2] at q
    exact ⟨q.1, by show ((0 : Int32), _) = ((0 : Int32), _); rw [q.2.1], q.2.2⟩
  | t + 1 => by
    obtain ⟨q1, q2, q3, q4⟩ := rp_e H H' hN h5 S A t
    obtain ⟨f1, f2⟩ := ms_fr q1
    have ej : (rp F N (-1) t).2.2 = (rp E N (-1) t).2.2 := by rw [q2]
    have er : (rp F N (-1) t).2.1 = (rp E N (-1) t).2.1 := by rw [q2]
    have q := dA_e H H' hN S (t + 1) 101 _ _ (rp E N (-1) t).2.2 f1 (mOk_fr q3) (mOk_fr q4)
    show MS (dA E N (-1) (t + 1) 101 (mr_fr (rp E N (-1) t).1) (rp E N (-1) t).2.2).1 (dA F N (-1) (t + 1) 101 (mr_fr (rp F N (-1) t).1) (rp F N (-1) t).2.2).1 ∧ (mv_fn (rp F N (-1) t).1 (rp F N (-1) t).2.1, (dA F N (-1) (t + 1) 101 (mr_fr (rp F N (-1) t).1) (rp F N (-1) t).2.2).2) = (mv_fn (rp E N (-1) t).1 (rp E N (-1) t).2.1, (dA E N (-1) (t + 1) 101 (mr_fr (rp E N (-1) t).1) (rp E N (-1) t).2.2).2) ∧ _
    rw [ej, er, f2]
    exact ⟨q.1, by rw [q.2.1], q.2.2.1, by have z := q.2.2.2; rw [← ej] at z; exact z⟩
/-! the questions about several times -/
theorem rdv_e {E F : Nat → Int32} {N : Nat} (D : ∀ t : Nat, MS (rp E N (-1) t).1 (rp F N (-1) t).1 ∧ mOk (rp E N (-1) t).1) (t : Nat) {k : Nat} (hk : k < 10) : bt (rdv F N t) (sg k) = bt (rdv E N t) k := rd_ps (ps_ls (D t).1 (D t).2 _ _) hk
theorem rdv_i {E F : Nat → Int32} {N : Nat} (D : ∀ t : Nat, MS (rp E N (-1) t).1 (rp F N (-1) t).1 ∧ mOk (rp E N (-1) t).1) (t u : Nat) : rdv F N t = rdv F N u ↔ rdv E N t = rdv E N u := rd_iff (ps_ls (D t).1 (D t).2 _ _) (ps_ls (D u).1 (D u).2 _ _)
theorem ghI_bt (x : Int32) {k : Nat} : ghI x (nI k) = bt x k := ite01b (bt01 x k)
theorem gq_c {E F : Nat → Int32} {N : Nat} (D : ∀ t : Nat, MS (rp E N (-1) t).1 (rp F N (-1) t).1 ∧ mOk (rp E N (-1) t).1) {k : Nat} (hk : k < 10) : ∀ t : Nat, (gq F N (otF (nI k)) t).1 = (gq E N (nI k) t).1
  | 0 => rfl
  | t + 1 => by
    rw [gq_s, gq_s]
    show (gq F N (otF (nI k)) t).1 + nzF (ghI (rdv F N t) (otF (nI k))) = (gq E N (nI k) t).1 + nzF (ghI (rdv E N t) (nI k))
    rw [gq_c D hk t, (ot_sg k hk).1, ghI_bt, ghI_bt, rdv_e D t hk]
theorem gq_b (E : Nat → Int32) (N : Nat) (q : Int32) : ∀ t : Nat, (t = 0 → (gq E N q t).2.2.2.2 = -1) ∧ ∀ u, t = u + 1 → (gq E N q t).2.2.2.2 = rdv E N u
  | 0 => ⟨fun _ => rfl, fun u h => by omega⟩
  | t + 1 => ⟨fun h => by omega, fun u h => by rw [gq_s, show u = t by omega]⟩
theorem gq_l {E F : Nat → Int32} {N : Nat} (D : ∀ t : Nat, MS (rp E N (-1) t).1 (rp F N (-1) t).1 ∧ mOk (rp E N (-1) t).1) : ∀ t : Nat, (gq F N 0 t).2.2.1 = (gq E N 0 t).2.2.1 ∧ (gq F N 0 t).2.2.2.1 = (gq E N 0 t).2.2.2.1
  | 0 => ⟨rfl, rfl⟩
  | t + 1 => by
    obtain ⟨h1, h2⟩ := gq_l D t
    have ho : ghO (rdv F N t) (gq F N 0 t).2.2.2.2 (gq F N 0 t).2.2.2.1 = ghO (rdv E N t) (gq E N 0 t).2.2.2.2 (gq E N 0 t).2.2.2.1 := by
      unfold ghO
      rw [h2]
      cases t with
      | zero => rw [(gq_b F N 0 0).1 rfl, (gq_b E N 0 0).1 rfl, if_neg (show ¬ rdv F N 0 = -1 from rd_m1 _), if_neg (show ¬ rdv E N 0 = -1 from rd_m1 _)]
      | succ u =>
        rw [(gq_b F N 0 (u + 1)).2 u rfl, (gq_b E N 0 (u + 1)).2 u rfl]
        by_cases z : rdv E N (u + 1) = rdv E N u
        · rw [if_pos z, if_pos ((rdv_i D _ _).mpr z)]
        · rw [if_neg z, if_neg (fun y => z ((rdv_i D _ _).mp y))]
    rw [gq_s, gq_s]
    refine ⟨?_, ho⟩
    show ghL (ghO (rdv F N t) (gq F N 0 t).2.2.2.2 (gq F N 0 t).2.2.2.1) (gq F N 0 t).2.2.1 = ghL (ghO (rdv E N t) (gq E N 0 t).2.2.2.2 (gq E N 0 t).2.2.2.1) (gq E N 0 t).2.2.1
    rw [ho, h1]
