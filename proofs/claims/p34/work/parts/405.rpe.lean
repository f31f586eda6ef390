/-! replaying the two logs -/
theorem sg_w {E F : Nat → Int32} {n i w : Nat} (h : SG E F n) (hi : i < n) (hw : E (6 * i + 1) = nI w) (h10 : w < 10) : F (6 * i) = E (6 * i) ∧ F (6 * i + 1) = nI w ∧ F (6 * i + 2) = a2 w (E (6 * i + 2)) ∧ F (6 * i + 3) = b2 w (E (6 * i + 3)) ∧ F (6 * i + 4) = E (6 * i + 4) ∧ F (6 * i + 5) = E (6 * i + 5) := by
  obtain ⟨a, b, c, d, e, f⟩ := h i hi
  have k0 : (nI w = 0 ↔ w = 0) ∧ (nI w = 1 ↔ w = 1) ∧ (nI w = 9 ↔ w = 9) ∧ (nI w = 4 ↔ w = 4) := (show ∀ w, w < 10 → ((nI w = 0 ↔ w = 0) ∧ (nI w = 1 ↔ w = 1) ∧ (nI w = 9 ↔ w = 9) ∧ (nI w = 4 ↔ w = 4)) by decide +kernel) w h10
  rw [hw] at b c d
  refine ⟨a, b, ?_, ?_, e, f⟩
  · rw [c]; unfold a2
    by_cases z : w = 0 ∨ w = 1 ∨ w = 9
    · rw [if_pos z, if_pos (z.imp k0.1.mpr (fun y => y.imp k0.2.1.mpr k0.2.2.1.mpr))]
    · rw [if_neg z, if_neg (fun y => z (y.imp k0.1.mp (fun y => y.imp k0.2.1.mp k0.2.2.1.mp)))]
  · rw [d]; unfold b2
    by_cases z : w = 4
    · rw [if_pos z, if_pos (k0.2.2.2.mpr z)]
    · rw [if_neg z, if_neg (fun y => z (k0.2.2.2.mp y))]
theorem aOk_10 {w : Nat} {a b c d : Int32} (h : aOk w a b c d) : w < 10 := by
  rcases h with ⟨rfl, -⟩ | ⟨rfl, -⟩ | ⟨rfl, -⟩ | ⟨rfl, -⟩ | ⟨rfl, -⟩ | ⟨rfl, -⟩ | rfl | rfl | ⟨rfl, -⟩ | ⟨rfl, -⟩ <;> omega
theorem nI_m1 {j : Nat} (h : j < 2 ^ 31) : ¬ nI j = -1 := nI_ne1 h
theorem dA_e {E F : Nat → Int32} {N : Nat} {τ τ' : Nat → Nat} {T : Nat} (H : LV E N τ T) (H' : LV F N τ' T) (hN : N ≤ 100) (S : SG E F N) (t : Nat) : ∀ (f : Nat) (m n : Nat → Int32) (j : Nat), MS m n → mOk m → mOk n → MS (dA E N (-1) t f m j).1 (dA F N (-1) t f n j).1 ∧ (dA F N (-1) t f n j).2 = (dA E N (-1) t f m j).2 ∧ mOk (dA E N (-1) t f m j).1 ∧ mOk (dA F N (-1) t f n j).1
  | 0, m, n, j, h, o, q => ⟨h, rfl, o, q⟩
  | f + 1, m, n, j, h, o, q => by
    by_cases hc : j < N ∧ E (6 * j) = nI t
    · obtain ⟨-, -, w, ew, ha⟩ := H.1 j hc.1
      obtain ⟨-, -, w', ew', ha'⟩ := H'.1 j hc.1
      obtain ⟨s1, s2, s3, s4, s5, s6⟩ := sg_w S hc.1 ew (aOk_10 ha)
      have hw : w' = w := nI_inj (by have := aOk_10 ha'; omega) (by have := aOk_10 ha; omega) (ew'.symm.trans s2)
      subst hw
      have hc' : j < N ∧ F (6 * j) = nI t := ⟨hc.1, s1.trans hc.2⟩
      have e1 : dA E N (-1) t (f + 1) m j = dA E N (-1) t f (mr_ds m (nI w') (E (6 * j + 2)) (E (6 * j + 3)) (E (6 * j + 4)) (E (6 * j + 5))) (j + 1) := by
        show (if j < N ∧ E (6 * j) = nI t then _ else _) = _
        rw [if_pos hc, if_neg (nI_m1 (by omega)), ew]
      have e2 : dA F N (-1) t (f + 1) n j = dA F N (-1) t f (mr_ds n (nI w') (a2 w' (E (6 * j + 2))) (b2 w' (E (6 * j + 3))) (E (6 * j + 4)) (E (6 * j + 5))) (j + 1) := by
        show (if j < N ∧ F (6 * j) = nI t then _ else _) = _
        rw [if_pos hc', if_neg (nI_m1 (by omega)), ew', s3, s4, s5, s6]
      rw [e1, e2]
      rw [s3, s4, s5, s6] at ha'
      exact dA_e H H' hN S t f _ _ (j + 1) (ms_ds h o q ha) (mOk_ds o ha) (mOk_ds q ha')
    · have hc' : ¬ (j < N ∧ F (6 * j) = nI t) := fun z => hc ⟨z.1, ((S j z.1).1).symm.trans z.2⟩
      have e1 : dA E N (-1) t (f + 1) m j = (m, j) := if_neg hc
      have e2 : dA F N (-1) t (f + 1) n j = (n, j) := if_neg hc'
      rw [e1, e2]
      exact ⟨h, rfl, o, q⟩
/-- the rows behind the first five acts -/
def m5 (m : Nat → Int32) (a b x y z : Int32) : Nat → Int32 := mr_ds (mr_ds (mr_ds (mr_ds (mr_ds m (nI 0) a (-1) (-1) (-1)) (nI 1) b (-1) (-1) (-1)) (nI 4) (nI 0) x 100 25) (nI 4) (nI 1) y 100 25) (nI 4) (nI 2) z 100 25
theorem dA_5 {E : Nat → Int32} {N : Nat} (hN : 5 ≤ N) (h0 : ∀ i, i < 5 → E (6 * i) = nI 0) {a b x y z : Int32} (q : ∀ m : Nat → Int32, mr_ds m (E 1) (E 2) (E 3) (E 4) (E 5) = mr_ds m (nI 0) a (-1) (-1) (-1)) (q1 : ∀ m : Nat → Int32, mr_ds m (E 7) (E 8) (E 9) (E 10) (E 11) = mr_ds m (nI 1) b (-1) (-1) (-1)) (q2 : ∀ m : Nat → Int32, mr_ds m (E 13) (E 14) (E 15) (E 16) (E 17) = mr_ds m (nI 4) (nI 0) x 100 25) (q3 : ∀ m : Nat → Int32, mr_ds m (E 19) (E 20) (E 21) (E 22) (E 23) = mr_ds m (nI 4) (nI 1) y 100 25) (q4 : ∀ m : Nat → Int32, mr_ds m (E 25) (E 26) (E 27) (E 28) (E 29) = mr_ds m (nI 4) (nI 2) z 100 25) (f : Nat) (m : Nat → Int32) : dA E N (-1) 0 (f + 5) m 0 = dA E N (-1) 0 f (m5 m a b x y z) 5 := by
  have st : ∀ (g j : Nat) (m : Nat → Int32), j < 5 → dA E N (-1) 0 (g + 1) m j = dA E N (-1) 0 g (mr_ds m (E (6 * j + 1)) (E (6 * j + 2)) (E (6 * j + 3)) (E (6 * j + 4)) (E (6 * j + 5))) (j + 1) := fun g j m hj => by
    show (if j < N ∧ E (6 * j) = nI 0 then _ else _) = _
    rw [if_pos ⟨by omega, h0 j hj⟩, if_neg (nI_m1 (by omega))]
  rw [show f + 5 = f + 4 + 1 from rfl, st (f + 4) 0 m (by omega), show f + 4 = f + 3 + 1 from rfl, st (f + 3) 1 _ (by omega), show f + 3 = f + 2 + 1 from rfl, st (f + 2) 2 _ (by omega), show f + 2 = f + 1 + 1 from rfl, st (f + 1) 3 _ (by omega), st f 4 _ (by omega)]
  show dA E N (-1) 0 f (mr_ds (mr_ds (mr_ds (mr_ds (mr_ds m (E 1) (E 2) (E 3) (E 4) (E 5)) (E 7) (E 8) (E 9) (E 10) (E 11)) (E 13) (E 14) (E 15) (E 16) (E 17)) (E 19) (E 20) (E 21) (E 22) (E 23)) (E 25) (E 26) (E 27) (E 28) (E 29)) 5 = _
  rw [q, q1, q2, q3, q4]; rfl
