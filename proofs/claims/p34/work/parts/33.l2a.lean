/-! level 2: basics -/
theorem nI_sub {a b : Nat} (h : b ≤ a) (ha : a < 2 ^ 31) : nI a - nI b = nI (a - b) := by
  rw [← Int32.toInt_inj, Int32.toInt_sub, nI_toInt ha, nI_toInt (by omega), nI_toInt (by omega), Int.bmod_eq_of_le (by omega) (by omega)]
  omega
theorem nI_div {a b : Nat} (ha : a < 2 ^ 31) (hb : b < 2 ^ 31) (h0 : 0 < b) : nI a / nI b = nI (a / b) := by
  have h1 : a / b ≤ a := Nat.div_le_self a b
  have e : (a : Int).tdiv (b : Int) = ((a / b : Nat) : Int) := by
    rw [Int.tdiv_eq_ediv_of_nonneg (by omega)]; rfl
  rw [← Int32.toInt_inj, Int32.toInt_div, nI_toInt ha, nI_toInt hb, e]
  generalize a / b = q at *
  rw [nI_toInt (by omega), Int.bmod_eq_of_le (by omega) (by omega)]
theorem nI_inj {a b : Nat} (ha : a < 2 ^ 31) (hb : b < 2 ^ 31) (h : nI a = nI b) : a = b := (nI_eq ha hb).mp h
theorem nI_ne1 {a : Nat} (ha : a < 2 ^ 31) : ¬ nI a = -1 := fun h => nI_pos ha (by rw [h]; decide)
theorem nI_z {a : Nat} (ha : a < 2 ^ 31) : nI a = 0 ↔ a = 0 := nI_eq ha (by decide)
theorem cellF_k (f : Nat → Int32) {n k : Nat} (h : k < n) (hn : n < 2 ^ 31) : cellF f n (nI k) = f k := by
  unfold cellF
  rw [if_neg (nI_pos (by omega)), if_neg (show ¬ Int32.ofNat n ≤ nI k from nI_ge h hn), nI_clamp (by omega)]
theorem putF_k (f : Nat → Int32) {n k : Nat} (v : Int32) (h : k < n) (hn : n < 2 ^ 31) : putF f n (nI k) v = upd f k v := by
  unfold putF
  rw [if_neg (nI_pos (by omega)), if_neg (show ¬ Int32.ofNat n ≤ nI k from nI_ge h hn), nI_clamp (by omega)]
theorem and1 (x : Int32) : x &&& 1 = 0 ∨ x &&& 1 = 1 := by
  have h : x &&& 1 = nI (x.toBitVec.toNat % 2) := by
    apply Int32.toBitVec_inj.mp
    show x.toBitVec &&& 1#32 = BitVec.ofNat 32 (x.toBitVec.toNat % 2)
    apply BitVec.eq_of_toNat_eq
    rw [BitVec.toNat_and]
    show x.toBitVec.toNat &&& (2 ^ 1 - 1) = _
    rw [Nat.and_two_pow_sub_one_eq_mod, BitVec.toNat_ofNat, Nat.mod_eq_of_lt (a := _ % 2) (by omega)]
  rcases (show x.toBitVec.toNat % 2 = 0 ∨ x.toBitVec.toNat % 2 = 1 by omega) with e | e
  · exact Or.inl (by rw [h, e]; rfl)
  · exact Or.inr (by rw [h, e]; rfl)
theorem ite01a {y : Int32} (h : y = 0 ∨ y = 1) : (if y = 0 then (0 : Int32) else 1) = y := by rcases h with rfl | rfl <;> rfl
theorem ite01b {y : Int32} (h : y = 0 ∨ y = 1) : (if y = 1 then (1 : Int32) else 0) = y := by rcases h with rfl | rfl <;> rfl
theorem ne01 {y : Int32} (h : y = 0 ∨ y = 1) : ¬ y = 1 ↔ y = 0 := by rcases h with rfl | rfl <;> decide
theorem ne10 {y : Int32} (h : y = 0 ∨ y = 1) : ¬ y = 0 ↔ y = 1 := by rcases h with rfl | rfl <;> decide
theorem bt01 (x : Int32) (k : Nat) : bt x k = 0 ∨ bt x k = 1 := and1 _
theorem bitF_bt (q : Int32) (k : Nat) : bitF q (nI k) = bt q k := ite01a (and1 _)
theorem onF_bt (M : Nat → Nat → Int32) (k : Nat) : onF M (nI k) = bt (M 0 10) k := ite01a (and1 _)
/-- whether the keyer k is an element -/
def el (x : Int32) (k : Nat) : Int32 := (x >>> ((1 + nI k) &&& 31)) &&& 1
theorem el01 (x : Int32) (k : Nat) : el x k = 0 ∨ el x k = 1 := and1 _
theorem mvF_el (M : Nat → Nat → Int32) (k : Nat) : mvF M (nI k) = el (M 0 4) k := ite01a (and1 _)
theorem mv_el_el (m : Nat → Int32) (k : Nat) : mv_el m (1 + nI k) = el (m 4) k := ite01b (and1 _)
theorem shr0 (x : Int32) : x >>> ((0 : Int32) &&& 31) = x := by
  rw [show ((0 : Int32) &&& 31) = 0 from by decide]
  exact Int32.shiftRight_zero
theorem mv_el_0 (m : Nat → Int32) : mv_el m 0 = m 4 &&& 1 := by
  unfold mv_el
  rw [shr0]
  exact ite01b (and1 _)
theorem mbF_0 (M : Nat → Nat → Int32) : mbF M = M 0 4 &&& 1 := ite01a (and1 _)
theorem bne {a b : Nat} (h : a ≠ b) : (a == b) = false := by rw [beq_eq_false_iff_ne]; exact h
theorem upd_at (f : Nat → Int32) (k : Nat) (v : Int32) (q : Nat) : upd f k v q = if q = k then v else f q := rfl
/-- rows that are equal below n -/
def eq_n (n : Nat) (f g : Nat → Int32) : Prop := ∀ k, k < n → f k = g k
theorem eq_n.rf {n : Nat} {f : Nat → Int32} : eq_n n f f := fun _ _ => rfl
theorem eq_n.sy {n : Nat} {f g : Nat → Int32} (h : eq_n n f g) : eq_n n g f := fun k hk => (h k hk).symm
theorem eq_n.tr {n : Nat} {f g h : Nat → Int32} (h1 : eq_n n f g) (h2 : eq_n n g h) : eq_n n f h := fun k hk => (h1 k hk).trans (h2 k hk)
theorem eq_n.up {n : Nat} {f g : Nat → Int32} (h : eq_n n f g) {i j : Nat} {v w : Int32} (hi : i = j) (hv : v = w) : eq_n n (upd f i v) (upd g j w) := fun k hk => by
  subst hi; subst hv
  rw [upd_at, upd_at]
  split
  · rfl
  · exact h k hk
/-! the reference's steps see 20 places -/
theorem e_sw {m n : Nat → Int32} (h : eq_n 20 m n) : eq_n 20 (mr_sw m) (mr_sw n) := by
  unfold mr_sw
  rw [mv_el_0, mv_el_0, h 4 (by omega), h 0 (by omega), h 1 (by omega)]
  split
  · exact h
  · exact (h.up rfl rfl).up rfl rfl
theorem e_cs {m n : Nat → Int32} (h : eq_n 20 m n) {k : Nat} (hk : k < 3) : eq_n 20 (mr_cs k m) (mr_cs k n) := by
  unfold mr_cs
  rw [mv_el_el, mv_el_el, h 4 (by omega), h (7 + 4 * k + 3) (by omega)]
  exact h.up rfl rfl
theorem cp_3s (m : Nat → Int32) : mr_cp m = upd (upd (mr_cs 2 (mr_cs 1 (mr_cs 0 (mr_sw m)))) 5 0) 6 (-1) := rfl
theorem e_cp {m n : Nat → Int32} (h : eq_n 20 m n) : eq_n 20 (mr_cp m) (mr_cp n) := by
  rw [cp_3s, cp_3s]
  exact ((e_cs (e_cs (e_cs (e_sw h) (by omega)) (by omega)) (by omega)).up rfl rfl).up rfl rfl
theorem e_fr {m n : Nat → Int32} (h : eq_n 20 m n) : eq_n 20 (mr_fr m) (mr_fr n) := by
  have h1 : eq_n 20 (mr_f1 m) (mr_f1 n) := h.up rfl (by rw [h 6 (by omega)])
  unfold mr_fr
  rw [h 6 (by omega), h1 6 (by omega), h1 3 (by omega)]
  split
  · exact h
  · split
    · exact h1.up rfl rfl
    · exact e_cp h1
theorem e_fn {m n : Nat → Int32} (h : eq_n 20 m n) (r : Int32) : mv_fn m r = mv_fn n r := by
  have h1 : eq_n 20 (mr_f1 m) (mr_f1 n) := h.up rfl (by rw [h 6 (by omega)])
  unfold mv_fn
  rw [h 6 (by omega), h1 6 (by omega), h1 3 (by omega)]
theorem e_ps {m n : Nat → Int32} (h : eq_n 20 m n) (w : Int32) : mv_ps m w = mv_ps n w := by
  unfold mv_ps mv_uw
  rw [h 5 (by omega), h 6 (by omega)]
theorem kx_k {k : Nat} (hk : k < 3) (j : Nat) (hj : j < 4) : kx (nI k) (nI j) = 7 + 4 * k + j := kI_eq hk j hj
/-- an act's kind and arguments let the row be -/
theorem e_ds {m n : Nat → Int32} (h : eq_n 20 m n) {w a : Int32} (b c d : Int32) (hk : w = 4 ∨ w = 5 → kOk a) : eq_n 20 (mr_ds m w a b c d) (mr_ds n w a b c d) := by
  unfold mr_ds
  rw [e_ps h]
  split
  · exact h
  split
  · exact h.up rfl rfl
  split
  · exact h.up rfl rfl
  split
  · exact (h.up rfl rfl).up rfl rfl
  split
  · exact h.up rfl rfl
  split
  · exact ((h.up rfl rfl).up rfl rfl).up rfl rfl
  split
  · rename_i e
    unfold mr_tg
    have hq := kx_v (hk (Or.inr e))
    exact h.up rfl (by rw [h (kx a 3) (by omega)])
  split
  · exact e_cp h
  split
  · exact h.up rfl rfl
  split
  · unfold mr_mv
    split
    · exact e_cp (h.up rfl rfl)
    · exact h.up rfl rfl
  · unfold mr_ft
    rw [h 19 (by omega)]
    exact h.up rfl rfl
theorem e_dsv {m n : Nat → Int32} (h : eq_n 20 m n) {w a : Int32} (b c d : Int32) (hk : w = 4 ∨ w = 5 → kOk a) : mv_ds m w a b c d = mv_ds n w a b c d := by
  unfold mv_ds
  rw [e_ps h, h 0 (by omega), h 1 (by omega), h 2 (by omega), h 4 (by omega), e_cp h 0 (by omega), h 3 (by omega), h 5 (by omega), h 19 (by omega)]
  by_cases h4 : w = 4
  · have hq := kx_v (hk (Or.inl h4)); rw [h (kx a 0) (by omega)]
    by_cases h5 : w = 5
    · rw [h4] at h5; exact absurd h5 (by decide)
    · rw [if_neg (c := w = 5) h5, if_neg (c := w = 5) h5]
  · rw [if_neg (c := w = 4) h4, if_neg (c := w = 4) h4]
    by_cases h5 : w = 5
    · have hq := kx_v (hk (Or.inr h5))
      unfold mr_tg
      rw [upd_eq, upd_eq, h (kx a 3) (by omega)]
    · rw [if_neg (c := w = 5) h5, if_neg (c := w = 5) h5]
theorem bg_3s (m : Nat → Int32) : mr_bg m = mr_bs 2 (mr_bs 1 (mr_bs 0 (mr_bi m))) := rfl
theorem e_bg (m n : Nat → Int32) : eq_n 20 (mr_bg m) (mr_bg n) := by
  intro k hk
  rcases (show k = 0 ∨ k = 1 ∨ k = 2 ∨ k = 3 ∨ k = 4 ∨ k = 5 ∨ k = 6 ∨ k = 7 ∨ k = 8 ∨ k = 9 ∨ k = 10 ∨ k = 11 ∨ k = 12 ∨ k = 13 ∨ k = 14 ∨ k = 15 ∨ k = 16 ∨ k = 17 ∨ k = 18 ∨ k = 19 by omega) with rfl | rfl | rfl | rfl | rfl | rfl | rfl | rfl | rfl | rfl | rfl | rfl | rfl | rfl | rfl | rfl | rfl | rfl | rfl | rfl <;> rfl
